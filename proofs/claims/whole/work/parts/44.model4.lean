def M_X11_loads : MB := (yX11_loads, cX11_loads, 8, (some .int), ({ frames := 4, cells := 0, slots := 0, locals := 129 } : Room), RX11)
def M_X11_load : MB := (yX11_load, cX11_load, 7, (some .int), ({ frames := 5, cells := 0, slots := 0, locals := 156 } : Room), RX11)
def M_X11_strainOf : MB := (yX11_strainOf, cX11_strainOf, 7, (some .long), ({ frames := 2, cells := 0, slots := 0, locals := 66 } : Room), RX11)
def M_X11_strain : MB := (yX11_strain, cX11_strain, 4, (some .long), ({ frames := 3, cells := 0, slots := 0, locals := 92 } : Room), RX11)
def M_X11_curve : MB := (yX11_curve, cX11_curve, 10, (some .long), ({ frames := 5, cells := 0, slots := 0, locals := 156 } : Room), RX11)
def M_X11_curved : MB := (yX11_curved, cX11_curved, 2, (some .long), ({ frames := 2, cells := 0, slots := 0, locals := 62 } : Room), RX11)
def M_X11_form : MB := (yX11_form, cX11_form, 6, (some .long), ({ frames := 2, cells := 0, slots := 0, locals := 62 } : Room), RX11)
def M_X11_wallFrom : MB := (yX11_wallFrom, cX11_wallFrom, 7, (some .int), ({ frames := 1, cells := 0, slots := 0, locals := 40 } : Room), RX11)
def M_X11_wall : MB := (yX11_wall, cX11_wall, 5, (some .int), ({ frames := 2, cells := 0, slots := 0, locals := 66 } : Room), RX11)
def M_X11_tilt : MB := (yX11_tilt, cX11_tilt, 4, (some .int), ({ frames := 3, cells := 0, slots := 0, locals := 90 } : Room), RX11)
def M_X11_shieldAt : MB := (yX11_shieldAt, cX11_shieldAt, 4, (some .int), ({ frames := 1, cells := 0, slots := 0, locals := 40 } : Room), RX11)
def M_X11_shield : MB := (yX11_shield, cX11_shield, 2, (some .int), ({ frames := 2, cells := 0, slots := 0, locals := 63 } : Room), RX11)
def M_X11_crack : MB := (yX11_crack, cX11_crack, 6, (some .int), ({ frames := 2, cells := 0, slots := 0, locals := 63 } : Room), RX11)
def M_X11_runsTo : MB := (yX11_runsTo, cX11_runsTo, 7, (some .int), ({ frames := 2, cells := 0, slots := 0, locals := 63 } : Room), RX11)
def M_X11_count : MB := (yX11_count, cX11_count, 4, (some .long), ({ frames := 1, cells := 0, slots := 0, locals := 40 } : Room), RX11)
def M_X11_feed : MB := (yX11_feed, cX11_feed, 6, (some .int), ({ frames := 2, cells := 0, slots := 0, locals := 62 } : Room), RX11)
def M_X11_line : MB := (yX11_line, cX11_line, 7, (some .int), ({ frames := 3, cells := 0, slots := 0, locals := 83 } : Room), RX11)
def M_X11_least : MB := (yX11_least, cX11_least, 10, (some .int), ({ frames := 3, cells := 0, slots := 0, locals := 97 } : Room), RX11)
theorem cb_X11_costOf : CB M_X11_costOf 3 := ⟨GW_of 1812 (by decide +kernel) (by decide +kernel), GW_of 96 (by decide +kernel) (by decide +kernel), by decide +kernel, by decide +kernel, by decide +kernel⟩
theorem cb_X11_loads : CB M_X11_loads 6 := ⟨GW_of 2046 (by decide +kernel) (by decide +kernel), GW_of 96 (by decide +kernel) (by decide +kernel), by decide +kernel, by decide +kernel, by decide +kernel⟩
theorem cb_X11_put : CB M_X11_put 1 := ⟨GW_of 1663 (by decide +kernel) (by decide +kernel), GW_of 96 (by decide +kernel) (by decide +kernel), by decide +kernel, by decide +kernel, by decide +kernel⟩
theorem cb_X11_shieldAt : CB M_X11_shieldAt 1 := ⟨GW_of 2092 (by decide +kernel) (by decide +kernel), GW_of 96 (by decide +kernel) (by decide +kernel), by decide +kernel, by decide +kernel, by decide +kernel⟩
theorem cb_X11_steps : CB M_X11_steps 5 := ⟨GW_of 2050 (by decide +kernel) (by decide +kernel), GW_of 96 (by decide +kernel) (by decide +kernel), by decide +kernel, by decide +kernel, by decide +kernel⟩
theorem cb_X11_strainOf : CB M_X11_strainOf 3 := ⟨GW_of 2058 (by decide +kernel) (by decide +kernel), GW_of 96 (by decide +kernel) (by decide +kernel), by decide +kernel, by decide +kernel, by decide +kernel⟩
theorem cb_X11_wall : CB M_X11_wall 1 := ⟨GW_of 2075 (by decide +kernel) (by decide +kernel), GW_of 96 (by decide +kernel) (by decide +kernel), by decide +kernel, by decide +kernel, by decide +kernel⟩
theorem cb_X11_wallFrom : CB M_X11_wallFrom 2 := ⟨GW_of 2079 (by decide +kernel) (by decide +kernel), GW_of 96 (by decide +kernel) (by decide +kernel), by decide +kernel, by decide +kernel, by decide +kernel⟩
theorem k_X11_437 : Cond.constantLong RX11 437 (Int64.ofInt (-1000000000000000)) ∈ GW := GW_of 2059 (by decide +kernel) (by decide +kernel)
theorem fl_X11_154 : FL RX11 154 11 69 := ⟨RX11, TX11, 71, rfl, by decide, rfl, Or.inl (GW_of 1511 (by decide +kernel) (by decide +kernel))⟩
theorem fw_X11_439 : FW RX11 439 11 68 false .int := ⟨RX11, TX11, 71, rfl, by decide, rfl, rfl, by decide +kernel, Or.inl (GW_of 1510 (by decide +kernel) (by decide +kernel)), fun h => by cases h⟩
theorem fl_X11_439 : FL RX11 439 11 68 := ⟨RX11, TX11, 71, rfl, by decide, rfl, Or.inl (GW_of 1510 (by decide +kernel) (by decide +kernel))⟩
theorem fw_X11_445 : FW RX11 445 11 70 false .int := ⟨RX11, TX11, 71, rfl, by decide, rfl, rfl, by decide +kernel, Or.inl (GW_of 1512 (by decide +kernel) (by decide +kernel)), fun h => by cases h⟩
theorem fl_X11_445 : FL RX11 445 11 70 := ⟨RX11, TX11, 71, rfl, by decide, rfl, Or.inl (GW_of 1512 (by decide +kernel) (by decide +kernel))⟩
theorem fl_X11_72 : FL RX11 72 11 32 := ⟨RX11, TX11, 71, rfl, by decide, rfl, Or.inl (GW_of 1474 (by decide +kernel) (by decide +kernel))⟩
theorem fl_X11_75 : FL RX11 75 11 33 := ⟨RX11, TX11, 71, rfl, by decide, rfl, Or.inl (GW_of 1475 (by decide +kernel) (by decide +kernel))⟩
theorem fw_X11_302 : FW RX11 302 11 30 false .int := ⟨RX11, TX11, 71, rfl, by decide, rfl, rfl, by decide +kernel, Or.inl (GW_of 1472 (by decide +kernel) (by decide +kernel)), fun h => by cases h⟩
theorem cv_X11_425 : CV RX11 425 M_X11_steps 5 := ⟨cb_X11_steps, Or.inl (GW_of 2047 (by decide +kernel) (by decide +kernel)), GW_of 2049 (by decide +kernel) (by decide +kernel), GW_of 79 (by decide +kernel) (by decide +kernel)⟩
theorem cv_X11_429 : CV RX11 429 M_X11_loads 6 := ⟨cb_X11_loads, Or.inl (GW_of 2043 (by decide +kernel) (by decide +kernel)), GW_of 2045 (by decide +kernel) (by decide +kernel), GW_of 78 (by decide +kernel) (by decide +kernel)⟩
theorem cv_X11_433 : CV RX11 433 M_X11_strainOf 3 := ⟨cb_X11_strainOf, Or.inl (GW_of 2055 (by decide +kernel) (by decide +kernel)), GW_of 2057 (by decide +kernel) (by decide +kernel), GW_of 80 (by decide +kernel) (by decide +kernel)⟩
theorem cv_X11_442 : CV RX11 442 M_X11_wallFrom 2 := ⟨cb_X11_wallFrom, Or.inl (GW_of 2076 (by decide +kernel) (by decide +kernel)), GW_of 2078 (by decide +kernel) (by decide +kernel), GW_of 81 (by decide +kernel) (by decide +kernel)⟩
theorem cv_X11_448 : CV RX11 448 M_X11_wall 1 := ⟨cb_X11_wall, Or.inl (GW_of 2084 (by decide +kernel) (by decide +kernel)), GW_of 2073 (by decide +kernel) (by decide +kernel), GW_of 2074 (by decide +kernel) (by decide +kernel)⟩
theorem cv_X11_451 : CV RX11 451 M_X11_shieldAt 1 := ⟨cb_X11_shieldAt, Or.inl (GW_of 2089 (by decide +kernel) (by decide +kernel)), GW_of 2091 (by decide +kernel) (by decide +kernel), GW_of 82 (by decide +kernel) (by decide +kernel)⟩
theorem cv_X11_164 : CV RX11 164 M_X11_put 1 := ⟨cb_X11_put, Or.inl (GW_of 1660 (by decide +kernel) (by decide +kernel)), GW_of 1662 (by decide +kernel) (by decide +kernel), GW_of 35 (by decide +kernel) (by decide +kernel)⟩
theorem cv_X11_298 : CV RX11 298 M_X11_costOf 3 := ⟨cb_X11_costOf, Or.inl (GW_of 1809 (by decide +kernel) (by decide +kernel)), GW_of 1811 (by decide +kernel) (by decide +kernel), GW_of 53 (by decide +kernel) (by decide +kernel)⟩
/-! ===== X11_loads ===== -/
theorem e_X11_loads_0 : DC cX11_loads 0 (.iconst 0) 1 1 := ⟨by decide +kernel, rfl⟩
theorem e_X11_loads_1 : DC cX11_loads 1 (.istore 7) 2 3 := ⟨by decide +kernel, rfl⟩
theorem e_X11_loads_3 : DC cX11_loads 3 (.iload 7) 2 5 := ⟨by decide +kernel, rfl⟩
theorem e_X11_loads_5 : DC cX11_loads 5 (.iload 5) 2 7 := ⟨by decide +kernel, rfl⟩
theorem e_X11_loads_7 : DB cX11_loads 7 (.if_icmp .ge 23) (23) 3 10 30 := ⟨by decide +kernel, rfl, rfl⟩
theorem e_X11_loads_10 : DC cX11_loads 10 (.aload_n 0) 1 11 := ⟨by decide +kernel, rfl⟩
theorem e_X11_loads_11 : DC cX11_loads 11 (.iload_n 1) 1 12 := ⟨by decide +kernel, rfl⟩
theorem e_X11_loads_12 : DC cX11_loads 12 (.iload_n 2) 1 13 := ⟨by decide +kernel, rfl⟩
theorem e_X11_loads_13 : DC cX11_loads 13 (.iload_n 3) 1 14 := ⟨by decide +kernel, rfl⟩
theorem e_X11_loads_14 : DC cX11_loads 14 (.iload 4) 2 16 := ⟨by decide +kernel, rfl⟩
theorem e_X11_loads_16 : DC cX11_loads 16 (.iload 6) 2 18 := ⟨by decide +kernel, rfl⟩
theorem e_X11_loads_18 : DC cX11_loads 18 (.invokevirtual 425) 3 21 := ⟨by decide +kernel, rfl⟩
theorem e_X11_loads_21 : DB cX11_loads 21 (.ifCond .eq 9) (9) 3 24 30 := ⟨by decide +kernel, rfl, rfl⟩
theorem e_X11_loads_24 : DC cX11_loads 24 (.iinc 7 1) 3 27 := ⟨by decide +kernel, rfl⟩
theorem e_X11_loads_27 : DB cX11_loads 27 (.goto (-24)) (-24) 3 30 3 := ⟨by decide +kernel, rfl, rfl⟩
theorem e_X11_loads_30 : DC cX11_loads 30 (.iload 7) 2 32 := ⟨by decide +kernel, rfl⟩
theorem e_X11_loads_32 : DC cX11_loads 32 (.ireturn) 1 33 := ⟨by decide +kernel, rfl⟩
noncomputable def m_X11_loads_3 (t_baseLow : Int) (t_baseHigh : Int) (t_systems : Int) (t_own : Int) (t_cross : Int) (t_push : Nat → Int) (t_speckLow : Nat → Int) (t_speckHigh : Nat → Int) (t_sourceHold : Nat → Int) (t_ways : Nat → Int) (v1 : Int) (v2 : Int) (v3 : Int) (v4 : Int) (v5 : Int) (v6 : Int) (k_30 : (Nat → Int) → (Nat → Int) → (Nat → Int) → (Nat → Int) → (Nat → Int) → (Nat → Int) → (Nat → Int) → (Nat → Int) → Int → Option (Int × (Nat → Int) × (Nat → Int) × (Nat → Int) × (Nat → Int) × (Nat → Int) × (Nat → Int) × (Nat → Int) × (Nat → Int))) : Nat → (Nat → Int) → (Nat → Int) → (Nat → Int) → (Nat → Int) → (Nat → Int) → (Nat → Int) → (Nat → Int) → (Nat → Int) → Int → Option (Int × (Nat → Int) × (Nat → Int) × (Nat → Int) × (Nat → Int) × (Nat → Int) × (Nat → Int) × (Nat → Int) × (Nat → Int))
  | 0, _, _, _, _, _, _, _, _, _ => none
  | F + 1, t_cur, t_was, t_feel, t_pushAt, t_curSum, t_grain, t_harder, t_grainSum, v7 => if v5 ≤ v7 then (some (v7, t_cur, t_was, t_feel, t_pushAt, t_curSum, t_grain, t_harder, t_grainSum)) else ((m_X11_steps t_baseLow t_baseHigh t_systems t_own t_cross t_push t_speckLow t_speckHigh t_sourceHold t_cur t_was t_feel t_pushAt t_curSum t_grain t_ways t_harder t_grainSum v1 v2 v3 v4 v6).bind (fun y1 => if y1.1 = 0 then (some (v7, y1.2.1, y1.2.2.1, y1.2.2.2.1, y1.2.2.2.2.1, y1.2.2.2.2.2.1, y1.2.2.2.2.2.2.1, y1.2.2.2.2.2.2.2.1, y1.2.2.2.2.2.2.2.2)) else (chk (inI (v7 + 1)) (m_X11_loads_3 t_baseLow t_baseHigh t_systems t_own t_cross t_push t_speckLow t_speckHigh t_sourceHold t_ways v1 v2 v3 v4 v5 v6 k_30 F y1.2.1 y1.2.2.1 y1.2.2.2.1 y1.2.2.2.2.1 y1.2.2.2.2.2.1 y1.2.2.2.2.2.2.1 y1.2.2.2.2.2.2.2.1 y1.2.2.2.2.2.2.2.2 (v7 + 1)))))

set_option maxRecDepth 10000 in
set_option maxHeartbeats 8000000 in
theorem g_X11_loads_3 {l : Launch} {E : EE} {b0 n : Nat} {h : AH} {a_t : Nat} {t_thrown t_taped t_p t_fault t_baseLow t_baseHigh t_newBaseLow t_newBaseHigh t_from t_knots t_lines t_chosen t_undos t_redos t_aimedMany t_fits t_fitOf t_sights t_systems t_own t_cross t_curveLong t_wallFirst v1 v2 v3 v4 v5 v6 : Int} {t_push t_speckLow t_speckHigh t_sourceHold t_ways : Nat → Int} {r : Int × (Nat → Int) × (Nat → Int) × (Nat → Int) × (Nat → Int) × (Nat → Int) × (Nat → Int) × (Nat → Int) × (Nat → Int)} {k_30 : (Nat → Int) → (Nat → Int) → (Nat → Int) → (Nat → Int) → (Nat → Int) → (Nat → Int) → (Nat → Int) → (Nat → Int) → Int → Option (Int × (Nat → Int) × (Nat → Int) × (Nat → Int) × (Nat → Int) × (Nat → Int) × (Nat → Int) × (Nat → Int) × (Nat → Int))} (ao : AO b0 n [a_t, (a_t + 6), (a_t + 8), (a_t + 9), (a_t + 10), (a_t + 24), (a_t + 25), (a_t + 26), (a_t + 27), (a_t + 28), (a_t + 44), (a_t + 45), (a_t + 46), (a_t + 47)]) (ok_t_baseLow : inI t_baseLow) (ok_t_baseHigh : inI t_baseHigh) (ok_t_systems : inI t_systems) (ok_t_own : inI t_own) (ok_t_cross : inI t_cross) (ok_t_push : okA t_push) (ok_t_speckLow : okA t_speckLow) (ok_t_speckHigh : okA t_speckHigh) (ok_t_sourceHold : okA t_sourceHold) (ok_t_ways : okA t_ways) (ok_v1 : inI v1) (ok_v2 : inI v2) (ok_v3 : inI v3) (ok_v4 : inI v4) (ok_v5 : inI v5) (ok_v6 : inI v6) (hk_30 : ∀ (t_cur_ : Nat → Int) (t_was_ : Nat → Int) (t_feel_ : Nat → Int) (t_pushAt_ : Nat → Int) (t_curSum_ : Nat → Int) (t_grain_ : Nat → Int) (t_harder_ : Nat → Int) (t_grainSum_ : Nat → Int) (v7_ : Int), okA t_cur_ → okA t_was_ → okA t_feel_ → okA t_pushAt_ → okJ t_curSum_ → okA t_grain_ → okA t_harder_ → okJ t_grainSum_ → inI v7_ → k_30 t_cur_ t_was_ t_feel_ t_pushAt_ t_curSum_ t_grain_ t_harder_ t_grainSum_ v7_ = some r → G l E b0 M_X11_loads (fun _ => True) (ZM E b0 (some (vI r.1)) (ov [a_t, (a_t + 6), (a_t + 8), (a_t + 9), (a_t + 10), (a_t + 24), (a_t + 25), (a_t + 26), (a_t + 27), (a_t + 28), (a_t + 44), (a_t + 45), (a_t + 46), (a_t + 47)] [.inr (11, fsX11 a_t t_thrown t_taped t_p t_fault t_baseLow t_baseHigh t_newBaseLow t_newBaseHigh t_from t_knots t_lines t_chosen t_undos t_redos t_aimedMany t_fits t_fitOf t_sights t_systems t_own t_cross t_curveLong t_wallFirst), IA E 21 t_push, IA E 100 t_speckLow, IA E 100 t_speckHigh, IA E 100 t_sourceHold, IA E 100 r.2.1, IA E 100 r.2.2.1, IA E 100 r.2.2.2.1, IA E 21 r.2.2.2.2.1, JA E 6 r.2.2.2.2.2.1, IA E 800 r.2.2.2.2.2.2.1, IA E 48 t_ways, IA E 8 r.2.2.2.2.2.2.2.1, JA E 48 r.2.2.2.2.2.2.2.2] h) n (inI r.1 ∧ okA r.2.1 ∧ okA r.2.2.1 ∧ okA r.2.2.2.1 ∧ okA r.2.2.2.2.1 ∧ okJ r.2.2.2.2.2.1 ∧ okA r.2.2.2.2.2.2.1 ∧ okA r.2.2.2.2.2.2.2.1 ∧ okJ r.2.2.2.2.2.2.2.2) 0 0) 0 0 n (ov [a_t, (a_t + 6), (a_t + 8), (a_t + 9), (a_t + 10), (a_t + 24), (a_t + 25), (a_t + 26), (a_t + 27), (a_t + 28), (a_t + 44), (a_t + 45), (a_t + 46), (a_t + 47)] [.inr (11, fsX11 a_t t_thrown t_taped t_p t_fault t_baseLow t_baseHigh t_newBaseLow t_newBaseHigh t_from t_knots t_lines t_chosen t_undos t_redos t_aimedMany t_fits t_fitOf t_sights t_systems t_own t_cross t_curveLong t_wallFirst), IA E 21 t_push, IA E 100 t_speckLow, IA E 100 t_speckHigh, IA E 100 t_sourceHold, IA E 100 t_cur_, IA E 100 t_was_, IA E 100 t_feel_, IA E 21 t_pushAt_, JA E 6 t_curSum_, IA E 800 t_grain_, IA E 48 t_ways, IA E 8 t_harder_, JA E 48 t_grainSum_] h) 30 [none, none, none, none, none, none, none, some (vI v7_)] []) :
    ∀ (F : Nat) (t_cur : Nat → Int) (t_was : Nat → Int) (t_feel : Nat → Int) (t_pushAt : Nat → Int) (t_curSum : Nat → Int) (t_grain : Nat → Int) (t_harder : Nat → Int) (t_grainSum : Nat → Int) (v7 : Int), okA t_cur → okA t_was → okA t_feel → okA t_pushAt → okJ t_curSum → okA t_grain → okA t_harder → okJ t_grainSum → inI v7 → m_X11_loads_3 t_baseLow t_baseHigh t_systems t_own t_cross t_push t_speckLow t_speckHigh t_sourceHold t_ways v1 v2 v3 v4 v5 v6 k_30 F t_cur t_was t_feel t_pushAt t_curSum t_grain t_harder t_grainSum v7 = some r → G l E b0 M_X11_loads (fun _ => True) (ZM E b0 (some (vI r.1)) (ov [a_t, (a_t + 6), (a_t + 8), (a_t + 9), (a_t + 10), (a_t + 24), (a_t + 25), (a_t + 26), (a_t + 27), (a_t + 28), (a_t + 44), (a_t + 45), (a_t + 46), (a_t + 47)] [.inr (11, fsX11 a_t t_thrown t_taped t_p t_fault t_baseLow t_baseHigh t_newBaseLow t_newBaseHigh t_from t_knots t_lines t_chosen t_undos t_redos t_aimedMany t_fits t_fitOf t_sights t_systems t_own t_cross t_curveLong t_wallFirst), IA E 21 t_push, IA E 100 t_speckLow, IA E 100 t_speckHigh, IA E 100 t_sourceHold, IA E 100 r.2.1, IA E 100 r.2.2.1, IA E 100 r.2.2.2.1, IA E 21 r.2.2.2.2.1, JA E 6 r.2.2.2.2.2.1, IA E 800 r.2.2.2.2.2.2.1, IA E 48 t_ways, IA E 8 r.2.2.2.2.2.2.2.1, JA E 48 r.2.2.2.2.2.2.2.2] h) n (inI r.1 ∧ okA r.2.1 ∧ okA r.2.2.1 ∧ okA r.2.2.2.1 ∧ okA r.2.2.2.2.1 ∧ okJ r.2.2.2.2.2.1 ∧ okA r.2.2.2.2.2.2.1 ∧ okA r.2.2.2.2.2.2.2.1 ∧ okJ r.2.2.2.2.2.2.2.2) 0 0) 0 0 n (ov [a_t, (a_t + 6), (a_t + 8), (a_t + 9), (a_t + 10), (a_t + 24), (a_t + 25), (a_t + 26), (a_t + 27), (a_t + 28), (a_t + 44), (a_t + 45), (a_t + 46), (a_t + 47)] [.inr (11, fsX11 a_t t_thrown t_taped t_p t_fault t_baseLow t_baseHigh t_newBaseLow t_newBaseHigh t_from t_knots t_lines t_chosen t_undos t_redos t_aimedMany t_fits t_fitOf t_sights t_systems t_own t_cross t_curveLong t_wallFirst), IA E 21 t_push, IA E 100 t_speckLow, IA E 100 t_speckHigh, IA E 100 t_sourceHold, IA E 100 t_cur, IA E 100 t_was, IA E 100 t_feel, IA E 21 t_pushAt, JA E 6 t_curSum, IA E 800 t_grain, IA E 48 t_ways, IA E 8 t_harder, JA E 48 t_grainSum] h) 3 [some (.ref a_t), some (vI v1), some (vI v2), some (vI v3), some (vI v4), some (vI v5), some (vI v6), some (vI v7)] [] := by
  intro F
  induction F with
  | zero =>
    intro t_cur t_was t_feel t_pushAt t_curSum t_grain t_harder t_grainSum v7 ok_t_cur ok_t_was ok_t_feel ok_t_pushAt ok_t_curSum ok_t_grain ok_t_harder ok_t_grainSum ok_v7 hs
    rw [m_X11_loads_3] at hs
    cases hs
  | succ F ih =>
    intro t_cur t_was t_feel t_pushAt t_curSum t_grain t_harder t_grainSum v7 ok_t_cur ok_t_was ok_t_feel ok_t_pushAt ok_t_curSum ok_t_grain ok_t_harder ok_t_grainSum ok_v7 hs
    rw [m_X11_loads_3] at hs
    refine g_iload e_X11_loads_3 rfl ?_
    refine g_iload e_X11_loads_5 rfl ?_
    refine g_icmp_ge e_X11_loads_7 ok_v7 ok_v5 hs (fun c7 hs => ?_) (fun c7 hs => ?_)
    · refine g_iload e_X11_loads_30 rfl ?_
      obtain rfl := Option.some.inj hs
      exact g_iret rfl ⟨ok_v7, ok_t_cur, ok_t_was, ok_t_feel, ok_t_pushAt, ok_t_curSum, ok_t_grain, ok_t_harder, ok_t_grainSum⟩ e_X11_loads_32
    · refine g_aload_n e_X11_loads_10 rfl ?_
      refine g_iload_n e_X11_loads_11 rfl ?_
      refine g_iload_n e_X11_loads_12 rfl ?_
      refine g_iload_n e_X11_loads_13 rfl ?_
      refine g_iload e_X11_loads_14 rfl ?_
      refine g_iload e_X11_loads_16 rfl ?_
      obtain ⟨y1, hy1, hs⟩ := bind_elim hs
      refine g_callVr [vI v1, vI v2, vI v3, vI v4, vI v6] cv_X11_425 ⟨rfl, rfl, Nat.le_of_ble_eq_true rfl, Nat.le_of_ble_eq_true rfl⟩ (Ct_heap (ct_X11_steps (a_t := a_t) (AO_call [0, 1, 2, 3, 4, 5, 6, 7, 8, 9, 10, 11, 12, 13] ao (by decide) rfl) (FA_call [0, 1, 2, 3, 4, 5, 6, 7, 8, 9, 10, 11, 12, 13] ao.1 rfl rfl) ok_t_baseLow ok_t_baseHigh ok_t_systems ok_t_own ok_t_cross ok_t_push ok_t_speckLow ok_t_speckHigh ok_t_sourceHold ok_t_cur ok_t_was ok_t_feel ok_t_pushAt ok_t_curSum ok_t_grain ok_t_ways ok_t_harder ok_t_grainSum ok_v1 ok_v2 ok_v3 ok_v4 ok_v6 hy1) (ov_call (esn := [.inr (11, fsX11 a_t t_thrown t_taped t_p t_fault t_baseLow t_baseHigh t_newBaseLow t_newBaseHigh t_from t_knots t_lines t_chosen t_undos t_redos t_aimedMany t_fits t_fitOf t_sights t_systems t_own t_cross t_curveLong t_wallFirst), IA E 21 t_push, IA E 100 t_speckLow, IA E 100 t_speckHigh, IA E 100 t_sourceHold, IA E 100 y1.2.1, IA E 100 y1.2.2.1, IA E 100 y1.2.2.2.1, IA E 21 y1.2.2.2.2.1, JA E 6 y1.2.2.2.2.2.1, IA E 800 y1.2.2.2.2.2.2.1, IA E 48 t_ways, IA E 8 y1.2.2.2.2.2.2.2.1, JA E 48 y1.2.2.2.2.2.2.2.2]) [0, 1, 2, 3, 4, 5, 6, 7, 8, 9, 10, 11, 12, 13] ao.1 rfl rfl rfl rfl)) e_X11_loads_18 (ao.2 0 _ rfl) (ov_get 0 ao.1 rfl rfl) rfl rfl rfl (Nat.le_of_ble_eq_true rfl) ⟨Nat.le_refl _, Nat.le_refl _⟩ (fun Py1 => ?_)
      refine g_if_eq e_X11_loads_21 (inZ_I Py1.1) hs (fun c21 hs => ?_) (fun c21 hs => ?_)
      · refine g_iload e_X11_loads_30 rfl ?_
        obtain rfl := Option.some.inj hs
        exact g_iret rfl ⟨ok_v7, Py1.2.1, Py1.2.2.1, Py1.2.2.2.1, Py1.2.2.2.2.1, Py1.2.2.2.2.2.1, Py1.2.2.2.2.2.2.1, Py1.2.2.2.2.2.2.2.1, Py1.2.2.2.2.2.2.2.2⟩ e_X11_loads_32
      · refine g_iinc e_X11_loads_24 rfl st1_7 rfl ?_
        refine g_goto e_X11_loads_27 ?_
        obtain ⟨hc2, hs⟩ := chk_elim hs
        exact ih _ _ _ _ _ _ _ _ _ Py1.2.1 Py1.2.2.1 Py1.2.2.2.1 Py1.2.2.2.2.1 Py1.2.2.2.2.2.1 Py1.2.2.2.2.2.2.1 Py1.2.2.2.2.2.2.2.1 Py1.2.2.2.2.2.2.2.2 hc2 hs

noncomputable def m_X11_loads_30 (t_cur : Nat → Int) (t_was : Nat → Int) (t_feel : Nat → Int) (t_pushAt : Nat → Int) (t_curSum : Nat → Int) (t_grain : Nat → Int) (t_harder : Nat → Int) (t_grainSum : Nat → Int) (v7 : Int) : Option (Int × (Nat → Int) × (Nat → Int) × (Nat → Int) × (Nat → Int) × (Nat → Int) × (Nat → Int) × (Nat → Int) × (Nat → Int)) :=
  some (v7, t_cur, t_was, t_feel, t_pushAt, t_curSum, t_grain, t_harder, t_grainSum)

set_option maxRecDepth 10000 in
set_option maxHeartbeats 8000000 in
theorem g_X11_loads_30 {l : Launch} {E : EE} {b0 n : Nat} {h : AH} {a_t : Nat} {t_thrown t_taped t_p t_fault t_baseLow t_baseHigh t_newBaseLow t_newBaseHigh t_from t_knots t_lines t_chosen t_undos t_redos t_aimedMany t_fits t_fitOf t_sights t_systems t_own t_cross t_curveLong t_wallFirst v7 : Int} {t_push t_speckLow t_speckHigh t_sourceHold t_cur t_was t_feel t_pushAt t_curSum t_grain t_ways t_harder t_grainSum : Nat → Int} {r : Int × (Nat → Int) × (Nat → Int) × (Nat → Int) × (Nat → Int) × (Nat → Int) × (Nat → Int) × (Nat → Int) × (Nat → Int)} (ao : AO b0 n [a_t, (a_t + 6), (a_t + 8), (a_t + 9), (a_t + 10), (a_t + 24), (a_t + 25), (a_t + 26), (a_t + 27), (a_t + 28), (a_t + 44), (a_t + 45), (a_t + 46), (a_t + 47)]) (ok_t_baseLow : inI t_baseLow) (ok_t_baseHigh : inI t_baseHigh) (ok_t_systems : inI t_systems) (ok_t_own : inI t_own) (ok_t_cross : inI t_cross) (ok_t_push : okA t_push) (ok_t_speckLow : okA t_speckLow) (ok_t_speckHigh : okA t_speckHigh) (ok_t_sourceHold : okA t_sourceHold) (ok_t_cur : okA t_cur) (ok_t_was : okA t_was) (ok_t_feel : okA t_feel) (ok_t_pushAt : okA t_pushAt) (ok_t_curSum : okJ t_curSum) (ok_t_grain : okA t_grain) (ok_t_ways : okA t_ways) (ok_t_harder : okA t_harder) (ok_t_grainSum : okJ t_grainSum) (ok_v7 : inI v7) (hs : m_X11_loads_30 t_cur t_was t_feel t_pushAt t_curSum t_grain t_harder t_grainSum v7 = some r) : G l E b0 M_X11_loads (fun _ => True) (ZM E b0 (some (vI r.1)) (ov [a_t, (a_t + 6), (a_t + 8), (a_t + 9), (a_t + 10), (a_t + 24), (a_t + 25), (a_t + 26), (a_t + 27), (a_t + 28), (a_t + 44), (a_t + 45), (a_t + 46), (a_t + 47)] [.inr (11, fsX11 a_t t_thrown t_taped t_p t_fault t_baseLow t_baseHigh t_newBaseLow t_newBaseHigh t_from t_knots t_lines t_chosen t_undos t_redos t_aimedMany t_fits t_fitOf t_sights t_systems t_own t_cross t_curveLong t_wallFirst), IA E 21 t_push, IA E 100 t_speckLow, IA E 100 t_speckHigh, IA E 100 t_sourceHold, IA E 100 r.2.1, IA E 100 r.2.2.1, IA E 100 r.2.2.2.1, IA E 21 r.2.2.2.2.1, JA E 6 r.2.2.2.2.2.1, IA E 800 r.2.2.2.2.2.2.1, IA E 48 t_ways, IA E 8 r.2.2.2.2.2.2.2.1, JA E 48 r.2.2.2.2.2.2.2.2] h) n (inI r.1 ∧ okA r.2.1 ∧ okA r.2.2.1 ∧ okA r.2.2.2.1 ∧ okA r.2.2.2.2.1 ∧ okJ r.2.2.2.2.2.1 ∧ okA r.2.2.2.2.2.2.1 ∧ okA r.2.2.2.2.2.2.2.1 ∧ okJ r.2.2.2.2.2.2.2.2) 0 0) 0 0 n (ov [a_t, (a_t + 6), (a_t + 8), (a_t + 9), (a_t + 10), (a_t + 24), (a_t + 25), (a_t + 26), (a_t + 27), (a_t + 28), (a_t + 44), (a_t + 45), (a_t + 46), (a_t + 47)] [.inr (11, fsX11 a_t t_thrown t_taped t_p t_fault t_baseLow t_baseHigh t_newBaseLow t_newBaseHigh t_from t_knots t_lines t_chosen t_undos t_redos t_aimedMany t_fits t_fitOf t_sights t_systems t_own t_cross t_curveLong t_wallFirst), IA E 21 t_push, IA E 100 t_speckLow, IA E 100 t_speckHigh, IA E 100 t_sourceHold, IA E 100 t_cur, IA E 100 t_was, IA E 100 t_feel, IA E 21 t_pushAt, JA E 6 t_curSum, IA E 800 t_grain, IA E 48 t_ways, IA E 8 t_harder, JA E 48 t_grainSum] h) 30 [none, none, none, none, none, none, none, some (vI v7)] [] := by
  rw [m_X11_loads_30] at hs
  refine g_iload e_X11_loads_30 rfl ?_
  obtain rfl := Option.some.inj hs
  exact g_iret rfl ⟨ok_v7, ok_t_cur, ok_t_was, ok_t_feel, ok_t_pushAt, ok_t_curSum, ok_t_grain, ok_t_harder, ok_t_grainSum⟩ e_X11_loads_32

noncomputable def m_X11_loads_0 (t_baseLow : Int) (t_baseHigh : Int) (t_systems : Int) (t_own : Int) (t_cross : Int) (t_push : Nat → Int) (t_speckLow : Nat → Int) (t_speckHigh : Nat → Int) (t_sourceHold : Nat → Int) (t_cur : Nat → Int) (t_was : Nat → Int) (t_feel : Nat → Int) (t_pushAt : Nat → Int) (t_curSum : Nat → Int) (t_grain : Nat → Int) (t_ways : Nat → Int) (t_harder : Nat → Int) (t_grainSum : Nat → Int) (v1 : Int) (v2 : Int) (v3 : Int) (v4 : Int) (v5 : Int) (v6 : Int) : Option (Int × (Nat → Int) × (Nat → Int) × (Nat → Int) × (Nat → Int) × (Nat → Int) × (Nat → Int) × (Nat → Int) × (Nat → Int)) :=
  m_X11_loads_3 t_baseLow t_baseHigh t_systems t_own t_cross t_push t_speckLow t_speckHigh t_sourceHold t_ways v1 v2 v3 v4 v5 v6 (fun t_cur' t_was' t_feel' t_pushAt' t_curSum' t_grain' t_harder' t_grainSum' v7' => m_X11_loads_30 t_cur' t_was' t_feel' t_pushAt' t_curSum' t_grain' t_harder' t_grainSum' v7') FU t_cur t_was t_feel t_pushAt t_curSum t_grain t_harder t_grainSum 0

set_option maxRecDepth 10000 in
set_option maxHeartbeats 8000000 in
theorem g_X11_loads_0 {l : Launch} {E : EE} {b0 n : Nat} {h : AH} {a_t : Nat} {t_thrown t_taped t_p t_fault t_baseLow t_baseHigh t_newBaseLow t_newBaseHigh t_from t_knots t_lines t_chosen t_undos t_redos t_aimedMany t_fits t_fitOf t_sights t_systems t_own t_cross t_curveLong t_wallFirst v1 v2 v3 v4 v5 v6 : Int} {t_push t_speckLow t_speckHigh t_sourceHold t_cur t_was t_feel t_pushAt t_curSum t_grain t_ways t_harder t_grainSum : Nat → Int} {r : Int × (Nat → Int) × (Nat → Int) × (Nat → Int) × (Nat → Int) × (Nat → Int) × (Nat → Int) × (Nat → Int) × (Nat → Int)} (ao : AO b0 n [a_t, (a_t + 6), (a_t + 8), (a_t + 9), (a_t + 10), (a_t + 24), (a_t + 25), (a_t + 26), (a_t + 27), (a_t + 28), (a_t + 44), (a_t + 45), (a_t + 46), (a_t + 47)]) (ok_t_baseLow : inI t_baseLow) (ok_t_baseHigh : inI t_baseHigh) (ok_t_systems : inI t_systems) (ok_t_own : inI t_own) (ok_t_cross : inI t_cross) (ok_t_push : okA t_push) (ok_t_speckLow : okA t_speckLow) (ok_t_speckHigh : okA t_speckHigh) (ok_t_sourceHold : okA t_sourceHold) (ok_t_cur : okA t_cur) (ok_t_was : okA t_was) (ok_t_feel : okA t_feel) (ok_t_pushAt : okA t_pushAt) (ok_t_curSum : okJ t_curSum) (ok_t_grain : okA t_grain) (ok_t_ways : okA t_ways) (ok_t_harder : okA t_harder) (ok_t_grainSum : okJ t_grainSum) (ok_v1 : inI v1) (ok_v2 : inI v2) (ok_v3 : inI v3) (ok_v4 : inI v4) (ok_v5 : inI v5) (ok_v6 : inI v6) (hs : m_X11_loads_0 t_baseLow t_baseHigh t_systems t_own t_cross t_push t_speckLow t_speckHigh t_sourceHold t_cur t_was t_feel t_pushAt t_curSum t_grain t_ways t_harder t_grainSum v1 v2 v3 v4 v5 v6 = some r) : G l E b0 M_X11_loads (fun _ => True) (ZM E b0 (some (vI r.1)) (ov [a_t, (a_t + 6), (a_t + 8), (a_t + 9), (a_t + 10), (a_t + 24), (a_t + 25), (a_t + 26), (a_t + 27), (a_t + 28), (a_t + 44), (a_t + 45), (a_t + 46), (a_t + 47)] [.inr (11, fsX11 a_t t_thrown t_taped t_p t_fault t_baseLow t_baseHigh t_newBaseLow t_newBaseHigh t_from t_knots t_lines t_chosen t_undos t_redos t_aimedMany t_fits t_fitOf t_sights t_systems t_own t_cross t_curveLong t_wallFirst), IA E 21 t_push, IA E 100 t_speckLow, IA E 100 t_speckHigh, IA E 100 t_sourceHold, IA E 100 r.2.1, IA E 100 r.2.2.1, IA E 100 r.2.2.2.1, IA E 21 r.2.2.2.2.1, JA E 6 r.2.2.2.2.2.1, IA E 800 r.2.2.2.2.2.2.1, IA E 48 t_ways, IA E 8 r.2.2.2.2.2.2.2.1, JA E 48 r.2.2.2.2.2.2.2.2] h) n (inI r.1 ∧ okA r.2.1 ∧ okA r.2.2.1 ∧ okA r.2.2.2.1 ∧ okA r.2.2.2.2.1 ∧ okJ r.2.2.2.2.2.1 ∧ okA r.2.2.2.2.2.2.1 ∧ okA r.2.2.2.2.2.2.2.1 ∧ okJ r.2.2.2.2.2.2.2.2) 0 0) 0 0 n (ov [a_t, (a_t + 6), (a_t + 8), (a_t + 9), (a_t + 10), (a_t + 24), (a_t + 25), (a_t + 26), (a_t + 27), (a_t + 28), (a_t + 44), (a_t + 45), (a_t + 46), (a_t + 47)] [.inr (11, fsX11 a_t t_thrown t_taped t_p t_fault t_baseLow t_baseHigh t_newBaseLow t_newBaseHigh t_from t_knots t_lines t_chosen t_undos t_redos t_aimedMany t_fits t_fitOf t_sights t_systems t_own t_cross t_curveLong t_wallFirst), IA E 21 t_push, IA E 100 t_speckLow, IA E 100 t_speckHigh, IA E 100 t_sourceHold, IA E 100 t_cur, IA E 100 t_was, IA E 100 t_feel, IA E 21 t_pushAt, JA E 6 t_curSum, IA E 800 t_grain, IA E 48 t_ways, IA E 8 t_harder, JA E 48 t_grainSum] h) 0 [some (.ref a_t), some (vI v1), some (vI v2), some (vI v3), some (vI v4), some (vI v5), some (vI v6), none] [] := by
  rw [m_X11_loads_0] at hs
  refine g_iconst e_X11_loads_0 ?_
  refine g_istore e_X11_loads_1 st1_7 rfl ?_
  exact g_X11_loads_3 ao ok_t_baseLow ok_t_baseHigh ok_t_systems ok_t_own ok_t_cross ok_t_push ok_t_speckLow ok_t_speckHigh ok_t_sourceHold ok_t_ways ok_v1 ok_v2 ok_v3 ok_v4 ok_v5 ok_v6 (hk_30 := by
      intro t_cur' t_was' t_feel' t_pushAt' t_curSum' t_grain' t_harder' t_grainSum' v7' ok_t_cur' ok_t_was' ok_t_feel' ok_t_pushAt' ok_t_curSum' ok_t_grain' ok_t_harder' ok_t_grainSum' ok_v7' hs
      exact g_X11_loads_30 ao ok_t_baseLow ok_t_baseHigh ok_t_systems ok_t_own ok_t_cross ok_t_push ok_t_speckLow ok_t_speckHigh ok_t_sourceHold ok_t_cur' ok_t_was' ok_t_feel' ok_t_pushAt' ok_t_curSum' ok_t_grain' ok_t_ways ok_t_harder' ok_t_grainSum' ok_v7' hs) FU _ _ _ _ _ _ _ _ _ ok_t_cur ok_t_was ok_t_feel ok_t_pushAt ok_t_curSum ok_t_grain ok_t_harder ok_t_grainSum (by decide : inI 0) hs

noncomputable def m_X11_loads (t_baseLow : Int) (t_baseHigh : Int) (t_systems : Int) (t_own : Int) (t_cross : Int) (t_push : Nat → Int) (t_speckLow : Nat → Int) (t_speckHigh : Nat → Int) (t_sourceHold : Nat → Int) (t_cur : Nat → Int) (t_was : Nat → Int) (t_feel : Nat → Int) (t_pushAt : Nat → Int) (t_curSum : Nat → Int) (t_grain : Nat → Int) (t_ways : Nat → Int) (t_harder : Nat → Int) (t_grainSum : Nat → Int) (v1 : Int) (v2 : Int) (v3 : Int) (v4 : Int) (v5 : Int) (v6 : Int) : Option (Int × (Nat → Int) × (Nat → Int) × (Nat → Int) × (Nat → Int) × (Nat → Int) × (Nat → Int) × (Nat → Int) × (Nat → Int)) := m_X11_loads_0 t_baseLow t_baseHigh t_systems t_own t_cross t_push t_speckLow t_speckHigh t_sourceHold t_cur t_was t_feel t_pushAt t_curSum t_grain t_ways t_harder t_grainSum v1 v2 v3 v4 v5 v6

set_option maxRecDepth 10000 in
set_option maxHeartbeats 8000000 in
theorem ct_X11_loads {l : Launch} {E : EE} {b0 n : Nat} {h : AH} {a_t : Nat} {t_thrown t_taped t_p t_fault t_baseLow t_baseHigh t_newBaseLow t_newBaseHigh t_from t_knots t_lines t_chosen t_undos t_redos t_aimedMany t_fits t_fitOf t_sights t_systems t_own t_cross t_curveLong t_wallFirst : Int} {t_push t_speckLow t_speckHigh t_sourceHold t_cur t_was t_feel t_pushAt t_curSum t_grain t_ways t_harder t_grainSum : Nat → Int} {v1 v2 v3 v4 v5 v6 : Int} (ao : AO b0 n [a_t, (a_t + 6), (a_t + 8), (a_t + 9), (a_t + 10), (a_t + 24), (a_t + 25), (a_t + 26), (a_t + 27), (a_t + 28), (a_t + 44), (a_t + 45), (a_t + 46), (a_t + 47)]) (hf : FA h [a_t, (a_t + 6), (a_t + 8), (a_t + 9), (a_t + 10), (a_t + 24), (a_t + 25), (a_t + 26), (a_t + 27), (a_t + 28), (a_t + 44), (a_t + 45), (a_t + 46), (a_t + 47)] [.inr (11, fsX11 a_t t_thrown t_taped t_p t_fault t_baseLow t_baseHigh t_newBaseLow t_newBaseHigh t_from t_knots t_lines t_chosen t_undos t_redos t_aimedMany t_fits t_fitOf t_sights t_systems t_own t_cross t_curveLong t_wallFirst), IA E 21 t_push, IA E 100 t_speckLow, IA E 100 t_speckHigh, IA E 100 t_sourceHold, IA E 100 t_cur, IA E 100 t_was, IA E 100 t_feel, IA E 21 t_pushAt, JA E 6 t_curSum, IA E 800 t_grain, IA E 48 t_ways, IA E 8 t_harder, JA E 48 t_grainSum]) (ok_t_baseLow : inI t_baseLow) (ok_t_baseHigh : inI t_baseHigh) (ok_t_systems : inI t_systems) (ok_t_own : inI t_own) (ok_t_cross : inI t_cross) (ok_t_push : okA t_push) (ok_t_speckLow : okA t_speckLow) (ok_t_speckHigh : okA t_speckHigh) (ok_t_sourceHold : okA t_sourceHold) (ok_t_cur : okA t_cur) (ok_t_was : okA t_was) (ok_t_feel : okA t_feel) (ok_t_pushAt : okA t_pushAt) (ok_t_curSum : okJ t_curSum) (ok_t_grain : okA t_grain) (ok_t_ways : okA t_ways) (ok_t_harder : okA t_harder) (ok_t_grainSum : okJ t_grainSum) (ok_v1 : inI v1) (ok_v2 : inI v2) (ok_v3 : inI v3) (ok_v4 : inI v4) (ok_v5 : inI v5) (ok_v6 : inI v6) {r : Int × (Nat → Int) × (Nat → Int) × (Nat → Int) × (Nat → Int) × (Nat → Int) × (Nat → Int) × (Nat → Int) × (Nat → Int)} (hm : m_X11_loads t_baseLow t_baseHigh t_systems t_own t_cross t_push t_speckLow t_speckHigh t_sourceHold t_cur t_was t_feel t_pushAt t_curSum t_grain t_ways t_harder t_grainSum v1 v2 v3 v4 v5 v6 = some r) : Ct l E b0 M_X11_loads 0 0 [.ref a_t, vI v1, vI v2, vI v3, vI v4, vI v5, vI v6] h n (some (vI r.1)) (ov [a_t, (a_t + 6), (a_t + 8), (a_t + 9), (a_t + 10), (a_t + 24), (a_t + 25), (a_t + 26), (a_t + 27), (a_t + 28), (a_t + 44), (a_t + 45), (a_t + 46), (a_t + 47)] [.inr (11, fsX11 a_t t_thrown t_taped t_p t_fault t_baseLow t_baseHigh t_newBaseLow t_newBaseHigh t_from t_knots t_lines t_chosen t_undos t_redos t_aimedMany t_fits t_fitOf t_sights t_systems t_own t_cross t_curveLong t_wallFirst), IA E 21 t_push, IA E 100 t_speckLow, IA E 100 t_speckHigh, IA E 100 t_sourceHold, IA E 100 r.2.1, IA E 100 r.2.2.1, IA E 100 r.2.2.2.1, IA E 21 r.2.2.2.2.1, JA E 6 r.2.2.2.2.2.1, IA E 800 r.2.2.2.2.2.2.1, IA E 48 t_ways, IA E 8 r.2.2.2.2.2.2.2.1, JA E 48 r.2.2.2.2.2.2.2.2] h) n (inI r.1 ∧ okA r.2.1 ∧ okA r.2.2.1 ∧ okA r.2.2.2.1 ∧ okA r.2.2.2.2.1 ∧ okJ r.2.2.2.2.2.1 ∧ okA r.2.2.2.2.2.2.1 ∧ okA r.2.2.2.2.2.2.2.1 ∧ okJ r.2.2.2.2.2.2.2.2) := by
  rw [m_X11_loads] at hm
  have hg : G l E b0 M_X11_loads (fun _ => True) (ZM E b0 (some (vI r.1)) (ov [a_t, (a_t + 6), (a_t + 8), (a_t + 9), (a_t + 10), (a_t + 24), (a_t + 25), (a_t + 26), (a_t + 27), (a_t + 28), (a_t + 44), (a_t + 45), (a_t + 46), (a_t + 47)] [.inr (11, fsX11 a_t t_thrown t_taped t_p t_fault t_baseLow t_baseHigh t_newBaseLow t_newBaseHigh t_from t_knots t_lines t_chosen t_undos t_redos t_aimedMany t_fits t_fitOf t_sights t_systems t_own t_cross t_curveLong t_wallFirst), IA E 21 t_push, IA E 100 t_speckLow, IA E 100 t_speckHigh, IA E 100 t_sourceHold, IA E 100 r.2.1, IA E 100 r.2.2.1, IA E 100 r.2.2.2.1, IA E 21 r.2.2.2.2.1, JA E 6 r.2.2.2.2.2.1, IA E 800 r.2.2.2.2.2.2.1, IA E 48 t_ways, IA E 8 r.2.2.2.2.2.2.2.1, JA E 48 r.2.2.2.2.2.2.2.2] h) n (inI r.1 ∧ okA r.2.1 ∧ okA r.2.2.1 ∧ okA r.2.2.2.1 ∧ okA r.2.2.2.2.1 ∧ okJ r.2.2.2.2.2.1 ∧ okA r.2.2.2.2.2.2.1 ∧ okA r.2.2.2.2.2.2.2.1 ∧ okJ r.2.2.2.2.2.2.2.2) 0 0) 0 0 n (ov [a_t, (a_t + 6), (a_t + 8), (a_t + 9), (a_t + 10), (a_t + 24), (a_t + 25), (a_t + 26), (a_t + 27), (a_t + 28), (a_t + 44), (a_t + 45), (a_t + 46), (a_t + 47)] [.inr (11, fsX11 a_t t_thrown t_taped t_p t_fault t_baseLow t_baseHigh t_newBaseLow t_newBaseHigh t_from t_knots t_lines t_chosen t_undos t_redos t_aimedMany t_fits t_fitOf t_sights t_systems t_own t_cross t_curveLong t_wallFirst), IA E 21 t_push, IA E 100 t_speckLow, IA E 100 t_speckHigh, IA E 100 t_sourceHold, IA E 100 t_cur, IA E 100 t_was, IA E 100 t_feel, IA E 21 t_pushAt, JA E 6 t_curSum, IA E 800 t_grain, IA E 48 t_ways, IA E 8 t_harder, JA E 48 t_grainSum] h) 0 [some (.ref a_t), some (vI v1), some (vI v2), some (vI v3), some (vI v4), some (vI v5), some (vI v6), none] [] := by
    have hs := hm
    exact g_X11_loads_0 ao ok_t_baseLow ok_t_baseHigh ok_t_systems ok_t_own ok_t_cross ok_t_push ok_t_speckLow ok_t_speckHigh ok_t_sourceHold ok_t_cur ok_t_was ok_t_feel ok_t_pushAt ok_t_curSum ok_t_grain ok_t_ways ok_t_harder ok_t_grainSum ok_v1 ok_v2 ok_v3 ok_v4 ok_v5 ok_v6 hs
  rw [FA_id hf] at hg
  exact Ct_of [some (.ref a_t), some (vI v1), some (vI v2), some (vI v3), some (vI v4), some (vI v5), some (vI v6), none] ⟨by decide +kernel, rfl⟩ rfl (Nat.le_of_ble_eq_true rfl) hg

/-! ===== X11_load ===== -/
theorem e_X11_load_0 : DC cX11_load 0 (.iload_n 1) 1 1 := ⟨by decide +kernel, rfl⟩
theorem e_X11_load_1 : DC cX11_load 1 (.iload_n 2) 1 2 := ⟨by decide +kernel, rfl⟩
theorem e_X11_load_2 : DC cX11_load 2 (.iload_n 3) 1 3 := ⟨by decide +kernel, rfl⟩
theorem e_X11_load_3 : DC cX11_load 3 (.invokestatic 311) 3 6 := ⟨by decide +kernel, rfl⟩
theorem e_X11_load_6 : DB cX11_load 6 (.ifCond .eq 53) (53) 3 9 59 := ⟨by decide +kernel, rfl, rfl⟩
theorem e_X11_load_9 : DC cX11_load 9 (.iload 4) 2 11 := ⟨by decide +kernel, rfl⟩
theorem e_X11_load_11 : DC cX11_load 11 (.iconst 0) 1 12 := ⟨by decide +kernel, rfl⟩
theorem e_X11_load_12 : DC cX11_load 12 (.sipush 9999) 3 15 := ⟨by decide +kernel, rfl⟩
theorem e_X11_load_15 : DC cX11_load 15 (.invokestatic 226) 3 18 := ⟨by decide +kernel, rfl⟩
theorem e_X11_load_18 : DB cX11_load 18 (.ifCond .eq 41) (41) 3 21 59 := ⟨by decide +kernel, rfl, rfl⟩
theorem e_X11_load_21 : DC cX11_load 21 (.iload 5) 2 23 := ⟨by decide +kernel, rfl⟩
theorem e_X11_load_23 : DC cX11_load 23 (.iconst 0) 1 24 := ⟨by decide +kernel, rfl⟩
theorem e_X11_load_24 : DC cX11_load 24 (.sipush 200) 3 27 := ⟨by decide +kernel, rfl⟩
theorem e_X11_load_27 : DC cX11_load 27 (.invokestatic 226) 3 30 := ⟨by decide +kernel, rfl⟩
theorem e_X11_load_30 : DB cX11_load 30 (.ifCond .eq 29) (29) 3 33 59 := ⟨by decide +kernel, rfl, rfl⟩
theorem e_X11_load_33 : DC cX11_load 33 (.iload 6) 2 35 := ⟨by decide +kernel, rfl⟩
theorem e_X11_load_35 : DC cX11_load 35 (.iconst 0) 1 36 := ⟨by decide +kernel, rfl⟩
theorem e_X11_load_36 : DC cX11_load 36 (.iconst 1) 1 37 := ⟨by decide +kernel, rfl⟩
theorem e_X11_load_37 : DC cX11_load 37 (.invokestatic 226) 3 40 := ⟨by decide +kernel, rfl⟩
theorem e_X11_load_40 : DB cX11_load 40 (.ifCond .eq 19) (19) 3 43 59 := ⟨by decide +kernel, rfl, rfl⟩
theorem e_X11_load_43 : DC cX11_load 43 (.aload_n 0) 1 44 := ⟨by decide +kernel, rfl⟩
theorem e_X11_load_44 : DC cX11_load 44 (.iload_n 1) 1 45 := ⟨by decide +kernel, rfl⟩
theorem e_X11_load_45 : DC cX11_load 45 (.iload_n 2) 1 46 := ⟨by decide +kernel, rfl⟩
theorem e_X11_load_46 : DC cX11_load 46 (.iload_n 3) 1 47 := ⟨by decide +kernel, rfl⟩
theorem e_X11_load_47 : DC cX11_load 47 (.iload 4) 2 49 := ⟨by decide +kernel, rfl⟩
theorem e_X11_load_49 : DC cX11_load 49 (.iload 5) 2 51 := ⟨by decide +kernel, rfl⟩
theorem e_X11_load_51 : DC cX11_load 51 (.iload 6) 2 53 := ⟨by decide +kernel, rfl⟩
theorem e_X11_load_53 : DC cX11_load 53 (.invokevirtual 429) 3 56 := ⟨by decide +kernel, rfl⟩
theorem e_X11_load_56 : DB cX11_load 56 (.goto 4) (4) 3 59 60 := ⟨by decide +kernel, rfl, rfl⟩
theorem e_X11_load_59 : DC cX11_load 59 (.iconst (-1)) 1 60 := ⟨by decide +kernel, rfl⟩
theorem e_X11_load_60 : DC cX11_load 60 (.ireturn) 1 61 := ⟨by decide +kernel, rfl⟩
noncomputable def m_X11_load_0 (t_baseLow : Int) (t_baseHigh : Int) (t_systems : Int) (t_own : Int) (t_cross : Int) (t_push : Nat → Int) (t_speckLow : Nat → Int) (t_speckHigh : Nat → Int) (t_sourceHold : Nat → Int) (t_cur : Nat → Int) (t_was : Nat → Int) (t_feel : Nat → Int) (t_pushAt : Nat → Int) (t_curSum : Nat → Int) (t_grain : Nat → Int) (t_ways : Nat → Int) (t_harder : Nat → Int) (t_grainSum : Nat → Int) (v1 : Int) (v2 : Int) (v3 : Int) (v4 : Int) (v5 : Int) (v6 : Int) : Option (Int × (Nat → Int) × (Nat → Int) × (Nat → Int) × (Nat → Int) × (Nat → Int) × (Nat → Int) × (Nat → Int) × (Nat → Int)) :=
  (m_X11_isPull v1 v2 v3).bind (fun y1 => if y1 = 0 then (some ((-1), t_cur, t_was, t_feel, t_pushAt, t_curSum, t_grain, t_harder, t_grainSum)) else ((m_X11_in v4 0 9999).bind (fun y2 => if y2 = 0 then (some ((-1), t_cur, t_was, t_feel, t_pushAt, t_curSum, t_grain, t_harder, t_grainSum)) else ((m_X11_in v5 0 200).bind (fun y3 => if y3 = 0 then (some ((-1), t_cur, t_was, t_feel, t_pushAt, t_curSum, t_grain, t_harder, t_grainSum)) else ((m_X11_in v6 0 1).bind (fun y4 => if y4 = 0 then (some ((-1), t_cur, t_was, t_feel, t_pushAt, t_curSum, t_grain, t_harder, t_grainSum)) else ((m_X11_loads t_baseLow t_baseHigh t_systems t_own t_cross t_push t_speckLow t_speckHigh t_sourceHold t_cur t_was t_feel t_pushAt t_curSum t_grain t_ways t_harder t_grainSum v1 v2 v3 v4 v5 v6).bind (fun y5 => some (y5.1, y5.2.1, y5.2.2.1, y5.2.2.2.1, y5.2.2.2.2.1, y5.2.2.2.2.2.1, y5.2.2.2.2.2.2.1, y5.2.2.2.2.2.2.2.1, y5.2.2.2.2.2.2.2.2))))))))))

set_option maxRecDepth 10000 in
set_option maxHeartbeats 8000000 in
theorem g_X11_load_0 {l : Launch} {E : EE} {b0 n : Nat} {h : AH} {a_t : Nat} {t_thrown t_taped t_p t_fault t_baseLow t_baseHigh t_newBaseLow t_newBaseHigh t_from t_knots t_lines t_chosen t_undos t_redos t_aimedMany t_fits t_fitOf t_sights t_systems t_own t_cross t_curveLong t_wallFirst v1 v2 v3 v4 v5 v6 : Int} {t_push t_speckLow t_speckHigh t_sourceHold t_cur t_was t_feel t_pushAt t_curSum t_grain t_ways t_harder t_grainSum : Nat → Int} {r : Int × (Nat → Int) × (Nat → Int) × (Nat → Int) × (Nat → Int) × (Nat → Int) × (Nat → Int) × (Nat → Int) × (Nat → Int)} (ao : AO b0 n [a_t, (a_t + 6), (a_t + 8), (a_t + 9), (a_t + 10), (a_t + 24), (a_t + 25), (a_t + 26), (a_t + 27), (a_t + 28), (a_t + 44), (a_t + 45), (a_t + 46), (a_t + 47)]) (ok_t_baseLow : inI t_baseLow) (ok_t_baseHigh : inI t_baseHigh) (ok_t_systems : inI t_systems) (ok_t_own : inI t_own) (ok_t_cross : inI t_cross) (ok_t_push : okA t_push) (ok_t_speckLow : okA t_speckLow) (ok_t_speckHigh : okA t_speckHigh) (ok_t_sourceHold : okA t_sourceHold) (ok_t_cur : okA t_cur) (ok_t_was : okA t_was) (ok_t_feel : okA t_feel) (ok_t_pushAt : okA t_pushAt) (ok_t_curSum : okJ t_curSum) (ok_t_grain : okA t_grain) (ok_t_ways : okA t_ways) (ok_t_harder : okA t_harder) (ok_t_grainSum : okJ t_grainSum) (ok_v1 : inI v1) (ok_v2 : inI v2) (ok_v3 : inI v3) (ok_v4 : inI v4) (ok_v5 : inI v5) (ok_v6 : inI v6) (hs : m_X11_load_0 t_baseLow t_baseHigh t_systems t_own t_cross t_push t_speckLow t_speckHigh t_sourceHold t_cur t_was t_feel t_pushAt t_curSum t_grain t_ways t_harder t_grainSum v1 v2 v3 v4 v5 v6 = some r) : G l E b0 M_X11_load (fun _ => True) (ZM E b0 (some (vI r.1)) (ov [a_t, (a_t + 6), (a_t + 8), (a_t + 9), (a_t + 10), (a_t + 24), (a_t + 25), (a_t + 26), (a_t + 27), (a_t + 28), (a_t + 44), (a_t + 45), (a_t + 46), (a_t + 47)] [.inr (11, fsX11 a_t t_thrown t_taped t_p t_fault t_baseLow t_baseHigh t_newBaseLow t_newBaseHigh t_from t_knots t_lines t_chosen t_undos t_redos t_aimedMany t_fits t_fitOf t_sights t_systems t_own t_cross t_curveLong t_wallFirst), IA E 21 t_push, IA E 100 t_speckLow, IA E 100 t_speckHigh, IA E 100 t_sourceHold, IA E 100 r.2.1, IA E 100 r.2.2.1, IA E 100 r.2.2.2.1, IA E 21 r.2.2.2.2.1, JA E 6 r.2.2.2.2.2.1, IA E 800 r.2.2.2.2.2.2.1, IA E 48 t_ways, IA E 8 r.2.2.2.2.2.2.2.1, JA E 48 r.2.2.2.2.2.2.2.2] h) n (inI r.1 ∧ okA r.2.1 ∧ okA r.2.2.1 ∧ okA r.2.2.2.1 ∧ okA r.2.2.2.2.1 ∧ okJ r.2.2.2.2.2.1 ∧ okA r.2.2.2.2.2.2.1 ∧ okA r.2.2.2.2.2.2.2.1 ∧ okJ r.2.2.2.2.2.2.2.2) 0 0) 0 0 n (ov [a_t, (a_t + 6), (a_t + 8), (a_t + 9), (a_t + 10), (a_t + 24), (a_t + 25), (a_t + 26), (a_t + 27), (a_t + 28), (a_t + 44), (a_t + 45), (a_t + 46), (a_t + 47)] [.inr (11, fsX11 a_t t_thrown t_taped t_p t_fault t_baseLow t_baseHigh t_newBaseLow t_newBaseHigh t_from t_knots t_lines t_chosen t_undos t_redos t_aimedMany t_fits t_fitOf t_sights t_systems t_own t_cross t_curveLong t_wallFirst), IA E 21 t_push, IA E 100 t_speckLow, IA E 100 t_speckHigh, IA E 100 t_sourceHold, IA E 100 t_cur, IA E 100 t_was, IA E 100 t_feel, IA E 21 t_pushAt, JA E 6 t_curSum, IA E 800 t_grain, IA E 48 t_ways, IA E 8 t_harder, JA E 48 t_grainSum] h) 0 [some (.ref a_t), some (vI v1), some (vI v2), some (vI v3), some (vI v4), some (vI v5), some (vI v6)] [] := by
  rw [m_X11_load_0] at hs
  refine g_iload_n e_X11_load_0 rfl ?_
  refine g_iload_n e_X11_load_1 rfl ?_
  refine g_iload_n e_X11_load_2 rfl ?_
  obtain ⟨y1, hy1, hs⟩ := bind_elim hs
  refine g_callSr [vI v1, vI v2, vI v3] cs_X11_311 ⟨rfl, rfl, Nat.le_of_ble_eq_true rfl, Nat.le_of_ble_eq_true rfl⟩ (ct_X11_isPull ⟨List.nodup_nil, fun i a h => by simp at h⟩ (fun i a e h => by simp at h) ok_v1 ok_v2 ok_v3 hy1) e_X11_load_3 rfl rfl (Nat.le_of_ble_eq_true rfl) ⟨Nat.le_refl _, Nat.le_refl _⟩ (fun Py1 => ?_)
  refine g_if_eq e_X11_load_6 (inZ_I Py1) hs (fun c6 hs => ?_) (fun c6 hs => ?_)
  · refine g_iconst e_X11_load_59 ?_
    obtain rfl := Option.some.inj hs
    exact g_iret rfl ⟨(by decide : inI (-1)), ok_t_cur, ok_t_was, ok_t_feel, ok_t_pushAt, ok_t_curSum, ok_t_grain, ok_t_harder, ok_t_grainSum⟩ e_X11_load_60
  · refine g_iload e_X11_load_9 rfl ?_
    refine g_iconst e_X11_load_11 ?_
    refine g_sipush e_X11_load_12 sp_9999 ?_
    obtain ⟨y2, hy2, hs⟩ := bind_elim hs
    refine g_callSr [vI v4, vI 0, vI 9999] cs_X11_226 ⟨rfl, rfl, Nat.le_of_ble_eq_true rfl, Nat.le_of_ble_eq_true rfl⟩ (ct_X11_in ⟨List.nodup_nil, fun i a h => by simp at h⟩ (fun i a e h => by simp at h) ok_v4 (by decide : inI 0) (by decide : inI 9999) hy2) e_X11_load_15 rfl rfl (Nat.le_of_ble_eq_true rfl) ⟨Nat.le_refl _, Nat.le_refl _⟩ (fun Py2 => ?_)
    refine g_if_eq e_X11_load_18 (inZ_I Py2) hs (fun c18 hs => ?_) (fun c18 hs => ?_)
    · refine g_iconst e_X11_load_59 ?_
      obtain rfl := Option.some.inj hs
      exact g_iret rfl ⟨(by decide : inI (-1)), ok_t_cur, ok_t_was, ok_t_feel, ok_t_pushAt, ok_t_curSum, ok_t_grain, ok_t_harder, ok_t_grainSum⟩ e_X11_load_60
    · refine g_iload e_X11_load_21 rfl ?_
      refine g_iconst e_X11_load_23 ?_
      refine g_sipush e_X11_load_24 sp_200 ?_
      obtain ⟨y3, hy3, hs⟩ := bind_elim hs
      refine g_callSr [vI v5, vI 0, vI 200] cs_X11_226 ⟨rfl, rfl, Nat.le_of_ble_eq_true rfl, Nat.le_of_ble_eq_true rfl⟩ (ct_X11_in ⟨List.nodup_nil, fun i a h => by simp at h⟩ (fun i a e h => by simp at h) ok_v5 (by decide : inI 0) (by decide : inI 200) hy3) e_X11_load_27 rfl rfl (Nat.le_of_ble_eq_true rfl) ⟨Nat.le_refl _, Nat.le_refl _⟩ (fun Py3 => ?_)
      refine g_if_eq e_X11_load_30 (inZ_I Py3) hs (fun c30 hs => ?_) (fun c30 hs => ?_)
      · refine g_iconst e_X11_load_59 ?_
        obtain rfl := Option.some.inj hs
        exact g_iret rfl ⟨(by decide : inI (-1)), ok_t_cur, ok_t_was, ok_t_feel, ok_t_pushAt, ok_t_curSum, ok_t_grain, ok_t_harder, ok_t_grainSum⟩ e_X11_load_60
      · refine g_iload e_X11_load_33 rfl ?_
        refine g_iconst e_X11_load_35 ?_
        refine g_iconst e_X11_load_36 ?_
        obtain ⟨y4, hy4, hs⟩ := bind_elim hs
        refine g_callSr [vI v6, vI 0, vI 1] cs_X11_226 ⟨rfl, rfl, Nat.le_of_ble_eq_true rfl, Nat.le_of_ble_eq_true rfl⟩ (ct_X11_in ⟨List.nodup_nil, fun i a h => by simp at h⟩ (fun i a e h => by simp at h) ok_v6 (by decide : inI 0) (by decide : inI 1) hy4) e_X11_load_37 rfl rfl (Nat.le_of_ble_eq_true rfl) ⟨Nat.le_refl _, Nat.le_refl _⟩ (fun Py4 => ?_)
        refine g_if_eq e_X11_load_40 (inZ_I Py4) hs (fun c40 hs => ?_) (fun c40 hs => ?_)
        · refine g_iconst e_X11_load_59 ?_
          obtain rfl := Option.some.inj hs
          exact g_iret rfl ⟨(by decide : inI (-1)), ok_t_cur, ok_t_was, ok_t_feel, ok_t_pushAt, ok_t_curSum, ok_t_grain, ok_t_harder, ok_t_grainSum⟩ e_X11_load_60
        · refine g_aload_n e_X11_load_43 rfl ?_
          refine g_iload_n e_X11_load_44 rfl ?_
          refine g_iload_n e_X11_load_45 rfl ?_
          refine g_iload_n e_X11_load_46 rfl ?_
          refine g_iload e_X11_load_47 rfl ?_
          refine g_iload e_X11_load_49 rfl ?_
          refine g_iload e_X11_load_51 rfl ?_
          obtain ⟨y5, hy5, hs⟩ := bind_elim hs
          refine g_callVr [vI v1, vI v2, vI v3, vI v4, vI v5, vI v6] cv_X11_429 ⟨rfl, rfl, Nat.le_of_ble_eq_true rfl, Nat.le_of_ble_eq_true rfl⟩ (Ct_heap (ct_X11_loads (a_t := a_t) (AO_call [0, 1, 2, 3, 4, 5, 6, 7, 8, 9, 10, 11, 12, 13] ao (by decide) rfl) (FA_call [0, 1, 2, 3, 4, 5, 6, 7, 8, 9, 10, 11, 12, 13] ao.1 rfl rfl) ok_t_baseLow ok_t_baseHigh ok_t_systems ok_t_own ok_t_cross ok_t_push ok_t_speckLow ok_t_speckHigh ok_t_sourceHold ok_t_cur ok_t_was ok_t_feel ok_t_pushAt ok_t_curSum ok_t_grain ok_t_ways ok_t_harder ok_t_grainSum ok_v1 ok_v2 ok_v3 ok_v4 ok_v5 ok_v6 hy5) (ov_call (esn := [.inr (11, fsX11 a_t t_thrown t_taped t_p t_fault t_baseLow t_baseHigh t_newBaseLow t_newBaseHigh t_from t_knots t_lines t_chosen t_undos t_redos t_aimedMany t_fits t_fitOf t_sights t_systems t_own t_cross t_curveLong t_wallFirst), IA E 21 t_push, IA E 100 t_speckLow, IA E 100 t_speckHigh, IA E 100 t_sourceHold, IA E 100 y5.2.1, IA E 100 y5.2.2.1, IA E 100 y5.2.2.2.1, IA E 21 y5.2.2.2.2.1, JA E 6 y5.2.2.2.2.2.1, IA E 800 y5.2.2.2.2.2.2.1, IA E 48 t_ways, IA E 8 y5.2.2.2.2.2.2.2.1, JA E 48 y5.2.2.2.2.2.2.2.2]) [0, 1, 2, 3, 4, 5, 6, 7, 8, 9, 10, 11, 12, 13] ao.1 rfl rfl rfl rfl)) e_X11_load_53 (ao.2 0 _ rfl) (ov_get 0 ao.1 rfl rfl) rfl rfl rfl (Nat.le_of_ble_eq_true rfl) ⟨Nat.le_refl _, Nat.le_refl _⟩ (fun Py5 => ?_)
          refine g_goto e_X11_load_56 ?_
          obtain rfl := Option.some.inj hs
          exact g_iret rfl ⟨Py5.1, Py5.2.1, Py5.2.2.1, Py5.2.2.2.1, Py5.2.2.2.2.1, Py5.2.2.2.2.2.1, Py5.2.2.2.2.2.2.1, Py5.2.2.2.2.2.2.2.1, Py5.2.2.2.2.2.2.2.2⟩ e_X11_load_60

noncomputable def m_X11_load (t_baseLow : Int) (t_baseHigh : Int) (t_systems : Int) (t_own : Int) (t_cross : Int) (t_push : Nat → Int) (t_speckLow : Nat → Int) (t_speckHigh : Nat → Int) (t_sourceHold : Nat → Int) (t_cur : Nat → Int) (t_was : Nat → Int) (t_feel : Nat → Int) (t_pushAt : Nat → Int) (t_curSum : Nat → Int) (t_grain : Nat → Int) (t_ways : Nat → Int) (t_harder : Nat → Int) (t_grainSum : Nat → Int) (v1 : Int) (v2 : Int) (v3 : Int) (v4 : Int) (v5 : Int) (v6 : Int) : Option (Int × (Nat → Int) × (Nat → Int) × (Nat → Int) × (Nat → Int) × (Nat → Int) × (Nat → Int) × (Nat → Int) × (Nat → Int)) := m_X11_load_0 t_baseLow t_baseHigh t_systems t_own t_cross t_push t_speckLow t_speckHigh t_sourceHold t_cur t_was t_feel t_pushAt t_curSum t_grain t_ways t_harder t_grainSum v1 v2 v3 v4 v5 v6

set_option maxRecDepth 10000 in
set_option maxHeartbeats 8000000 in
theorem ct_X11_load {l : Launch} {E : EE} {b0 n : Nat} {h : AH} {a_t : Nat} {t_thrown t_taped t_p t_fault t_baseLow t_baseHigh t_newBaseLow t_newBaseHigh t_from t_knots t_lines t_chosen t_undos t_redos t_aimedMany t_fits t_fitOf t_sights t_systems t_own t_cross t_curveLong t_wallFirst : Int} {t_push t_speckLow t_speckHigh t_sourceHold t_cur t_was t_feel t_pushAt t_curSum t_grain t_ways t_harder t_grainSum : Nat → Int} {v1 v2 v3 v4 v5 v6 : Int} (ao : AO b0 n [a_t, (a_t + 6), (a_t + 8), (a_t + 9), (a_t + 10), (a_t + 24), (a_t + 25), (a_t + 26), (a_t + 27), (a_t + 28), (a_t + 44), (a_t + 45), (a_t + 46), (a_t + 47)]) (hf : FA h [a_t, (a_t + 6), (a_t + 8), (a_t + 9), (a_t + 10), (a_t + 24), (a_t + 25), (a_t + 26), (a_t + 27), (a_t + 28), (a_t + 44), (a_t + 45), (a_t + 46), (a_t + 47)] [.inr (11, fsX11 a_t t_thrown t_taped t_p t_fault t_baseLow t_baseHigh t_newBaseLow t_newBaseHigh t_from t_knots t_lines t_chosen t_undos t_redos t_aimedMany t_fits t_fitOf t_sights t_systems t_own t_cross t_curveLong t_wallFirst), IA E 21 t_push, IA E 100 t_speckLow, IA E 100 t_speckHigh, IA E 100 t_sourceHold, IA E 100 t_cur, IA E 100 t_was, IA E 100 t_feel, IA E 21 t_pushAt, JA E 6 t_curSum, IA E 800 t_grain, IA E 48 t_ways, IA E 8 t_harder, JA E 48 t_grainSum]) (ok_t_baseLow : inI t_baseLow) (ok_t_baseHigh : inI t_baseHigh) (ok_t_systems : inI t_systems) (ok_t_own : inI t_own) (ok_t_cross : inI t_cross) (ok_t_push : okA t_push) (ok_t_speckLow : okA t_speckLow) (ok_t_speckHigh : okA t_speckHigh) (ok_t_sourceHold : okA t_sourceHold) (ok_t_cur : okA t_cur) (ok_t_was : okA t_was) (ok_t_feel : okA t_feel) (ok_t_pushAt : okA t_pushAt) (ok_t_curSum : okJ t_curSum) (ok_t_grain : okA t_grain) (ok_t_ways : okA t_ways) (ok_t_harder : okA t_harder) (ok_t_grainSum : okJ t_grainSum) (ok_v1 : inI v1) (ok_v2 : inI v2) (ok_v3 : inI v3) (ok_v4 : inI v4) (ok_v5 : inI v5) (ok_v6 : inI v6) {r : Int × (Nat → Int) × (Nat → Int) × (Nat → Int) × (Nat → Int) × (Nat → Int) × (Nat → Int) × (Nat → Int) × (Nat → Int)} (hm : m_X11_load t_baseLow t_baseHigh t_systems t_own t_cross t_push t_speckLow t_speckHigh t_sourceHold t_cur t_was t_feel t_pushAt t_curSum t_grain t_ways t_harder t_grainSum v1 v2 v3 v4 v5 v6 = some r) : Ct l E b0 M_X11_load 0 0 [.ref a_t, vI v1, vI v2, vI v3, vI v4, vI v5, vI v6] h n (some (vI r.1)) (ov [a_t, (a_t + 6), (a_t + 8), (a_t + 9), (a_t + 10), (a_t + 24), (a_t + 25), (a_t + 26), (a_t + 27), (a_t + 28), (a_t + 44), (a_t + 45), (a_t + 46), (a_t + 47)] [.inr (11, fsX11 a_t t_thrown t_taped t_p t_fault t_baseLow t_baseHigh t_newBaseLow t_newBaseHigh t_from t_knots t_lines t_chosen t_undos t_redos t_aimedMany t_fits t_fitOf t_sights t_systems t_own t_cross t_curveLong t_wallFirst), IA E 21 t_push, IA E 100 t_speckLow, IA E 100 t_speckHigh, IA E 100 t_sourceHold, IA E 100 r.2.1, IA E 100 r.2.2.1, IA E 100 r.2.2.2.1, IA E 21 r.2.2.2.2.1, JA E 6 r.2.2.2.2.2.1, IA E 800 r.2.2.2.2.2.2.1, IA E 48 t_ways, IA E 8 r.2.2.2.2.2.2.2.1, JA E 48 r.2.2.2.2.2.2.2.2] h) n (inI r.1 ∧ okA r.2.1 ∧ okA r.2.2.1 ∧ okA r.2.2.2.1 ∧ okA r.2.2.2.2.1 ∧ okJ r.2.2.2.2.2.1 ∧ okA r.2.2.2.2.2.2.1 ∧ okA r.2.2.2.2.2.2.2.1 ∧ okJ r.2.2.2.2.2.2.2.2) := by
  rw [m_X11_load] at hm
  have hg : G l E b0 M_X11_load (fun _ => True) (ZM E b0 (some (vI r.1)) (ov [a_t, (a_t + 6), (a_t + 8), (a_t + 9), (a_t + 10), (a_t + 24), (a_t + 25), (a_t + 26), (a_t + 27), (a_t + 28), (a_t + 44), (a_t + 45), (a_t + 46), (a_t + 47)] [.inr (11, fsX11 a_t t_thrown t_taped t_p t_fault t_baseLow t_baseHigh t_newBaseLow t_newBaseHigh t_from t_knots t_lines t_chosen t_undos t_redos t_aimedMany t_fits t_fitOf t_sights t_systems t_own t_cross t_curveLong t_wallFirst), IA E 21 t_push, IA E 100 t_speckLow, IA E 100 t_speckHigh, IA E 100 t_sourceHold, IA E 100 r.2.1, IA E 100 r.2.2.1, IA E 100 r.2.2.2.1, IA E 21 r.2.2.2.2.1, JA E 6 r.2.2.2.2.2.1, IA E 800 r.2.2.2.2.2.2.1, IA E 48 t_ways, IA E 8 r.2.2.2.2.2.2.2.1, JA E 48 r.2.2.2.2.2.2.2.2] h) n (inI r.1 ∧ okA r.2.1 ∧ okA r.2.2.1 ∧ okA r.2.2.2.1 ∧ okA r.2.2.2.2.1 ∧ okJ r.2.2.2.2.2.1 ∧ okA r.2.2.2.2.2.2.1 ∧ okA r.2.2.2.2.2.2.2.1 ∧ okJ r.2.2.2.2.2.2.2.2) 0 0) 0 0 n (ov [a_t, (a_t + 6), (a_t + 8), (a_t + 9), (a_t + 10), (a_t + 24), (a_t + 25), (a_t + 26), (a_t + 27), (a_t + 28), (a_t + 44), (a_t + 45), (a_t + 46), (a_t + 47)] [.inr (11, fsX11 a_t t_thrown t_taped t_p t_fault t_baseLow t_baseHigh t_newBaseLow t_newBaseHigh t_from t_knots t_lines t_chosen t_undos t_redos t_aimedMany t_fits t_fitOf t_sights t_systems t_own t_cross t_curveLong t_wallFirst), IA E 21 t_push, IA E 100 t_speckLow, IA E 100 t_speckHigh, IA E 100 t_sourceHold, IA E 100 t_cur, IA E 100 t_was, IA E 100 t_feel, IA E 21 t_pushAt, JA E 6 t_curSum, IA E 800 t_grain, IA E 48 t_ways, IA E 8 t_harder, JA E 48 t_grainSum] h) 0 [some (.ref a_t), some (vI v1), some (vI v2), some (vI v3), some (vI v4), some (vI v5), some (vI v6)] [] := by
    have hs := hm
    exact g_X11_load_0 ao ok_t_baseLow ok_t_baseHigh ok_t_systems ok_t_own ok_t_cross ok_t_push ok_t_speckLow ok_t_speckHigh ok_t_sourceHold ok_t_cur ok_t_was ok_t_feel ok_t_pushAt ok_t_curSum ok_t_grain ok_t_ways ok_t_harder ok_t_grainSum ok_v1 ok_v2 ok_v3 ok_v4 ok_v5 ok_v6 hs
  rw [FA_id hf] at hg
  exact Ct_of [some (.ref a_t), some (vI v1), some (vI v2), some (vI v3), some (vI v4), some (vI v5), some (vI v6)] ⟨by decide +kernel, rfl⟩ rfl (Nat.le_of_ble_eq_true rfl) hg

/-! ===== X11_strainOf ===== -/
theorem e_X11_strainOf_0 : DC cX11_strainOf 0 (.lconst 0) 1 1 := ⟨by decide +kernel, rfl⟩
theorem e_X11_strainOf_1 : DC cX11_strainOf 1 (.lstore 4) 2 3 := ⟨by decide +kernel, rfl⟩
theorem e_X11_strainOf_3 : DC cX11_strainOf 3 (.iconst 0) 1 4 := ⟨by decide +kernel, rfl⟩
theorem e_X11_strainOf_4 : DC cX11_strainOf 4 (.istore 6) 2 6 := ⟨by decide +kernel, rfl⟩
theorem e_X11_strainOf_6 : DC cX11_strainOf 6 (.iload 6) 2 8 := ⟨by decide +kernel, rfl⟩
theorem e_X11_strainOf_8 : DC cX11_strainOf 8 (.aload_n 0) 1 9 := ⟨by decide +kernel, rfl⟩
theorem e_X11_strainOf_9 : DC cX11_strainOf 9 (.getfield 398) 3 12 := ⟨by decide +kernel, rfl⟩
theorem e_X11_strainOf_12 : DB cX11_strainOf 12 (.if_icmp .ge 36) (36) 3 15 48 := ⟨by decide +kernel, rfl, rfl⟩
theorem e_X11_strainOf_15 : DC cX11_strainOf 15 (.lload 4) 2 17 := ⟨by decide +kernel, rfl⟩
theorem e_X11_strainOf_17 : DC cX11_strainOf 17 (.aload_n 0) 1 18 := ⟨by decide +kernel, rfl⟩
theorem e_X11_strainOf_18 : DC cX11_strainOf 18 (.getfield 151) 3 21 := ⟨by decide +kernel, rfl⟩
theorem e_X11_strainOf_21 : DC cX11_strainOf 21 (.bipush 6) 2 23 := ⟨by decide +kernel, rfl⟩
theorem e_X11_strainOf_23 : DC cX11_strainOf 23 (.iload 6) 2 25 := ⟨by decide +kernel, rfl⟩
theorem e_X11_strainOf_25 : DC cX11_strainOf 25 (.imul) 1 26 := ⟨by decide +kernel, rfl⟩
theorem e_X11_strainOf_26 : DC cX11_strainOf 26 (.iconst 0) 1 27 := ⟨by decide +kernel, rfl⟩
theorem e_X11_strainOf_27 : DC cX11_strainOf 27 (.iadd) 1 28 := ⟨by decide +kernel, rfl⟩
theorem e_X11_strainOf_28 : DC cX11_strainOf 28 (.laload) 1 29 := ⟨by decide +kernel, rfl⟩
theorem e_X11_strainOf_29 : DC cX11_strainOf 29 (.aload_n 0) 1 30 := ⟨by decide +kernel, rfl⟩
theorem e_X11_strainOf_30 : DC cX11_strainOf 30 (.iload_n 1) 1 31 := ⟨by decide +kernel, rfl⟩
theorem e_X11_strainOf_31 : DC cX11_strainOf 31 (.iload_n 2) 1 32 := ⟨by decide +kernel, rfl⟩
theorem e_X11_strainOf_32 : DC cX11_strainOf 32 (.iload_n 3) 1 33 := ⟨by decide +kernel, rfl⟩
theorem e_X11_strainOf_33 : DC cX11_strainOf 33 (.iload 6) 2 35 := ⟨by decide +kernel, rfl⟩
theorem e_X11_strainOf_35 : DC cX11_strainOf 35 (.invokevirtual 417) 3 38 := ⟨by decide +kernel, rfl⟩
theorem e_X11_strainOf_38 : DC cX11_strainOf 38 (.lmul) 1 39 := ⟨by decide +kernel, rfl⟩
theorem e_X11_strainOf_39 : DC cX11_strainOf 39 (.ladd) 1 40 := ⟨by decide +kernel, rfl⟩
theorem e_X11_strainOf_40 : DC cX11_strainOf 40 (.lstore 4) 2 42 := ⟨by decide +kernel, rfl⟩
theorem e_X11_strainOf_42 : DC cX11_strainOf 42 (.iinc 6 1) 3 45 := ⟨by decide +kernel, rfl⟩
theorem e_X11_strainOf_45 : DB cX11_strainOf 45 (.goto (-39)) (-39) 3 48 6 := ⟨by decide +kernel, rfl, rfl⟩
theorem e_X11_strainOf_48 : DC cX11_strainOf 48 (.lload 4) 2 50 := ⟨by decide +kernel, rfl⟩
theorem e_X11_strainOf_50 : DC cX11_strainOf 50 (.lreturn) 1 51 := ⟨by decide +kernel, rfl⟩
noncomputable def m_X11_strainOf_6 (t_systems : Int) (t_ways : Nat → Int) (t_grainSum : Nat → Int) (v1 : Int) (v2 : Int) (v3 : Int) (k_48 : Int → Int → Option (Int)) : Nat → Int → Int → Option (Int)
  | 0, _, _ => none
  | F + 1, v4, v6 => if t_systems ≤ v6 then (some (v4)) else (chk (inB ((6 * v6) + 0) 48) ((m_X11_alongOf t_ways v1 v2 v3 v6).bind (fun y2 => chk (inJ (v4 + ((t_grainSum (Int.toNat ((6 * v6) + 0))) * y2))) (chk (inI (v6 + 1)) (m_X11_strainOf_6 t_systems t_ways t_grainSum v1 v2 v3 k_48 F (v4 + ((t_grainSum (Int.toNat ((6 * v6) + 0))) * y2)) (v6 + 1))))))

set_option maxRecDepth 10000 in
set_option maxHeartbeats 8000000 in
theorem g_X11_strainOf_6 {l : Launch} {E : EE} {b0 n : Nat} {h : AH} {a_t : Nat} {t_thrown t_taped t_p t_fault t_baseLow t_baseHigh t_newBaseLow t_newBaseHigh t_from t_knots t_lines t_chosen t_undos t_redos t_aimedMany t_fits t_fitOf t_sights t_systems t_own t_cross t_curveLong t_wallFirst v1 v2 v3 : Int} {t_ways t_grainSum : Nat → Int} {r : Int} {k_48 : Int → Int → Option (Int)} (ao : AO b0 n [a_t, (a_t + 45), (a_t + 47)]) (ok_t_systems : inI t_systems) (ok_t_ways : okA t_ways) (ok_t_grainSum : okJ t_grainSum) (ok_v1 : inI v1) (ok_v2 : inI v2) (ok_v3 : inI v3) (hk_48 : ∀ (v4_ : Int) (v6_ : Int), inJ v4_ → inI v6_ → k_48 v4_ v6_ = some r → G l E b0 M_X11_strainOf (fun _ => True) (ZM E b0 (some (vJ r)) (ov [a_t, (a_t + 45), (a_t + 47)] [.inr (11, fsX11 a_t t_thrown t_taped t_p t_fault t_baseLow t_baseHigh t_newBaseLow t_newBaseHigh t_from t_knots t_lines t_chosen t_undos t_redos t_aimedMany t_fits t_fitOf t_sights t_systems t_own t_cross t_curveLong t_wallFirst), IA E 48 t_ways, JA E 48 t_grainSum] h) n (inJ r) 0 0) 0 0 n (ov [a_t, (a_t + 45), (a_t + 47)] [.inr (11, fsX11 a_t t_thrown t_taped t_p t_fault t_baseLow t_baseHigh t_newBaseLow t_newBaseHigh t_from t_knots t_lines t_chosen t_undos t_redos t_aimedMany t_fits t_fitOf t_sights t_systems t_own t_cross t_curveLong t_wallFirst), IA E 48 t_ways, JA E 48 t_grainSum] h) 48 [none, none, none, none, some (vJ v4_), none, none] []) :
    ∀ (F : Nat) (v4 : Int) (v6 : Int), inJ v4 → inI v6 → m_X11_strainOf_6 t_systems t_ways t_grainSum v1 v2 v3 k_48 F v4 v6 = some r → G l E b0 M_X11_strainOf (fun _ => True) (ZM E b0 (some (vJ r)) (ov [a_t, (a_t + 45), (a_t + 47)] [.inr (11, fsX11 a_t t_thrown t_taped t_p t_fault t_baseLow t_baseHigh t_newBaseLow t_newBaseHigh t_from t_knots t_lines t_chosen t_undos t_redos t_aimedMany t_fits t_fitOf t_sights t_systems t_own t_cross t_curveLong t_wallFirst), IA E 48 t_ways, JA E 48 t_grainSum] h) n (inJ r) 0 0) 0 0 n (ov [a_t, (a_t + 45), (a_t + 47)] [.inr (11, fsX11 a_t t_thrown t_taped t_p t_fault t_baseLow t_baseHigh t_newBaseLow t_newBaseHigh t_from t_knots t_lines t_chosen t_undos t_redos t_aimedMany t_fits t_fitOf t_sights t_systems t_own t_cross t_curveLong t_wallFirst), IA E 48 t_ways, JA E 48 t_grainSum] h) 6 [some (.ref a_t), some (vI v1), some (vI v2), some (vI v3), some (vJ v4), none, some (vI v6)] [] := by
  intro F
  induction F with
  | zero =>
    intro v4 v6 ok_v4 ok_v6 hs
    rw [m_X11_strainOf_6] at hs
    cases hs
  | succ F ih =>
    intro v4 v6 ok_v4 ok_v6 hs
    rw [m_X11_strainOf_6] at hs
    refine g_iload e_X11_strainOf_6 rfl ?_
    refine g_aload_n e_X11_strainOf_8 rfl ?_
    refine g_get 0 61 ao rfl rfl fsX11_g61 fl_X11_398 e_X11_strainOf_9 ?_
    refine g_icmp_ge e_X11_strainOf_12 ok_v6 ok_t_systems hs (fun c12 hs => ?_) (fun c12 hs => ?_)
    · refine g_lload e_X11_strainOf_48 rfl ?_
      obtain rfl := Option.some.inj hs
      exact g_lret rfl ok_v4 e_X11_strainOf_50
    · refine g_lload e_X11_strainOf_15 rfl ?_
      refine g_aload_n e_X11_strainOf_17 rfl ?_
      refine g_get 0 67 ao rfl rfl fsX11_g67 fl_X11_151 e_X11_strainOf_18 ?_
      refine g_bipush e_X11_strainOf_21 bp_6 ?_
      refine g_iload e_X11_strainOf_23 rfl ?_
      refine g_imul e_X11_strainOf_25 ?_
      refine g_iconst e_X11_strainOf_26 ?_
      refine g_iadd e_X11_strainOf_27 ?_
      refine g_lald 2 ao rfl rfl (Nat.le_of_ble_eq_true rfl) e_X11_strainOf_28 hs (fun hi1 hs => ?_)
      refine g_aload_n e_X11_strainOf_29 rfl ?_
      refine g_iload_n e_X11_strainOf_30 rfl ?_
      refine g_iload_n e_X11_strainOf_31 rfl ?_
      refine g_iload_n e_X11_strainOf_32 rfl ?_
      refine g_iload e_X11_strainOf_33 rfl ?_
      obtain ⟨y2, hy2, hs⟩ := bind_elim hs
      refine g_callVr [vI v1, vI v2, vI v3, vI v6] cv_X11_417 ⟨rfl, rfl, Nat.le_of_ble_eq_true rfl, Nat.le_of_ble_eq_true rfl⟩ (ct_X11_alongOf (a_t := a_t) (AO_call [0, 1] ao (by decide) rfl) (FA_call [0, 1] ao.1 rfl rfl) ok_t_ways ok_v1 ok_v2 ok_v3 ok_v6 hy2) e_X11_strainOf_35 (ao.2 0 _ rfl) (ov_get 0 ao.1 rfl rfl) rfl rfl rfl (Nat.le_of_ble_eq_true rfl) ⟨Nat.le_refl _, Nat.le_refl _⟩ (fun Py2 => ?_)
      refine g_lmul e_X11_strainOf_38 ?_
      refine g_ladd e_X11_strainOf_39 ?_
      refine g_lstore e_X11_strainOf_40 st2_4 rfl ?_
      refine g_iinc e_X11_strainOf_42 rfl st1_6 rfl ?_
      refine g_goto e_X11_strainOf_45 ?_
      obtain ⟨hc3, hs⟩ := chk_elim hs
      obtain ⟨hc4, hs⟩ := chk_elim hs
      exact ih _ _ hc3 hc4 hs

noncomputable def m_X11_strainOf_48 (v4 : Int) : Option (Int) :=
  some (v4)

set_option maxRecDepth 10000 in
set_option maxHeartbeats 8000000 in
theorem g_X11_strainOf_48 {l : Launch} {E : EE} {b0 n : Nat} {h : AH} {a_t : Nat} {t_thrown t_taped t_p t_fault t_baseLow t_baseHigh t_newBaseLow t_newBaseHigh t_from t_knots t_lines t_chosen t_undos t_redos t_aimedMany t_fits t_fitOf t_sights t_systems t_own t_cross t_curveLong t_wallFirst v4 : Int} {t_ways t_grainSum : Nat → Int} {r : Int} (ao : AO b0 n [a_t, (a_t + 45), (a_t + 47)]) (ok_t_systems : inI t_systems) (ok_t_ways : okA t_ways) (ok_t_grainSum : okJ t_grainSum) (ok_v4 : inJ v4) (hs : m_X11_strainOf_48 v4 = some r) : G l E b0 M_X11_strainOf (fun _ => True) (ZM E b0 (some (vJ r)) (ov [a_t, (a_t + 45), (a_t + 47)] [.inr (11, fsX11 a_t t_thrown t_taped t_p t_fault t_baseLow t_baseHigh t_newBaseLow t_newBaseHigh t_from t_knots t_lines t_chosen t_undos t_redos t_aimedMany t_fits t_fitOf t_sights t_systems t_own t_cross t_curveLong t_wallFirst), IA E 48 t_ways, JA E 48 t_grainSum] h) n (inJ r) 0 0) 0 0 n (ov [a_t, (a_t + 45), (a_t + 47)] [.inr (11, fsX11 a_t t_thrown t_taped t_p t_fault t_baseLow t_baseHigh t_newBaseLow t_newBaseHigh t_from t_knots t_lines t_chosen t_undos t_redos t_aimedMany t_fits t_fitOf t_sights t_systems t_own t_cross t_curveLong t_wallFirst), IA E 48 t_ways, JA E 48 t_grainSum] h) 48 [none, none, none, none, some (vJ v4), none, none] [] := by
  rw [m_X11_strainOf_48] at hs
  refine g_lload e_X11_strainOf_48 rfl ?_
  obtain rfl := Option.some.inj hs
  exact g_lret rfl ok_v4 e_X11_strainOf_50

noncomputable def m_X11_strainOf_0 (t_systems : Int) (t_ways : Nat → Int) (t_grainSum : Nat → Int) (v1 : Int) (v2 : Int) (v3 : Int) : Option (Int) :=
  m_X11_strainOf_6 t_systems t_ways t_grainSum v1 v2 v3 (fun v4' v6' => m_X11_strainOf_48 v4') FU 0 0

set_option maxRecDepth 10000 in
set_option maxHeartbeats 8000000 in
theorem g_X11_strainOf_0 {l : Launch} {E : EE} {b0 n : Nat} {h : AH} {a_t : Nat} {t_thrown t_taped t_p t_fault t_baseLow t_baseHigh t_newBaseLow t_newBaseHigh t_from t_knots t_lines t_chosen t_undos t_redos t_aimedMany t_fits t_fitOf t_sights t_systems t_own t_cross t_curveLong t_wallFirst v1 v2 v3 : Int} {t_ways t_grainSum : Nat → Int} {r : Int} (ao : AO b0 n [a_t, (a_t + 45), (a_t + 47)]) (ok_t_systems : inI t_systems) (ok_t_ways : okA t_ways) (ok_t_grainSum : okJ t_grainSum) (ok_v1 : inI v1) (ok_v2 : inI v2) (ok_v3 : inI v3) (hs : m_X11_strainOf_0 t_systems t_ways t_grainSum v1 v2 v3 = some r) : G l E b0 M_X11_strainOf (fun _ => True) (ZM E b0 (some (vJ r)) (ov [a_t, (a_t + 45), (a_t + 47)] [.inr (11, fsX11 a_t t_thrown t_taped t_p t_fault t_baseLow t_baseHigh t_newBaseLow t_newBaseHigh t_from t_knots t_lines t_chosen t_undos t_redos t_aimedMany t_fits t_fitOf t_sights t_systems t_own t_cross t_curveLong t_wallFirst), IA E 48 t_ways, JA E 48 t_grainSum] h) n (inJ r) 0 0) 0 0 n (ov [a_t, (a_t + 45), (a_t + 47)] [.inr (11, fsX11 a_t t_thrown t_taped t_p t_fault t_baseLow t_baseHigh t_newBaseLow t_newBaseHigh t_from t_knots t_lines t_chosen t_undos t_redos t_aimedMany t_fits t_fitOf t_sights t_systems t_own t_cross t_curveLong t_wallFirst), IA E 48 t_ways, JA E 48 t_grainSum] h) 0 [some (.ref a_t), some (vI v1), some (vI v2), some (vI v3), none, none, none] [] := by
  rw [m_X11_strainOf_0] at hs
  refine g_lconst (a := 0) e_X11_strainOf_0 rfl ?_
  refine g_lstore e_X11_strainOf_1 st2_4 rfl ?_
  refine g_iconst e_X11_strainOf_3 ?_
  refine g_istore e_X11_strainOf_4 st1_6 rfl ?_
  exact g_X11_strainOf_6 ao ok_t_systems ok_t_ways ok_t_grainSum ok_v1 ok_v2 ok_v3 (hk_48 := by
      intro v4' v6' ok_v4' ok_v6' hs
      exact g_X11_strainOf_48 ao ok_t_systems ok_t_ways ok_t_grainSum ok_v4' hs) FU _ _ (by decide : inJ 0) (by decide : inI 0) hs

noncomputable def m_X11_strainOf (t_systems : Int) (t_ways : Nat → Int) (t_grainSum : Nat → Int) (v1 : Int) (v2 : Int) (v3 : Int) : Option (Int) := m_X11_strainOf_0 t_systems t_ways t_grainSum v1 v2 v3

set_option maxRecDepth 10000 in
set_option maxHeartbeats 8000000 in
theorem ct_X11_strainOf {l : Launch} {E : EE} {b0 n : Nat} {h : AH} {a_t : Nat} {t_thrown t_taped t_p t_fault t_baseLow t_baseHigh t_newBaseLow t_newBaseHigh t_from t_knots t_lines t_chosen t_undos t_redos t_aimedMany t_fits t_fitOf t_sights t_systems t_own t_cross t_curveLong t_wallFirst : Int} {t_ways t_grainSum : Nat → Int} {v1 v2 v3 : Int} (ao : AO b0 n [a_t, (a_t + 45), (a_t + 47)]) (hf : FA h [a_t, (a_t + 45), (a_t + 47)] [.inr (11, fsX11 a_t t_thrown t_taped t_p t_fault t_baseLow t_baseHigh t_newBaseLow t_newBaseHigh t_from t_knots t_lines t_chosen t_undos t_redos t_aimedMany t_fits t_fitOf t_sights t_systems t_own t_cross t_curveLong t_wallFirst), IA E 48 t_ways, JA E 48 t_grainSum]) (ok_t_systems : inI t_systems) (ok_t_ways : okA t_ways) (ok_t_grainSum : okJ t_grainSum) (ok_v1 : inI v1) (ok_v2 : inI v2) (ok_v3 : inI v3) {r : Int} (hm : m_X11_strainOf t_systems t_ways t_grainSum v1 v2 v3 = some r) : Ct l E b0 M_X11_strainOf 0 0 [.ref a_t, vI v1, vI v2, vI v3] h n (some (vJ r)) h n (inJ r) := by
  rw [m_X11_strainOf] at hm
  have hg : G l E b0 M_X11_strainOf (fun _ => True) (ZM E b0 (some (vJ r)) (ov [a_t, (a_t + 45), (a_t + 47)] [.inr (11, fsX11 a_t t_thrown t_taped t_p t_fault t_baseLow t_baseHigh t_newBaseLow t_newBaseHigh t_from t_knots t_lines t_chosen t_undos t_redos t_aimedMany t_fits t_fitOf t_sights t_systems t_own t_cross t_curveLong t_wallFirst), IA E 48 t_ways, JA E 48 t_grainSum] h) n (inJ r) 0 0) 0 0 n (ov [a_t, (a_t + 45), (a_t + 47)] [.inr (11, fsX11 a_t t_thrown t_taped t_p t_fault t_baseLow t_baseHigh t_newBaseLow t_newBaseHigh t_from t_knots t_lines t_chosen t_undos t_redos t_aimedMany t_fits t_fitOf t_sights t_systems t_own t_cross t_curveLong t_wallFirst), IA E 48 t_ways, JA E 48 t_grainSum] h) 0 [some (.ref a_t), some (vI v1), some (vI v2), some (vI v3), none, none, none] [] := by
    have hs := hm
    exact g_X11_strainOf_0 ao ok_t_systems ok_t_ways ok_t_grainSum ok_v1 ok_v2 ok_v3 hs
  rw [FA_id hf] at hg
  exact Ct_of [some (.ref a_t), some (vI v1), some (vI v2), some (vI v3), none, none, none] ⟨by decide +kernel, rfl⟩ rfl (Nat.le_of_ble_eq_true rfl) hg

/-! ===== X11_strain ===== -/
theorem e_X11_strain_0 : DC cX11_strain 0 (.iload_n 1) 1 1 := ⟨by decide +kernel, rfl⟩
theorem e_X11_strain_1 : DC cX11_strain 1 (.iload_n 2) 1 2 := ⟨by decide +kernel, rfl⟩
theorem e_X11_strain_2 : DC cX11_strain 2 (.iload_n 3) 1 3 := ⟨by decide +kernel, rfl⟩
theorem e_X11_strain_3 : DC cX11_strain 3 (.invokestatic 311) 3 6 := ⟨by decide +kernel, rfl⟩
theorem e_X11_strain_6 : DB cX11_strain 6 (.ifCond .eq 13) (13) 3 9 19 := ⟨by decide +kernel, rfl, rfl⟩
theorem e_X11_strain_9 : DC cX11_strain 9 (.aload_n 0) 1 10 := ⟨by decide +kernel, rfl⟩
theorem e_X11_strain_10 : DC cX11_strain 10 (.iload_n 1) 1 11 := ⟨by decide +kernel, rfl⟩
theorem e_X11_strain_11 : DC cX11_strain 11 (.iload_n 2) 1 12 := ⟨by decide +kernel, rfl⟩
theorem e_X11_strain_12 : DC cX11_strain 12 (.iload_n 3) 1 13 := ⟨by decide +kernel, rfl⟩
theorem e_X11_strain_13 : DC cX11_strain 13 (.invokevirtual 433) 3 16 := ⟨by decide +kernel, rfl⟩
theorem e_X11_strain_16 : DB cX11_strain 16 (.goto 6) (6) 3 19 22 := ⟨by decide +kernel, rfl, rfl⟩
theorem e_X11_strain_19 : DC cX11_strain 19 (.ldc2_w 437) 3 22 := ⟨by decide +kernel, rfl⟩
theorem e_X11_strain_22 : DC cX11_strain 22 (.lreturn) 1 23 := ⟨by decide +kernel, rfl⟩
noncomputable def m_X11_strain_0 (t_systems : Int) (t_ways : Nat → Int) (t_grainSum : Nat → Int) (v1 : Int) (v2 : Int) (v3 : Int) : Option (Int) :=
  (m_X11_isPull v1 v2 v3).bind (fun y1 => if y1 = 0 then (some ((-1000000000000000))) else ((m_X11_strainOf t_systems t_ways t_grainSum v1 v2 v3).bind (fun y2 => some (y2))))

set_option maxRecDepth 10000 in
set_option maxHeartbeats 8000000 in
theorem g_X11_strain_0 {l : Launch} {E : EE} {b0 n : Nat} {h : AH} {a_t : Nat} {t_thrown t_taped t_p t_fault t_baseLow t_baseHigh t_newBaseLow t_newBaseHigh t_from t_knots t_lines t_chosen t_undos t_redos t_aimedMany t_fits t_fitOf t_sights t_systems t_own t_cross t_curveLong t_wallFirst v1 v2 v3 : Int} {t_ways t_grainSum : Nat → Int} {r : Int} (ao : AO b0 n [a_t, (a_t + 45), (a_t + 47)]) (ok_t_systems : inI t_systems) (ok_t_ways : okA t_ways) (ok_t_grainSum : okJ t_grainSum) (ok_v1 : inI v1) (ok_v2 : inI v2) (ok_v3 : inI v3) (hs : m_X11_strain_0 t_systems t_ways t_grainSum v1 v2 v3 = some r) : G l E b0 M_X11_strain (fun _ => True) (ZM E b0 (some (vJ r)) (ov [a_t, (a_t + 45), (a_t + 47)] [.inr (11, fsX11 a_t t_thrown t_taped t_p t_fault t_baseLow t_baseHigh t_newBaseLow t_newBaseHigh t_from t_knots t_lines t_chosen t_undos t_redos t_aimedMany t_fits t_fitOf t_sights t_systems t_own t_cross t_curveLong t_wallFirst), IA E 48 t_ways, JA E 48 t_grainSum] h) n (inJ r) 0 0) 0 0 n (ov [a_t, (a_t + 45), (a_t + 47)] [.inr (11, fsX11 a_t t_thrown t_taped t_p t_fault t_baseLow t_baseHigh t_newBaseLow t_newBaseHigh t_from t_knots t_lines t_chosen t_undos t_redos t_aimedMany t_fits t_fitOf t_sights t_systems t_own t_cross t_curveLong t_wallFirst), IA E 48 t_ways, JA E 48 t_grainSum] h) 0 [some (.ref a_t), some (vI v1), some (vI v2), some (vI v3)] [] := by
  rw [m_X11_strain_0] at hs
  refine g_iload_n e_X11_strain_0 rfl ?_
  refine g_iload_n e_X11_strain_1 rfl ?_
  refine g_iload_n e_X11_strain_2 rfl ?_
  obtain ⟨y1, hy1, hs⟩ := bind_elim hs
  refine g_callSr [vI v1, vI v2, vI v3] cs_X11_311 ⟨rfl, rfl, Nat.le_of_ble_eq_true rfl, Nat.le_of_ble_eq_true rfl⟩ (ct_X11_isPull ⟨List.nodup_nil, fun i a h => by simp at h⟩ (fun i a e h => by simp at h) ok_v1 ok_v2 ok_v3 hy1) e_X11_strain_3 rfl rfl (Nat.le_of_ble_eq_true rfl) ⟨Nat.le_refl _, Nat.le_refl _⟩ (fun Py1 => ?_)
  refine g_if_eq e_X11_strain_6 (inZ_I Py1) hs (fun c6 hs => ?_) (fun c6 hs => ?_)
  · refine g_ldc2 (a := -1000000000000000) e_X11_strain_19 k_X11_437 ?_
    obtain rfl := Option.some.inj hs
    exact g_lret rfl (by decide : inJ (-1000000000000000)) e_X11_strain_22
  · refine g_aload_n e_X11_strain_9 rfl ?_
    refine g_iload_n e_X11_strain_10 rfl ?_
    refine g_iload_n e_X11_strain_11 rfl ?_
    refine g_iload_n e_X11_strain_12 rfl ?_
    obtain ⟨y2, hy2, hs⟩ := bind_elim hs
    refine g_callVr [vI v1, vI v2, vI v3] cv_X11_433 ⟨rfl, rfl, Nat.le_of_ble_eq_true rfl, Nat.le_of_ble_eq_true rfl⟩ (ct_X11_strainOf (a_t := a_t) (AO_call [0, 1, 2] ao (by decide) rfl) (FA_call [0, 1, 2] ao.1 rfl rfl) ok_t_systems ok_t_ways ok_t_grainSum ok_v1 ok_v2 ok_v3 hy2) e_X11_strain_13 (ao.2 0 _ rfl) (ov_get 0 ao.1 rfl rfl) rfl rfl rfl (Nat.le_of_ble_eq_true rfl) ⟨Nat.le_refl _, Nat.le_refl _⟩ (fun Py2 => ?_)
    refine g_goto e_X11_strain_16 ?_
    obtain rfl := Option.some.inj hs
    exact g_lret rfl Py2 e_X11_strain_22

noncomputable def m_X11_strain (t_systems : Int) (t_ways : Nat → Int) (t_grainSum : Nat → Int) (v1 : Int) (v2 : Int) (v3 : Int) : Option (Int) := m_X11_strain_0 t_systems t_ways t_grainSum v1 v2 v3

set_option maxRecDepth 10000 in
set_option maxHeartbeats 8000000 in
theorem ct_X11_strain {l : Launch} {E : EE} {b0 n : Nat} {h : AH} {a_t : Nat} {t_thrown t_taped t_p t_fault t_baseLow t_baseHigh t_newBaseLow t_newBaseHigh t_from t_knots t_lines t_chosen t_undos t_redos t_aimedMany t_fits t_fitOf t_sights t_systems t_own t_cross t_curveLong t_wallFirst : Int} {t_ways t_grainSum : Nat → Int} {v1 v2 v3 : Int} (ao : AO b0 n [a_t, (a_t + 45), (a_t + 47)]) (hf : FA h [a_t, (a_t + 45), (a_t + 47)] [.inr (11, fsX11 a_t t_thrown t_taped t_p t_fault t_baseLow t_baseHigh t_newBaseLow t_newBaseHigh t_from t_knots t_lines t_chosen t_undos t_redos t_aimedMany t_fits t_fitOf t_sights t_systems t_own t_cross t_curveLong t_wallFirst), IA E 48 t_ways, JA E 48 t_grainSum]) (ok_t_systems : inI t_systems) (ok_t_ways : okA t_ways) (ok_t_grainSum : okJ t_grainSum) (ok_v1 : inI v1) (ok_v2 : inI v2) (ok_v3 : inI v3) {r : Int} (hm : m_X11_strain t_systems t_ways t_grainSum v1 v2 v3 = some r) : Ct l E b0 M_X11_strain 0 0 [.ref a_t, vI v1, vI v2, vI v3] h n (some (vJ r)) h n (inJ r) := by
  rw [m_X11_strain] at hm
  have hg : G l E b0 M_X11_strain (fun _ => True) (ZM E b0 (some (vJ r)) (ov [a_t, (a_t + 45), (a_t + 47)] [.inr (11, fsX11 a_t t_thrown t_taped t_p t_fault t_baseLow t_baseHigh t_newBaseLow t_newBaseHigh t_from t_knots t_lines t_chosen t_undos t_redos t_aimedMany t_fits t_fitOf t_sights t_systems t_own t_cross t_curveLong t_wallFirst), IA E 48 t_ways, JA E 48 t_grainSum] h) n (inJ r) 0 0) 0 0 n (ov [a_t, (a_t + 45), (a_t + 47)] [.inr (11, fsX11 a_t t_thrown t_taped t_p t_fault t_baseLow t_baseHigh t_newBaseLow t_newBaseHigh t_from t_knots t_lines t_chosen t_undos t_redos t_aimedMany t_fits t_fitOf t_sights t_systems t_own t_cross t_curveLong t_wallFirst), IA E 48 t_ways, JA E 48 t_grainSum] h) 0 [some (.ref a_t), some (vI v1), some (vI v2), some (vI v3)] [] := by
    have hs := hm
    exact g_X11_strain_0 ao ok_t_systems ok_t_ways ok_t_grainSum ok_v1 ok_v2 ok_v3 hs
  rw [FA_id hf] at hg
  exact Ct_of [some (.ref a_t), some (vI v1), some (vI v2), some (vI v3)] ⟨by decide +kernel, rfl⟩ rfl (Nat.le_of_ble_eq_true rfl) hg

/-! ===== X11_curve ===== -/
theorem e_X11_curve_0 : DC cX11_curve 0 (.iload_n 1) 1 1 := ⟨by decide +kernel, rfl⟩
theorem e_X11_curve_1 : DC cX11_curve 1 (.iload_n 2) 1 2 := ⟨by decide +kernel, rfl⟩
theorem e_X11_curve_2 : DC cX11_curve 2 (.iload_n 3) 1 3 := ⟨by decide +kernel, rfl⟩
theorem e_X11_curve_3 : DC cX11_curve 3 (.invokestatic 311) 3 6 := ⟨by decide +kernel, rfl⟩
theorem e_X11_curve_6 : DB cX11_curve 6 (.ifCond .eq 71) (71) 3 9 77 := ⟨by decide +kernel, rfl, rfl⟩
theorem e_X11_curve_9 : DC cX11_curve 9 (.iload 4) 2 11 := ⟨by decide +kernel, rfl⟩
theorem e_X11_curve_11 : DC cX11_curve 11 (.iconst 0) 1 12 := ⟨by decide +kernel, rfl⟩
theorem e_X11_curve_12 : DC cX11_curve 12 (.sipush 9999) 3 15 := ⟨by decide +kernel, rfl⟩
theorem e_X11_curve_15 : DC cX11_curve 15 (.invokestatic 226) 3 18 := ⟨by decide +kernel, rfl⟩
theorem e_X11_curve_18 : DB cX11_curve 18 (.ifCond .eq 59) (59) 3 21 77 := ⟨by decide +kernel, rfl, rfl⟩
theorem e_X11_curve_21 : DC cX11_curve 21 (.iload 5) 2 23 := ⟨by decide +kernel, rfl⟩
theorem e_X11_curve_23 : DC cX11_curve 23 (.sipush (-9999)) 3 26 := ⟨by decide +kernel, rfl⟩
theorem e_X11_curve_26 : DC cX11_curve 26 (.sipush 9999) 3 29 := ⟨by decide +kernel, rfl⟩
theorem e_X11_curve_29 : DC cX11_curve 29 (.invokestatic 226) 3 32 := ⟨by decide +kernel, rfl⟩
theorem e_X11_curve_32 : DB cX11_curve 32 (.ifCond .eq 45) (45) 3 35 77 := ⟨by decide +kernel, rfl, rfl⟩
theorem e_X11_curve_35 : DC cX11_curve 35 (.iload 6) 2 37 := ⟨by decide +kernel, rfl⟩
theorem e_X11_curve_37 : DC cX11_curve 37 (.iconst 1) 1 38 := ⟨by decide +kernel, rfl⟩
theorem e_X11_curve_38 : DC cX11_curve 38 (.bipush 20) 2 40 := ⟨by decide +kernel, rfl⟩
theorem e_X11_curve_40 : DC cX11_curve 40 (.invokestatic 226) 3 43 := ⟨by decide +kernel, rfl⟩
theorem e_X11_curve_43 : DB cX11_curve 43 (.ifCond .eq 34) (34) 3 46 77 := ⟨by decide +kernel, rfl, rfl⟩
theorem e_X11_curve_46 : DC cX11_curve 46 (.iload 7) 2 48 := ⟨by decide +kernel, rfl⟩
theorem e_X11_curve_48 : DC cX11_curve 48 (.iconst 1) 1 49 := ⟨by decide +kernel, rfl⟩
theorem e_X11_curve_49 : DC cX11_curve 49 (.bipush 50) 2 51 := ⟨by decide +kernel, rfl⟩
theorem e_X11_curve_51 : DC cX11_curve 51 (.invokestatic 226) 3 54 := ⟨by decide +kernel, rfl⟩
theorem e_X11_curve_54 : DB cX11_curve 54 (.ifCond .eq 23) (23) 3 57 77 := ⟨by decide +kernel, rfl, rfl⟩
theorem e_X11_curve_57 : DC cX11_curve 57 (.iload 4) 2 59 := ⟨by decide +kernel, rfl⟩
theorem e_X11_curve_59 : DC cX11_curve 59 (.iload 6) 2 61 := ⟨by decide +kernel, rfl⟩
theorem e_X11_curve_61 : DC cX11_curve 61 (.iconst 1) 1 62 := ⟨by decide +kernel, rfl⟩
theorem e_X11_curve_62 : DC cX11_curve 62 (.isub) 1 63 := ⟨by decide +kernel, rfl⟩
theorem e_X11_curve_63 : DC cX11_curve 63 (.iload 5) 2 65 := ⟨by decide +kernel, rfl⟩
theorem e_X11_curve_65 : DC cX11_curve 65 (.imul) 1 66 := ⟨by decide +kernel, rfl⟩
theorem e_X11_curve_66 : DC cX11_curve 66 (.iadd) 1 67 := ⟨by decide +kernel, rfl⟩
theorem e_X11_curve_67 : DC cX11_curve 67 (.iconst 0) 1 68 := ⟨by decide +kernel, rfl⟩
theorem e_X11_curve_68 : DC cX11_curve 68 (.sipush 9999) 3 71 := ⟨by decide +kernel, rfl⟩
theorem e_X11_curve_71 : DC cX11_curve 71 (.invokestatic 226) 3 74 := ⟨by decide +kernel, rfl⟩
theorem e_X11_curve_74 : DB cX11_curve 74 (.ifCond .ne 7) (7) 3 77 81 := ⟨by decide +kernel, rfl, rfl⟩
theorem e_X11_curve_77 : DC cX11_curve 77 (.ldc2_w 437) 3 80 := ⟨by decide +kernel, rfl⟩
theorem e_X11_curve_80 : DC cX11_curve 80 (.lreturn) 1 81 := ⟨by decide +kernel, rfl⟩
theorem e_X11_curve_81 : DC cX11_curve 81 (.iconst 0) 1 82 := ⟨by decide +kernel, rfl⟩
theorem e_X11_curve_82 : DC cX11_curve 82 (.istore 8) 2 84 := ⟨by decide +kernel, rfl⟩
theorem e_X11_curve_84 : DC cX11_curve 84 (.iload 8) 2 86 := ⟨by decide +kernel, rfl⟩
theorem e_X11_curve_86 : DC cX11_curve 86 (.iload 6) 2 88 := ⟨by decide +kernel, rfl⟩
theorem e_X11_curve_88 : DB cX11_curve 88 (.if_icmp .ge 43) (43) 3 91 131 := ⟨by decide +kernel, rfl, rfl⟩
theorem e_X11_curve_91 : DC cX11_curve 91 (.aload_n 0) 1 92 := ⟨by decide +kernel, rfl⟩
theorem e_X11_curve_92 : DC cX11_curve 92 (.iload_n 1) 1 93 := ⟨by decide +kernel, rfl⟩
theorem e_X11_curve_93 : DC cX11_curve 93 (.iload_n 2) 1 94 := ⟨by decide +kernel, rfl⟩
theorem e_X11_curve_94 : DC cX11_curve 94 (.iload_n 3) 1 95 := ⟨by decide +kernel, rfl⟩
theorem e_X11_curve_95 : DC cX11_curve 95 (.iload 4) 2 97 := ⟨by decide +kernel, rfl⟩
theorem e_X11_curve_97 : DC cX11_curve 97 (.iload 8) 2 99 := ⟨by decide +kernel, rfl⟩
theorem e_X11_curve_99 : DC cX11_curve 99 (.iload 5) 2 101 := ⟨by decide +kernel, rfl⟩
theorem e_X11_curve_101 : DC cX11_curve 101 (.imul) 1 102 := ⟨by decide +kernel, rfl⟩
theorem e_X11_curve_102 : DC cX11_curve 102 (.iadd) 1 103 := ⟨by decide +kernel, rfl⟩
theorem e_X11_curve_103 : DC cX11_curve 103 (.iload 7) 2 105 := ⟨by decide +kernel, rfl⟩
theorem e_X11_curve_105 : DC cX11_curve 105 (.iconst 1) 1 106 := ⟨by decide +kernel, rfl⟩
theorem e_X11_curve_106 : DC cX11_curve 106 (.invokevirtual 429) 3 109 := ⟨by decide +kernel, rfl⟩
theorem e_X11_curve_109 : DC cX11_curve 109 (.istore 9) 2 111 := ⟨by decide +kernel, rfl⟩
theorem e_X11_curve_111 : DC cX11_curve 111 (.aload_n 0) 1 112 := ⟨by decide +kernel, rfl⟩
theorem e_X11_curve_112 : DC cX11_curve 112 (.getfield 154) 3 115 := ⟨by decide +kernel, rfl⟩
theorem e_X11_curve_115 : DC cX11_curve 115 (.iload 8) 2 117 := ⟨by decide +kernel, rfl⟩
theorem e_X11_curve_117 : DC cX11_curve 117 (.aload_n 0) 1 118 := ⟨by decide +kernel, rfl⟩
theorem e_X11_curve_118 : DC cX11_curve 118 (.iload_n 1) 1 119 := ⟨by decide +kernel, rfl⟩
theorem e_X11_curve_119 : DC cX11_curve 119 (.iload_n 2) 1 120 := ⟨by decide +kernel, rfl⟩
theorem e_X11_curve_120 : DC cX11_curve 120 (.iload_n 3) 1 121 := ⟨by decide +kernel, rfl⟩
theorem e_X11_curve_121 : DC cX11_curve 121 (.invokevirtual 433) 3 124 := ⟨by decide +kernel, rfl⟩
theorem e_X11_curve_124 : DC cX11_curve 124 (.lastore) 1 125 := ⟨by decide +kernel, rfl⟩
theorem e_X11_curve_125 : DC cX11_curve 125 (.iinc 8 1) 3 128 := ⟨by decide +kernel, rfl⟩
theorem e_X11_curve_128 : DB cX11_curve 128 (.goto (-44)) (-44) 3 131 84 := ⟨by decide +kernel, rfl, rfl⟩
theorem e_X11_curve_131 : DC cX11_curve 131 (.aload_n 0) 1 132 := ⟨by decide +kernel, rfl⟩
theorem e_X11_curve_132 : DC cX11_curve 132 (.iload 6) 2 134 := ⟨by decide +kernel, rfl⟩
theorem e_X11_curve_134 : DC cX11_curve 134 (.putfield 439) 3 137 := ⟨by decide +kernel, rfl⟩
theorem e_X11_curve_137 : DC cX11_curve 137 (.aload_n 0) 1 138 := ⟨by decide +kernel, rfl⟩
theorem e_X11_curve_138 : DC cX11_curve 138 (.getfield 154) 3 141 := ⟨by decide +kernel, rfl⟩
theorem e_X11_curve_141 : DC cX11_curve 141 (.iload 6) 2 143 := ⟨by decide +kernel, rfl⟩
theorem e_X11_curve_143 : DC cX11_curve 143 (.iconst 1) 1 144 := ⟨by decide +kernel, rfl⟩
theorem e_X11_curve_144 : DC cX11_curve 144 (.isub) 1 145 := ⟨by decide +kernel, rfl⟩
theorem e_X11_curve_145 : DC cX11_curve 145 (.laload) 1 146 := ⟨by decide +kernel, rfl⟩
theorem e_X11_curve_146 : DC cX11_curve 146 (.lreturn) 1 147 := ⟨by decide +kernel, rfl⟩
noncomputable def m_X11_curve_84 (t_baseLow : Int) (t_baseHigh : Int) (t_systems : Int) (t_own : Int) (t_cross : Int) (t_push : Nat → Int) (t_speckLow : Nat → Int) (t_speckHigh : Nat → Int) (t_sourceHold : Nat → Int) (t_ways : Nat → Int) (v1 : Int) (v2 : Int) (v3 : Int) (v4 : Int) (v5 : Int) (v6 : Int) (v7 : Int) (k_131 : (Nat → Int) → (Nat → Int) → (Nat → Int) → (Nat → Int) → (Nat → Int) → (Nat → Int) → (Nat → Int) → (Nat → Int) → (Nat → Int) → Int → Option (Int × Int × (Nat → Int) × (Nat → Int) × (Nat → Int) × (Nat → Int) × (Nat → Int) × (Nat → Int) × (Nat → Int) × (Nat → Int) × (Nat → Int))) : Nat → (Nat → Int) → (Nat → Int) → (Nat → Int) → (Nat → Int) → (Nat → Int) → (Nat → Int) → (Nat → Int) → (Nat → Int) → (Nat → Int) → Int → Option (Int × Int × (Nat → Int) × (Nat → Int) × (Nat → Int) × (Nat → Int) × (Nat → Int) × (Nat → Int) × (Nat → Int) × (Nat → Int) × (Nat → Int))
  | 0, _, _, _, _, _, _, _, _, _, _ => none
  | F + 1, t_cur, t_was, t_feel, t_pushAt, t_curSum, t_grain, t_harder, t_grainSum, t_curve, v8 => if v6 ≤ v8 then (k_131 t_cur t_was t_feel t_pushAt t_curSum t_grain t_harder t_grainSum t_curve v8) else (chk (inI (v4 + (v8 * v5))) ((m_X11_loads t_baseLow t_baseHigh t_systems t_own t_cross t_push t_speckLow t_speckHigh t_sourceHold t_cur t_was t_feel t_pushAt t_curSum t_grain t_ways t_harder t_grainSum v1 v2 v3 (v4 + (v8 * v5)) v7 1).bind (fun y9 => (m_X11_strainOf t_systems t_ways y9.2.2.2.2.2.2.2.2 v1 v2 v3).bind (fun y10 => chk (inB v8 20) (chk (inI (v8 + 1)) (m_X11_curve_84 t_baseLow t_baseHigh t_systems t_own t_cross t_push t_speckLow t_speckHigh t_sourceHold t_ways v1 v2 v3 v4 v5 v6 v7 k_131 F y9.2.1 y9.2.2.1 y9.2.2.2.1 y9.2.2.2.2.1 y9.2.2.2.2.2.1 y9.2.2.2.2.2.2.1 y9.2.2.2.2.2.2.2.1 y9.2.2.2.2.2.2.2.2 (up t_curve (Int.toNat v8) y10) (v8 + 1)))))))

set_option maxRecDepth 10000 in
set_option maxHeartbeats 8000000 in
theorem g_X11_curve_84 {l : Launch} {E : EE} {b0 n : Nat} {h : AH} {a_t : Nat} {t_thrown t_taped t_p t_fault t_baseLow t_baseHigh t_newBaseLow t_newBaseHigh t_from t_knots t_lines t_chosen t_undos t_redos t_aimedMany t_fits t_fitOf t_sights t_systems t_own t_cross t_curveLong t_wallFirst v1 v2 v3 v4 v5 v6 v7 : Int} {t_push t_speckLow t_speckHigh t_sourceHold t_ways : Nat → Int} {r : Int × Int × (Nat → Int) × (Nat → Int) × (Nat → Int) × (Nat → Int) × (Nat → Int) × (Nat → Int) × (Nat → Int) × (Nat → Int) × (Nat → Int)} {k_131 : (Nat → Int) → (Nat → Int) → (Nat → Int) → (Nat → Int) → (Nat → Int) → (Nat → Int) → (Nat → Int) → (Nat → Int) → (Nat → Int) → Int → Option (Int × Int × (Nat → Int) × (Nat → Int) × (Nat → Int) × (Nat → Int) × (Nat → Int) × (Nat → Int) × (Nat → Int) × (Nat → Int) × (Nat → Int))} (ao : AO b0 n [a_t, (a_t + 6), (a_t + 8), (a_t + 9), (a_t + 10), (a_t + 24), (a_t + 25), (a_t + 26), (a_t + 27), (a_t + 28), (a_t + 44), (a_t + 45), (a_t + 46), (a_t + 47), (a_t + 48)]) (ok_t_baseLow : inI t_baseLow) (ok_t_baseHigh : inI t_baseHigh) (ok_t_systems : inI t_systems) (ok_t_own : inI t_own) (ok_t_cross : inI t_cross) (ok_t_curveLong : inI t_curveLong) (ok_t_push : okA t_push) (ok_t_speckLow : okA t_speckLow) (ok_t_speckHigh : okA t_speckHigh) (ok_t_sourceHold : okA t_sourceHold) (ok_t_ways : okA t_ways) (ok_v1 : inI v1) (ok_v2 : inI v2) (ok_v3 : inI v3) (ok_v4 : inI v4) (ok_v5 : inI v5) (ok_v6 : inI v6) (ok_v7 : inI v7) (hk_131 : ∀ (t_cur_ : Nat → Int) (t_was_ : Nat → Int) (t_feel_ : Nat → Int) (t_pushAt_ : Nat → Int) (t_curSum_ : Nat → Int) (t_grain_ : Nat → Int) (t_harder_ : Nat → Int) (t_grainSum_ : Nat → Int) (t_curve_ : Nat → Int) (v8_ : Int), okA t_cur_ → okA t_was_ → okA t_feel_ → okA t_pushAt_ → okJ t_curSum_ → okA t_grain_ → okA t_harder_ → okJ t_grainSum_ → okJ t_curve_ → inI v8_ → k_131 t_cur_ t_was_ t_feel_ t_pushAt_ t_curSum_ t_grain_ t_harder_ t_grainSum_ t_curve_ v8_ = some r → G l E b0 M_X11_curve (fun _ => True) (ZM E b0 (some (vJ r.1)) (ov [a_t, (a_t + 6), (a_t + 8), (a_t + 9), (a_t + 10), (a_t + 24), (a_t + 25), (a_t + 26), (a_t + 27), (a_t + 28), (a_t + 44), (a_t + 45), (a_t + 46), (a_t + 47), (a_t + 48)] [.inr (11, fsX11 a_t t_thrown t_taped t_p t_fault t_baseLow t_baseHigh t_newBaseLow t_newBaseHigh t_from t_knots t_lines t_chosen t_undos t_redos t_aimedMany t_fits t_fitOf t_sights t_systems t_own t_cross r.2.1 t_wallFirst), IA E 21 t_push, IA E 100 t_speckLow, IA E 100 t_speckHigh, IA E 100 t_sourceHold, IA E 100 r.2.2.1, IA E 100 r.2.2.2.1, IA E 100 r.2.2.2.2.1, IA E 21 r.2.2.2.2.2.1, JA E 6 r.2.2.2.2.2.2.1, IA E 800 r.2.2.2.2.2.2.2.1, IA E 48 t_ways, IA E 8 r.2.2.2.2.2.2.2.2.1, JA E 48 r.2.2.2.2.2.2.2.2.2.1, JA E 20 r.2.2.2.2.2.2.2.2.2.2] h) n (inJ r.1 ∧ inI r.2.1 ∧ okA r.2.2.1 ∧ okA r.2.2.2.1 ∧ okA r.2.2.2.2.1 ∧ okA r.2.2.2.2.2.1 ∧ okJ r.2.2.2.2.2.2.1 ∧ okA r.2.2.2.2.2.2.2.1 ∧ okA r.2.2.2.2.2.2.2.2.1 ∧ okJ r.2.2.2.2.2.2.2.2.2.1 ∧ okJ r.2.2.2.2.2.2.2.2.2.2) 0 0) 0 0 n (ov [a_t, (a_t + 6), (a_t + 8), (a_t + 9), (a_t + 10), (a_t + 24), (a_t + 25), (a_t + 26), (a_t + 27), (a_t + 28), (a_t + 44), (a_t + 45), (a_t + 46), (a_t + 47), (a_t + 48)] [.inr (11, fsX11 a_t t_thrown t_taped t_p t_fault t_baseLow t_baseHigh t_newBaseLow t_newBaseHigh t_from t_knots t_lines t_chosen t_undos t_redos t_aimedMany t_fits t_fitOf t_sights t_systems t_own t_cross t_curveLong t_wallFirst), IA E 21 t_push, IA E 100 t_speckLow, IA E 100 t_speckHigh, IA E 100 t_sourceHold, IA E 100 t_cur_, IA E 100 t_was_, IA E 100 t_feel_, IA E 21 t_pushAt_, JA E 6 t_curSum_, IA E 800 t_grain_, IA E 48 t_ways, IA E 8 t_harder_, JA E 48 t_grainSum_, JA E 20 t_curve_] h) 131 [some (.ref a_t), none, none, none, none, none, some (vI v6), none, none, none] []) :
    ∀ (F : Nat) (t_cur : Nat → Int) (t_was : Nat → Int) (t_feel : Nat → Int) (t_pushAt : Nat → Int) (t_curSum : Nat → Int) (t_grain : Nat → Int) (t_harder : Nat → Int) (t_grainSum : Nat → Int) (t_curve : Nat → Int) (v8 : Int), okA t_cur → okA t_was → okA t_feel → okA t_pushAt → okJ t_curSum → okA t_grain → okA t_harder → okJ t_grainSum → okJ t_curve → inI v8 → m_X11_curve_84 t_baseLow t_baseHigh t_systems t_own t_cross t_push t_speckLow t_speckHigh t_sourceHold t_ways v1 v2 v3 v4 v5 v6 v7 k_131 F t_cur t_was t_feel t_pushAt t_curSum t_grain t_harder t_grainSum t_curve v8 = some r → G l E b0 M_X11_curve (fun _ => True) (ZM E b0 (some (vJ r.1)) (ov [a_t, (a_t + 6), (a_t + 8), (a_t + 9), (a_t + 10), (a_t + 24), (a_t + 25), (a_t + 26), (a_t + 27), (a_t + 28), (a_t + 44), (a_t + 45), (a_t + 46), (a_t + 47), (a_t + 48)] [.inr (11, fsX11 a_t t_thrown t_taped t_p t_fault t_baseLow t_baseHigh t_newBaseLow t_newBaseHigh t_from t_knots t_lines t_chosen t_undos t_redos t_aimedMany t_fits t_fitOf t_sights t_systems t_own t_cross r.2.1 t_wallFirst), IA E 21 t_push, IA E 100 t_speckLow, IA E 100 t_speckHigh, IA E 100 t_sourceHold, IA E 100 r.2.2.1, IA E 100 r.2.2.2.1, IA E 100 r.2.2.2.2.1, IA E 21 r.2.2.2.2.2.1, JA E 6 r.2.2.2.2.2.2.1, IA E 800 r.2.2.2.2.2.2.2.1, IA E 48 t_ways, IA E 8 r.2.2.2.2.2.2.2.2.1, JA E 48 r.2.2.2.2.2.2.2.2.2.1, JA E 20 r.2.2.2.2.2.2.2.2.2.2] h) n (inJ r.1 ∧ inI r.2.1 ∧ okA r.2.2.1 ∧ okA r.2.2.2.1 ∧ okA r.2.2.2.2.1 ∧ okA r.2.2.2.2.2.1 ∧ okJ r.2.2.2.2.2.2.1 ∧ okA r.2.2.2.2.2.2.2.1 ∧ okA r.2.2.2.2.2.2.2.2.1 ∧ okJ r.2.2.2.2.2.2.2.2.2.1 ∧ okJ r.2.2.2.2.2.2.2.2.2.2) 0 0) 0 0 n (ov [a_t, (a_t + 6), (a_t + 8), (a_t + 9), (a_t + 10), (a_t + 24), (a_t + 25), (a_t + 26), (a_t + 27), (a_t + 28), (a_t + 44), (a_t + 45), (a_t + 46), (a_t + 47), (a_t + 48)] [.inr (11, fsX11 a_t t_thrown t_taped t_p t_fault t_baseLow t_baseHigh t_newBaseLow t_newBaseHigh t_from t_knots t_lines t_chosen t_undos t_redos t_aimedMany t_fits t_fitOf t_sights t_systems t_own t_cross t_curveLong t_wallFirst), IA E 21 t_push, IA E 100 t_speckLow, IA E 100 t_speckHigh, IA E 100 t_sourceHold, IA E 100 t_cur, IA E 100 t_was, IA E 100 t_feel, IA E 21 t_pushAt, JA E 6 t_curSum, IA E 800 t_grain, IA E 48 t_ways, IA E 8 t_harder, JA E 48 t_grainSum, JA E 20 t_curve] h) 84 [some (.ref a_t), some (vI v1), some (vI v2), some (vI v3), some (vI v4), some (vI v5), some (vI v6), some (vI v7), some (vI v8), none] [] := by
  intro F
  induction F with
  | zero =>
    intro t_cur t_was t_feel t_pushAt t_curSum t_grain t_harder t_grainSum t_curve v8 ok_t_cur ok_t_was ok_t_feel ok_t_pushAt ok_t_curSum ok_t_grain ok_t_harder ok_t_grainSum ok_t_curve ok_v8 hs
    rw [m_X11_curve_84] at hs
    cases hs
  | succ F ih =>
    intro t_cur t_was t_feel t_pushAt t_curSum t_grain t_harder t_grainSum t_curve v8 ok_t_cur ok_t_was ok_t_feel ok_t_pushAt ok_t_curSum ok_t_grain ok_t_harder ok_t_grainSum ok_t_curve ok_v8 hs
    rw [m_X11_curve_84] at hs
    refine g_iload e_X11_curve_84 rfl ?_
    refine g_iload e_X11_curve_86 rfl ?_
    refine g_icmp_ge e_X11_curve_88 ok_v8 ok_v6 hs (fun c88 hs => ?_) (fun c88 hs => ?_)
    · exact g_mask [true, false, false, false, false, false, true, false, false, true] (hk_131 _ _ _ _ _ _ _ _ _ _ ok_t_cur ok_t_was ok_t_feel ok_t_pushAt ok_t_curSum ok_t_grain ok_t_harder ok_t_grainSum ok_t_curve ok_v8 hs)
    · refine g_aload_n e_X11_curve_91 rfl ?_
      refine g_iload_n e_X11_curve_92 rfl ?_
      refine g_iload_n e_X11_curve_93 rfl ?_
      refine g_iload_n e_X11_curve_94 rfl ?_
      refine g_iload e_X11_curve_95 rfl ?_
      refine g_iload e_X11_curve_97 rfl ?_
      refine g_iload e_X11_curve_99 rfl ?_
      refine g_imul e_X11_curve_101 ?_
      refine g_iadd e_X11_curve_102 ?_
      refine g_iload e_X11_curve_103 rfl ?_
      refine g_iconst e_X11_curve_105 ?_
      obtain ⟨hc8, hs⟩ := chk_elim hs
      obtain ⟨y9, hy9, hs⟩ := bind_elim hs
      refine g_callVr [vI v1, vI v2, vI v3, vI (v4 + (v8 * v5)), vI v7, vI 1] cv_X11_429 ⟨rfl, rfl, Nat.le_of_ble_eq_true rfl, Nat.le_of_ble_eq_true rfl⟩ (Ct_heap (ct_X11_loads (a_t := a_t) (AO_call [0, 1, 2, 3, 4, 5, 6, 7, 8, 9, 10, 11, 12, 13] ao (by decide) rfl) (FA_call [0, 1, 2, 3, 4, 5, 6, 7, 8, 9, 10, 11, 12, 13] ao.1 rfl rfl) ok_t_baseLow ok_t_baseHigh ok_t_systems ok_t_own ok_t_cross ok_t_push ok_t_speckLow ok_t_speckHigh ok_t_sourceHold ok_t_cur ok_t_was ok_t_feel ok_t_pushAt ok_t_curSum ok_t_grain ok_t_ways ok_t_harder ok_t_grainSum ok_v1 ok_v2 ok_v3 hc8 ok_v7 (by decide : inI 1) hy9) (ov_call (esn := [.inr (11, fsX11 a_t t_thrown t_taped t_p t_fault t_baseLow t_baseHigh t_newBaseLow t_newBaseHigh t_from t_knots t_lines t_chosen t_undos t_redos t_aimedMany t_fits t_fitOf t_sights t_systems t_own t_cross t_curveLong t_wallFirst), IA E 21 t_push, IA E 100 t_speckLow, IA E 100 t_speckHigh, IA E 100 t_sourceHold, IA E 100 y9.2.1, IA E 100 y9.2.2.1, IA E 100 y9.2.2.2.1, IA E 21 y9.2.2.2.2.1, JA E 6 y9.2.2.2.2.2.1, IA E 800 y9.2.2.2.2.2.2.1, IA E 48 t_ways, IA E 8 y9.2.2.2.2.2.2.2.1, JA E 48 y9.2.2.2.2.2.2.2.2, JA E 20 t_curve]) [0, 1, 2, 3, 4, 5, 6, 7, 8, 9, 10, 11, 12, 13] ao.1 rfl rfl rfl rfl)) e_X11_curve_106 (ao.2 0 _ rfl) (ov_get 0 ao.1 rfl rfl) rfl rfl rfl (Nat.le_of_ble_eq_true rfl) ⟨Nat.le_refl _, Nat.le_refl _⟩ (fun Py9 => ?_)
      refine g_istore e_X11_curve_109 st1_9 rfl ?_
      refine g_aload_n e_X11_curve_111 rfl ?_
      refine g_get 0 69 ao rfl rfl fsX11_g69 fl_X11_154 e_X11_curve_112 ?_
      refine g_iload e_X11_curve_115 rfl ?_
      refine g_aload_n e_X11_curve_117 rfl ?_
      refine g_iload_n e_X11_curve_118 rfl ?_
      refine g_iload_n e_X11_curve_119 rfl ?_
      refine g_iload_n e_X11_curve_120 rfl ?_
      obtain ⟨y10, hy10, hs⟩ := bind_elim hs
      refine g_callVr [vI v1, vI v2, vI v3] cv_X11_433 ⟨rfl, rfl, Nat.le_of_ble_eq_true rfl, Nat.le_of_ble_eq_true rfl⟩ (ct_X11_strainOf (a_t := a_t) (AO_call [0, 11, 13] ao (by decide) rfl) (FA_call [0, 11, 13] ao.1 rfl rfl) ok_t_systems ok_t_ways Py9.2.2.2.2.2.2.2.2 ok_v1 ok_v2 ok_v3 hy10) e_X11_curve_121 (ao.2 0 _ rfl) (ov_get 0 ao.1 rfl rfl) rfl rfl rfl (Nat.le_of_ble_eq_true rfl) ⟨Nat.le_refl _, Nat.le_refl _⟩ (fun Py10 => ?_)
      refine g_last 14 ao rfl rfl ls_14 (Nat.le_of_ble_eq_true rfl) e_X11_curve_124 hs (fun hi11 hs => ?_)
      refine g_iinc e_X11_curve_125 rfl st1_8 rfl ?_
      refine g_goto e_X11_curve_128 ?_
      obtain ⟨hc12, hs⟩ := chk_elim hs
      exact g_mask [true, true, true, true, true, true, true, true, true, false] (ih _ _ _ _ _ _ _ _ _ _ Py9.2.1 Py9.2.2.1 Py9.2.2.2.1 Py9.2.2.2.2.1 Py9.2.2.2.2.2.1 Py9.2.2.2.2.2.2.1 Py9.2.2.2.2.2.2.2.1 Py9.2.2.2.2.2.2.2.2 (okJ_up ok_t_curve Py10) hc12 hs)

noncomputable def m_X11_curve_131 (t_curveLong : Int) (t_cur : Nat → Int) (t_was : Nat → Int) (t_feel : Nat → Int) (t_pushAt : Nat → Int) (t_curSum : Nat → Int) (t_grain : Nat → Int) (t_harder : Nat → Int) (t_grainSum : Nat → Int) (t_curve : Nat → Int) (v6 : Int) : Option (Int × Int × (Nat → Int) × (Nat → Int) × (Nat → Int) × (Nat → Int) × (Nat → Int) × (Nat → Int) × (Nat → Int) × (Nat → Int) × (Nat → Int)) :=
  chk (inB (v6 - 1) 20) (some (t_curve (Int.toNat (v6 - 1)), v6, t_cur, t_was, t_feel, t_pushAt, t_curSum, t_grain, t_harder, t_grainSum, t_curve))

set_option maxRecDepth 10000 in
set_option maxHeartbeats 8000000 in
theorem g_X11_curve_131 {l : Launch} {E : EE} {b0 n : Nat} {h : AH} {a_t : Nat} {t_thrown t_taped t_p t_fault t_baseLow t_baseHigh t_newBaseLow t_newBaseHigh t_from t_knots t_lines t_chosen t_undos t_redos t_aimedMany t_fits t_fitOf t_sights t_systems t_own t_cross t_curveLong t_wallFirst v6 : Int} {t_push t_speckLow t_speckHigh t_sourceHold t_cur t_was t_feel t_pushAt t_curSum t_grain t_ways t_harder t_grainSum t_curve : Nat → Int} {r : Int × Int × (Nat → Int) × (Nat → Int) × (Nat → Int) × (Nat → Int) × (Nat → Int) × (Nat → Int) × (Nat → Int) × (Nat → Int) × (Nat → Int)} (ao : AO b0 n [a_t, (a_t + 6), (a_t + 8), (a_t + 9), (a_t + 10), (a_t + 24), (a_t + 25), (a_t + 26), (a_t + 27), (a_t + 28), (a_t + 44), (a_t + 45), (a_t + 46), (a_t + 47), (a_t + 48)]) (ok_t_baseLow : inI t_baseLow) (ok_t_baseHigh : inI t_baseHigh) (ok_t_systems : inI t_systems) (ok_t_own : inI t_own) (ok_t_cross : inI t_cross) (ok_t_curveLong : inI t_curveLong) (ok_t_push : okA t_push) (ok_t_speckLow : okA t_speckLow) (ok_t_speckHigh : okA t_speckHigh) (ok_t_sourceHold : okA t_sourceHold) (ok_t_cur : okA t_cur) (ok_t_was : okA t_was) (ok_t_feel : okA t_feel) (ok_t_pushAt : okA t_pushAt) (ok_t_curSum : okJ t_curSum) (ok_t_grain : okA t_grain) (ok_t_ways : okA t_ways) (ok_t_harder : okA t_harder) (ok_t_grainSum : okJ t_grainSum) (ok_t_curve : okJ t_curve) (ok_v6 : inI v6) (hs : m_X11_curve_131 t_curveLong t_cur t_was t_feel t_pushAt t_curSum t_grain t_harder t_grainSum t_curve v6 = some r) : G l E b0 M_X11_curve (fun _ => True) (ZM E b0 (some (vJ r.1)) (ov [a_t, (a_t + 6), (a_t + 8), (a_t + 9), (a_t + 10), (a_t + 24), (a_t + 25), (a_t + 26), (a_t + 27), (a_t + 28), (a_t + 44), (a_t + 45), (a_t + 46), (a_t + 47), (a_t + 48)] [.inr (11, fsX11 a_t t_thrown t_taped t_p t_fault t_baseLow t_baseHigh t_newBaseLow t_newBaseHigh t_from t_knots t_lines t_chosen t_undos t_redos t_aimedMany t_fits t_fitOf t_sights t_systems t_own t_cross r.2.1 t_wallFirst), IA E 21 t_push, IA E 100 t_speckLow, IA E 100 t_speckHigh, IA E 100 t_sourceHold, IA E 100 r.2.2.1, IA E 100 r.2.2.2.1, IA E 100 r.2.2.2.2.1, IA E 21 r.2.2.2.2.2.1, JA E 6 r.2.2.2.2.2.2.1, IA E 800 r.2.2.2.2.2.2.2.1, IA E 48 t_ways, IA E 8 r.2.2.2.2.2.2.2.2.1, JA E 48 r.2.2.2.2.2.2.2.2.2.1, JA E 20 r.2.2.2.2.2.2.2.2.2.2] h) n (inJ r.1 ∧ inI r.2.1 ∧ okA r.2.2.1 ∧ okA r.2.2.2.1 ∧ okA r.2.2.2.2.1 ∧ okA r.2.2.2.2.2.1 ∧ okJ r.2.2.2.2.2.2.1 ∧ okA r.2.2.2.2.2.2.2.1 ∧ okA r.2.2.2.2.2.2.2.2.1 ∧ okJ r.2.2.2.2.2.2.2.2.2.1 ∧ okJ r.2.2.2.2.2.2.2.2.2.2) 0 0) 0 0 n (ov [a_t, (a_t + 6), (a_t + 8), (a_t + 9), (a_t + 10), (a_t + 24), (a_t + 25), (a_t + 26), (a_t + 27), (a_t + 28), (a_t + 44), (a_t + 45), (a_t + 46), (a_t + 47), (a_t + 48)] [.inr (11, fsX11 a_t t_thrown t_taped t_p t_fault t_baseLow t_baseHigh t_newBaseLow t_newBaseHigh t_from t_knots t_lines t_chosen t_undos t_redos t_aimedMany t_fits t_fitOf t_sights t_systems t_own t_cross t_curveLong t_wallFirst), IA E 21 t_push, IA E 100 t_speckLow, IA E 100 t_speckHigh, IA E 100 t_sourceHold, IA E 100 t_cur, IA E 100 t_was, IA E 100 t_feel, IA E 21 t_pushAt, JA E 6 t_curSum, IA E 800 t_grain, IA E 48 t_ways, IA E 8 t_harder, JA E 48 t_grainSum, JA E 20 t_curve] h) 131 [some (.ref a_t), none, none, none, none, none, some (vI v6), none, none, none] [] := by
  rw [m_X11_curve_131] at hs
  refine g_aload_n e_X11_curve_131 rfl ?_
  refine g_iload e_X11_curve_132 rfl ?_
  refine g_put 0 68 ao rfl rfl fsX11_k68 fsX11_s68 ls_0 fw_X11_439 (fun h => by cases h) ⟨rfl, rfl⟩ e_X11_curve_134 ?_
  refine g_aload_n e_X11_curve_137 rfl ?_
  refine g_get 0 69 ao rfl rfl fsX11_g69 fl_X11_154 e_X11_curve_138 ?_
  refine g_iload e_X11_curve_141 rfl ?_
  refine g_iconst e_X11_curve_143 ?_
  refine g_isub e_X11_curve_144 ?_
  refine g_lald 14 ao rfl rfl (Nat.le_of_ble_eq_true rfl) e_X11_curve_145 hs (fun hi13 hs => ?_)
  obtain rfl := Option.some.inj hs
  exact g_lret rfl ⟨(ok_t_curve _), ok_v6, ok_t_cur, ok_t_was, ok_t_feel, ok_t_pushAt, ok_t_curSum, ok_t_grain, ok_t_harder, ok_t_grainSum, ok_t_curve⟩ e_X11_curve_146

noncomputable def m_X11_curve_0 (t_baseLow : Int) (t_baseHigh : Int) (t_systems : Int) (t_own : Int) (t_cross : Int) (t_curveLong : Int) (t_push : Nat → Int) (t_speckLow : Nat → Int) (t_speckHigh : Nat → Int) (t_sourceHold : Nat → Int) (t_cur : Nat → Int) (t_was : Nat → Int) (t_feel : Nat → Int) (t_pushAt : Nat → Int) (t_curSum : Nat → Int) (t_grain : Nat → Int) (t_ways : Nat → Int) (t_harder : Nat → Int) (t_grainSum : Nat → Int) (t_curve : Nat → Int) (v1 : Int) (v2 : Int) (v3 : Int) (v4 : Int) (v5 : Int) (v6 : Int) (v7 : Int) : Option (Int × Int × (Nat → Int) × (Nat → Int) × (Nat → Int) × (Nat → Int) × (Nat → Int) × (Nat → Int) × (Nat → Int) × (Nat → Int) × (Nat → Int)) :=
  (m_X11_isPull v1 v2 v3).bind (fun y1 => if y1 = 0 then (some ((-1000000000000000), t_curveLong, t_cur, t_was, t_feel, t_pushAt, t_curSum, t_grain, t_harder, t_grainSum, t_curve)) else ((m_X11_in v4 0 9999).bind (fun y2 => if y2 = 0 then (some ((-1000000000000000), t_curveLong, t_cur, t_was, t_feel, t_pushAt, t_curSum, t_grain, t_harder, t_grainSum, t_curve)) else ((m_X11_in v5 (-9999) 9999).bind (fun y3 => if y3 = 0 then (some ((-1000000000000000), t_curveLong, t_cur, t_was, t_feel, t_pushAt, t_curSum, t_grain, t_harder, t_grainSum, t_curve)) else ((m_X11_in v6 1 20).bind (fun y4 => if y4 = 0 then (some ((-1000000000000000), t_curveLong, t_cur, t_was, t_feel, t_pushAt, t_curSum, t_grain, t_harder, t_grainSum, t_curve)) else ((m_X11_in v7 1 50).bind (fun y5 => if y5 = 0 then (some ((-1000000000000000), t_curveLong, t_cur, t_was, t_feel, t_pushAt, t_curSum, t_grain, t_harder, t_grainSum, t_curve)) else (chk (inI (v4 + ((v6 - 1) * v5))) ((m_X11_in (v4 + ((v6 - 1) * v5)) 0 9999).bind (fun y7 => if y7 = 0 then (some ((-1000000000000000), t_curveLong, t_cur, t_was, t_feel, t_pushAt, t_curSum, t_grain, t_harder, t_grainSum, t_curve)) else (m_X11_curve_84 t_baseLow t_baseHigh t_systems t_own t_cross t_push t_speckLow t_speckHigh t_sourceHold t_ways v1 v2 v3 v4 v5 v6 v7 (fun t_cur' t_was' t_feel' t_pushAt' t_curSum' t_grain' t_harder' t_grainSum' t_curve' v8' => m_X11_curve_131 t_curveLong t_cur' t_was' t_feel' t_pushAt' t_curSum' t_grain' t_harder' t_grainSum' t_curve' v6) FU t_cur t_was t_feel t_pushAt t_curSum t_grain t_harder t_grainSum t_curve 0)))))))))))))

set_option maxRecDepth 10000 in
set_option maxHeartbeats 8000000 in
theorem g_X11_curve_0 {l : Launch} {E : EE} {b0 n : Nat} {h : AH} {a_t : Nat} {t_thrown t_taped t_p t_fault t_baseLow t_baseHigh t_newBaseLow t_newBaseHigh t_from t_knots t_lines t_chosen t_undos t_redos t_aimedMany t_fits t_fitOf t_sights t_systems t_own t_cross t_curveLong t_wallFirst v1 v2 v3 v4 v5 v6 v7 : Int} {t_push t_speckLow t_speckHigh t_sourceHold t_cur t_was t_feel t_pushAt t_curSum t_grain t_ways t_harder t_grainSum t_curve : Nat → Int} {r : Int × Int × (Nat → Int) × (Nat → Int) × (Nat → Int) × (Nat → Int) × (Nat → Int) × (Nat → Int) × (Nat → Int) × (Nat → Int) × (Nat → Int)} (ao : AO b0 n [a_t, (a_t + 6), (a_t + 8), (a_t + 9), (a_t + 10), (a_t + 24), (a_t + 25), (a_t + 26), (a_t + 27), (a_t + 28), (a_t + 44), (a_t + 45), (a_t + 46), (a_t + 47), (a_t + 48)]) (ok_t_baseLow : inI t_baseLow) (ok_t_baseHigh : inI t_baseHigh) (ok_t_systems : inI t_systems) (ok_t_own : inI t_own) (ok_t_cross : inI t_cross) (ok_t_curveLong : inI t_curveLong) (ok_t_push : okA t_push) (ok_t_speckLow : okA t_speckLow) (ok_t_speckHigh : okA t_speckHigh) (ok_t_sourceHold : okA t_sourceHold) (ok_t_cur : okA t_cur) (ok_t_was : okA t_was) (ok_t_feel : okA t_feel) (ok_t_pushAt : okA t_pushAt) (ok_t_curSum : okJ t_curSum) (ok_t_grain : okA t_grain) (ok_t_ways : okA t_ways) (ok_t_harder : okA t_harder) (ok_t_grainSum : okJ t_grainSum) (ok_t_curve : okJ t_curve) (ok_v1 : inI v1) (ok_v2 : inI v2) (ok_v3 : inI v3) (ok_v4 : inI v4) (ok_v5 : inI v5) (ok_v6 : inI v6) (ok_v7 : inI v7) (hs : m_X11_curve_0 t_baseLow t_baseHigh t_systems t_own t_cross t_curveLong t_push t_speckLow t_speckHigh t_sourceHold t_cur t_was t_feel t_pushAt t_curSum t_grain t_ways t_harder t_grainSum t_curve v1 v2 v3 v4 v5 v6 v7 = some r) : G l E b0 M_X11_curve (fun _ => True) (ZM E b0 (some (vJ r.1)) (ov [a_t, (a_t + 6), (a_t + 8), (a_t + 9), (a_t + 10), (a_t + 24), (a_t + 25), (a_t + 26), (a_t + 27), (a_t + 28), (a_t + 44), (a_t + 45), (a_t + 46), (a_t + 47), (a_t + 48)] [.inr (11, fsX11 a_t t_thrown t_taped t_p t_fault t_baseLow t_baseHigh t_newBaseLow t_newBaseHigh t_from t_knots t_lines t_chosen t_undos t_redos t_aimedMany t_fits t_fitOf t_sights t_systems t_own t_cross r.2.1 t_wallFirst), IA E 21 t_push, IA E 100 t_speckLow, IA E 100 t_speckHigh, IA E 100 t_sourceHold, IA E 100 r.2.2.1, IA E 100 r.2.2.2.1, IA E 100 r.2.2.2.2.1, IA E 21 r.2.2.2.2.2.1, JA E 6 r.2.2.2.2.2.2.1, IA E 800 r.2.2.2.2.2.2.2.1, IA E 48 t_ways, IA E 8 r.2.2.2.2.2.2.2.2.1, JA E 48 r.2.2.2.2.2.2.2.2.2.1, JA E 20 r.2.2.2.2.2.2.2.2.2.2] h) n (inJ r.1 ∧ inI r.2.1 ∧ okA r.2.2.1 ∧ okA r.2.2.2.1 ∧ okA r.2.2.2.2.1 ∧ okA r.2.2.2.2.2.1 ∧ okJ r.2.2.2.2.2.2.1 ∧ okA r.2.2.2.2.2.2.2.1 ∧ okA r.2.2.2.2.2.2.2.2.1 ∧ okJ r.2.2.2.2.2.2.2.2.2.1 ∧ okJ r.2.2.2.2.2.2.2.2.2.2) 0 0) 0 0 n (ov [a_t, (a_t + 6), (a_t + 8), (a_t + 9), (a_t + 10), (a_t + 24), (a_t + 25), (a_t + 26), (a_t + 27), (a_t + 28), (a_t + 44), (a_t + 45), (a_t + 46), (a_t + 47), (a_t + 48)] [.inr (11, fsX11 a_t t_thrown t_taped t_p t_fault t_baseLow t_baseHigh t_newBaseLow t_newBaseHigh t_from t_knots t_lines t_chosen t_undos t_redos t_aimedMany t_fits t_fitOf t_sights t_systems t_own t_cross t_curveLong t_wallFirst), IA E 21 t_push, IA E 100 t_speckLow, IA E 100 t_speckHigh, IA E 100 t_sourceHold, IA E 100 t_cur, IA E 100 t_was, IA E 100 t_feel, IA E 21 t_pushAt, JA E 6 t_curSum, IA E 800 t_grain, IA E 48 t_ways, IA E 8 t_harder, JA E 48 t_grainSum, JA E 20 t_curve] h) 0 [some (.ref a_t), some (vI v1), some (vI v2), some (vI v3), some (vI v4), some (vI v5), some (vI v6), some (vI v7), none, none] [] := by
  rw [m_X11_curve_0] at hs
  refine g_iload_n e_X11_curve_0 rfl ?_
  refine g_iload_n e_X11_curve_1 rfl ?_
  refine g_iload_n e_X11_curve_2 rfl ?_
  obtain ⟨y1, hy1, hs⟩ := bind_elim hs
  refine g_callSr [vI v1, vI v2, vI v3] cs_X11_311 ⟨rfl, rfl, Nat.le_of_ble_eq_true rfl, Nat.le_of_ble_eq_true rfl⟩ (ct_X11_isPull ⟨List.nodup_nil, fun i a h => by simp at h⟩ (fun i a e h => by simp at h) ok_v1 ok_v2 ok_v3 hy1) e_X11_curve_3 rfl rfl (Nat.le_of_ble_eq_true rfl) ⟨Nat.le_refl _, Nat.le_refl _⟩ (fun Py1 => ?_)
  refine g_if_eq e_X11_curve_6 (inZ_I Py1) hs (fun c6 hs => ?_) (fun c6 hs => ?_)
  · refine g_ldc2 (a := -1000000000000000) e_X11_curve_77 k_X11_437 ?_
    obtain rfl := Option.some.inj hs
    exact g_lret rfl ⟨(by decide : inJ (-1000000000000000)), ok_t_curveLong, ok_t_cur, ok_t_was, ok_t_feel, ok_t_pushAt, ok_t_curSum, ok_t_grain, ok_t_harder, ok_t_grainSum, ok_t_curve⟩ e_X11_curve_80
  · refine g_iload e_X11_curve_9 rfl ?_
    refine g_iconst e_X11_curve_11 ?_
    refine g_sipush e_X11_curve_12 sp_9999 ?_
    obtain ⟨y2, hy2, hs⟩ := bind_elim hs
    refine g_callSr [vI v4, vI 0, vI 9999] cs_X11_226 ⟨rfl, rfl, Nat.le_of_ble_eq_true rfl, Nat.le_of_ble_eq_true rfl⟩ (ct_X11_in ⟨List.nodup_nil, fun i a h => by simp at h⟩ (fun i a e h => by simp at h) ok_v4 (by decide : inI 0) (by decide : inI 9999) hy2) e_X11_curve_15 rfl rfl (Nat.le_of_ble_eq_true rfl) ⟨Nat.le_refl _, Nat.le_refl _⟩ (fun Py2 => ?_)
    refine g_if_eq e_X11_curve_18 (inZ_I Py2) hs (fun c18 hs => ?_) (fun c18 hs => ?_)
    · refine g_ldc2 (a := -1000000000000000) e_X11_curve_77 k_X11_437 ?_
      obtain rfl := Option.some.inj hs
      exact g_lret rfl ⟨(by decide : inJ (-1000000000000000)), ok_t_curveLong, ok_t_cur, ok_t_was, ok_t_feel, ok_t_pushAt, ok_t_curSum, ok_t_grain, ok_t_harder, ok_t_grainSum, ok_t_curve⟩ e_X11_curve_80
    · refine g_iload e_X11_curve_21 rfl ?_
      refine g_sipush e_X11_curve_23 sp_m9999 ?_
      refine g_sipush e_X11_curve_26 sp_9999 ?_
      obtain ⟨y3, hy3, hs⟩ := bind_elim hs
      refine g_callSr [vI v5, vI (-9999), vI 9999] cs_X11_226 ⟨rfl, rfl, Nat.le_of_ble_eq_true rfl, Nat.le_of_ble_eq_true rfl⟩ (ct_X11_in ⟨List.nodup_nil, fun i a h => by simp at h⟩ (fun i a e h => by simp at h) ok_v5 (by decide : inI (-9999)) (by decide : inI 9999) hy3) e_X11_curve_29 rfl rfl (Nat.le_of_ble_eq_true rfl) ⟨Nat.le_refl _, Nat.le_refl _⟩ (fun Py3 => ?_)
      refine g_if_eq e_X11_curve_32 (inZ_I Py3) hs (fun c32 hs => ?_) (fun c32 hs => ?_)
      · refine g_ldc2 (a := -1000000000000000) e_X11_curve_77 k_X11_437 ?_
        obtain rfl := Option.some.inj hs
        exact g_lret rfl ⟨(by decide : inJ (-1000000000000000)), ok_t_curveLong, ok_t_cur, ok_t_was, ok_t_feel, ok_t_pushAt, ok_t_curSum, ok_t_grain, ok_t_harder, ok_t_grainSum, ok_t_curve⟩ e_X11_curve_80
      · refine g_iload e_X11_curve_35 rfl ?_
        refine g_iconst e_X11_curve_37 ?_
        refine g_bipush e_X11_curve_38 bp_20 ?_
        obtain ⟨y4, hy4, hs⟩ := bind_elim hs
        refine g_callSr [vI v6, vI 1, vI 20] cs_X11_226 ⟨rfl, rfl, Nat.le_of_ble_eq_true rfl, Nat.le_of_ble_eq_true rfl⟩ (ct_X11_in ⟨List.nodup_nil, fun i a h => by simp at h⟩ (fun i a e h => by simp at h) ok_v6 (by decide : inI 1) (by decide : inI 20) hy4) e_X11_curve_40 rfl rfl (Nat.le_of_ble_eq_true rfl) ⟨Nat.le_refl _, Nat.le_refl _⟩ (fun Py4 => ?_)
        refine g_if_eq e_X11_curve_43 (inZ_I Py4) hs (fun c43 hs => ?_) (fun c43 hs => ?_)
        · refine g_ldc2 (a := -1000000000000000) e_X11_curve_77 k_X11_437 ?_
          obtain rfl := Option.some.inj hs
          exact g_lret rfl ⟨(by decide : inJ (-1000000000000000)), ok_t_curveLong, ok_t_cur, ok_t_was, ok_t_feel, ok_t_pushAt, ok_t_curSum, ok_t_grain, ok_t_harder, ok_t_grainSum, ok_t_curve⟩ e_X11_curve_80
        · refine g_iload e_X11_curve_46 rfl ?_
          refine g_iconst e_X11_curve_48 ?_
          refine g_bipush e_X11_curve_49 bp_50 ?_
          obtain ⟨y5, hy5, hs⟩ := bind_elim hs
          refine g_callSr [vI v7, vI 1, vI 50] cs_X11_226 ⟨rfl, rfl, Nat.le_of_ble_eq_true rfl, Nat.le_of_ble_eq_true rfl⟩ (ct_X11_in ⟨List.nodup_nil, fun i a h => by simp at h⟩ (fun i a e h => by simp at h) ok_v7 (by decide : inI 1) (by decide : inI 50) hy5) e_X11_curve_51 rfl rfl (Nat.le_of_ble_eq_true rfl) ⟨Nat.le_refl _, Nat.le_refl _⟩ (fun Py5 => ?_)
          refine g_if_eq e_X11_curve_54 (inZ_I Py5) hs (fun c54 hs => ?_) (fun c54 hs => ?_)
          · refine g_ldc2 (a := -1000000000000000) e_X11_curve_77 k_X11_437 ?_
            obtain rfl := Option.some.inj hs
            exact g_lret rfl ⟨(by decide : inJ (-1000000000000000)), ok_t_curveLong, ok_t_cur, ok_t_was, ok_t_feel, ok_t_pushAt, ok_t_curSum, ok_t_grain, ok_t_harder, ok_t_grainSum, ok_t_curve⟩ e_X11_curve_80
          · refine g_iload e_X11_curve_57 rfl ?_
            refine g_iload e_X11_curve_59 rfl ?_
            refine g_iconst e_X11_curve_61 ?_
            refine g_isub e_X11_curve_62 ?_
            refine g_iload e_X11_curve_63 rfl ?_
            refine g_imul e_X11_curve_65 ?_
            refine g_iadd e_X11_curve_66 ?_
            refine g_iconst e_X11_curve_67 ?_
            refine g_sipush e_X11_curve_68 sp_9999 ?_
            obtain ⟨hc6, hs⟩ := chk_elim hs
            obtain ⟨y7, hy7, hs⟩ := bind_elim hs
            refine g_callSr [vI (v4 + ((v6 - 1) * v5)), vI 0, vI 9999] cs_X11_226 ⟨rfl, rfl, Nat.le_of_ble_eq_true rfl, Nat.le_of_ble_eq_true rfl⟩ (ct_X11_in ⟨List.nodup_nil, fun i a h => by simp at h⟩ (fun i a e h => by simp at h) hc6 (by decide : inI 0) (by decide : inI 9999) hy7) e_X11_curve_71 rfl rfl (Nat.le_of_ble_eq_true rfl) ⟨Nat.le_refl _, Nat.le_refl _⟩ (fun Py7 => ?_)
            refine g_if_ne e_X11_curve_74 (inZ_I Py7) hs (fun c74 hs => ?_) (fun c74 hs => ?_)
            · refine g_ldc2 (a := -1000000000000000) e_X11_curve_77 k_X11_437 ?_
              obtain rfl := Option.some.inj hs
              exact g_lret rfl ⟨(by decide : inJ (-1000000000000000)), ok_t_curveLong, ok_t_cur, ok_t_was, ok_t_feel, ok_t_pushAt, ok_t_curSum, ok_t_grain, ok_t_harder, ok_t_grainSum, ok_t_curve⟩ e_X11_curve_80
            · refine g_iconst e_X11_curve_81 ?_
              refine g_istore e_X11_curve_82 st1_8 rfl ?_
              exact g_X11_curve_84 ao ok_t_baseLow ok_t_baseHigh ok_t_systems ok_t_own ok_t_cross ok_t_curveLong ok_t_push ok_t_speckLow ok_t_speckHigh ok_t_sourceHold ok_t_ways ok_v1 ok_v2 ok_v3 ok_v4 ok_v5 ok_v6 ok_v7 (hk_131 := by
      intro t_cur' t_was' t_feel' t_pushAt' t_curSum' t_grain' t_harder' t_grainSum' t_curve' v8' ok_t_cur' ok_t_was' ok_t_feel' ok_t_pushAt' ok_t_curSum' ok_t_grain' ok_t_harder' ok_t_grainSum' ok_t_curve' ok_v8' hs
      exact g_X11_curve_131 ao ok_t_baseLow ok_t_baseHigh ok_t_systems ok_t_own ok_t_cross ok_t_curveLong ok_t_push ok_t_speckLow ok_t_speckHigh ok_t_sourceHold ok_t_cur' ok_t_was' ok_t_feel' ok_t_pushAt' ok_t_curSum' ok_t_grain' ok_t_ways ok_t_harder' ok_t_grainSum' ok_t_curve' ok_v6 hs) FU _ _ _ _ _ _ _ _ _ _ ok_t_cur ok_t_was ok_t_feel ok_t_pushAt ok_t_curSum ok_t_grain ok_t_harder ok_t_grainSum ok_t_curve (by decide : inI 0) hs

noncomputable def m_X11_curve (t_baseLow : Int) (t_baseHigh : Int) (t_systems : Int) (t_own : Int) (t_cross : Int) (t_curveLong : Int) (t_push : Nat → Int) (t_speckLow : Nat → Int) (t_speckHigh : Nat → Int) (t_sourceHold : Nat → Int) (t_cur : Nat → Int) (t_was : Nat → Int) (t_feel : Nat → Int) (t_pushAt : Nat → Int) (t_curSum : Nat → Int) (t_grain : Nat → Int) (t_ways : Nat → Int) (t_harder : Nat → Int) (t_grainSum : Nat → Int) (t_curve : Nat → Int) (v1 : Int) (v2 : Int) (v3 : Int) (v4 : Int) (v5 : Int) (v6 : Int) (v7 : Int) : Option (Int × Int × (Nat → Int) × (Nat → Int) × (Nat → Int) × (Nat → Int) × (Nat → Int) × (Nat → Int) × (Nat → Int) × (Nat → Int) × (Nat → Int)) := m_X11_curve_0 t_baseLow t_baseHigh t_systems t_own t_cross t_curveLong t_push t_speckLow t_speckHigh t_sourceHold t_cur t_was t_feel t_pushAt t_curSum t_grain t_ways t_harder t_grainSum t_curve v1 v2 v3 v4 v5 v6 v7

set_option maxRecDepth 10000 in
set_option maxHeartbeats 8000000 in
theorem ct_X11_curve {l : Launch} {E : EE} {b0 n : Nat} {h : AH} {a_t : Nat} {t_thrown t_taped t_p t_fault t_baseLow t_baseHigh t_newBaseLow t_newBaseHigh t_from t_knots t_lines t_chosen t_undos t_redos t_aimedMany t_fits t_fitOf t_sights t_systems t_own t_cross t_curveLong t_wallFirst : Int} {t_push t_speckLow t_speckHigh t_sourceHold t_cur t_was t_feel t_pushAt t_curSum t_grain t_ways t_harder t_grainSum t_curve : Nat → Int} {v1 v2 v3 v4 v5 v6 v7 : Int} (ao : AO b0 n [a_t, (a_t + 6), (a_t + 8), (a_t + 9), (a_t + 10), (a_t + 24), (a_t + 25), (a_t + 26), (a_t + 27), (a_t + 28), (a_t + 44), (a_t + 45), (a_t + 46), (a_t + 47), (a_t + 48)]) (hf : FA h [a_t, (a_t + 6), (a_t + 8), (a_t + 9), (a_t + 10), (a_t + 24), (a_t + 25), (a_t + 26), (a_t + 27), (a_t + 28), (a_t + 44), (a_t + 45), (a_t + 46), (a_t + 47), (a_t + 48)] [.inr (11, fsX11 a_t t_thrown t_taped t_p t_fault t_baseLow t_baseHigh t_newBaseLow t_newBaseHigh t_from t_knots t_lines t_chosen t_undos t_redos t_aimedMany t_fits t_fitOf t_sights t_systems t_own t_cross t_curveLong t_wallFirst), IA E 21 t_push, IA E 100 t_speckLow, IA E 100 t_speckHigh, IA E 100 t_sourceHold, IA E 100 t_cur, IA E 100 t_was, IA E 100 t_feel, IA E 21 t_pushAt, JA E 6 t_curSum, IA E 800 t_grain, IA E 48 t_ways, IA E 8 t_harder, JA E 48 t_grainSum, JA E 20 t_curve]) (ok_t_baseLow : inI t_baseLow) (ok_t_baseHigh : inI t_baseHigh) (ok_t_systems : inI t_systems) (ok_t_own : inI t_own) (ok_t_cross : inI t_cross) (ok_t_curveLong : inI t_curveLong) (ok_t_push : okA t_push) (ok_t_speckLow : okA t_speckLow) (ok_t_speckHigh : okA t_speckHigh) (ok_t_sourceHold : okA t_sourceHold) (ok_t_cur : okA t_cur) (ok_t_was : okA t_was) (ok_t_feel : okA t_feel) (ok_t_pushAt : okA t_pushAt) (ok_t_curSum : okJ t_curSum) (ok_t_grain : okA t_grain) (ok_t_ways : okA t_ways) (ok_t_harder : okA t_harder) (ok_t_grainSum : okJ t_grainSum) (ok_t_curve : okJ t_curve) (ok_v1 : inI v1) (ok_v2 : inI v2) (ok_v3 : inI v3) (ok_v4 : inI v4) (ok_v5 : inI v5) (ok_v6 : inI v6) (ok_v7 : inI v7) {r : Int × Int × (Nat → Int) × (Nat → Int) × (Nat → Int) × (Nat → Int) × (Nat → Int) × (Nat → Int) × (Nat → Int) × (Nat → Int) × (Nat → Int)} (hm : m_X11_curve t_baseLow t_baseHigh t_systems t_own t_cross t_curveLong t_push t_speckLow t_speckHigh t_sourceHold t_cur t_was t_feel t_pushAt t_curSum t_grain t_ways t_harder t_grainSum t_curve v1 v2 v3 v4 v5 v6 v7 = some r) : Ct l E b0 M_X11_curve 0 0 [.ref a_t, vI v1, vI v2, vI v3, vI v4, vI v5, vI v6, vI v7] h n (some (vJ r.1)) (ov [a_t, (a_t + 6), (a_t + 8), (a_t + 9), (a_t + 10), (a_t + 24), (a_t + 25), (a_t + 26), (a_t + 27), (a_t + 28), (a_t + 44), (a_t + 45), (a_t + 46), (a_t + 47), (a_t + 48)] [.inr (11, fsX11 a_t t_thrown t_taped t_p t_fault t_baseLow t_baseHigh t_newBaseLow t_newBaseHigh t_from t_knots t_lines t_chosen t_undos t_redos t_aimedMany t_fits t_fitOf t_sights t_systems t_own t_cross r.2.1 t_wallFirst), IA E 21 t_push, IA E 100 t_speckLow, IA E 100 t_speckHigh, IA E 100 t_sourceHold, IA E 100 r.2.2.1, IA E 100 r.2.2.2.1, IA E 100 r.2.2.2.2.1, IA E 21 r.2.2.2.2.2.1, JA E 6 r.2.2.2.2.2.2.1, IA E 800 r.2.2.2.2.2.2.2.1, IA E 48 t_ways, IA E 8 r.2.2.2.2.2.2.2.2.1, JA E 48 r.2.2.2.2.2.2.2.2.2.1, JA E 20 r.2.2.2.2.2.2.2.2.2.2] h) n (inJ r.1 ∧ inI r.2.1 ∧ okA r.2.2.1 ∧ okA r.2.2.2.1 ∧ okA r.2.2.2.2.1 ∧ okA r.2.2.2.2.2.1 ∧ okJ r.2.2.2.2.2.2.1 ∧ okA r.2.2.2.2.2.2.2.1 ∧ okA r.2.2.2.2.2.2.2.2.1 ∧ okJ r.2.2.2.2.2.2.2.2.2.1 ∧ okJ r.2.2.2.2.2.2.2.2.2.2) := by
  rw [m_X11_curve] at hm
  have hg : G l E b0 M_X11_curve (fun _ => True) (ZM E b0 (some (vJ r.1)) (ov [a_t, (a_t + 6), (a_t + 8), (a_t + 9), (a_t + 10), (a_t + 24), (a_t + 25), (a_t + 26), (a_t + 27), (a_t + 28), (a_t + 44), (a_t + 45), (a_t + 46), (a_t + 47), (a_t + 48)] [.inr (11, fsX11 a_t t_thrown t_taped t_p t_fault t_baseLow t_baseHigh t_newBaseLow t_newBaseHigh t_from t_knots t_lines t_chosen t_undos t_redos t_aimedMany t_fits t_fitOf t_sights t_systems t_own t_cross r.2.1 t_wallFirst), IA E 21 t_push, IA E 100 t_speckLow, IA E 100 t_speckHigh, IA E 100 t_sourceHold, IA E 100 r.2.2.1, IA E 100 r.2.2.2.1, IA E 100 r.2.2.2.2.1, IA E 21 r.2.2.2.2.2.1, JA E 6 r.2.2.2.2.2.2.1, IA E 800 r.2.2.2.2.2.2.2.1, IA E 48 t_ways, IA E 8 r.2.2.2.2.2.2.2.2.1, JA E 48 r.2.2.2.2.2.2.2.2.2.1, JA E 20 r.2.2.2.2.2.2.2.2.2.2] h) n (inJ r.1 ∧ inI r.2.1 ∧ okA r.2.2.1 ∧ okA r.2.2.2.1 ∧ okA r.2.2.2.2.1 ∧ okA r.2.2.2.2.2.1 ∧ okJ r.2.2.2.2.2.2.1 ∧ okA r.2.2.2.2.2.2.2.1 ∧ okA r.2.2.2.2.2.2.2.2.1 ∧ okJ r.2.2.2.2.2.2.2.2.2.1 ∧ okJ r.2.2.2.2.2.2.2.2.2.2) 0 0) 0 0 n (ov [a_t, (a_t + 6), (a_t + 8), (a_t + 9), (a_t + 10), (a_t + 24), (a_t + 25), (a_t + 26), (a_t + 27), (a_t + 28), (a_t + 44), (a_t + 45), (a_t + 46), (a_t + 47), (a_t + 48)] [.inr (11, fsX11 a_t t_thrown t_taped t_p t_fault t_baseLow t_baseHigh t_newBaseLow t_newBaseHigh t_from t_knots t_lines t_chosen t_undos t_redos t_aimedMany t_fits t_fitOf t_sights t_systems t_own t_cross t_curveLong t_wallFirst), IA E 21 t_push, IA E 100 t_speckLow, IA E 100 t_speckHigh, IA E 100 t_sourceHold, IA E 100 t_cur, IA E 100 t_was, IA E 100 t_feel, IA E 21 t_pushAt, JA E 6 t_curSum, IA E 800 t_grain, IA E 48 t_ways, IA E 8 t_harder, JA E 48 t_grainSum, JA E 20 t_curve] h) 0 [some (.ref a_t), some (vI v1), some (vI v2), some (vI v3), some (vI v4), some (vI v5), some (vI v6), some (vI v7), none, none] [] := by
    have hs := hm
    exact g_X11_curve_0 ao ok_t_baseLow ok_t_baseHigh ok_t_systems ok_t_own ok_t_cross ok_t_curveLong ok_t_push ok_t_speckLow ok_t_speckHigh ok_t_sourceHold ok_t_cur ok_t_was ok_t_feel ok_t_pushAt ok_t_curSum ok_t_grain ok_t_ways ok_t_harder ok_t_grainSum ok_t_curve ok_v1 ok_v2 ok_v3 ok_v4 ok_v5 ok_v6 ok_v7 hs
  rw [FA_id hf] at hg
  exact Ct_of [some (.ref a_t), some (vI v1), some (vI v2), some (vI v3), some (vI v4), some (vI v5), some (vI v6), some (vI v7), none, none] ⟨by decide +kernel, rfl⟩ rfl (Nat.le_of_ble_eq_true rfl) hg

/-! ===== X11_curved ===== -/
theorem e_X11_curved_0 : DC cX11_curved 0 (.iload_n 1) 1 1 := ⟨by decide +kernel, rfl⟩
theorem e_X11_curved_1 : DC cX11_curved 1 (.iconst 0) 1 2 := ⟨by decide +kernel, rfl⟩
theorem e_X11_curved_2 : DC cX11_curved 2 (.aload_n 0) 1 3 := ⟨by decide +kernel, rfl⟩
theorem e_X11_curved_3 : DC cX11_curved 3 (.getfield 439) 3 6 := ⟨by decide +kernel, rfl⟩
theorem e_X11_curved_6 : DC cX11_curved 6 (.iconst 1) 1 7 := ⟨by decide +kernel, rfl⟩
theorem e_X11_curved_7 : DC cX11_curved 7 (.isub) 1 8 := ⟨by decide +kernel, rfl⟩
theorem e_X11_curved_8 : DC cX11_curved 8 (.invokestatic 226) 3 11 := ⟨by decide +kernel, rfl⟩
theorem e_X11_curved_11 : DB cX11_curved 11 (.ifCond .eq 12) (12) 3 14 23 := ⟨by decide +kernel, rfl, rfl⟩
theorem e_X11_curved_14 : DC cX11_curved 14 (.aload_n 0) 1 15 := ⟨by decide +kernel, rfl⟩
theorem e_X11_curved_15 : DC cX11_curved 15 (.getfield 154) 3 18 := ⟨by decide +kernel, rfl⟩
theorem e_X11_curved_18 : DC cX11_curved 18 (.iload_n 1) 1 19 := ⟨by decide +kernel, rfl⟩
theorem e_X11_curved_19 : DC cX11_curved 19 (.laload) 1 20 := ⟨by decide +kernel, rfl⟩
theorem e_X11_curved_20 : DB cX11_curved 20 (.goto 6) (6) 3 23 26 := ⟨by decide +kernel, rfl, rfl⟩
theorem e_X11_curved_23 : DC cX11_curved 23 (.ldc2_w 437) 3 26 := ⟨by decide +kernel, rfl⟩
theorem e_X11_curved_26 : DC cX11_curved 26 (.lreturn) 1 27 := ⟨by decide +kernel, rfl⟩
noncomputable def m_X11_curved_0 (t_curveLong : Int) (t_curve : Nat → Int) (v1 : Int) : Option (Int) :=
  chk (inI (t_curveLong - 1)) ((m_X11_in v1 0 (t_curveLong - 1)).bind (fun y2 => if y2 = 0 then (some ((-1000000000000000))) else (chk (inB v1 20) (some (t_curve (Int.toNat v1))))))

set_option maxRecDepth 10000 in
set_option maxHeartbeats 8000000 in
theorem g_X11_curved_0 {l : Launch} {E : EE} {b0 n : Nat} {h : AH} {a_t : Nat} {t_thrown t_taped t_p t_fault t_baseLow t_baseHigh t_newBaseLow t_newBaseHigh t_from t_knots t_lines t_chosen t_undos t_redos t_aimedMany t_fits t_fitOf t_sights t_systems t_own t_cross t_curveLong t_wallFirst v1 : Int} {t_curve : Nat → Int} {r : Int} (ao : AO b0 n [a_t, (a_t + 48)]) (ok_t_curveLong : inI t_curveLong) (ok_t_curve : okJ t_curve) (ok_v1 : inI v1) (hs : m_X11_curved_0 t_curveLong t_curve v1 = some r) : G l E b0 M_X11_curved (fun _ => True) (ZM E b0 (some (vJ r)) (ov [a_t, (a_t + 48)] [.inr (11, fsX11 a_t t_thrown t_taped t_p t_fault t_baseLow t_baseHigh t_newBaseLow t_newBaseHigh t_from t_knots t_lines t_chosen t_undos t_redos t_aimedMany t_fits t_fitOf t_sights t_systems t_own t_cross t_curveLong t_wallFirst), JA E 20 t_curve] h) n (inJ r) 0 0) 0 0 n (ov [a_t, (a_t + 48)] [.inr (11, fsX11 a_t t_thrown t_taped t_p t_fault t_baseLow t_baseHigh t_newBaseLow t_newBaseHigh t_from t_knots t_lines t_chosen t_undos t_redos t_aimedMany t_fits t_fitOf t_sights t_systems t_own t_cross t_curveLong t_wallFirst), JA E 20 t_curve] h) 0 [some (.ref a_t), some (vI v1)] [] := by
  rw [m_X11_curved_0] at hs
  refine g_iload_n e_X11_curved_0 rfl ?_
  refine g_iconst e_X11_curved_1 ?_
  refine g_aload_n e_X11_curved_2 rfl ?_
  refine g_get 0 68 ao rfl rfl fsX11_g68 fl_X11_439 e_X11_curved_3 ?_
  refine g_iconst e_X11_curved_6 ?_
  refine g_isub e_X11_curved_7 ?_
  obtain ⟨hc1, hs⟩ := chk_elim hs
  obtain ⟨y2, hy2, hs⟩ := bind_elim hs
  refine g_callSr [vI v1, vI 0, vI (t_curveLong - 1)] cs_X11_226 ⟨rfl, rfl, Nat.le_of_ble_eq_true rfl, Nat.le_of_ble_eq_true rfl⟩ (ct_X11_in ⟨List.nodup_nil, fun i a h => by simp at h⟩ (fun i a e h => by simp at h) ok_v1 (by decide : inI 0) hc1 hy2) e_X11_curved_8 rfl rfl (Nat.le_of_ble_eq_true rfl) ⟨Nat.le_refl _, Nat.le_refl _⟩ (fun Py2 => ?_)
  refine g_if_eq e_X11_curved_11 (inZ_I Py2) hs (fun c11 hs => ?_) (fun c11 hs => ?_)
  · refine g_ldc2 (a := -1000000000000000) e_X11_curved_23 k_X11_437 ?_
    obtain rfl := Option.some.inj hs
    exact g_lret rfl (by decide : inJ (-1000000000000000)) e_X11_curved_26
  · refine g_aload_n e_X11_curved_14 rfl ?_
    refine g_get 0 69 ao rfl rfl fsX11_g69 fl_X11_154 e_X11_curved_15 ?_
    refine g_iload_n e_X11_curved_18 rfl ?_
    refine g_lald 1 ao rfl rfl (Nat.le_of_ble_eq_true rfl) e_X11_curved_19 hs (fun hi3 hs => ?_)
    refine g_goto e_X11_curved_20 ?_
    obtain rfl := Option.some.inj hs
    exact g_lret rfl (ok_t_curve _) e_X11_curved_26

noncomputable def m_X11_curved (t_curveLong : Int) (t_curve : Nat → Int) (v1 : Int) : Option (Int) := m_X11_curved_0 t_curveLong t_curve v1

set_option maxRecDepth 10000 in
set_option maxHeartbeats 8000000 in
theorem ct_X11_curved {l : Launch} {E : EE} {b0 n : Nat} {h : AH} {a_t : Nat} {t_thrown t_taped t_p t_fault t_baseLow t_baseHigh t_newBaseLow t_newBaseHigh t_from t_knots t_lines t_chosen t_undos t_redos t_aimedMany t_fits t_fitOf t_sights t_systems t_own t_cross t_curveLong t_wallFirst : Int} {t_curve : Nat → Int} {v1 : Int} (ao : AO b0 n [a_t, (a_t + 48)]) (hf : FA h [a_t, (a_t + 48)] [.inr (11, fsX11 a_t t_thrown t_taped t_p t_fault t_baseLow t_baseHigh t_newBaseLow t_newBaseHigh t_from t_knots t_lines t_chosen t_undos t_redos t_aimedMany t_fits t_fitOf t_sights t_systems t_own t_cross t_curveLong t_wallFirst), JA E 20 t_curve]) (ok_t_curveLong : inI t_curveLong) (ok_t_curve : okJ t_curve) (ok_v1 : inI v1) {r : Int} (hm : m_X11_curved t_curveLong t_curve v1 = some r) : Ct l E b0 M_X11_curved 0 0 [.ref a_t, vI v1] h n (some (vJ r)) h n (inJ r) := by
  rw [m_X11_curved] at hm
  have hg : G l E b0 M_X11_curved (fun _ => True) (ZM E b0 (some (vJ r)) (ov [a_t, (a_t + 48)] [.inr (11, fsX11 a_t t_thrown t_taped t_p t_fault t_baseLow t_baseHigh t_newBaseLow t_newBaseHigh t_from t_knots t_lines t_chosen t_undos t_redos t_aimedMany t_fits t_fitOf t_sights t_systems t_own t_cross t_curveLong t_wallFirst), JA E 20 t_curve] h) n (inJ r) 0 0) 0 0 n (ov [a_t, (a_t + 48)] [.inr (11, fsX11 a_t t_thrown t_taped t_p t_fault t_baseLow t_baseHigh t_newBaseLow t_newBaseHigh t_from t_knots t_lines t_chosen t_undos t_redos t_aimedMany t_fits t_fitOf t_sights t_systems t_own t_cross t_curveLong t_wallFirst), JA E 20 t_curve] h) 0 [some (.ref a_t), some (vI v1)] [] := by
    have hs := hm
    exact g_X11_curved_0 ao ok_t_curveLong ok_t_curve ok_v1 hs
  rw [FA_id hf] at hg
  exact Ct_of [some (.ref a_t), some (vI v1)] ⟨by decide +kernel, rfl⟩ rfl (Nat.le_of_ble_eq_true rfl) hg

/-! ===== X11_form ===== -/
theorem e_X11_form_0 : DC cX11_form 0 (.iload_n 1) 1 1 := ⟨by decide +kernel, rfl⟩
theorem e_X11_form_1 : DC cX11_form 1 (.iconst 0) 1 2 := ⟨by decide +kernel, rfl⟩
theorem e_X11_form_2 : DC cX11_form 2 (.iconst 2) 1 3 := ⟨by decide +kernel, rfl⟩
theorem e_X11_form_3 : DC cX11_form 3 (.invokestatic 226) 3 6 := ⟨by decide +kernel, rfl⟩
theorem e_X11_form_6 : DB cX11_form 6 (.ifCond .eq 12) (12) 3 9 18 := ⟨by decide +kernel, rfl, rfl⟩
theorem e_X11_form_9 : DC cX11_form 9 (.iload_n 2) 1 10 := ⟨by decide +kernel, rfl⟩
theorem e_X11_form_10 : DC cX11_form 10 (.iconst 0) 1 11 := ⟨by decide +kernel, rfl⟩
theorem e_X11_form_11 : DC cX11_form 11 (.iconst 2) 1 12 := ⟨by decide +kernel, rfl⟩
theorem e_X11_form_12 : DC cX11_form 12 (.invokestatic 226) 3 15 := ⟨by decide +kernel, rfl⟩
theorem e_X11_form_15 : DB cX11_form 15 (.ifCond .ne 7) (7) 3 18 22 := ⟨by decide +kernel, rfl, rfl⟩
theorem e_X11_form_18 : DC cX11_form 18 (.ldc2_w 437) 3 21 := ⟨by decide +kernel, rfl⟩
theorem e_X11_form_21 : DC cX11_form 21 (.lreturn) 1 22 := ⟨by decide +kernel, rfl⟩
theorem e_X11_form_22 : DC cX11_form 22 (.lconst 0) 1 23 := ⟨by decide +kernel, rfl⟩
theorem e_X11_form_23 : DC cX11_form 23 (.lstore_n 3) 1 24 := ⟨by decide +kernel, rfl⟩
theorem e_X11_form_24 : DC cX11_form 24 (.iconst 0) 1 25 := ⟨by decide +kernel, rfl⟩
theorem e_X11_form_25 : DC cX11_form 25 (.istore 5) 2 27 := ⟨by decide +kernel, rfl⟩
theorem e_X11_form_27 : DC cX11_form 27 (.iload 5) 2 29 := ⟨by decide +kernel, rfl⟩
theorem e_X11_form_29 : DC cX11_form 29 (.aload_n 0) 1 30 := ⟨by decide +kernel, rfl⟩
theorem e_X11_form_30 : DC cX11_form 30 (.getfield 398) 3 33 := ⟨by decide +kernel, rfl⟩
theorem e_X11_form_33 : DB cX11_form 33 (.if_icmp .ge 54) (54) 3 36 87 := ⟨by decide +kernel, rfl, rfl⟩
theorem e_X11_form_36 : DC cX11_form 36 (.lload_n 3) 1 37 := ⟨by decide +kernel, rfl⟩
theorem e_X11_form_37 : DC cX11_form 37 (.aload_n 0) 1 38 := ⟨by decide +kernel, rfl⟩
theorem e_X11_form_38 : DC cX11_form 38 (.getfield 151) 3 41 := ⟨by decide +kernel, rfl⟩
theorem e_X11_form_41 : DC cX11_form 41 (.bipush 6) 2 43 := ⟨by decide +kernel, rfl⟩
theorem e_X11_form_43 : DC cX11_form 43 (.iload 5) 2 45 := ⟨by decide +kernel, rfl⟩
theorem e_X11_form_45 : DC cX11_form 45 (.imul) 1 46 := ⟨by decide +kernel, rfl⟩
theorem e_X11_form_46 : DC cX11_form 46 (.iconst 0) 1 47 := ⟨by decide +kernel, rfl⟩
theorem e_X11_form_47 : DC cX11_form 47 (.iadd) 1 48 := ⟨by decide +kernel, rfl⟩
theorem e_X11_form_48 : DC cX11_form 48 (.laload) 1 49 := ⟨by decide +kernel, rfl⟩
theorem e_X11_form_49 : DC cX11_form 49 (.aload_n 0) 1 50 := ⟨by decide +kernel, rfl⟩
theorem e_X11_form_50 : DC cX11_form 50 (.getfield 145) 3 53 := ⟨by decide +kernel, rfl⟩
theorem e_X11_form_53 : DC cX11_form 53 (.bipush 6) 2 55 := ⟨by decide +kernel, rfl⟩
theorem e_X11_form_55 : DC cX11_form 55 (.iload 5) 2 57 := ⟨by decide +kernel, rfl⟩
theorem e_X11_form_57 : DC cX11_form 57 (.imul) 1 58 := ⟨by decide +kernel, rfl⟩
theorem e_X11_form_58 : DC cX11_form 58 (.iconst 3) 1 59 := ⟨by decide +kernel, rfl⟩
theorem e_X11_form_59 : DC cX11_form 59 (.iadd) 1 60 := ⟨by decide +kernel, rfl⟩
theorem e_X11_form_60 : DC cX11_form 60 (.iload_n 1) 1 61 := ⟨by decide +kernel, rfl⟩
theorem e_X11_form_61 : DC cX11_form 61 (.iadd) 1 62 := ⟨by decide +kernel, rfl⟩
theorem e_X11_form_62 : DC cX11_form 62 (.iaload) 1 63 := ⟨by decide +kernel, rfl⟩
theorem e_X11_form_63 : DC cX11_form 63 (.i2l) 1 64 := ⟨by decide +kernel, rfl⟩
theorem e_X11_form_64 : DC cX11_form 64 (.lmul) 1 65 := ⟨by decide +kernel, rfl⟩
theorem e_X11_form_65 : DC cX11_form 65 (.aload_n 0) 1 66 := ⟨by decide +kernel, rfl⟩
theorem e_X11_form_66 : DC cX11_form 66 (.getfield 145) 3 69 := ⟨by decide +kernel, rfl⟩
theorem e_X11_form_69 : DC cX11_form 69 (.bipush 6) 2 71 := ⟨by decide +kernel, rfl⟩
theorem e_X11_form_71 : DC cX11_form 71 (.iload 5) 2 73 := ⟨by decide +kernel, rfl⟩
theorem e_X11_form_73 : DC cX11_form 73 (.imul) 1 74 := ⟨by decide +kernel, rfl⟩
theorem e_X11_form_74 : DC cX11_form 74 (.iload_n 2) 1 75 := ⟨by decide +kernel, rfl⟩
theorem e_X11_form_75 : DC cX11_form 75 (.iadd) 1 76 := ⟨by decide +kernel, rfl⟩
theorem e_X11_form_76 : DC cX11_form 76 (.iaload) 1 77 := ⟨by decide +kernel, rfl⟩
theorem e_X11_form_77 : DC cX11_form 77 (.i2l) 1 78 := ⟨by decide +kernel, rfl⟩
theorem e_X11_form_78 : DC cX11_form 78 (.lmul) 1 79 := ⟨by decide +kernel, rfl⟩
theorem e_X11_form_79 : DC cX11_form 79 (.ladd) 1 80 := ⟨by decide +kernel, rfl⟩
theorem e_X11_form_80 : DC cX11_form 80 (.lstore_n 3) 1 81 := ⟨by decide +kernel, rfl⟩
theorem e_X11_form_81 : DC cX11_form 81 (.iinc 5 1) 3 84 := ⟨by decide +kernel, rfl⟩
theorem e_X11_form_84 : DB cX11_form 84 (.goto (-57)) (-57) 3 87 27 := ⟨by decide +kernel, rfl, rfl⟩
theorem e_X11_form_87 : DC cX11_form 87 (.lload_n 3) 1 88 := ⟨by decide +kernel, rfl⟩
theorem e_X11_form_88 : DC cX11_form 88 (.lreturn) 1 89 := ⟨by decide +kernel, rfl⟩
noncomputable def m_X11_form_27 (t_systems : Int) (t_ways : Nat → Int) (t_grainSum : Nat → Int) (v1 : Int) (v2 : Int) (k_87 : Int → Int → Option (Int)) : Nat → Int → Int → Option (Int)
  | 0, _, _ => none
  | F + 1, v3, v5 => if t_systems ≤ v5 then (some (v3)) else (chk (inB ((6 * v5) + 0) 48) (chk (inB (((6 * v5) + 3) + v1) 48) (chk (inB ((6 * v5) + v2) 48) (chk (inJ (v3 + (((t_grainSum (Int.toNat ((6 * v5) + 0))) * (t_ways (Int.toNat (((6 * v5) + 3) + v1)))) * (t_ways (Int.toNat ((6 * v5) + v2)))))) (chk (inI (v5 + 1)) (m_X11_form_27 t_systems t_ways t_grainSum v1 v2 k_87 F (v3 + (((t_grainSum (Int.toNat ((6 * v5) + 0))) * (t_ways (Int.toNat (((6 * v5) + 3) + v1)))) * (t_ways (Int.toNat ((6 * v5) + v2))))) (v5 + 1)))))))

set_option maxRecDepth 10000 in
set_option maxHeartbeats 8000000 in
theorem g_X11_form_27 {l : Launch} {E : EE} {b0 n : Nat} {h : AH} {a_t : Nat} {t_thrown t_taped t_p t_fault t_baseLow t_baseHigh t_newBaseLow t_newBaseHigh t_from t_knots t_lines t_chosen t_undos t_redos t_aimedMany t_fits t_fitOf t_sights t_systems t_own t_cross t_curveLong t_wallFirst v1 v2 : Int} {t_ways t_grainSum : Nat → Int} {r : Int} {k_87 : Int → Int → Option (Int)} (ao : AO b0 n [a_t, (a_t + 45), (a_t + 47)]) (ok_t_systems : inI t_systems) (ok_t_ways : okA t_ways) (ok_t_grainSum : okJ t_grainSum) (ok_v1 : inI v1) (ok_v2 : inI v2) (hk_87 : ∀ (v3_ : Int) (v5_ : Int), inJ v3_ → inI v5_ → k_87 v3_ v5_ = some r → G l E b0 M_X11_form (fun _ => True) (ZM E b0 (some (vJ r)) (ov [a_t, (a_t + 45), (a_t + 47)] [.inr (11, fsX11 a_t t_thrown t_taped t_p t_fault t_baseLow t_baseHigh t_newBaseLow t_newBaseHigh t_from t_knots t_lines t_chosen t_undos t_redos t_aimedMany t_fits t_fitOf t_sights t_systems t_own t_cross t_curveLong t_wallFirst), IA E 48 t_ways, JA E 48 t_grainSum] h) n (inJ r) 0 0) 0 0 n (ov [a_t, (a_t + 45), (a_t + 47)] [.inr (11, fsX11 a_t t_thrown t_taped t_p t_fault t_baseLow t_baseHigh t_newBaseLow t_newBaseHigh t_from t_knots t_lines t_chosen t_undos t_redos t_aimedMany t_fits t_fitOf t_sights t_systems t_own t_cross t_curveLong t_wallFirst), IA E 48 t_ways, JA E 48 t_grainSum] h) 87 [none, none, none, some (vJ v3_), none, none] []) :
    ∀ (F : Nat) (v3 : Int) (v5 : Int), inJ v3 → inI v5 → m_X11_form_27 t_systems t_ways t_grainSum v1 v2 k_87 F v3 v5 = some r → G l E b0 M_X11_form (fun _ => True) (ZM E b0 (some (vJ r)) (ov [a_t, (a_t + 45), (a_t + 47)] [.inr (11, fsX11 a_t t_thrown t_taped t_p t_fault t_baseLow t_baseHigh t_newBaseLow t_newBaseHigh t_from t_knots t_lines t_chosen t_undos t_redos t_aimedMany t_fits t_fitOf t_sights t_systems t_own t_cross t_curveLong t_wallFirst), IA E 48 t_ways, JA E 48 t_grainSum] h) n (inJ r) 0 0) 0 0 n (ov [a_t, (a_t + 45), (a_t + 47)] [.inr (11, fsX11 a_t t_thrown t_taped t_p t_fault t_baseLow t_baseHigh t_newBaseLow t_newBaseHigh t_from t_knots t_lines t_chosen t_undos t_redos t_aimedMany t_fits t_fitOf t_sights t_systems t_own t_cross t_curveLong t_wallFirst), IA E 48 t_ways, JA E 48 t_grainSum] h) 27 [some (.ref a_t), some (vI v1), some (vI v2), some (vJ v3), none, some (vI v5)] [] := by
  intro F
  induction F with
  | zero =>
    intro v3 v5 ok_v3 ok_v5 hs
    rw [m_X11_form_27] at hs
    cases hs
  | succ F ih =>
    intro v3 v5 ok_v3 ok_v5 hs
    rw [m_X11_form_27] at hs
    refine g_iload e_X11_form_27 rfl ?_
    refine g_aload_n e_X11_form_29 rfl ?_
    refine g_get 0 61 ao rfl rfl fsX11_g61 fl_X11_398 e_X11_form_30 ?_
    refine g_icmp_ge e_X11_form_33 ok_v5 ok_t_systems hs (fun c33 hs => ?_) (fun c33 hs => ?_)
    · refine g_lload_n e_X11_form_87 rfl ?_
      obtain rfl := Option.some.inj hs
      exact g_lret rfl ok_v3 e_X11_form_88
    · refine g_lload_n e_X11_form_36 rfl ?_
      refine g_aload_n e_X11_form_37 rfl ?_
      refine g_get 0 67 ao rfl rfl fsX11_g67 fl_X11_151 e_X11_form_38 ?_
      refine g_bipush e_X11_form_41 bp_6 ?_
      refine g_iload e_X11_form_43 rfl ?_
      refine g_imul e_X11_form_45 ?_
      refine g_iconst e_X11_form_46 ?_
      refine g_iadd e_X11_form_47 ?_
      refine g_lald 2 ao rfl rfl (Nat.le_of_ble_eq_true rfl) e_X11_form_48 hs (fun hi3 hs => ?_)
      refine g_aload_n e_X11_form_49 rfl ?_
      refine g_get 0 65 ao rfl rfl fsX11_g65 fl_X11_145 e_X11_form_50 ?_
      refine g_bipush e_X11_form_53 bp_6 ?_
      refine g_iload e_X11_form_55 rfl ?_
      refine g_imul e_X11_form_57 ?_
      refine g_iconst e_X11_form_58 ?_
      refine g_iadd e_X11_form_59 ?_
      refine g_iload_n e_X11_form_60 rfl ?_
      refine g_iadd e_X11_form_61 ?_
      refine g_iald 1 ao rfl rfl (Nat.le_of_ble_eq_true rfl) e_X11_form_62 hs (fun hi4 hs => ?_)
      refine g_i2l e_X11_form_63 (ok_t_ways _) ?_
      refine g_lmul e_X11_form_64 ?_
      refine g_aload_n e_X11_form_65 rfl ?_
      refine g_get 0 65 ao rfl rfl fsX11_g65 fl_X11_145 e_X11_form_66 ?_
      refine g_bipush e_X11_form_69 bp_6 ?_
      refine g_iload e_X11_form_71 rfl ?_
      refine g_imul e_X11_form_73 ?_
      refine g_iload_n e_X11_form_74 rfl ?_
      refine g_iadd e_X11_form_75 ?_
      refine g_iald 1 ao rfl rfl (Nat.le_of_ble_eq_true rfl) e_X11_form_76 hs (fun hi5 hs => ?_)
      refine g_i2l e_X11_form_77 (ok_t_ways _) ?_
      refine g_lmul e_X11_form_78 ?_
      refine g_ladd e_X11_form_79 ?_
      refine g_lstore_n e_X11_form_80 st2_3 rfl ?_
      refine g_iinc e_X11_form_81 rfl st1_5 rfl ?_
      refine g_goto e_X11_form_84 ?_
      obtain ⟨hc6, hs⟩ := chk_elim hs
      obtain ⟨hc7, hs⟩ := chk_elim hs
      exact ih _ _ hc6 hc7 hs

noncomputable def m_X11_form_87 (v3 : Int) : Option (Int) :=
  some (v3)

set_option maxRecDepth 10000 in
set_option maxHeartbeats 8000000 in
theorem g_X11_form_87 {l : Launch} {E : EE} {b0 n : Nat} {h : AH} {a_t : Nat} {t_thrown t_taped t_p t_fault t_baseLow t_baseHigh t_newBaseLow t_newBaseHigh t_from t_knots t_lines t_chosen t_undos t_redos t_aimedMany t_fits t_fitOf t_sights t_systems t_own t_cross t_curveLong t_wallFirst v3 : Int} {t_ways t_grainSum : Nat → Int} {r : Int} (ao : AO b0 n [a_t, (a_t + 45), (a_t + 47)]) (ok_t_systems : inI t_systems) (ok_t_ways : okA t_ways) (ok_t_grainSum : okJ t_grainSum) (ok_v3 : inJ v3) (hs : m_X11_form_87 v3 = some r) : G l E b0 M_X11_form (fun _ => True) (ZM E b0 (some (vJ r)) (ov [a_t, (a_t + 45), (a_t + 47)] [.inr (11, fsX11 a_t t_thrown t_taped t_p t_fault t_baseLow t_baseHigh t_newBaseLow t_newBaseHigh t_from t_knots t_lines t_chosen t_undos t_redos t_aimedMany t_fits t_fitOf t_sights t_systems t_own t_cross t_curveLong t_wallFirst), IA E 48 t_ways, JA E 48 t_grainSum] h) n (inJ r) 0 0) 0 0 n (ov [a_t, (a_t + 45), (a_t + 47)] [.inr (11, fsX11 a_t t_thrown t_taped t_p t_fault t_baseLow t_baseHigh t_newBaseLow t_newBaseHigh t_from t_knots t_lines t_chosen t_undos t_redos t_aimedMany t_fits t_fitOf t_sights t_systems t_own t_cross t_curveLong t_wallFirst), IA E 48 t_ways, JA E 48 t_grainSum] h) 87 [none, none, none, some (vJ v3), none, none] [] := by
  rw [m_X11_form_87] at hs
  refine g_lload_n e_X11_form_87 rfl ?_
  obtain rfl := Option.some.inj hs
  exact g_lret rfl ok_v3 e_X11_form_88

noncomputable def m_X11_form_0 (t_systems : Int) (t_ways : Nat → Int) (t_grainSum : Nat → Int) (v1 : Int) (v2 : Int) : Option (Int) :=
  (m_X11_in v1 0 2).bind (fun y1 => if y1 = 0 then (some ((-1000000000000000))) else ((m_X11_in v2 0 2).bind (fun y2 => if y2 = 0 then (some ((-1000000000000000))) else (m_X11_form_27 t_systems t_ways t_grainSum v1 v2 (fun v3' v5' => m_X11_form_87 v3') FU 0 0))))

set_option maxRecDepth 10000 in
set_option maxHeartbeats 8000000 in
theorem g_X11_form_0 {l : Launch} {E : EE} {b0 n : Nat} {h : AH} {a_t : Nat} {t_thrown t_taped t_p t_fault t_baseLow t_baseHigh t_newBaseLow t_newBaseHigh t_from t_knots t_lines t_chosen t_undos t_redos t_aimedMany t_fits t_fitOf t_sights t_systems t_own t_cross t_curveLong t_wallFirst v1 v2 : Int} {t_ways t_grainSum : Nat → Int} {r : Int} (ao : AO b0 n [a_t, (a_t + 45), (a_t + 47)]) (ok_t_systems : inI t_systems) (ok_t_ways : okA t_ways) (ok_t_grainSum : okJ t_grainSum) (ok_v1 : inI v1) (ok_v2 : inI v2) (hs : m_X11_form_0 t_systems t_ways t_grainSum v1 v2 = some r) : G l E b0 M_X11_form (fun _ => True) (ZM E b0 (some (vJ r)) (ov [a_t, (a_t + 45), (a_t + 47)] [.inr (11, fsX11 a_t t_thrown t_taped t_p t_fault t_baseLow t_baseHigh t_newBaseLow t_newBaseHigh t_from t_knots t_lines t_chosen t_undos t_redos t_aimedMany t_fits t_fitOf t_sights t_systems t_own t_cross t_curveLong t_wallFirst), IA E 48 t_ways, JA E 48 t_grainSum] h) n (inJ r) 0 0) 0 0 n (ov [a_t, (a_t + 45), (a_t + 47)] [.inr (11, fsX11 a_t t_thrown t_taped t_p t_fault t_baseLow t_baseHigh t_newBaseLow t_newBaseHigh t_from t_knots t_lines t_chosen t_undos t_redos t_aimedMany t_fits t_fitOf t_sights t_systems t_own t_cross t_curveLong t_wallFirst), IA E 48 t_ways, JA E 48 t_grainSum] h) 0 [some (.ref a_t), some (vI v1), some (vI v2), none, none, none] [] := by
  rw [m_X11_form_0] at hs
  refine g_iload_n e_X11_form_0 rfl ?_
  refine g_iconst e_X11_form_1 ?_
  refine g_iconst e_X11_form_2 ?_
  obtain ⟨y1, hy1, hs⟩ := bind_elim hs
  refine g_callSr [vI v1, vI 0, vI 2] cs_X11_226 ⟨rfl, rfl, Nat.le_of_ble_eq_true rfl, Nat.le_of_ble_eq_true rfl⟩ (ct_X11_in ⟨List.nodup_nil, fun i a h => by simp at h⟩ (fun i a e h => by simp at h) ok_v1 (by decide : inI 0) (by decide : inI 2) hy1) e_X11_form_3 rfl rfl (Nat.le_of_ble_eq_true rfl) ⟨Nat.le_refl _, Nat.le_refl _⟩ (fun Py1 => ?_)
  refine g_if_eq e_X11_form_6 (inZ_I Py1) hs (fun c6 hs => ?_) (fun c6 hs => ?_)
  · refine g_ldc2 (a := -1000000000000000) e_X11_form_18 k_X11_437 ?_
    obtain rfl := Option.some.inj hs
    exact g_lret rfl (by decide : inJ (-1000000000000000)) e_X11_form_21
  · refine g_iload_n e_X11_form_9 rfl ?_
    refine g_iconst e_X11_form_10 ?_
    refine g_iconst e_X11_form_11 ?_
    obtain ⟨y2, hy2, hs⟩ := bind_elim hs
    refine g_callSr [vI v2, vI 0, vI 2] cs_X11_226 ⟨rfl, rfl, Nat.le_of_ble_eq_true rfl, Nat.le_of_ble_eq_true rfl⟩ (ct_X11_in ⟨List.nodup_nil, fun i a h => by simp at h⟩ (fun i a e h => by simp at h) ok_v2 (by decide : inI 0) (by decide : inI 2) hy2) e_X11_form_12 rfl rfl (Nat.le_of_ble_eq_true rfl) ⟨Nat.le_refl _, Nat.le_refl _⟩ (fun Py2 => ?_)
    refine g_if_ne e_X11_form_15 (inZ_I Py2) hs (fun c15 hs => ?_) (fun c15 hs => ?_)
    · refine g_ldc2 (a := -1000000000000000) e_X11_form_18 k_X11_437 ?_
      obtain rfl := Option.some.inj hs
      exact g_lret rfl (by decide : inJ (-1000000000000000)) e_X11_form_21
    · refine g_lconst (a := 0) e_X11_form_22 rfl ?_
      refine g_lstore_n e_X11_form_23 st2_3 rfl ?_
      refine g_iconst e_X11_form_24 ?_
      refine g_istore e_X11_form_25 st1_5 rfl ?_
      exact g_X11_form_27 ao ok_t_systems ok_t_ways ok_t_grainSum ok_v1 ok_v2 (hk_87 := by
      intro v3' v5' ok_v3' ok_v5' hs
      exact g_X11_form_87 ao ok_t_systems ok_t_ways ok_t_grainSum ok_v3' hs) FU _ _ (by decide : inJ 0) (by decide : inI 0) hs

noncomputable def m_X11_form (t_systems : Int) (t_ways : Nat → Int) (t_grainSum : Nat → Int) (v1 : Int) (v2 : Int) : Option (Int) := m_X11_form_0 t_systems t_ways t_grainSum v1 v2

set_option maxRecDepth 10000 in
set_option maxHeartbeats 8000000 in
theorem ct_X11_form {l : Launch} {E : EE} {b0 n : Nat} {h : AH} {a_t : Nat} {t_thrown t_taped t_p t_fault t_baseLow t_baseHigh t_newBaseLow t_newBaseHigh t_from t_knots t_lines t_chosen t_undos t_redos t_aimedMany t_fits t_fitOf t_sights t_systems t_own t_cross t_curveLong t_wallFirst : Int} {t_ways t_grainSum : Nat → Int} {v1 v2 : Int} (ao : AO b0 n [a_t, (a_t + 45), (a_t + 47)]) (hf : FA h [a_t, (a_t + 45), (a_t + 47)] [.inr (11, fsX11 a_t t_thrown t_taped t_p t_fault t_baseLow t_baseHigh t_newBaseLow t_newBaseHigh t_from t_knots t_lines t_chosen t_undos t_redos t_aimedMany t_fits t_fitOf t_sights t_systems t_own t_cross t_curveLong t_wallFirst), IA E 48 t_ways, JA E 48 t_grainSum]) (ok_t_systems : inI t_systems) (ok_t_ways : okA t_ways) (ok_t_grainSum : okJ t_grainSum) (ok_v1 : inI v1) (ok_v2 : inI v2) {r : Int} (hm : m_X11_form t_systems t_ways t_grainSum v1 v2 = some r) : Ct l E b0 M_X11_form 0 0 [.ref a_t, vI v1, vI v2] h n (some (vJ r)) h n (inJ r) := by
  rw [m_X11_form] at hm
  have hg : G l E b0 M_X11_form (fun _ => True) (ZM E b0 (some (vJ r)) (ov [a_t, (a_t + 45), (a_t + 47)] [.inr (11, fsX11 a_t t_thrown t_taped t_p t_fault t_baseLow t_baseHigh t_newBaseLow t_newBaseHigh t_from t_knots t_lines t_chosen t_undos t_redos t_aimedMany t_fits t_fitOf t_sights t_systems t_own t_cross t_curveLong t_wallFirst), IA E 48 t_ways, JA E 48 t_grainSum] h) n (inJ r) 0 0) 0 0 n (ov [a_t, (a_t + 45), (a_t + 47)] [.inr (11, fsX11 a_t t_thrown t_taped t_p t_fault t_baseLow t_baseHigh t_newBaseLow t_newBaseHigh t_from t_knots t_lines t_chosen t_undos t_redos t_aimedMany t_fits t_fitOf t_sights t_systems t_own t_cross t_curveLong t_wallFirst), IA E 48 t_ways, JA E 48 t_grainSum] h) 0 [some (.ref a_t), some (vI v1), some (vI v2), none, none, none] [] := by
    have hs := hm
    exact g_X11_form_0 ao ok_t_systems ok_t_ways ok_t_grainSum ok_v1 ok_v2 hs
  rw [FA_id hf] at hg
  exact Ct_of [some (.ref a_t), some (vI v1), some (vI v2), none, none, none] ⟨by decide +kernel, rfl⟩ rfl (Nat.le_of_ble_eq_true rfl) hg

/-! ===== X11_wallFrom ===== -/
theorem e_X11_wallFrom_0 : DC cX11_wallFrom 0 (.aload_n 0) 1 1 := ⟨by decide +kernel, rfl⟩
theorem e_X11_wallFrom_1 : DC cX11_wallFrom 1 (.getfield 142) 3 4 := ⟨by decide +kernel, rfl⟩
theorem e_X11_wallFrom_4 : DC cX11_wallFrom 4 (.bipush 100) 2 6 := ⟨by decide +kernel, rfl⟩
theorem e_X11_wallFrom_6 : DC cX11_wallFrom 6 (.iload_n 1) 1 7 := ⟨by decide +kernel, rfl⟩
theorem e_X11_wallFrom_7 : DC cX11_wallFrom 7 (.imul) 1 8 := ⟨by decide +kernel, rfl⟩
theorem e_X11_wallFrom_8 : DC cX11_wallFrom 8 (.iload_n 2) 1 9 := ⟨by decide +kernel, rfl⟩
theorem e_X11_wallFrom_9 : DC cX11_wallFrom 9 (.iadd) 1 10 := ⟨by decide +kernel, rfl⟩
theorem e_X11_wallFrom_10 : DC cX11_wallFrom 10 (.iaload) 1 11 := ⟨by decide +kernel, rfl⟩
theorem e_X11_wallFrom_11 : DB cX11_wallFrom 11 (.ifCond .ne 7) (7) 3 14 18 := ⟨by decide +kernel, rfl, rfl⟩
theorem e_X11_wallFrom_14 : DC cX11_wallFrom 14 (.iconst 0) 1 15 := ⟨by decide +kernel, rfl⟩
theorem e_X11_wallFrom_15 : DB cX11_wallFrom 15 (.goto 4) (4) 3 18 19 := ⟨by decide +kernel, rfl, rfl⟩
theorem e_X11_wallFrom_18 : DC cX11_wallFrom 18 (.iconst 1) 1 19 := ⟨by decide +kernel, rfl⟩
theorem e_X11_wallFrom_19 : DC cX11_wallFrom 19 (.istore_n 3) 1 20 := ⟨by decide +kernel, rfl⟩
theorem e_X11_wallFrom_20 : DC cX11_wallFrom 20 (.iload_n 3) 1 21 := ⟨by decide +kernel, rfl⟩
theorem e_X11_wallFrom_21 : DB cX11_wallFrom 21 (.ifCond .le 7) (7) 3 24 28 := ⟨by decide +kernel, rfl, rfl⟩
theorem e_X11_wallFrom_24 : DC cX11_wallFrom 24 (.iconst 1) 1 25 := ⟨by decide +kernel, rfl⟩
theorem e_X11_wallFrom_25 : DB cX11_wallFrom 25 (.goto 4) (4) 3 28 29 := ⟨by decide +kernel, rfl, rfl⟩
theorem e_X11_wallFrom_28 : DC cX11_wallFrom 28 (.iconst 0) 1 29 := ⟨by decide +kernel, rfl⟩
theorem e_X11_wallFrom_29 : DC cX11_wallFrom 29 (.istore 4) 2 31 := ⟨by decide +kernel, rfl⟩
theorem e_X11_wallFrom_31 : DC cX11_wallFrom 31 (.iload_n 1) 1 32 := ⟨by decide +kernel, rfl⟩
theorem e_X11_wallFrom_32 : DC cX11_wallFrom 32 (.iconst 1) 1 33 := ⟨by decide +kernel, rfl⟩
theorem e_X11_wallFrom_33 : DC cX11_wallFrom 33 (.iadd) 1 34 := ⟨by decide +kernel, rfl⟩
theorem e_X11_wallFrom_34 : DC cX11_wallFrom 34 (.istore 5) 2 36 := ⟨by decide +kernel, rfl⟩
theorem e_X11_wallFrom_36 : DC cX11_wallFrom 36 (.iload 5) 2 38 := ⟨by decide +kernel, rfl⟩
theorem e_X11_wallFrom_38 : DC cX11_wallFrom 38 (.aload_n 0) 1 39 := ⟨by decide +kernel, rfl⟩
theorem e_X11_wallFrom_39 : DC cX11_wallFrom 39 (.getfield 398) 3 42 := ⟨by decide +kernel, rfl⟩
theorem e_X11_wallFrom_42 : DB cX11_wallFrom 42 (.if_icmp .ge 116) (116) 3 45 158 := ⟨by decide +kernel, rfl, rfl⟩
theorem e_X11_wallFrom_45 : DC cX11_wallFrom 45 (.iload 4) 2 47 := ⟨by decide +kernel, rfl⟩
theorem e_X11_wallFrom_47 : DB cX11_wallFrom 47 (.ifCond .eq 111) (111) 3 50 158 := ⟨by decide +kernel, rfl, rfl⟩
theorem e_X11_wallFrom_50 : DC cX11_wallFrom 50 (.aload_n 0) 1 51 := ⟨by decide +kernel, rfl⟩
theorem e_X11_wallFrom_51 : DC cX11_wallFrom 51 (.getfield 142) 3 54 := ⟨by decide +kernel, rfl⟩
theorem e_X11_wallFrom_54 : DC cX11_wallFrom 54 (.bipush 100) 2 56 := ⟨by decide +kernel, rfl⟩
theorem e_X11_wallFrom_56 : DC cX11_wallFrom 56 (.iload 5) 2 58 := ⟨by decide +kernel, rfl⟩
theorem e_X11_wallFrom_58 : DC cX11_wallFrom 58 (.imul) 1 59 := ⟨by decide +kernel, rfl⟩
theorem e_X11_wallFrom_59 : DC cX11_wallFrom 59 (.iload_n 2) 1 60 := ⟨by decide +kernel, rfl⟩
theorem e_X11_wallFrom_60 : DC cX11_wallFrom 60 (.iadd) 1 61 := ⟨by decide +kernel, rfl⟩
theorem e_X11_wallFrom_61 : DC cX11_wallFrom 61 (.iaload) 1 62 := ⟨by decide +kernel, rfl⟩
theorem e_X11_wallFrom_62 : DC cX11_wallFrom 62 (.aload_n 0) 1 63 := ⟨by decide +kernel, rfl⟩
theorem e_X11_wallFrom_63 : DC cX11_wallFrom 63 (.getfield 142) 3 66 := ⟨by decide +kernel, rfl⟩
theorem e_X11_wallFrom_66 : DC cX11_wallFrom 66 (.bipush 100) 2 68 := ⟨by decide +kernel, rfl⟩
theorem e_X11_wallFrom_68 : DC cX11_wallFrom 68 (.iload_n 1) 1 69 := ⟨by decide +kernel, rfl⟩
theorem e_X11_wallFrom_69 : DC cX11_wallFrom 69 (.imul) 1 70 := ⟨by decide +kernel, rfl⟩
theorem e_X11_wallFrom_70 : DC cX11_wallFrom 70 (.iload_n 2) 1 71 := ⟨by decide +kernel, rfl⟩
theorem e_X11_wallFrom_71 : DC cX11_wallFrom 71 (.iadd) 1 72 := ⟨by decide +kernel, rfl⟩
theorem e_X11_wallFrom_72 : DC cX11_wallFrom 72 (.iaload) 1 73 := ⟨by decide +kernel, rfl⟩
theorem e_X11_wallFrom_73 : DB cX11_wallFrom 73 (.if_icmp .ne 7) (7) 3 76 80 := ⟨by decide +kernel, rfl, rfl⟩
theorem e_X11_wallFrom_76 : DC cX11_wallFrom 76 (.iconst 1) 1 77 := ⟨by decide +kernel, rfl⟩
theorem e_X11_wallFrom_77 : DB cX11_wallFrom 77 (.goto 4) (4) 3 80 81 := ⟨by decide +kernel, rfl, rfl⟩
theorem e_X11_wallFrom_80 : DC cX11_wallFrom 80 (.iconst 0) 1 81 := ⟨by decide +kernel, rfl⟩
theorem e_X11_wallFrom_81 : DC cX11_wallFrom 81 (.istore 4) 2 83 := ⟨by decide +kernel, rfl⟩
theorem e_X11_wallFrom_83 : DC cX11_wallFrom 83 (.iconst 0) 1 84 := ⟨by decide +kernel, rfl⟩
theorem e_X11_wallFrom_84 : DC cX11_wallFrom 84 (.istore 6) 2 86 := ⟨by decide +kernel, rfl⟩
theorem e_X11_wallFrom_86 : DC cX11_wallFrom 86 (.iload 6) 2 88 := ⟨by decide +kernel, rfl⟩
theorem e_X11_wallFrom_88 : DC cX11_wallFrom 88 (.bipush 6) 2 90 := ⟨by decide +kernel, rfl⟩
theorem e_X11_wallFrom_90 : DB cX11_wallFrom 90 (.if_icmp .ge 49) (49) 3 93 139 := ⟨by decide +kernel, rfl, rfl⟩
theorem e_X11_wallFrom_93 : DC cX11_wallFrom 93 (.iload 4) 2 95 := ⟨by decide +kernel, rfl⟩
theorem e_X11_wallFrom_95 : DB cX11_wallFrom 95 (.ifCond .eq 35) (35) 3 98 130 := ⟨by decide +kernel, rfl, rfl⟩
theorem e_X11_wallFrom_98 : DC cX11_wallFrom 98 (.aload_n 0) 1 99 := ⟨by decide +kernel, rfl⟩
theorem e_X11_wallFrom_99 : DC cX11_wallFrom 99 (.getfield 145) 3 102 := ⟨by decide +kernel, rfl⟩
theorem e_X11_wallFrom_102 : DC cX11_wallFrom 102 (.bipush 6) 2 104 := ⟨by decide +kernel, rfl⟩
theorem e_X11_wallFrom_104 : DC cX11_wallFrom 104 (.iload 5) 2 106 := ⟨by decide +kernel, rfl⟩
theorem e_X11_wallFrom_106 : DC cX11_wallFrom 106 (.imul) 1 107 := ⟨by decide +kernel, rfl⟩
theorem e_X11_wallFrom_107 : DC cX11_wallFrom 107 (.iload 6) 2 109 := ⟨by decide +kernel, rfl⟩
theorem e_X11_wallFrom_109 : DC cX11_wallFrom 109 (.iadd) 1 110 := ⟨by decide +kernel, rfl⟩
theorem e_X11_wallFrom_110 : DC cX11_wallFrom 110 (.iaload) 1 111 := ⟨by decide +kernel, rfl⟩
theorem e_X11_wallFrom_111 : DC cX11_wallFrom 111 (.aload_n 0) 1 112 := ⟨by decide +kernel, rfl⟩
theorem e_X11_wallFrom_112 : DC cX11_wallFrom 112 (.getfield 145) 3 115 := ⟨by decide +kernel, rfl⟩
theorem e_X11_wallFrom_115 : DC cX11_wallFrom 115 (.bipush 6) 2 117 := ⟨by decide +kernel, rfl⟩
theorem e_X11_wallFrom_117 : DC cX11_wallFrom 117 (.iload_n 1) 1 118 := ⟨by decide +kernel, rfl⟩
theorem e_X11_wallFrom_118 : DC cX11_wallFrom 118 (.imul) 1 119 := ⟨by decide +kernel, rfl⟩
theorem e_X11_wallFrom_119 : DC cX11_wallFrom 119 (.iload 6) 2 121 := ⟨by decide +kernel, rfl⟩
theorem e_X11_wallFrom_121 : DC cX11_wallFrom 121 (.iadd) 1 122 := ⟨by decide +kernel, rfl⟩
theorem e_X11_wallFrom_122 : DC cX11_wallFrom 122 (.iaload) 1 123 := ⟨by decide +kernel, rfl⟩
theorem e_X11_wallFrom_123 : DB cX11_wallFrom 123 (.if_icmp .ne 7) (7) 3 126 130 := ⟨by decide +kernel, rfl, rfl⟩
theorem e_X11_wallFrom_126 : DC cX11_wallFrom 126 (.iconst 1) 1 127 := ⟨by decide +kernel, rfl⟩
theorem e_X11_wallFrom_127 : DB cX11_wallFrom 127 (.goto 4) (4) 3 130 131 := ⟨by decide +kernel, rfl, rfl⟩
theorem e_X11_wallFrom_130 : DC cX11_wallFrom 130 (.iconst 0) 1 131 := ⟨by decide +kernel, rfl⟩
theorem e_X11_wallFrom_131 : DC cX11_wallFrom 131 (.istore 4) 2 133 := ⟨by decide +kernel, rfl⟩
theorem e_X11_wallFrom_133 : DC cX11_wallFrom 133 (.iinc 6 1) 3 136 := ⟨by decide +kernel, rfl⟩
theorem e_X11_wallFrom_136 : DB cX11_wallFrom 136 (.goto (-50)) (-50) 3 139 86 := ⟨by decide +kernel, rfl, rfl⟩
theorem e_X11_wallFrom_139 : DC cX11_wallFrom 139 (.iload_n 3) 1 140 := ⟨by decide +kernel, rfl⟩
theorem e_X11_wallFrom_140 : DC cX11_wallFrom 140 (.iload 4) 2 142 := ⟨by decide +kernel, rfl⟩
theorem e_X11_wallFrom_142 : DB cX11_wallFrom 142 (.ifCond .eq 7) (7) 3 145 149 := ⟨by decide +kernel, rfl, rfl⟩
theorem e_X11_wallFrom_145 : DC cX11_wallFrom 145 (.iconst 1) 1 146 := ⟨by decide +kernel, rfl⟩
theorem e_X11_wallFrom_146 : DB cX11_wallFrom 146 (.goto 4) (4) 3 149 150 := ⟨by decide +kernel, rfl, rfl⟩
theorem e_X11_wallFrom_149 : DC cX11_wallFrom 149 (.iconst 0) 1 150 := ⟨by decide +kernel, rfl⟩
theorem e_X11_wallFrom_150 : DC cX11_wallFrom 150 (.iadd) 1 151 := ⟨by decide +kernel, rfl⟩
theorem e_X11_wallFrom_151 : DC cX11_wallFrom 151 (.istore_n 3) 1 152 := ⟨by decide +kernel, rfl⟩
theorem e_X11_wallFrom_152 : DC cX11_wallFrom 152 (.iinc 5 1) 3 155 := ⟨by decide +kernel, rfl⟩
theorem e_X11_wallFrom_155 : DB cX11_wallFrom 155 (.goto (-119)) (-119) 3 158 36 := ⟨by decide +kernel, rfl, rfl⟩
theorem e_X11_wallFrom_158 : DC cX11_wallFrom 158 (.iload_n 3) 1 159 := ⟨by decide +kernel, rfl⟩
theorem e_X11_wallFrom_159 : DC cX11_wallFrom 159 (.ireturn) 1 160 := ⟨by decide +kernel, rfl⟩
noncomputable def m_X11_wallFrom_131 (t_ways : Nat → Int) (v1 : Int) (v5 : Int) (v6 : Int) (s0 : Int) (ag : Int → Int → Option (Int)) (k_139 : Int → Int → Option (Int)) : Option (Int) :=
  chk (inI (v6 + 1)) (ag s0 (v6 + 1))

set_option maxRecDepth 10000 in
set_option maxHeartbeats 8000000 in
theorem g_X11_wallFrom_131 {l : Launch} {E : EE} {b0 n : Nat} {h : AH} {a_t : Nat} {t_thrown t_taped t_p t_fault t_baseLow t_baseHigh t_newBaseLow t_newBaseHigh t_from t_knots t_lines t_chosen t_undos t_redos t_aimedMany t_fits t_fitOf t_sights t_systems t_own t_cross t_curveLong t_wallFirst v1 v2 v3 v5 v6 s0 : Int} {t_grain t_ways : Nat → Int} {r : Int} {ag : Int → Int → Option (Int)} {k_139 : Int → Int → Option (Int)} (ao : AO b0 n [a_t, (a_t + 44), (a_t + 45)]) (ok_t_systems : inI t_systems) (ok_t_grain : okA t_grain) (ok_t_ways : okA t_ways) (ok_v1 : inI v1) (ok_v2 : inI v2) (ok_v3 : inI v3) (ok_v5 : inI v5) (ok_v6 : inI v6) (ok_s0 : inZ s0) (hag : ∀ (v4_ : Int) (v6_ : Int), inZ v4_ → inI v6_ → ag v4_ v6_ = some r → G l E b0 M_X11_wallFrom (fun _ => True) (ZM E b0 (some (vI r)) (ov [a_t, (a_t + 44), (a_t + 45)] [.inr (11, fsX11 a_t t_thrown t_taped t_p t_fault t_baseLow t_baseHigh t_newBaseLow t_newBaseHigh t_from t_knots t_lines t_chosen t_undos t_redos t_aimedMany t_fits t_fitOf t_sights t_systems t_own t_cross t_curveLong t_wallFirst), IA E 800 t_grain, IA E 48 t_ways] h) n (inI r) 0 0) 0 0 n (ov [a_t, (a_t + 44), (a_t + 45)] [.inr (11, fsX11 a_t t_thrown t_taped t_p t_fault t_baseLow t_baseHigh t_newBaseLow t_newBaseHigh t_from t_knots t_lines t_chosen t_undos t_redos t_aimedMany t_fits t_fitOf t_sights t_systems t_own t_cross t_curveLong t_wallFirst), IA E 800 t_grain, IA E 48 t_ways] h) 86 [some (.ref a_t), some (vI v1), some (vI v2), some (vI v3), some (vI v4_), some (vI v5), some (vI v6_)] []) (hk_139 : ∀ (v4_ : Int) (v6_ : Int), inZ v4_ → inI v6_ → k_139 v4_ v6_ = some r → G l E b0 M_X11_wallFrom (fun _ => True) (ZM E b0 (some (vI r)) (ov [a_t, (a_t + 44), (a_t + 45)] [.inr (11, fsX11 a_t t_thrown t_taped t_p t_fault t_baseLow t_baseHigh t_newBaseLow t_newBaseHigh t_from t_knots t_lines t_chosen t_undos t_redos t_aimedMany t_fits t_fitOf t_sights t_systems t_own t_cross t_curveLong t_wallFirst), IA E 800 t_grain, IA E 48 t_ways] h) n (inI r) 0 0) 0 0 n (ov [a_t, (a_t + 44), (a_t + 45)] [.inr (11, fsX11 a_t t_thrown t_taped t_p t_fault t_baseLow t_baseHigh t_newBaseLow t_newBaseHigh t_from t_knots t_lines t_chosen t_undos t_redos t_aimedMany t_fits t_fitOf t_sights t_systems t_own t_cross t_curveLong t_wallFirst), IA E 800 t_grain, IA E 48 t_ways] h) 139 [some (.ref a_t), some (vI v1), some (vI v2), some (vI v3), some (vI v4_), some (vI v5), none] []) (hs : m_X11_wallFrom_131 t_ways v1 v5 v6 s0 ag k_139 = some r) : G l E b0 M_X11_wallFrom (fun _ => True) (ZM E b0 (some (vI r)) (ov [a_t, (a_t + 44), (a_t + 45)] [.inr (11, fsX11 a_t t_thrown t_taped t_p t_fault t_baseLow t_baseHigh t_newBaseLow t_newBaseHigh t_from t_knots t_lines t_chosen t_undos t_redos t_aimedMany t_fits t_fitOf t_sights t_systems t_own t_cross t_curveLong t_wallFirst), IA E 800 t_grain, IA E 48 t_ways] h) n (inI r) 0 0) 0 0 n (ov [a_t, (a_t + 44), (a_t + 45)] [.inr (11, fsX11 a_t t_thrown t_taped t_p t_fault t_baseLow t_baseHigh t_newBaseLow t_newBaseHigh t_from t_knots t_lines t_chosen t_undos t_redos t_aimedMany t_fits t_fitOf t_sights t_systems t_own t_cross t_curveLong t_wallFirst), IA E 800 t_grain, IA E 48 t_ways] h) 131 [some (.ref a_t), some (vI v1), some (vI v2), some (vI v3), none, some (vI v5), some (vI v6)] [vI s0] := by
  rw [m_X11_wallFrom_131] at hs
  refine g_istore e_X11_wallFrom_131 st1_4 rfl ?_
  refine g_iinc e_X11_wallFrom_133 rfl st1_6 rfl ?_
  refine g_goto e_X11_wallFrom_136 ?_
  obtain ⟨hc4, hs⟩ := chk_elim hs
  exact hag _ _ ok_s0 hc4 hs

noncomputable def m_X11_wallFrom_130 (t_ways : Nat → Int) (v1 : Int) (v5 : Int) (v6 : Int) (ag : Int → Int → Option (Int)) (k_139 : Int → Int → Option (Int)) : Option (Int) :=
  m_X11_wallFrom_131 t_ways v1 v5 v6 0 ag k_139

set_option maxRecDepth 10000 in
set_option maxHeartbeats 8000000 in
theorem g_X11_wallFrom_130 {l : Launch} {E : EE} {b0 n : Nat} {h : AH} {a_t : Nat} {t_thrown t_taped t_p t_fault t_baseLow t_baseHigh t_newBaseLow t_newBaseHigh t_from t_knots t_lines t_chosen t_undos t_redos t_aimedMany t_fits t_fitOf t_sights t_systems t_own t_cross t_curveLong t_wallFirst v1 v2 v3 v5 v6 : Int} {t_grain t_ways : Nat → Int} {r : Int} {ag : Int → Int → Option (Int)} {k_139 : Int → Int → Option (Int)} (ao : AO b0 n [a_t, (a_t + 44), (a_t + 45)]) (ok_t_systems : inI t_systems) (ok_t_grain : okA t_grain) (ok_t_ways : okA t_ways) (ok_v1 : inI v1) (ok_v2 : inI v2) (ok_v3 : inI v3) (ok_v5 : inI v5) (ok_v6 : inI v6) (hag : ∀ (v4_ : Int) (v6_ : Int), inZ v4_ → inI v6_ → ag v4_ v6_ = some r → G l E b0 M_X11_wallFrom (fun _ => True) (ZM E b0 (some (vI r)) (ov [a_t, (a_t + 44), (a_t + 45)] [.inr (11, fsX11 a_t t_thrown t_taped t_p t_fault t_baseLow t_baseHigh t_newBaseLow t_newBaseHigh t_from t_knots t_lines t_chosen t_undos t_redos t_aimedMany t_fits t_fitOf t_sights t_systems t_own t_cross t_curveLong t_wallFirst), IA E 800 t_grain, IA E 48 t_ways] h) n (inI r) 0 0) 0 0 n (ov [a_t, (a_t + 44), (a_t + 45)] [.inr (11, fsX11 a_t t_thrown t_taped t_p t_fault t_baseLow t_baseHigh t_newBaseLow t_newBaseHigh t_from t_knots t_lines t_chosen t_undos t_redos t_aimedMany t_fits t_fitOf t_sights t_systems t_own t_cross t_curveLong t_wallFirst), IA E 800 t_grain, IA E 48 t_ways] h) 86 [some (.ref a_t), some (vI v1), some (vI v2), some (vI v3), some (vI v4_), some (vI v5), some (vI v6_)] []) (hk_139 : ∀ (v4_ : Int) (v6_ : Int), inZ v4_ → inI v6_ → k_139 v4_ v6_ = some r → G l E b0 M_X11_wallFrom (fun _ => True) (ZM E b0 (some (vI r)) (ov [a_t, (a_t + 44), (a_t + 45)] [.inr (11, fsX11 a_t t_thrown t_taped t_p t_fault t_baseLow t_baseHigh t_newBaseLow t_newBaseHigh t_from t_knots t_lines t_chosen t_undos t_redos t_aimedMany t_fits t_fitOf t_sights t_systems t_own t_cross t_curveLong t_wallFirst), IA E 800 t_grain, IA E 48 t_ways] h) n (inI r) 0 0) 0 0 n (ov [a_t, (a_t + 44), (a_t + 45)] [.inr (11, fsX11 a_t t_thrown t_taped t_p t_fault t_baseLow t_baseHigh t_newBaseLow t_newBaseHigh t_from t_knots t_lines t_chosen t_undos t_redos t_aimedMany t_fits t_fitOf t_sights t_systems t_own t_cross t_curveLong t_wallFirst), IA E 800 t_grain, IA E 48 t_ways] h) 139 [some (.ref a_t), some (vI v1), some (vI v2), some (vI v3), some (vI v4_), some (vI v5), none] []) (hs : m_X11_wallFrom_130 t_ways v1 v5 v6 ag k_139 = some r) : G l E b0 M_X11_wallFrom (fun _ => True) (ZM E b0 (some (vI r)) (ov [a_t, (a_t + 44), (a_t + 45)] [.inr (11, fsX11 a_t t_thrown t_taped t_p t_fault t_baseLow t_baseHigh t_newBaseLow t_newBaseHigh t_from t_knots t_lines t_chosen t_undos t_redos t_aimedMany t_fits t_fitOf t_sights t_systems t_own t_cross t_curveLong t_wallFirst), IA E 800 t_grain, IA E 48 t_ways] h) n (inI r) 0 0) 0 0 n (ov [a_t, (a_t + 44), (a_t + 45)] [.inr (11, fsX11 a_t t_thrown t_taped t_p t_fault t_baseLow t_baseHigh t_newBaseLow t_newBaseHigh t_from t_knots t_lines t_chosen t_undos t_redos t_aimedMany t_fits t_fitOf t_sights t_systems t_own t_cross t_curveLong t_wallFirst), IA E 800 t_grain, IA E 48 t_ways] h) 130 [some (.ref a_t), some (vI v1), some (vI v2), some (vI v3), none, some (vI v5), some (vI v6)] [] := by
  rw [m_X11_wallFrom_130] at hs
  refine g_iconst e_X11_wallFrom_130 ?_
  exact g_X11_wallFrom_131 ao ok_t_systems ok_t_grain ok_t_ways ok_v1 ok_v2 ok_v3 ok_v5 ok_v6 (by decide : inZ 0) hag hk_139 hs

noncomputable def m_X11_wallFrom_86 (t_ways : Nat → Int) (v1 : Int) (v5 : Int) (k_139 : Int → Int → Option (Int)) : Nat → Int → Int → Option (Int)
  | 0, _, _ => none
  | F + 1, v4, v6 => if 6 ≤ v6 then (k_139 v4 v6) else (if v4 = 0 then (m_X11_wallFrom_130 t_ways v1 v5 v6 (m_X11_wallFrom_86 t_ways v1 v5 k_139 F) k_139) else (chk (inB ((6 * v5) + v6) 48) (chk (inB ((6 * v1) + v6) 48) (if (t_ways (Int.toNat ((6 * v5) + v6))) = (t_ways (Int.toNat ((6 * v1) + v6))) then (m_X11_wallFrom_131 t_ways v1 v5 v6 1 (m_X11_wallFrom_86 t_ways v1 v5 k_139 F) k_139) else (m_X11_wallFrom_130 t_ways v1 v5 v6 (m_X11_wallFrom_86 t_ways v1 v5 k_139 F) k_139)))))

set_option maxRecDepth 10000 in
set_option maxHeartbeats 8000000 in
theorem g_X11_wallFrom_86 {l : Launch} {E : EE} {b0 n : Nat} {h : AH} {a_t : Nat} {t_thrown t_taped t_p t_fault t_baseLow t_baseHigh t_newBaseLow t_newBaseHigh t_from t_knots t_lines t_chosen t_undos t_redos t_aimedMany t_fits t_fitOf t_sights t_systems t_own t_cross t_curveLong t_wallFirst v1 v2 v3 v5 : Int} {t_grain t_ways : Nat → Int} {r : Int} {k_139 : Int → Int → Option (Int)} (ao : AO b0 n [a_t, (a_t + 44), (a_t + 45)]) (ok_t_systems : inI t_systems) (ok_t_grain : okA t_grain) (ok_t_ways : okA t_ways) (ok_v1 : inI v1) (ok_v2 : inI v2) (ok_v3 : inI v3) (ok_v5 : inI v5) (hk_139 : ∀ (v4_ : Int) (v6_ : Int), inZ v4_ → inI v6_ → k_139 v4_ v6_ = some r → G l E b0 M_X11_wallFrom (fun _ => True) (ZM E b0 (some (vI r)) (ov [a_t, (a_t + 44), (a_t + 45)] [.inr (11, fsX11 a_t t_thrown t_taped t_p t_fault t_baseLow t_baseHigh t_newBaseLow t_newBaseHigh t_from t_knots t_lines t_chosen t_undos t_redos t_aimedMany t_fits t_fitOf t_sights t_systems t_own t_cross t_curveLong t_wallFirst), IA E 800 t_grain, IA E 48 t_ways] h) n (inI r) 0 0) 0 0 n (ov [a_t, (a_t + 44), (a_t + 45)] [.inr (11, fsX11 a_t t_thrown t_taped t_p t_fault t_baseLow t_baseHigh t_newBaseLow t_newBaseHigh t_from t_knots t_lines t_chosen t_undos t_redos t_aimedMany t_fits t_fitOf t_sights t_systems t_own t_cross t_curveLong t_wallFirst), IA E 800 t_grain, IA E 48 t_ways] h) 139 [some (.ref a_t), some (vI v1), some (vI v2), some (vI v3), some (vI v4_), some (vI v5), none] []) :
    ∀ (F : Nat) (v4 : Int) (v6 : Int), inZ v4 → inI v6 → m_X11_wallFrom_86 t_ways v1 v5 k_139 F v4 v6 = some r → G l E b0 M_X11_wallFrom (fun _ => True) (ZM E b0 (some (vI r)) (ov [a_t, (a_t + 44), (a_t + 45)] [.inr (11, fsX11 a_t t_thrown t_taped t_p t_fault t_baseLow t_baseHigh t_newBaseLow t_newBaseHigh t_from t_knots t_lines t_chosen t_undos t_redos t_aimedMany t_fits t_fitOf t_sights t_systems t_own t_cross t_curveLong t_wallFirst), IA E 800 t_grain, IA E 48 t_ways] h) n (inI r) 0 0) 0 0 n (ov [a_t, (a_t + 44), (a_t + 45)] [.inr (11, fsX11 a_t t_thrown t_taped t_p t_fault t_baseLow t_baseHigh t_newBaseLow t_newBaseHigh t_from t_knots t_lines t_chosen t_undos t_redos t_aimedMany t_fits t_fitOf t_sights t_systems t_own t_cross t_curveLong t_wallFirst), IA E 800 t_grain, IA E 48 t_ways] h) 86 [some (.ref a_t), some (vI v1), some (vI v2), some (vI v3), some (vI v4), some (vI v5), some (vI v6)] [] := by
  intro F
  induction F with
  | zero =>
    intro v4 v6 ok_v4 ok_v6 hs
    rw [m_X11_wallFrom_86] at hs
    cases hs
  | succ F ih =>
    intro v4 v6 ok_v4 ok_v6 hs
    rw [m_X11_wallFrom_86] at hs
    refine g_iload e_X11_wallFrom_86 rfl ?_
    refine g_bipush e_X11_wallFrom_88 bp_6 ?_
    refine g_icmp_ge e_X11_wallFrom_90 ok_v6 (by decide : inI 6) hs (fun c90 hs => ?_) (fun c90 hs => ?_)
    · exact g_mask [true, true, true, true, true, true, false] (hk_139 _ _ ok_v4 ok_v6 hs)
    · refine g_iload e_X11_wallFrom_93 rfl ?_
      refine g_if_eq e_X11_wallFrom_95 (inZ_I ok_v4) hs (fun c95 hs => ?_) (fun c95 hs => ?_)
      · exact g_mask [true, true, true, true, false, true, true] (g_X11_wallFrom_130 ao ok_t_systems ok_t_grain ok_t_ways ok_v1 ok_v2 ok_v3 ok_v5 ok_v6 ih hk_139 hs)
      · refine g_aload_n e_X11_wallFrom_98 rfl ?_
        refine g_get 0 65 ao rfl rfl fsX11_g65 fl_X11_145 e_X11_wallFrom_99 ?_
        refine g_bipush e_X11_wallFrom_102 bp_6 ?_
        refine g_iload e_X11_wallFrom_104 rfl ?_
        refine g_imul e_X11_wallFrom_106 ?_
        refine g_iload e_X11_wallFrom_107 rfl ?_
        refine g_iadd e_X11_wallFrom_109 ?_
        refine g_iald 2 ao rfl rfl (Nat.le_of_ble_eq_true rfl) e_X11_wallFrom_110 hs (fun hi5 hs => ?_)
        refine g_aload_n e_X11_wallFrom_111 rfl ?_
        refine g_get 0 65 ao rfl rfl fsX11_g65 fl_X11_145 e_X11_wallFrom_112 ?_
        refine g_bipush e_X11_wallFrom_115 bp_6 ?_
        refine g_iload_n e_X11_wallFrom_117 rfl ?_
        refine g_imul e_X11_wallFrom_118 ?_
        refine g_iload e_X11_wallFrom_119 rfl ?_
        refine g_iadd e_X11_wallFrom_121 ?_
        refine g_iald 2 ao rfl rfl (Nat.le_of_ble_eq_true rfl) e_X11_wallFrom_122 hs (fun hi6 hs => ?_)
        refine g_icmp_ne e_X11_wallFrom_123 (ok_t_ways _) (ok_t_ways _) hs (fun c123 hs => ?_) (fun c123 hs => ?_)
        · refine g_iconst e_X11_wallFrom_126 ?_
          refine g_goto e_X11_wallFrom_127 ?_
          exact g_mask [true, true, true, true, false, true, true] (g_X11_wallFrom_131 ao ok_t_systems ok_t_grain ok_t_ways ok_v1 ok_v2 ok_v3 ok_v5 ok_v6 (by decide : inZ 1) ih hk_139 hs)
        · exact g_mask [true, true, true, true, false, true, true] (g_X11_wallFrom_130 ao ok_t_systems ok_t_grain ok_t_ways ok_v1 ok_v2 ok_v3 ok_v5 ok_v6 ih hk_139 hs)

noncomputable def m_X11_wallFrom_150 (t_systems : Int) (t_grain : Nat → Int) (t_ways : Nat → Int) (v1 : Int) (v2 : Int) (v4 : Int) (v5 : Int) (s0 : Int) (s1 : Int) (ag : Int → Int → Int → Option (Int)) (k_158 : Int → Int → Int → Option (Int)) : Option (Int) :=
  chk (inI (s0 + s1)) (chk (inI (v5 + 1)) (ag (s0 + s1) v4 (v5 + 1)))

set_option maxRecDepth 10000 in
set_option maxHeartbeats 8000000 in
theorem g_X11_wallFrom_150 {l : Launch} {E : EE} {b0 n : Nat} {h : AH} {a_t : Nat} {t_thrown t_taped t_p t_fault t_baseLow t_baseHigh t_newBaseLow t_newBaseHigh t_from t_knots t_lines t_chosen t_undos t_redos t_aimedMany t_fits t_fitOf t_sights t_systems t_own t_cross t_curveLong t_wallFirst v1 v2 v4 v5 s0 s1 : Int} {t_grain t_ways : Nat → Int} {r : Int} {ag : Int → Int → Int → Option (Int)} {k_158 : Int → Int → Int → Option (Int)} (ao : AO b0 n [a_t, (a_t + 44), (a_t + 45)]) (ok_t_systems : inI t_systems) (ok_t_grain : okA t_grain) (ok_t_ways : okA t_ways) (ok_v1 : inI v1) (ok_v2 : inI v2) (ok_v4 : inZ v4) (ok_v5 : inI v5) (ok_s0 : inI s0) (ok_s1 : inZ s1) (hag : ∀ (v3_ : Int) (v4_ : Int) (v5_ : Int), inI v3_ → inZ v4_ → inI v5_ → ag v3_ v4_ v5_ = some r → G l E b0 M_X11_wallFrom (fun _ => True) (ZM E b0 (some (vI r)) (ov [a_t, (a_t + 44), (a_t + 45)] [.inr (11, fsX11 a_t t_thrown t_taped t_p t_fault t_baseLow t_baseHigh t_newBaseLow t_newBaseHigh t_from t_knots t_lines t_chosen t_undos t_redos t_aimedMany t_fits t_fitOf t_sights t_systems t_own t_cross t_curveLong t_wallFirst), IA E 800 t_grain, IA E 48 t_ways] h) n (inI r) 0 0) 0 0 n (ov [a_t, (a_t + 44), (a_t + 45)] [.inr (11, fsX11 a_t t_thrown t_taped t_p t_fault t_baseLow t_baseHigh t_newBaseLow t_newBaseHigh t_from t_knots t_lines t_chosen t_undos t_redos t_aimedMany t_fits t_fitOf t_sights t_systems t_own t_cross t_curveLong t_wallFirst), IA E 800 t_grain, IA E 48 t_ways] h) 36 [some (.ref a_t), some (vI v1), some (vI v2), some (vI v3_), some (vI v4_), some (vI v5_), none] []) (hk_158 : ∀ (v3_ : Int) (v4_ : Int) (v5_ : Int), inI v3_ → inZ v4_ → inI v5_ → k_158 v3_ v4_ v5_ = some r → G l E b0 M_X11_wallFrom (fun _ => True) (ZM E b0 (some (vI r)) (ov [a_t, (a_t + 44), (a_t + 45)] [.inr (11, fsX11 a_t t_thrown t_taped t_p t_fault t_baseLow t_baseHigh t_newBaseLow t_newBaseHigh t_from t_knots t_lines t_chosen t_undos t_redos t_aimedMany t_fits t_fitOf t_sights t_systems t_own t_cross t_curveLong t_wallFirst), IA E 800 t_grain, IA E 48 t_ways] h) n (inI r) 0 0) 0 0 n (ov [a_t, (a_t + 44), (a_t + 45)] [.inr (11, fsX11 a_t t_thrown t_taped t_p t_fault t_baseLow t_baseHigh t_newBaseLow t_newBaseHigh t_from t_knots t_lines t_chosen t_undos t_redos t_aimedMany t_fits t_fitOf t_sights t_systems t_own t_cross t_curveLong t_wallFirst), IA E 800 t_grain, IA E 48 t_ways] h) 158 [none, none, none, some (vI v3_), none, none, none] []) (hs : m_X11_wallFrom_150 t_systems t_grain t_ways v1 v2 v4 v5 s0 s1 ag k_158 = some r) : G l E b0 M_X11_wallFrom (fun _ => True) (ZM E b0 (some (vI r)) (ov [a_t, (a_t + 44), (a_t + 45)] [.inr (11, fsX11 a_t t_thrown t_taped t_p t_fault t_baseLow t_baseHigh t_newBaseLow t_newBaseHigh t_from t_knots t_lines t_chosen t_undos t_redos t_aimedMany t_fits t_fitOf t_sights t_systems t_own t_cross t_curveLong t_wallFirst), IA E 800 t_grain, IA E 48 t_ways] h) n (inI r) 0 0) 0 0 n (ov [a_t, (a_t + 44), (a_t + 45)] [.inr (11, fsX11 a_t t_thrown t_taped t_p t_fault t_baseLow t_baseHigh t_newBaseLow t_newBaseHigh t_from t_knots t_lines t_chosen t_undos t_redos t_aimedMany t_fits t_fitOf t_sights t_systems t_own t_cross t_curveLong t_wallFirst), IA E 800 t_grain, IA E 48 t_ways] h) 150 [some (.ref a_t), some (vI v1), some (vI v2), none, some (vI v4), some (vI v5), none] [vI s1, vI s0] := by
  rw [m_X11_wallFrom_150] at hs
  refine g_iadd e_X11_wallFrom_150 ?_
  refine g_istore_n e_X11_wallFrom_151 st1_3 rfl ?_
  refine g_iinc e_X11_wallFrom_152 rfl st1_5 rfl ?_
  refine g_goto e_X11_wallFrom_155 ?_
  obtain ⟨hc7, hs⟩ := chk_elim hs
  obtain ⟨hc8, hs⟩ := chk_elim hs
  exact hag _ _ _ hc7 ok_v4 hc8 hs

noncomputable def m_X11_wallFrom_139 (t_systems : Int) (t_grain : Nat → Int) (t_ways : Nat → Int) (v1 : Int) (v2 : Int) (v3 : Int) (v4 : Int) (v5 : Int) (ag : Int → Int → Int → Option (Int)) (k_158 : Int → Int → Int → Option (Int)) : Option (Int) :=
  if v4 = 0 then (m_X11_wallFrom_150 t_systems t_grain t_ways v1 v2 v4 v5 v3 0 ag k_158) else (m_X11_wallFrom_150 t_systems t_grain t_ways v1 v2 v4 v5 v3 1 ag k_158)

set_option maxRecDepth 10000 in
set_option maxHeartbeats 8000000 in
theorem g_X11_wallFrom_139 {l : Launch} {E : EE} {b0 n : Nat} {h : AH} {a_t : Nat} {t_thrown t_taped t_p t_fault t_baseLow t_baseHigh t_newBaseLow t_newBaseHigh t_from t_knots t_lines t_chosen t_undos t_redos t_aimedMany t_fits t_fitOf t_sights t_systems t_own t_cross t_curveLong t_wallFirst v1 v2 v3 v4 v5 : Int} {t_grain t_ways : Nat → Int} {r : Int} {ag : Int → Int → Int → Option (Int)} {k_158 : Int → Int → Int → Option (Int)} (ao : AO b0 n [a_t, (a_t + 44), (a_t + 45)]) (ok_t_systems : inI t_systems) (ok_t_grain : okA t_grain) (ok_t_ways : okA t_ways) (ok_v1 : inI v1) (ok_v2 : inI v2) (ok_v3 : inI v3) (ok_v4 : inZ v4) (ok_v5 : inI v5) (hag : ∀ (v3_ : Int) (v4_ : Int) (v5_ : Int), inI v3_ → inZ v4_ → inI v5_ → ag v3_ v4_ v5_ = some r → G l E b0 M_X11_wallFrom (fun _ => True) (ZM E b0 (some (vI r)) (ov [a_t, (a_t + 44), (a_t + 45)] [.inr (11, fsX11 a_t t_thrown t_taped t_p t_fault t_baseLow t_baseHigh t_newBaseLow t_newBaseHigh t_from t_knots t_lines t_chosen t_undos t_redos t_aimedMany t_fits t_fitOf t_sights t_systems t_own t_cross t_curveLong t_wallFirst), IA E 800 t_grain, IA E 48 t_ways] h) n (inI r) 0 0) 0 0 n (ov [a_t, (a_t + 44), (a_t + 45)] [.inr (11, fsX11 a_t t_thrown t_taped t_p t_fault t_baseLow t_baseHigh t_newBaseLow t_newBaseHigh t_from t_knots t_lines t_chosen t_undos t_redos t_aimedMany t_fits t_fitOf t_sights t_systems t_own t_cross t_curveLong t_wallFirst), IA E 800 t_grain, IA E 48 t_ways] h) 36 [some (.ref a_t), some (vI v1), some (vI v2), some (vI v3_), some (vI v4_), some (vI v5_), none] []) (hk_158 : ∀ (v3_ : Int) (v4_ : Int) (v5_ : Int), inI v3_ → inZ v4_ → inI v5_ → k_158 v3_ v4_ v5_ = some r → G l E b0 M_X11_wallFrom (fun _ => True) (ZM E b0 (some (vI r)) (ov [a_t, (a_t + 44), (a_t + 45)] [.inr (11, fsX11 a_t t_thrown t_taped t_p t_fault t_baseLow t_baseHigh t_newBaseLow t_newBaseHigh t_from t_knots t_lines t_chosen t_undos t_redos t_aimedMany t_fits t_fitOf t_sights t_systems t_own t_cross t_curveLong t_wallFirst), IA E 800 t_grain, IA E 48 t_ways] h) n (inI r) 0 0) 0 0 n (ov [a_t, (a_t + 44), (a_t + 45)] [.inr (11, fsX11 a_t t_thrown t_taped t_p t_fault t_baseLow t_baseHigh t_newBaseLow t_newBaseHigh t_from t_knots t_lines t_chosen t_undos t_redos t_aimedMany t_fits t_fitOf t_sights t_systems t_own t_cross t_curveLong t_wallFirst), IA E 800 t_grain, IA E 48 t_ways] h) 158 [none, none, none, some (vI v3_), none, none, none] []) (hs : m_X11_wallFrom_139 t_systems t_grain t_ways v1 v2 v3 v4 v5 ag k_158 = some r) : G l E b0 M_X11_wallFrom (fun _ => True) (ZM E b0 (some (vI r)) (ov [a_t, (a_t + 44), (a_t + 45)] [.inr (11, fsX11 a_t t_thrown t_taped t_p t_fault t_baseLow t_baseHigh t_newBaseLow t_newBaseHigh t_from t_knots t_lines t_chosen t_undos t_redos t_aimedMany t_fits t_fitOf t_sights t_systems t_own t_cross t_curveLong t_wallFirst), IA E 800 t_grain, IA E 48 t_ways] h) n (inI r) 0 0) 0 0 n (ov [a_t, (a_t + 44), (a_t + 45)] [.inr (11, fsX11 a_t t_thrown t_taped t_p t_fault t_baseLow t_baseHigh t_newBaseLow t_newBaseHigh t_from t_knots t_lines t_chosen t_undos t_redos t_aimedMany t_fits t_fitOf t_sights t_systems t_own t_cross t_curveLong t_wallFirst), IA E 800 t_grain, IA E 48 t_ways] h) 139 [some (.ref a_t), some (vI v1), some (vI v2), some (vI v3), some (vI v4), some (vI v5), none] [] := by
  rw [m_X11_wallFrom_139] at hs
  refine g_iload_n e_X11_wallFrom_139 rfl ?_
  refine g_iload e_X11_wallFrom_140 rfl ?_
  refine g_if_eq e_X11_wallFrom_142 (inZ_I ok_v4) hs (fun c142 hs => ?_) (fun c142 hs => ?_)
  · refine g_iconst e_X11_wallFrom_149 ?_
    exact g_mask [true, true, true, false, true, true, true] (g_X11_wallFrom_150 ao ok_t_systems ok_t_grain ok_t_ways ok_v1 ok_v2 ok_v4 ok_v5 ok_v3 (by decide : inZ 0) hag hk_158 hs)
  · refine g_iconst e_X11_wallFrom_145 ?_
    refine g_goto e_X11_wallFrom_146 ?_
    exact g_mask [true, true, true, false, true, true, true] (g_X11_wallFrom_150 ao ok_t_systems ok_t_grain ok_t_ways ok_v1 ok_v2 ok_v4 ok_v5 ok_v3 (by decide : inZ 1) hag hk_158 hs)

noncomputable def m_X11_wallFrom_81 (t_systems : Int) (t_grain : Nat → Int) (t_ways : Nat → Int) (v1 : Int) (v2 : Int) (v3 : Int) (v5 : Int) (s0 : Int) (ag : Int → Int → Int → Option (Int)) (k_158 : Int → Int → Int → Option (Int)) : Option (Int) :=
  m_X11_wallFrom_86 t_ways v1 v5 (fun v4' v6' => m_X11_wallFrom_139 t_systems t_grain t_ways v1 v2 v3 v4' v5 ag k_158) FU s0 0

set_option maxRecDepth 10000 in
set_option maxHeartbeats 8000000 in
theorem g_X11_wallFrom_81 {l : Launch} {E : EE} {b0 n : Nat} {h : AH} {a_t : Nat} {t_thrown t_taped t_p t_fault t_baseLow t_baseHigh t_newBaseLow t_newBaseHigh t_from t_knots t_lines t_chosen t_undos t_redos t_aimedMany t_fits t_fitOf t_sights t_systems t_own t_cross t_curveLong t_wallFirst v1 v2 v3 v5 s0 : Int} {t_grain t_ways : Nat → Int} {r : Int} {ag : Int → Int → Int → Option (Int)} {k_158 : Int → Int → Int → Option (Int)} (ao : AO b0 n [a_t, (a_t + 44), (a_t + 45)]) (ok_t_systems : inI t_systems) (ok_t_grain : okA t_grain) (ok_t_ways : okA t_ways) (ok_v1 : inI v1) (ok_v2 : inI v2) (ok_v3 : inI v3) (ok_v5 : inI v5) (ok_s0 : inZ s0) (hag : ∀ (v3_ : Int) (v4_ : Int) (v5_ : Int), inI v3_ → inZ v4_ → inI v5_ → ag v3_ v4_ v5_ = some r → G l E b0 M_X11_wallFrom (fun _ => True) (ZM E b0 (some (vI r)) (ov [a_t, (a_t + 44), (a_t + 45)] [.inr (11, fsX11 a_t t_thrown t_taped t_p t_fault t_baseLow t_baseHigh t_newBaseLow t_newBaseHigh t_from t_knots t_lines t_chosen t_undos t_redos t_aimedMany t_fits t_fitOf t_sights t_systems t_own t_cross t_curveLong t_wallFirst), IA E 800 t_grain, IA E 48 t_ways] h) n (inI r) 0 0) 0 0 n (ov [a_t, (a_t + 44), (a_t + 45)] [.inr (11, fsX11 a_t t_thrown t_taped t_p t_fault t_baseLow t_baseHigh t_newBaseLow t_newBaseHigh t_from t_knots t_lines t_chosen t_undos t_redos t_aimedMany t_fits t_fitOf t_sights t_systems t_own t_cross t_curveLong t_wallFirst), IA E 800 t_grain, IA E 48 t_ways] h) 36 [some (.ref a_t), some (vI v1), some (vI v2), some (vI v3_), some (vI v4_), some (vI v5_), none] []) (hk_158 : ∀ (v3_ : Int) (v4_ : Int) (v5_ : Int), inI v3_ → inZ v4_ → inI v5_ → k_158 v3_ v4_ v5_ = some r → G l E b0 M_X11_wallFrom (fun _ => True) (ZM E b0 (some (vI r)) (ov [a_t, (a_t + 44), (a_t + 45)] [.inr (11, fsX11 a_t t_thrown t_taped t_p t_fault t_baseLow t_baseHigh t_newBaseLow t_newBaseHigh t_from t_knots t_lines t_chosen t_undos t_redos t_aimedMany t_fits t_fitOf t_sights t_systems t_own t_cross t_curveLong t_wallFirst), IA E 800 t_grain, IA E 48 t_ways] h) n (inI r) 0 0) 0 0 n (ov [a_t, (a_t + 44), (a_t + 45)] [.inr (11, fsX11 a_t t_thrown t_taped t_p t_fault t_baseLow t_baseHigh t_newBaseLow t_newBaseHigh t_from t_knots t_lines t_chosen t_undos t_redos t_aimedMany t_fits t_fitOf t_sights t_systems t_own t_cross t_curveLong t_wallFirst), IA E 800 t_grain, IA E 48 t_ways] h) 158 [none, none, none, some (vI v3_), none, none, none] []) (hs : m_X11_wallFrom_81 t_systems t_grain t_ways v1 v2 v3 v5 s0 ag k_158 = some r) : G l E b0 M_X11_wallFrom (fun _ => True) (ZM E b0 (some (vI r)) (ov [a_t, (a_t + 44), (a_t + 45)] [.inr (11, fsX11 a_t t_thrown t_taped t_p t_fault t_baseLow t_baseHigh t_newBaseLow t_newBaseHigh t_from t_knots t_lines t_chosen t_undos t_redos t_aimedMany t_fits t_fitOf t_sights t_systems t_own t_cross t_curveLong t_wallFirst), IA E 800 t_grain, IA E 48 t_ways] h) n (inI r) 0 0) 0 0 n (ov [a_t, (a_t + 44), (a_t + 45)] [.inr (11, fsX11 a_t t_thrown t_taped t_p t_fault t_baseLow t_baseHigh t_newBaseLow t_newBaseHigh t_from t_knots t_lines t_chosen t_undos t_redos t_aimedMany t_fits t_fitOf t_sights t_systems t_own t_cross t_curveLong t_wallFirst), IA E 800 t_grain, IA E 48 t_ways] h) 81 [some (.ref a_t), some (vI v1), some (vI v2), some (vI v3), none, some (vI v5), none] [vI s0] := by
  rw [m_X11_wallFrom_81] at hs
  refine g_istore e_X11_wallFrom_81 st1_4 rfl ?_
  refine g_iconst e_X11_wallFrom_83 ?_
  refine g_istore e_X11_wallFrom_84 st1_6 rfl ?_
  exact g_X11_wallFrom_86 ao ok_t_systems ok_t_grain ok_t_ways ok_v1 ok_v2 ok_v3 ok_v5 (hk_139 := by
      intro v4' v6' ok_v4' ok_v6' hs
      exact g_X11_wallFrom_139 ao ok_t_systems ok_t_grain ok_t_ways ok_v1 ok_v2 ok_v3 ok_v4' ok_v5 hag hk_158 hs) FU _ _ ok_s0 (by decide : inI 0) hs

noncomputable def m_X11_wallFrom_36 (t_systems : Int) (t_grain : Nat → Int) (t_ways : Nat → Int) (v1 : Int) (v2 : Int) (k_158 : Int → Int → Int → Option (Int)) : Nat → Int → Int → Int → Option (Int)
  | 0, _, _, _ => none
  | F + 1, v3, v4, v5 => if t_systems ≤ v5 then (some (v3)) else (if v4 = 0 then (some (v3)) else (chk (inB ((100 * v5) + v2) 800) (chk (inB ((100 * v1) + v2) 800) (if (t_grain (Int.toNat ((100 * v5) + v2))) = (t_grain (Int.toNat ((100 * v1) + v2))) then (m_X11_wallFrom_81 t_systems t_grain t_ways v1 v2 v3 v5 1 (m_X11_wallFrom_36 t_systems t_grain t_ways v1 v2 k_158 F) k_158) else (m_X11_wallFrom_81 t_systems t_grain t_ways v1 v2 v3 v5 0 (m_X11_wallFrom_36 t_systems t_grain t_ways v1 v2 k_158 F) k_158)))))

set_option maxRecDepth 10000 in
set_option maxHeartbeats 8000000 in
theorem g_X11_wallFrom_36 {l : Launch} {E : EE} {b0 n : Nat} {h : AH} {a_t : Nat} {t_thrown t_taped t_p t_fault t_baseLow t_baseHigh t_newBaseLow t_newBaseHigh t_from t_knots t_lines t_chosen t_undos t_redos t_aimedMany t_fits t_fitOf t_sights t_systems t_own t_cross t_curveLong t_wallFirst v1 v2 : Int} {t_grain t_ways : Nat → Int} {r : Int} {k_158 : Int → Int → Int → Option (Int)} (ao : AO b0 n [a_t, (a_t + 44), (a_t + 45)]) (ok_t_systems : inI t_systems) (ok_t_grain : okA t_grain) (ok_t_ways : okA t_ways) (ok_v1 : inI v1) (ok_v2 : inI v2) (hk_158 : ∀ (v3_ : Int) (v4_ : Int) (v5_ : Int), inI v3_ → inZ v4_ → inI v5_ → k_158 v3_ v4_ v5_ = some r → G l E b0 M_X11_wallFrom (fun _ => True) (ZM E b0 (some (vI r)) (ov [a_t, (a_t + 44), (a_t + 45)] [.inr (11, fsX11 a_t t_thrown t_taped t_p t_fault t_baseLow t_baseHigh t_newBaseLow t_newBaseHigh t_from t_knots t_lines t_chosen t_undos t_redos t_aimedMany t_fits t_fitOf t_sights t_systems t_own t_cross t_curveLong t_wallFirst), IA E 800 t_grain, IA E 48 t_ways] h) n (inI r) 0 0) 0 0 n (ov [a_t, (a_t + 44), (a_t + 45)] [.inr (11, fsX11 a_t t_thrown t_taped t_p t_fault t_baseLow t_baseHigh t_newBaseLow t_newBaseHigh t_from t_knots t_lines t_chosen t_undos t_redos t_aimedMany t_fits t_fitOf t_sights t_systems t_own t_cross t_curveLong t_wallFirst), IA E 800 t_grain, IA E 48 t_ways] h) 158 [none, none, none, some (vI v3_), none, none, none] []) :
    ∀ (F : Nat) (v3 : Int) (v4 : Int) (v5 : Int), inI v3 → inZ v4 → inI v5 → m_X11_wallFrom_36 t_systems t_grain t_ways v1 v2 k_158 F v3 v4 v5 = some r → G l E b0 M_X11_wallFrom (fun _ => True) (ZM E b0 (some (vI r)) (ov [a_t, (a_t + 44), (a_t + 45)] [.inr (11, fsX11 a_t t_thrown t_taped t_p t_fault t_baseLow t_baseHigh t_newBaseLow t_newBaseHigh t_from t_knots t_lines t_chosen t_undos t_redos t_aimedMany t_fits t_fitOf t_sights t_systems t_own t_cross t_curveLong t_wallFirst), IA E 800 t_grain, IA E 48 t_ways] h) n (inI r) 0 0) 0 0 n (ov [a_t, (a_t + 44), (a_t + 45)] [.inr (11, fsX11 a_t t_thrown t_taped t_p t_fault t_baseLow t_baseHigh t_newBaseLow t_newBaseHigh t_from t_knots t_lines t_chosen t_undos t_redos t_aimedMany t_fits t_fitOf t_sights t_systems t_own t_cross t_curveLong t_wallFirst), IA E 800 t_grain, IA E 48 t_ways] h) 36 [some (.ref a_t), some (vI v1), some (vI v2), some (vI v3), some (vI v4), some (vI v5), none] [] := by
  intro F
  induction F with
  | zero =>
    intro v3 v4 v5 ok_v3 ok_v4 ok_v5 hs
    rw [m_X11_wallFrom_36] at hs
    cases hs
  | succ F ih =>
    intro v3 v4 v5 ok_v3 ok_v4 ok_v5 hs
    rw [m_X11_wallFrom_36] at hs
    refine g_iload e_X11_wallFrom_36 rfl ?_
    refine g_aload_n e_X11_wallFrom_38 rfl ?_
    refine g_get 0 61 ao rfl rfl fsX11_g61 fl_X11_398 e_X11_wallFrom_39 ?_
    refine g_icmp_ge e_X11_wallFrom_42 ok_v5 ok_t_systems hs (fun c42 hs => ?_) (fun c42 hs => ?_)
    · refine g_iload_n e_X11_wallFrom_158 rfl ?_
      obtain rfl := Option.some.inj hs
      exact g_iret rfl ok_v3 e_X11_wallFrom_159
    · refine g_iload e_X11_wallFrom_45 rfl ?_
      refine g_if_eq e_X11_wallFrom_47 (inZ_I ok_v4) hs (fun c47 hs => ?_) (fun c47 hs => ?_)
      · refine g_iload_n e_X11_wallFrom_158 rfl ?_
        obtain rfl := Option.some.inj hs
        exact g_iret rfl ok_v3 e_X11_wallFrom_159
      · refine g_aload_n e_X11_wallFrom_50 rfl ?_
        refine g_get 0 64 ao rfl rfl fsX11_g64 fl_X11_142 e_X11_wallFrom_51 ?_
        refine g_bipush e_X11_wallFrom_54 bp_100 ?_
        refine g_iload e_X11_wallFrom_56 rfl ?_
        refine g_imul e_X11_wallFrom_58 ?_
        refine g_iload_n e_X11_wallFrom_59 rfl ?_
        refine g_iadd e_X11_wallFrom_60 ?_
        refine g_iald 1 ao rfl rfl (Nat.le_of_ble_eq_true rfl) e_X11_wallFrom_61 hs (fun hi2 hs => ?_)
        refine g_aload_n e_X11_wallFrom_62 rfl ?_
        refine g_get 0 64 ao rfl rfl fsX11_g64 fl_X11_142 e_X11_wallFrom_63 ?_
        refine g_bipush e_X11_wallFrom_66 bp_100 ?_
        refine g_iload_n e_X11_wallFrom_68 rfl ?_
        refine g_imul e_X11_wallFrom_69 ?_
        refine g_iload_n e_X11_wallFrom_70 rfl ?_
        refine g_iadd e_X11_wallFrom_71 ?_
        refine g_iald 1 ao rfl rfl (Nat.le_of_ble_eq_true rfl) e_X11_wallFrom_72 hs (fun hi3 hs => ?_)
        refine g_icmp_ne e_X11_wallFrom_73 (ok_t_grain _) (ok_t_grain _) hs (fun c73 hs => ?_) (fun c73 hs => ?_)
        · refine g_iconst e_X11_wallFrom_76 ?_
          refine g_goto e_X11_wallFrom_77 ?_
          exact g_mask [true, true, true, true, false, true, true] (g_X11_wallFrom_81 ao ok_t_systems ok_t_grain ok_t_ways ok_v1 ok_v2 ok_v3 ok_v5 (by decide : inZ 1) ih hk_158 hs)
        · refine g_iconst e_X11_wallFrom_80 ?_
          exact g_mask [true, true, true, true, false, true, true] (g_X11_wallFrom_81 ao ok_t_systems ok_t_grain ok_t_ways ok_v1 ok_v2 ok_v3 ok_v5 (by decide : inZ 0) ih hk_158 hs)

noncomputable def m_X11_wallFrom_158 (v3 : Int) : Option (Int) :=
  some (v3)

set_option maxRecDepth 10000 in
set_option maxHeartbeats 8000000 in
theorem g_X11_wallFrom_158 {l : Launch} {E : EE} {b0 n : Nat} {h : AH} {a_t : Nat} {t_thrown t_taped t_p t_fault t_baseLow t_baseHigh t_newBaseLow t_newBaseHigh t_from t_knots t_lines t_chosen t_undos t_redos t_aimedMany t_fits t_fitOf t_sights t_systems t_own t_cross t_curveLong t_wallFirst v3 : Int} {t_grain t_ways : Nat → Int} {r : Int} (ao : AO b0 n [a_t, (a_t + 44), (a_t + 45)]) (ok_t_systems : inI t_systems) (ok_t_grain : okA t_grain) (ok_t_ways : okA t_ways) (ok_v3 : inI v3) (hs : m_X11_wallFrom_158 v3 = some r) : G l E b0 M_X11_wallFrom (fun _ => True) (ZM E b0 (some (vI r)) (ov [a_t, (a_t + 44), (a_t + 45)] [.inr (11, fsX11 a_t t_thrown t_taped t_p t_fault t_baseLow t_baseHigh t_newBaseLow t_newBaseHigh t_from t_knots t_lines t_chosen t_undos t_redos t_aimedMany t_fits t_fitOf t_sights t_systems t_own t_cross t_curveLong t_wallFirst), IA E 800 t_grain, IA E 48 t_ways] h) n (inI r) 0 0) 0 0 n (ov [a_t, (a_t + 44), (a_t + 45)] [.inr (11, fsX11 a_t t_thrown t_taped t_p t_fault t_baseLow t_baseHigh t_newBaseLow t_newBaseHigh t_from t_knots t_lines t_chosen t_undos t_redos t_aimedMany t_fits t_fitOf t_sights t_systems t_own t_cross t_curveLong t_wallFirst), IA E 800 t_grain, IA E 48 t_ways] h) 158 [none, none, none, some (vI v3), none, none, none] [] := by
  rw [m_X11_wallFrom_158] at hs
  refine g_iload_n e_X11_wallFrom_158 rfl ?_
  obtain rfl := Option.some.inj hs
  exact g_iret rfl ok_v3 e_X11_wallFrom_159

noncomputable def m_X11_wallFrom_29 (t_systems : Int) (t_grain : Nat → Int) (t_ways : Nat → Int) (v1 : Int) (v2 : Int) (v3 : Int) (s0 : Int) : Option (Int) :=
  chk (inI (v1 + 1)) (m_X11_wallFrom_36 t_systems t_grain t_ways v1 v2 (fun v3' v4' v5' => m_X11_wallFrom_158 v3') FU v3 s0 (v1 + 1))

set_option maxRecDepth 10000 in
set_option maxHeartbeats 8000000 in
theorem g_X11_wallFrom_29 {l : Launch} {E : EE} {b0 n : Nat} {h : AH} {a_t : Nat} {t_thrown t_taped t_p t_fault t_baseLow t_baseHigh t_newBaseLow t_newBaseHigh t_from t_knots t_lines t_chosen t_undos t_redos t_aimedMany t_fits t_fitOf t_sights t_systems t_own t_cross t_curveLong t_wallFirst v1 v2 v3 s0 : Int} {t_grain t_ways : Nat → Int} {r : Int} (ao : AO b0 n [a_t, (a_t + 44), (a_t + 45)]) (ok_t_systems : inI t_systems) (ok_t_grain : okA t_grain) (ok_t_ways : okA t_ways) (ok_v1 : inI v1) (ok_v2 : inI v2) (ok_v3 : inZ v3) (ok_s0 : inZ s0) (hs : m_X11_wallFrom_29 t_systems t_grain t_ways v1 v2 v3 s0 = some r) : G l E b0 M_X11_wallFrom (fun _ => True) (ZM E b0 (some (vI r)) (ov [a_t, (a_t + 44), (a_t + 45)] [.inr (11, fsX11 a_t t_thrown t_taped t_p t_fault t_baseLow t_baseHigh t_newBaseLow t_newBaseHigh t_from t_knots t_lines t_chosen t_undos t_redos t_aimedMany t_fits t_fitOf t_sights t_systems t_own t_cross t_curveLong t_wallFirst), IA E 800 t_grain, IA E 48 t_ways] h) n (inI r) 0 0) 0 0 n (ov [a_t, (a_t + 44), (a_t + 45)] [.inr (11, fsX11 a_t t_thrown t_taped t_p t_fault t_baseLow t_baseHigh t_newBaseLow t_newBaseHigh t_from t_knots t_lines t_chosen t_undos t_redos t_aimedMany t_fits t_fitOf t_sights t_systems t_own t_cross t_curveLong t_wallFirst), IA E 800 t_grain, IA E 48 t_ways] h) 29 [some (.ref a_t), some (vI v1), some (vI v2), some (vI v3), none, none, none] [vI s0] := by
  rw [m_X11_wallFrom_29] at hs
  refine g_istore e_X11_wallFrom_29 st1_4 rfl ?_
  refine g_iload_n e_X11_wallFrom_31 rfl ?_
  refine g_iconst e_X11_wallFrom_32 ?_
  refine g_iadd e_X11_wallFrom_33 ?_
  refine g_istore e_X11_wallFrom_34 st1_5 rfl ?_
  obtain ⟨hc9, hs⟩ := chk_elim hs
  exact g_X11_wallFrom_36 ao ok_t_systems ok_t_grain ok_t_ways ok_v1 ok_v2 (hk_158 := by
      intro v3' v4' v5' ok_v3' ok_v4' ok_v5' hs
      exact g_X11_wallFrom_158 ao ok_t_systems ok_t_grain ok_t_ways ok_v3' hs) FU _ _ _ (inZ_I ok_v3) ok_s0 hc9 hs

noncomputable def m_X11_wallFrom_19 (t_systems : Int) (t_grain : Nat → Int) (t_ways : Nat → Int) (v1 : Int) (v2 : Int) (s0 : Int) : Option (Int) :=
  if s0 ≤ 0 then (m_X11_wallFrom_29 t_systems t_grain t_ways v1 v2 s0 0) else (m_X11_wallFrom_29 t_systems t_grain t_ways v1 v2 s0 1)

set_option maxRecDepth 10000 in
set_option maxHeartbeats 8000000 in
theorem g_X11_wallFrom_19 {l : Launch} {E : EE} {b0 n : Nat} {h : AH} {a_t : Nat} {t_thrown t_taped t_p t_fault t_baseLow t_baseHigh t_newBaseLow t_newBaseHigh t_from t_knots t_lines t_chosen t_undos t_redos t_aimedMany t_fits t_fitOf t_sights t_systems t_own t_cross t_curveLong t_wallFirst v1 v2 s0 : Int} {t_grain t_ways : Nat → Int} {r : Int} (ao : AO b0 n [a_t, (a_t + 44), (a_t + 45)]) (ok_t_systems : inI t_systems) (ok_t_grain : okA t_grain) (ok_t_ways : okA t_ways) (ok_v1 : inI v1) (ok_v2 : inI v2) (ok_s0 : inZ s0) (hs : m_X11_wallFrom_19 t_systems t_grain t_ways v1 v2 s0 = some r) : G l E b0 M_X11_wallFrom (fun _ => True) (ZM E b0 (some (vI r)) (ov [a_t, (a_t + 44), (a_t + 45)] [.inr (11, fsX11 a_t t_thrown t_taped t_p t_fault t_baseLow t_baseHigh t_newBaseLow t_newBaseHigh t_from t_knots t_lines t_chosen t_undos t_redos t_aimedMany t_fits t_fitOf t_sights t_systems t_own t_cross t_curveLong t_wallFirst), IA E 800 t_grain, IA E 48 t_ways] h) n (inI r) 0 0) 0 0 n (ov [a_t, (a_t + 44), (a_t + 45)] [.inr (11, fsX11 a_t t_thrown t_taped t_p t_fault t_baseLow t_baseHigh t_newBaseLow t_newBaseHigh t_from t_knots t_lines t_chosen t_undos t_redos t_aimedMany t_fits t_fitOf t_sights t_systems t_own t_cross t_curveLong t_wallFirst), IA E 800 t_grain, IA E 48 t_ways] h) 19 [some (.ref a_t), some (vI v1), some (vI v2), none, none, none, none] [vI s0] := by
  rw [m_X11_wallFrom_19] at hs
  refine g_istore_n e_X11_wallFrom_19 st1_3 rfl ?_
  refine g_iload_n e_X11_wallFrom_20 rfl ?_
  refine g_if_le e_X11_wallFrom_21 (inZ_I ok_s0) hs (fun c21 hs => ?_) (fun c21 hs => ?_)
  · refine g_iconst e_X11_wallFrom_28 ?_
    exact g_X11_wallFrom_29 ao ok_t_systems ok_t_grain ok_t_ways ok_v1 ok_v2 ok_s0 (by decide : inZ 0) hs
  · refine g_iconst e_X11_wallFrom_24 ?_
    refine g_goto e_X11_wallFrom_25 ?_
    exact g_X11_wallFrom_29 ao ok_t_systems ok_t_grain ok_t_ways ok_v1 ok_v2 ok_s0 (by decide : inZ 1) hs

noncomputable def m_X11_wallFrom_0 (t_systems : Int) (t_grain : Nat → Int) (t_ways : Nat → Int) (v1 : Int) (v2 : Int) : Option (Int) :=
  chk (inB ((100 * v1) + v2) 800) (if (t_grain (Int.toNat ((100 * v1) + v2))) = 0 then (m_X11_wallFrom_19 t_systems t_grain t_ways v1 v2 0) else (m_X11_wallFrom_19 t_systems t_grain t_ways v1 v2 1))

set_option maxRecDepth 10000 in
set_option maxHeartbeats 8000000 in
theorem g_X11_wallFrom_0 {l : Launch} {E : EE} {b0 n : Nat} {h : AH} {a_t : Nat} {t_thrown t_taped t_p t_fault t_baseLow t_baseHigh t_newBaseLow t_newBaseHigh t_from t_knots t_lines t_chosen t_undos t_redos t_aimedMany t_fits t_fitOf t_sights t_systems t_own t_cross t_curveLong t_wallFirst v1 v2 : Int} {t_grain t_ways : Nat → Int} {r : Int} (ao : AO b0 n [a_t, (a_t + 44), (a_t + 45)]) (ok_t_systems : inI t_systems) (ok_t_grain : okA t_grain) (ok_t_ways : okA t_ways) (ok_v1 : inI v1) (ok_v2 : inI v2) (hs : m_X11_wallFrom_0 t_systems t_grain t_ways v1 v2 = some r) : G l E b0 M_X11_wallFrom (fun _ => True) (ZM E b0 (some (vI r)) (ov [a_t, (a_t + 44), (a_t + 45)] [.inr (11, fsX11 a_t t_thrown t_taped t_p t_fault t_baseLow t_baseHigh t_newBaseLow t_newBaseHigh t_from t_knots t_lines t_chosen t_undos t_redos t_aimedMany t_fits t_fitOf t_sights t_systems t_own t_cross t_curveLong t_wallFirst), IA E 800 t_grain, IA E 48 t_ways] h) n (inI r) 0 0) 0 0 n (ov [a_t, (a_t + 44), (a_t + 45)] [.inr (11, fsX11 a_t t_thrown t_taped t_p t_fault t_baseLow t_baseHigh t_newBaseLow t_newBaseHigh t_from t_knots t_lines t_chosen t_undos t_redos t_aimedMany t_fits t_fitOf t_sights t_systems t_own t_cross t_curveLong t_wallFirst), IA E 800 t_grain, IA E 48 t_ways] h) 0 [some (.ref a_t), some (vI v1), some (vI v2), none, none, none, none] [] := by
  rw [m_X11_wallFrom_0] at hs
  refine g_aload_n e_X11_wallFrom_0 rfl ?_
  refine g_get 0 64 ao rfl rfl fsX11_g64 fl_X11_142 e_X11_wallFrom_1 ?_
  refine g_bipush e_X11_wallFrom_4 bp_100 ?_
  refine g_iload_n e_X11_wallFrom_6 rfl ?_
  refine g_imul e_X11_wallFrom_7 ?_
  refine g_iload_n e_X11_wallFrom_8 rfl ?_
  refine g_iadd e_X11_wallFrom_9 ?_
  refine g_iald 1 ao rfl rfl (Nat.le_of_ble_eq_true rfl) e_X11_wallFrom_10 hs (fun hi1 hs => ?_)
  refine g_if_ne e_X11_wallFrom_11 (ok_t_grain _) hs (fun c11 hs => ?_) (fun c11 hs => ?_)
  · refine g_iconst e_X11_wallFrom_14 ?_
    refine g_goto e_X11_wallFrom_15 ?_
    exact g_X11_wallFrom_19 ao ok_t_systems ok_t_grain ok_t_ways ok_v1 ok_v2 (by decide : inZ 0) hs
  · refine g_iconst e_X11_wallFrom_18 ?_
    exact g_X11_wallFrom_19 ao ok_t_systems ok_t_grain ok_t_ways ok_v1 ok_v2 (by decide : inZ 1) hs

noncomputable def m_X11_wallFrom (t_systems : Int) (t_grain : Nat → Int) (t_ways : Nat → Int) (v1 : Int) (v2 : Int) : Option (Int) := m_X11_wallFrom_0 t_systems t_grain t_ways v1 v2

set_option maxRecDepth 10000 in
set_option maxHeartbeats 8000000 in
theorem ct_X11_wallFrom {l : Launch} {E : EE} {b0 n : Nat} {h : AH} {a_t : Nat} {t_thrown t_taped t_p t_fault t_baseLow t_baseHigh t_newBaseLow t_newBaseHigh t_from t_knots t_lines t_chosen t_undos t_redos t_aimedMany t_fits t_fitOf t_sights t_systems t_own t_cross t_curveLong t_wallFirst : Int} {t_grain t_ways : Nat → Int} {v1 v2 : Int} (ao : AO b0 n [a_t, (a_t + 44), (a_t + 45)]) (hf : FA h [a_t, (a_t + 44), (a_t + 45)] [.inr (11, fsX11 a_t t_thrown t_taped t_p t_fault t_baseLow t_baseHigh t_newBaseLow t_newBaseHigh t_from t_knots t_lines t_chosen t_undos t_redos t_aimedMany t_fits t_fitOf t_sights t_systems t_own t_cross t_curveLong t_wallFirst), IA E 800 t_grain, IA E 48 t_ways]) (ok_t_systems : inI t_systems) (ok_t_grain : okA t_grain) (ok_t_ways : okA t_ways) (ok_v1 : inI v1) (ok_v2 : inI v2) {r : Int} (hm : m_X11_wallFrom t_systems t_grain t_ways v1 v2 = some r) : Ct l E b0 M_X11_wallFrom 0 0 [.ref a_t, vI v1, vI v2] h n (some (vI r)) h n (inI r) := by
  rw [m_X11_wallFrom] at hm
  have hg : G l E b0 M_X11_wallFrom (fun _ => True) (ZM E b0 (some (vI r)) (ov [a_t, (a_t + 44), (a_t + 45)] [.inr (11, fsX11 a_t t_thrown t_taped t_p t_fault t_baseLow t_baseHigh t_newBaseLow t_newBaseHigh t_from t_knots t_lines t_chosen t_undos t_redos t_aimedMany t_fits t_fitOf t_sights t_systems t_own t_cross t_curveLong t_wallFirst), IA E 800 t_grain, IA E 48 t_ways] h) n (inI r) 0 0) 0 0 n (ov [a_t, (a_t + 44), (a_t + 45)] [.inr (11, fsX11 a_t t_thrown t_taped t_p t_fault t_baseLow t_baseHigh t_newBaseLow t_newBaseHigh t_from t_knots t_lines t_chosen t_undos t_redos t_aimedMany t_fits t_fitOf t_sights t_systems t_own t_cross t_curveLong t_wallFirst), IA E 800 t_grain, IA E 48 t_ways] h) 0 [some (.ref a_t), some (vI v1), some (vI v2), none, none, none, none] [] := by
    have hs := hm
    exact g_X11_wallFrom_0 ao ok_t_systems ok_t_grain ok_t_ways ok_v1 ok_v2 hs
  rw [FA_id hf] at hg
  exact Ct_of [some (.ref a_t), some (vI v1), some (vI v2), none, none, none, none] ⟨by decide +kernel, rfl⟩ rfl (Nat.le_of_ble_eq_true rfl) hg

/-! ===== X11_wall ===== -/
theorem e_X11_wall_0 : DC cX11_wall 0 (.iload_n 1) 1 1 := ⟨by decide +kernel, rfl⟩
theorem e_X11_wall_1 : DC cX11_wall 1 (.iconst 0) 1 2 := ⟨by decide +kernel, rfl⟩
theorem e_X11_wall_2 : DC cX11_wall 2 (.bipush 99) 2 4 := ⟨by decide +kernel, rfl⟩
theorem e_X11_wall_4 : DC cX11_wall 4 (.invokestatic 226) 3 7 := ⟨by decide +kernel, rfl⟩
theorem e_X11_wall_7 : DB cX11_wall 7 (.ifCond .ne 5) (5) 3 10 12 := ⟨by decide +kernel, rfl, rfl⟩
theorem e_X11_wall_10 : DC cX11_wall 10 (.iconst (-1)) 1 11 := ⟨by decide +kernel, rfl⟩
theorem e_X11_wall_11 : DC cX11_wall 11 (.ireturn) 1 12 := ⟨by decide +kernel, rfl⟩
theorem e_X11_wall_12 : DC cX11_wall 12 (.iconst 0) 1 13 := ⟨by decide +kernel, rfl⟩
theorem e_X11_wall_13 : DC cX11_wall 13 (.istore_n 2) 1 14 := ⟨by decide +kernel, rfl⟩
theorem e_X11_wall_14 : DC cX11_wall 14 (.iconst 0) 1 15 := ⟨by decide +kernel, rfl⟩
theorem e_X11_wall_15 : DC cX11_wall 15 (.istore_n 3) 1 16 := ⟨by decide +kernel, rfl⟩
theorem e_X11_wall_16 : DC cX11_wall 16 (.iload_n 3) 1 17 := ⟨by decide +kernel, rfl⟩
theorem e_X11_wall_17 : DC cX11_wall 17 (.aload_n 0) 1 18 := ⟨by decide +kernel, rfl⟩
theorem e_X11_wall_18 : DC cX11_wall 18 (.getfield 398) 3 21 := ⟨by decide +kernel, rfl⟩
theorem e_X11_wall_21 : DB cX11_wall 21 (.if_icmp .ge 31) (31) 3 24 52 := ⟨by decide +kernel, rfl, rfl⟩
theorem e_X11_wall_24 : DC cX11_wall 24 (.aload_n 0) 1 25 := ⟨by decide +kernel, rfl⟩
theorem e_X11_wall_25 : DC cX11_wall 25 (.iload_n 3) 1 26 := ⟨by decide +kernel, rfl⟩
theorem e_X11_wall_26 : DC cX11_wall 26 (.iload_n 1) 1 27 := ⟨by decide +kernel, rfl⟩
theorem e_X11_wall_27 : DC cX11_wall 27 (.invokevirtual 442) 3 30 := ⟨by decide +kernel, rfl⟩
theorem e_X11_wall_30 : DC cX11_wall 30 (.istore 4) 2 32 := ⟨by decide +kernel, rfl⟩
theorem e_X11_wall_32 : DC cX11_wall 32 (.iload 4) 2 34 := ⟨by decide +kernel, rfl⟩
theorem e_X11_wall_34 : DC cX11_wall 34 (.iload_n 2) 1 35 := ⟨by decide +kernel, rfl⟩
theorem e_X11_wall_35 : DB cX11_wall 35 (.if_icmp .le 11) (11) 3 38 46 := ⟨by decide +kernel, rfl, rfl⟩
theorem e_X11_wall_38 : DC cX11_wall 38 (.iload 4) 2 40 := ⟨by decide +kernel, rfl⟩
theorem e_X11_wall_40 : DC cX11_wall 40 (.istore_n 2) 1 41 := ⟨by decide +kernel, rfl⟩
theorem e_X11_wall_41 : DC cX11_wall 41 (.aload_n 0) 1 42 := ⟨by decide +kernel, rfl⟩
theorem e_X11_wall_42 : DC cX11_wall 42 (.iload_n 3) 1 43 := ⟨by decide +kernel, rfl⟩
theorem e_X11_wall_43 : DC cX11_wall 43 (.putfield 445) 3 46 := ⟨by decide +kernel, rfl⟩
theorem e_X11_wall_46 : DC cX11_wall 46 (.iinc 3 1) 3 49 := ⟨by decide +kernel, rfl⟩
theorem e_X11_wall_49 : DB cX11_wall 49 (.goto (-33)) (-33) 3 52 16 := ⟨by decide +kernel, rfl, rfl⟩
theorem e_X11_wall_52 : DC cX11_wall 52 (.iload_n 2) 1 53 := ⟨by decide +kernel, rfl⟩
theorem e_X11_wall_53 : DC cX11_wall 53 (.ireturn) 1 54 := ⟨by decide +kernel, rfl⟩
noncomputable def m_X11_wall_46 (t_systems : Int) (t_wallFirst : Int) (t_grain : Nat → Int) (t_ways : Nat → Int) (v1 : Int) (v2 : Int) (v3 : Int) (ag : Int → Int → Int → Option (Int × Int)) (k_52 : Int → Int → Int → Option (Int × Int)) : Option (Int × Int) :=
  chk (inI (v3 + 1)) (ag t_wallFirst v2 (v3 + 1))

set_option maxRecDepth 10000 in
set_option maxHeartbeats 8000000 in
theorem g_X11_wall_46 {l : Launch} {E : EE} {b0 n : Nat} {h : AH} {a_t : Nat} {t_thrown t_taped t_p t_fault t_baseLow t_baseHigh t_newBaseLow t_newBaseHigh t_from t_knots t_lines t_chosen t_undos t_redos t_aimedMany t_fits t_fitOf t_sights t_systems t_own t_cross t_curveLong t_wallFirst v1 v2 v3 : Int} {t_grain t_ways : Nat → Int} {r : Int × Int} {ag : Int → Int → Int → Option (Int × Int)} {k_52 : Int → Int → Int → Option (Int × Int)} (ao : AO b0 n [a_t, (a_t + 44), (a_t + 45)]) (ok_t_systems : inI t_systems) (ok_t_wallFirst : inI t_wallFirst) (ok_t_grain : okA t_grain) (ok_t_ways : okA t_ways) (ok_v1 : inI v1) (ok_v2 : inI v2) (ok_v3 : inI v3) (hag : ∀ (t_wallFirst_ : Int) (v2_ : Int) (v3_ : Int), inI t_wallFirst_ → inI v2_ → inI v3_ → ag t_wallFirst_ v2_ v3_ = some r → G l E b0 M_X11_wall (fun _ => True) (ZM E b0 (some (vI r.1)) (ov [a_t, (a_t + 44), (a_t + 45)] [.inr (11, fsX11 a_t t_thrown t_taped t_p t_fault t_baseLow t_baseHigh t_newBaseLow t_newBaseHigh t_from t_knots t_lines t_chosen t_undos t_redos t_aimedMany t_fits t_fitOf t_sights t_systems t_own t_cross t_curveLong r.2), IA E 800 t_grain, IA E 48 t_ways] h) n (inI r.1 ∧ inI r.2) 0 0) 0 0 n (ov [a_t, (a_t + 44), (a_t + 45)] [.inr (11, fsX11 a_t t_thrown t_taped t_p t_fault t_baseLow t_baseHigh t_newBaseLow t_newBaseHigh t_from t_knots t_lines t_chosen t_undos t_redos t_aimedMany t_fits t_fitOf t_sights t_systems t_own t_cross t_curveLong t_wallFirst_), IA E 800 t_grain, IA E 48 t_ways] h) 16 [some (.ref a_t), some (vI v1), some (vI v2_), some (vI v3_), none] []) (hk_52 : ∀ (t_wallFirst_ : Int) (v2_ : Int) (v3_ : Int), inI t_wallFirst_ → inI v2_ → inI v3_ → k_52 t_wallFirst_ v2_ v3_ = some r → G l E b0 M_X11_wall (fun _ => True) (ZM E b0 (some (vI r.1)) (ov [a_t, (a_t + 44), (a_t + 45)] [.inr (11, fsX11 a_t t_thrown t_taped t_p t_fault t_baseLow t_baseHigh t_newBaseLow t_newBaseHigh t_from t_knots t_lines t_chosen t_undos t_redos t_aimedMany t_fits t_fitOf t_sights t_systems t_own t_cross t_curveLong r.2), IA E 800 t_grain, IA E 48 t_ways] h) n (inI r.1 ∧ inI r.2) 0 0) 0 0 n (ov [a_t, (a_t + 44), (a_t + 45)] [.inr (11, fsX11 a_t t_thrown t_taped t_p t_fault t_baseLow t_baseHigh t_newBaseLow t_newBaseHigh t_from t_knots t_lines t_chosen t_undos t_redos t_aimedMany t_fits t_fitOf t_sights t_systems t_own t_cross t_curveLong t_wallFirst_), IA E 800 t_grain, IA E 48 t_ways] h) 52 [none, none, some (vI v2_), none, none] []) (hs : m_X11_wall_46 t_systems t_wallFirst t_grain t_ways v1 v2 v3 ag k_52 = some r) : G l E b0 M_X11_wall (fun _ => True) (ZM E b0 (some (vI r.1)) (ov [a_t, (a_t + 44), (a_t + 45)] [.inr (11, fsX11 a_t t_thrown t_taped t_p t_fault t_baseLow t_baseHigh t_newBaseLow t_newBaseHigh t_from t_knots t_lines t_chosen t_undos t_redos t_aimedMany t_fits t_fitOf t_sights t_systems t_own t_cross t_curveLong r.2), IA E 800 t_grain, IA E 48 t_ways] h) n (inI r.1 ∧ inI r.2) 0 0) 0 0 n (ov [a_t, (a_t + 44), (a_t + 45)] [.inr (11, fsX11 a_t t_thrown t_taped t_p t_fault t_baseLow t_baseHigh t_newBaseLow t_newBaseHigh t_from t_knots t_lines t_chosen t_undos t_redos t_aimedMany t_fits t_fitOf t_sights t_systems t_own t_cross t_curveLong t_wallFirst), IA E 800 t_grain, IA E 48 t_ways] h) 46 [some (.ref a_t), some (vI v1), some (vI v2), some (vI v3), none] [] := by
  rw [m_X11_wall_46] at hs
  refine g_iinc e_X11_wall_46 rfl st1_3 rfl ?_
  refine g_goto e_X11_wall_49 ?_
  obtain ⟨hc3, hs⟩ := chk_elim hs
  exact hag _ _ _ ok_t_wallFirst ok_v2 hc3 hs

noncomputable def m_X11_wall_16 (t_systems : Int) (t_grain : Nat → Int) (t_ways : Nat → Int) (v1 : Int) (k_52 : Int → Int → Int → Option (Int × Int)) : Nat → Int → Int → Int → Option (Int × Int)
  | 0, _, _, _ => none
  | F + 1, t_wallFirst, v2, v3 => if t_systems ≤ v3 then (some (v2, t_wallFirst)) else ((m_X11_wallFrom t_systems t_grain t_ways v3 v1).bind (fun y2 => if y2 ≤ v2 then (m_X11_wall_46 t_systems t_wallFirst t_grain t_ways v1 v2 v3 (m_X11_wall_16 t_systems t_grain t_ways v1 k_52 F) k_52) else (m_X11_wall_46 t_systems v3 t_grain t_ways v1 y2 v3 (m_X11_wall_16 t_systems t_grain t_ways v1 k_52 F) k_52)))

set_option maxRecDepth 10000 in
set_option maxHeartbeats 8000000 in
theorem g_X11_wall_16 {l : Launch} {E : EE} {b0 n : Nat} {h : AH} {a_t : Nat} {t_thrown t_taped t_p t_fault t_baseLow t_baseHigh t_newBaseLow t_newBaseHigh t_from t_knots t_lines t_chosen t_undos t_redos t_aimedMany t_fits t_fitOf t_sights t_systems t_own t_cross t_curveLong v1 : Int} {t_grain t_ways : Nat → Int} {r : Int × Int} {k_52 : Int → Int → Int → Option (Int × Int)} (ao : AO b0 n [a_t, (a_t + 44), (a_t + 45)]) (ok_t_systems : inI t_systems) (ok_t_grain : okA t_grain) (ok_t_ways : okA t_ways) (ok_v1 : inI v1) (hk_52 : ∀ (t_wallFirst_ : Int) (v2_ : Int) (v3_ : Int), inI t_wallFirst_ → inI v2_ → inI v3_ → k_52 t_wallFirst_ v2_ v3_ = some r → G l E b0 M_X11_wall (fun _ => True) (ZM E b0 (some (vI r.1)) (ov [a_t, (a_t + 44), (a_t + 45)] [.inr (11, fsX11 a_t t_thrown t_taped t_p t_fault t_baseLow t_baseHigh t_newBaseLow t_newBaseHigh t_from t_knots t_lines t_chosen t_undos t_redos t_aimedMany t_fits t_fitOf t_sights t_systems t_own t_cross t_curveLong r.2), IA E 800 t_grain, IA E 48 t_ways] h) n (inI r.1 ∧ inI r.2) 0 0) 0 0 n (ov [a_t, (a_t + 44), (a_t + 45)] [.inr (11, fsX11 a_t t_thrown t_taped t_p t_fault t_baseLow t_baseHigh t_newBaseLow t_newBaseHigh t_from t_knots t_lines t_chosen t_undos t_redos t_aimedMany t_fits t_fitOf t_sights t_systems t_own t_cross t_curveLong t_wallFirst_), IA E 800 t_grain, IA E 48 t_ways] h) 52 [none, none, some (vI v2_), none, none] []) :
    ∀ (F : Nat) (t_wallFirst : Int) (v2 : Int) (v3 : Int), inI t_wallFirst → inI v2 → inI v3 → m_X11_wall_16 t_systems t_grain t_ways v1 k_52 F t_wallFirst v2 v3 = some r → G l E b0 M_X11_wall (fun _ => True) (ZM E b0 (some (vI r.1)) (ov [a_t, (a_t + 44), (a_t + 45)] [.inr (11, fsX11 a_t t_thrown t_taped t_p t_fault t_baseLow t_baseHigh t_newBaseLow t_newBaseHigh t_from t_knots t_lines t_chosen t_undos t_redos t_aimedMany t_fits t_fitOf t_sights t_systems t_own t_cross t_curveLong r.2), IA E 800 t_grain, IA E 48 t_ways] h) n (inI r.1 ∧ inI r.2) 0 0) 0 0 n (ov [a_t, (a_t + 44), (a_t + 45)] [.inr (11, fsX11 a_t t_thrown t_taped t_p t_fault t_baseLow t_baseHigh t_newBaseLow t_newBaseHigh t_from t_knots t_lines t_chosen t_undos t_redos t_aimedMany t_fits t_fitOf t_sights t_systems t_own t_cross t_curveLong t_wallFirst), IA E 800 t_grain, IA E 48 t_ways] h) 16 [some (.ref a_t), some (vI v1), some (vI v2), some (vI v3), none] [] := by
  intro F
  induction F with
  | zero =>
    intro t_wallFirst v2 v3 ok_t_wallFirst ok_v2 ok_v3 hs
    rw [m_X11_wall_16] at hs
    cases hs
  | succ F ih =>
    intro t_wallFirst v2 v3 ok_t_wallFirst ok_v2 ok_v3 hs
    rw [m_X11_wall_16] at hs
    refine g_iload_n e_X11_wall_16 rfl ?_
    refine g_aload_n e_X11_wall_17 rfl ?_
    refine g_get 0 61 ao rfl rfl fsX11_g61 fl_X11_398 e_X11_wall_18 ?_
    refine g_icmp_ge e_X11_wall_21 ok_v3 ok_t_systems hs (fun c21 hs => ?_) (fun c21 hs => ?_)
    · refine g_iload_n e_X11_wall_52 rfl ?_
      obtain rfl := Option.some.inj hs
      exact g_iret rfl ⟨ok_v2, ok_t_wallFirst⟩ e_X11_wall_53
    · refine g_aload_n e_X11_wall_24 rfl ?_
      refine g_iload_n e_X11_wall_25 rfl ?_
      refine g_iload_n e_X11_wall_26 rfl ?_
      obtain ⟨y2, hy2, hs⟩ := bind_elim hs
      refine g_callVr [vI v3, vI v1] cv_X11_442 ⟨rfl, rfl, Nat.le_of_ble_eq_true rfl, Nat.le_of_ble_eq_true rfl⟩ (ct_X11_wallFrom (a_t := a_t) (AO_call [0, 1, 2] ao (by decide) rfl) (FA_call [0, 1, 2] ao.1 rfl rfl) ok_t_systems ok_t_grain ok_t_ways ok_v3 ok_v1 hy2) e_X11_wall_27 (ao.2 0 _ rfl) (ov_get 0 ao.1 rfl rfl) rfl rfl rfl (Nat.le_of_ble_eq_true rfl) ⟨Nat.le_refl _, Nat.le_refl _⟩ (fun Py2 => ?_)
      refine g_istore e_X11_wall_30 st1_4 rfl ?_
      refine g_iload e_X11_wall_32 rfl ?_
      refine g_iload_n e_X11_wall_34 rfl ?_
      refine g_icmp_le e_X11_wall_35 Py2 ok_v2 hs (fun c35 hs => ?_) (fun c35 hs => ?_)
      · exact g_mask [true, true, true, true, false] (g_X11_wall_46 ao ok_t_systems ok_t_wallFirst ok_t_grain ok_t_ways ok_v1 ok_v2 ok_v3 ih hk_52 hs)
      · refine g_iload e_X11_wall_38 rfl ?_
        refine g_istore_n e_X11_wall_40 st1_2 rfl ?_
        refine g_aload_n e_X11_wall_41 rfl ?_
        refine g_iload_n e_X11_wall_42 rfl ?_
        refine g_put 0 70 ao rfl rfl fsX11_k70 fsX11_s70 ls_0 fw_X11_445 (fun h => by cases h) ⟨rfl, rfl⟩ e_X11_wall_43 ?_
        exact g_mask [true, true, true, true, false] (g_X11_wall_46 ao ok_t_systems ok_v3 ok_t_grain ok_t_ways ok_v1 Py2 ok_v3 ih hk_52 hs)

noncomputable def m_X11_wall_52 (t_wallFirst : Int) (v2 : Int) : Option (Int × Int) :=
  some (v2, t_wallFirst)

set_option maxRecDepth 10000 in
set_option maxHeartbeats 8000000 in
theorem g_X11_wall_52 {l : Launch} {E : EE} {b0 n : Nat} {h : AH} {a_t : Nat} {t_thrown t_taped t_p t_fault t_baseLow t_baseHigh t_newBaseLow t_newBaseHigh t_from t_knots t_lines t_chosen t_undos t_redos t_aimedMany t_fits t_fitOf t_sights t_systems t_own t_cross t_curveLong t_wallFirst v2 : Int} {t_grain t_ways : Nat → Int} {r : Int × Int} (ao : AO b0 n [a_t, (a_t + 44), (a_t + 45)]) (ok_t_systems : inI t_systems) (ok_t_wallFirst : inI t_wallFirst) (ok_t_grain : okA t_grain) (ok_t_ways : okA t_ways) (ok_v2 : inI v2) (hs : m_X11_wall_52 t_wallFirst v2 = some r) : G l E b0 M_X11_wall (fun _ => True) (ZM E b0 (some (vI r.1)) (ov [a_t, (a_t + 44), (a_t + 45)] [.inr (11, fsX11 a_t t_thrown t_taped t_p t_fault t_baseLow t_baseHigh t_newBaseLow t_newBaseHigh t_from t_knots t_lines t_chosen t_undos t_redos t_aimedMany t_fits t_fitOf t_sights t_systems t_own t_cross t_curveLong r.2), IA E 800 t_grain, IA E 48 t_ways] h) n (inI r.1 ∧ inI r.2) 0 0) 0 0 n (ov [a_t, (a_t + 44), (a_t + 45)] [.inr (11, fsX11 a_t t_thrown t_taped t_p t_fault t_baseLow t_baseHigh t_newBaseLow t_newBaseHigh t_from t_knots t_lines t_chosen t_undos t_redos t_aimedMany t_fits t_fitOf t_sights t_systems t_own t_cross t_curveLong t_wallFirst), IA E 800 t_grain, IA E 48 t_ways] h) 52 [none, none, some (vI v2), none, none] [] := by
  rw [m_X11_wall_52] at hs
  refine g_iload_n e_X11_wall_52 rfl ?_
  obtain rfl := Option.some.inj hs
  exact g_iret rfl ⟨ok_v2, ok_t_wallFirst⟩ e_X11_wall_53

noncomputable def m_X11_wall_0 (t_systems : Int) (t_wallFirst : Int) (t_grain : Nat → Int) (t_ways : Nat → Int) (v1 : Int) : Option (Int × Int) :=
  (m_X11_in v1 0 99).bind (fun y1 => if y1 = 0 then (some ((-1), t_wallFirst)) else (m_X11_wall_16 t_systems t_grain t_ways v1 (fun t_wallFirst' v2' v3' => m_X11_wall_52 t_wallFirst' v2') FU t_wallFirst 0 0))

set_option maxRecDepth 10000 in
set_option maxHeartbeats 8000000 in
theorem g_X11_wall_0 {l : Launch} {E : EE} {b0 n : Nat} {h : AH} {a_t : Nat} {t_thrown t_taped t_p t_fault t_baseLow t_baseHigh t_newBaseLow t_newBaseHigh t_from t_knots t_lines t_chosen t_undos t_redos t_aimedMany t_fits t_fitOf t_sights t_systems t_own t_cross t_curveLong t_wallFirst v1 : Int} {t_grain t_ways : Nat → Int} {r : Int × Int} (ao : AO b0 n [a_t, (a_t + 44), (a_t + 45)]) (ok_t_systems : inI t_systems) (ok_t_wallFirst : inI t_wallFirst) (ok_t_grain : okA t_grain) (ok_t_ways : okA t_ways) (ok_v1 : inI v1) (hs : m_X11_wall_0 t_systems t_wallFirst t_grain t_ways v1 = some r) : G l E b0 M_X11_wall (fun _ => True) (ZM E b0 (some (vI r.1)) (ov [a_t, (a_t + 44), (a_t + 45)] [.inr (11, fsX11 a_t t_thrown t_taped t_p t_fault t_baseLow t_baseHigh t_newBaseLow t_newBaseHigh t_from t_knots t_lines t_chosen t_undos t_redos t_aimedMany t_fits t_fitOf t_sights t_systems t_own t_cross t_curveLong r.2), IA E 800 t_grain, IA E 48 t_ways] h) n (inI r.1 ∧ inI r.2) 0 0) 0 0 n (ov [a_t, (a_t + 44), (a_t + 45)] [.inr (11, fsX11 a_t t_thrown t_taped t_p t_fault t_baseLow t_baseHigh t_newBaseLow t_newBaseHigh t_from t_knots t_lines t_chosen t_undos t_redos t_aimedMany t_fits t_fitOf t_sights t_systems t_own t_cross t_curveLong t_wallFirst), IA E 800 t_grain, IA E 48 t_ways] h) 0 [some (.ref a_t), some (vI v1), none, none, none] [] := by
  rw [m_X11_wall_0] at hs
  refine g_iload_n e_X11_wall_0 rfl ?_
  refine g_iconst e_X11_wall_1 ?_
  refine g_bipush e_X11_wall_2 bp_99 ?_
  obtain ⟨y1, hy1, hs⟩ := bind_elim hs
  refine g_callSr [vI v1, vI 0, vI 99] cs_X11_226 ⟨rfl, rfl, Nat.le_of_ble_eq_true rfl, Nat.le_of_ble_eq_true rfl⟩ (ct_X11_in ⟨List.nodup_nil, fun i a h => by simp at h⟩ (fun i a e h => by simp at h) ok_v1 (by decide : inI 0) (by decide : inI 99) hy1) e_X11_wall_4 rfl rfl (Nat.le_of_ble_eq_true rfl) ⟨Nat.le_refl _, Nat.le_refl _⟩ (fun Py1 => ?_)
  refine g_if_ne e_X11_wall_7 (inZ_I Py1) hs (fun c7 hs => ?_) (fun c7 hs => ?_)
  · refine g_iconst e_X11_wall_10 ?_
    obtain rfl := Option.some.inj hs
    exact g_iret rfl ⟨(by decide : inI (-1)), ok_t_wallFirst⟩ e_X11_wall_11
  · refine g_iconst e_X11_wall_12 ?_
    refine g_istore_n e_X11_wall_13 st1_2 rfl ?_
    refine g_iconst e_X11_wall_14 ?_
    refine g_istore_n e_X11_wall_15 st1_3 rfl ?_
    exact g_X11_wall_16 ao ok_t_systems ok_t_grain ok_t_ways ok_v1 (hk_52 := by
      intro t_wallFirst' v2' v3' ok_t_wallFirst' ok_v2' ok_v3' hs
      exact g_X11_wall_52 ao ok_t_systems ok_t_wallFirst' ok_t_grain ok_t_ways ok_v2' hs) FU _ _ _ ok_t_wallFirst (by decide : inI 0) (by decide : inI 0) hs

noncomputable def m_X11_wall (t_systems : Int) (t_wallFirst : Int) (t_grain : Nat → Int) (t_ways : Nat → Int) (v1 : Int) : Option (Int × Int) := m_X11_wall_0 t_systems t_wallFirst t_grain t_ways v1

set_option maxRecDepth 10000 in
set_option maxHeartbeats 8000000 in
theorem ct_X11_wall {l : Launch} {E : EE} {b0 n : Nat} {h : AH} {a_t : Nat} {t_thrown t_taped t_p t_fault t_baseLow t_baseHigh t_newBaseLow t_newBaseHigh t_from t_knots t_lines t_chosen t_undos t_redos t_aimedMany t_fits t_fitOf t_sights t_systems t_own t_cross t_curveLong t_wallFirst : Int} {t_grain t_ways : Nat → Int} {v1 : Int} (ao : AO b0 n [a_t, (a_t + 44), (a_t + 45)]) (hf : FA h [a_t, (a_t + 44), (a_t + 45)] [.inr (11, fsX11 a_t t_thrown t_taped t_p t_fault t_baseLow t_baseHigh t_newBaseLow t_newBaseHigh t_from t_knots t_lines t_chosen t_undos t_redos t_aimedMany t_fits t_fitOf t_sights t_systems t_own t_cross t_curveLong t_wallFirst), IA E 800 t_grain, IA E 48 t_ways]) (ok_t_systems : inI t_systems) (ok_t_wallFirst : inI t_wallFirst) (ok_t_grain : okA t_grain) (ok_t_ways : okA t_ways) (ok_v1 : inI v1) {r : Int × Int} (hm : m_X11_wall t_systems t_wallFirst t_grain t_ways v1 = some r) : Ct l E b0 M_X11_wall 0 0 [.ref a_t, vI v1] h n (some (vI r.1)) (ov [a_t, (a_t + 44), (a_t + 45)] [.inr (11, fsX11 a_t t_thrown t_taped t_p t_fault t_baseLow t_baseHigh t_newBaseLow t_newBaseHigh t_from t_knots t_lines t_chosen t_undos t_redos t_aimedMany t_fits t_fitOf t_sights t_systems t_own t_cross t_curveLong r.2), IA E 800 t_grain, IA E 48 t_ways] h) n (inI r.1 ∧ inI r.2) := by
  rw [m_X11_wall] at hm
  have hg : G l E b0 M_X11_wall (fun _ => True) (ZM E b0 (some (vI r.1)) (ov [a_t, (a_t + 44), (a_t + 45)] [.inr (11, fsX11 a_t t_thrown t_taped t_p t_fault t_baseLow t_baseHigh t_newBaseLow t_newBaseHigh t_from t_knots t_lines t_chosen t_undos t_redos t_aimedMany t_fits t_fitOf t_sights t_systems t_own t_cross t_curveLong r.2), IA E 800 t_grain, IA E 48 t_ways] h) n (inI r.1 ∧ inI r.2) 0 0) 0 0 n (ov [a_t, (a_t + 44), (a_t + 45)] [.inr (11, fsX11 a_t t_thrown t_taped t_p t_fault t_baseLow t_baseHigh t_newBaseLow t_newBaseHigh t_from t_knots t_lines t_chosen t_undos t_redos t_aimedMany t_fits t_fitOf t_sights t_systems t_own t_cross t_curveLong t_wallFirst), IA E 800 t_grain, IA E 48 t_ways] h) 0 [some (.ref a_t), some (vI v1), none, none, none] [] := by
    have hs := hm
    exact g_X11_wall_0 ao ok_t_systems ok_t_wallFirst ok_t_grain ok_t_ways ok_v1 hs
  rw [FA_id hf] at hg
  exact Ct_of [some (.ref a_t), some (vI v1), none, none, none] ⟨by decide +kernel, rfl⟩ rfl (Nat.le_of_ble_eq_true rfl) hg

/-! ===== X11_tilt ===== -/
theorem e_X11_tilt_0 : DC cX11_tilt 0 (.iload_n 1) 1 1 := ⟨by decide +kernel, rfl⟩
theorem e_X11_tilt_1 : DC cX11_tilt 1 (.iconst 0) 1 2 := ⟨by decide +kernel, rfl⟩
theorem e_X11_tilt_2 : DC cX11_tilt 2 (.bipush 99) 2 4 := ⟨by decide +kernel, rfl⟩
theorem e_X11_tilt_4 : DC cX11_tilt 4 (.invokestatic 226) 3 7 := ⟨by decide +kernel, rfl⟩
theorem e_X11_tilt_7 : DB cX11_tilt 7 (.ifCond .eq 12) (12) 3 10 19 := ⟨by decide +kernel, rfl, rfl⟩
theorem e_X11_tilt_10 : DC cX11_tilt 10 (.iload_n 2) 1 11 := ⟨by decide +kernel, rfl⟩
theorem e_X11_tilt_11 : DC cX11_tilt 11 (.iconst 0) 1 12 := ⟨by decide +kernel, rfl⟩
theorem e_X11_tilt_12 : DC cX11_tilt 12 (.iconst 2) 1 13 := ⟨by decide +kernel, rfl⟩
theorem e_X11_tilt_13 : DC cX11_tilt 13 (.invokestatic 226) 3 16 := ⟨by decide +kernel, rfl⟩
theorem e_X11_tilt_16 : DB cX11_tilt 16 (.ifCond .ne 7) (7) 3 19 23 := ⟨by decide +kernel, rfl, rfl⟩
theorem e_X11_tilt_19 : DC cX11_tilt 19 (.ldc_w 294) 3 22 := ⟨by decide +kernel, rfl⟩
theorem e_X11_tilt_22 : DC cX11_tilt 22 (.ireturn) 1 23 := ⟨by decide +kernel, rfl⟩
theorem e_X11_tilt_23 : DC cX11_tilt 23 (.aload_n 0) 1 24 := ⟨by decide +kernel, rfl⟩
theorem e_X11_tilt_24 : DC cX11_tilt 24 (.iload_n 1) 1 25 := ⟨by decide +kernel, rfl⟩
theorem e_X11_tilt_25 : DC cX11_tilt 25 (.invokevirtual 448) 3 28 := ⟨by decide +kernel, rfl⟩
theorem e_X11_tilt_28 : DC cX11_tilt 28 (.istore_n 3) 1 29 := ⟨by decide +kernel, rfl⟩
theorem e_X11_tilt_29 : DC cX11_tilt 29 (.iload_n 3) 1 30 := ⟨by decide +kernel, rfl⟩
theorem e_X11_tilt_30 : DB cX11_tilt 30 (.ifCond .ne 7) (7) 3 33 37 := ⟨by decide +kernel, rfl, rfl⟩
theorem e_X11_tilt_33 : DC cX11_tilt 33 (.iconst 0) 1 34 := ⟨by decide +kernel, rfl⟩
theorem e_X11_tilt_34 : DB cX11_tilt 34 (.goto 36) (36) 3 37 70 := ⟨by decide +kernel, rfl, rfl⟩
theorem e_X11_tilt_37 : DC cX11_tilt 37 (.iload_n 3) 1 38 := ⟨by decide +kernel, rfl⟩
theorem e_X11_tilt_38 : DC cX11_tilt 38 (.aload_n 0) 1 39 := ⟨by decide +kernel, rfl⟩
theorem e_X11_tilt_39 : DC cX11_tilt 39 (.getfield 142) 3 42 := ⟨by decide +kernel, rfl⟩
theorem e_X11_tilt_42 : DC cX11_tilt 42 (.bipush 100) 2 44 := ⟨by decide +kernel, rfl⟩
theorem e_X11_tilt_44 : DC cX11_tilt 44 (.aload_n 0) 1 45 := ⟨by decide +kernel, rfl⟩
theorem e_X11_tilt_45 : DC cX11_tilt 45 (.getfield 445) 3 48 := ⟨by decide +kernel, rfl⟩
theorem e_X11_tilt_48 : DC cX11_tilt 48 (.imul) 1 49 := ⟨by decide +kernel, rfl⟩
theorem e_X11_tilt_49 : DC cX11_tilt 49 (.iload_n 1) 1 50 := ⟨by decide +kernel, rfl⟩
theorem e_X11_tilt_50 : DC cX11_tilt 50 (.iadd) 1 51 := ⟨by decide +kernel, rfl⟩
theorem e_X11_tilt_51 : DC cX11_tilt 51 (.iaload) 1 52 := ⟨by decide +kernel, rfl⟩
theorem e_X11_tilt_52 : DC cX11_tilt 52 (.imul) 1 53 := ⟨by decide +kernel, rfl⟩
theorem e_X11_tilt_53 : DC cX11_tilt 53 (.aload_n 0) 1 54 := ⟨by decide +kernel, rfl⟩
theorem e_X11_tilt_54 : DC cX11_tilt 54 (.getfield 145) 3 57 := ⟨by decide +kernel, rfl⟩
theorem e_X11_tilt_57 : DC cX11_tilt 57 (.bipush 6) 2 59 := ⟨by decide +kernel, rfl⟩
theorem e_X11_tilt_59 : DC cX11_tilt 59 (.aload_n 0) 1 60 := ⟨by decide +kernel, rfl⟩
theorem e_X11_tilt_60 : DC cX11_tilt 60 (.getfield 445) 3 63 := ⟨by decide +kernel, rfl⟩
theorem e_X11_tilt_63 : DC cX11_tilt 63 (.imul) 1 64 := ⟨by decide +kernel, rfl⟩
theorem e_X11_tilt_64 : DC cX11_tilt 64 (.iconst 3) 1 65 := ⟨by decide +kernel, rfl⟩
theorem e_X11_tilt_65 : DC cX11_tilt 65 (.iadd) 1 66 := ⟨by decide +kernel, rfl⟩
theorem e_X11_tilt_66 : DC cX11_tilt 66 (.iload_n 2) 1 67 := ⟨by decide +kernel, rfl⟩
theorem e_X11_tilt_67 : DC cX11_tilt 67 (.iadd) 1 68 := ⟨by decide +kernel, rfl⟩
theorem e_X11_tilt_68 : DC cX11_tilt 68 (.iaload) 1 69 := ⟨by decide +kernel, rfl⟩
theorem e_X11_tilt_69 : DC cX11_tilt 69 (.imul) 1 70 := ⟨by decide +kernel, rfl⟩
theorem e_X11_tilt_70 : DC cX11_tilt 70 (.ireturn) 1 71 := ⟨by decide +kernel, rfl⟩
noncomputable def m_X11_tilt_0 (t_systems : Int) (t_wallFirst : Int) (t_grain : Nat → Int) (t_ways : Nat → Int) (v1 : Int) (v2 : Int) : Option (Int × Int) :=
  (m_X11_in v1 0 99).bind (fun y1 => if y1 = 0 then (some ((-100000), t_wallFirst)) else ((m_X11_in v2 0 2).bind (fun y2 => if y2 = 0 then (some ((-100000), t_wallFirst)) else ((m_X11_wall t_systems t_wallFirst t_grain t_ways v1).bind (fun y3 => if y3.1 = 0 then (some (0, y3.2)) else (chk (inB ((100 * y3.2) + v1) 800) (chk (inB (((6 * y3.2) + 3) + v2) 48) (chk (inI ((y3.1 * (t_grain (Int.toNat ((100 * y3.2) + v1)))) * (t_ways (Int.toNat (((6 * y3.2) + 3) + v2))))) (some ((y3.1 * (t_grain (Int.toNat ((100 * y3.2) + v1)))) * (t_ways (Int.toNat (((6 * y3.2) + 3) + v2))), y3.2))))))))))

set_option maxRecDepth 10000 in
set_option maxHeartbeats 8000000 in
theorem g_X11_tilt_0 {l : Launch} {E : EE} {b0 n : Nat} {h : AH} {a_t : Nat} {t_thrown t_taped t_p t_fault t_baseLow t_baseHigh t_newBaseLow t_newBaseHigh t_from t_knots t_lines t_chosen t_undos t_redos t_aimedMany t_fits t_fitOf t_sights t_systems t_own t_cross t_curveLong t_wallFirst v1 v2 : Int} {t_grain t_ways : Nat → Int} {r : Int × Int} (ao : AO b0 n [a_t, (a_t + 44), (a_t + 45)]) (ok_t_systems : inI t_systems) (ok_t_wallFirst : inI t_wallFirst) (ok_t_grain : okA t_grain) (ok_t_ways : okA t_ways) (ok_v1 : inI v1) (ok_v2 : inI v2) (hs : m_X11_tilt_0 t_systems t_wallFirst t_grain t_ways v1 v2 = some r) : G l E b0 M_X11_tilt (fun _ => True) (ZM E b0 (some (vI r.1)) (ov [a_t, (a_t + 44), (a_t + 45)] [.inr (11, fsX11 a_t t_thrown t_taped t_p t_fault t_baseLow t_baseHigh t_newBaseLow t_newBaseHigh t_from t_knots t_lines t_chosen t_undos t_redos t_aimedMany t_fits t_fitOf t_sights t_systems t_own t_cross t_curveLong r.2), IA E 800 t_grain, IA E 48 t_ways] h) n (inI r.1 ∧ inI r.2) 0 0) 0 0 n (ov [a_t, (a_t + 44), (a_t + 45)] [.inr (11, fsX11 a_t t_thrown t_taped t_p t_fault t_baseLow t_baseHigh t_newBaseLow t_newBaseHigh t_from t_knots t_lines t_chosen t_undos t_redos t_aimedMany t_fits t_fitOf t_sights t_systems t_own t_cross t_curveLong t_wallFirst), IA E 800 t_grain, IA E 48 t_ways] h) 0 [some (.ref a_t), some (vI v1), some (vI v2), none] [] := by
  rw [m_X11_tilt_0] at hs
  refine g_iload_n e_X11_tilt_0 rfl ?_
  refine g_iconst e_X11_tilt_1 ?_
  refine g_bipush e_X11_tilt_2 bp_99 ?_
  obtain ⟨y1, hy1, hs⟩ := bind_elim hs
  refine g_callSr [vI v1, vI 0, vI 99] cs_X11_226 ⟨rfl, rfl, Nat.le_of_ble_eq_true rfl, Nat.le_of_ble_eq_true rfl⟩ (ct_X11_in ⟨List.nodup_nil, fun i a h => by simp at h⟩ (fun i a e h => by simp at h) ok_v1 (by decide : inI 0) (by decide : inI 99) hy1) e_X11_tilt_4 rfl rfl (Nat.le_of_ble_eq_true rfl) ⟨Nat.le_refl _, Nat.le_refl _⟩ (fun Py1 => ?_)
  refine g_if_eq e_X11_tilt_7 (inZ_I Py1) hs (fun c7 hs => ?_) (fun c7 hs => ?_)
  · refine g_ldcw (a := -100000) e_X11_tilt_19 k_X11_294 ?_
    obtain rfl := Option.some.inj hs
    exact g_iret rfl ⟨(by decide : inI (-100000)), ok_t_wallFirst⟩ e_X11_tilt_22
  · refine g_iload_n e_X11_tilt_10 rfl ?_
    refine g_iconst e_X11_tilt_11 ?_
    refine g_iconst e_X11_tilt_12 ?_
    obtain ⟨y2, hy2, hs⟩ := bind_elim hs
    refine g_callSr [vI v2, vI 0, vI 2] cs_X11_226 ⟨rfl, rfl, Nat.le_of_ble_eq_true rfl, Nat.le_of_ble_eq_true rfl⟩ (ct_X11_in ⟨List.nodup_nil, fun i a h => by simp at h⟩ (fun i a e h => by simp at h) ok_v2 (by decide : inI 0) (by decide : inI 2) hy2) e_X11_tilt_13 rfl rfl (Nat.le_of_ble_eq_true rfl) ⟨Nat.le_refl _, Nat.le_refl _⟩ (fun Py2 => ?_)
    refine g_if_ne e_X11_tilt_16 (inZ_I Py2) hs (fun c16 hs => ?_) (fun c16 hs => ?_)
    · refine g_ldcw (a := -100000) e_X11_tilt_19 k_X11_294 ?_
      obtain rfl := Option.some.inj hs
      exact g_iret rfl ⟨(by decide : inI (-100000)), ok_t_wallFirst⟩ e_X11_tilt_22
    · refine g_aload_n e_X11_tilt_23 rfl ?_
      refine g_iload_n e_X11_tilt_24 rfl ?_
      obtain ⟨y3, hy3, hs⟩ := bind_elim hs
      refine g_callVr [vI v1] cv_X11_448 ⟨rfl, rfl, Nat.le_of_ble_eq_true rfl, Nat.le_of_ble_eq_true rfl⟩ (Ct_heap (ct_X11_wall (a_t := a_t) (AO_call [0, 1, 2] ao (by decide) rfl) (FA_call [0, 1, 2] ao.1 rfl rfl) ok_t_systems ok_t_wallFirst ok_t_grain ok_t_ways ok_v1 hy3) (ov_call (esn := [.inr (11, fsX11 a_t t_thrown t_taped t_p t_fault t_baseLow t_baseHigh t_newBaseLow t_newBaseHigh t_from t_knots t_lines t_chosen t_undos t_redos t_aimedMany t_fits t_fitOf t_sights t_systems t_own t_cross t_curveLong y3.2), IA E 800 t_grain, IA E 48 t_ways]) [0, 1, 2] ao.1 rfl rfl rfl rfl)) e_X11_tilt_25 (ao.2 0 _ rfl) (ov_get 0 ao.1 rfl rfl) rfl rfl rfl (Nat.le_of_ble_eq_true rfl) ⟨Nat.le_refl _, Nat.le_refl _⟩ (fun Py3 => ?_)
      refine g_istore_n e_X11_tilt_28 st1_3 rfl ?_
      refine g_iload_n e_X11_tilt_29 rfl ?_
      refine g_if_ne e_X11_tilt_30 Py3.1 hs (fun c30 hs => ?_) (fun c30 hs => ?_)
      · refine g_iconst e_X11_tilt_33 ?_
        refine g_goto e_X11_tilt_34 ?_
        obtain rfl := Option.some.inj hs
        exact g_iret rfl ⟨(by decide : inI 0), Py3.2⟩ e_X11_tilt_70
      · refine g_iload_n e_X11_tilt_37 rfl ?_
        refine g_aload_n e_X11_tilt_38 rfl ?_
        refine g_get 0 64 ao rfl rfl fsX11_g64 fl_X11_142 e_X11_tilt_39 ?_
        refine g_bipush e_X11_tilt_42 bp_100 ?_
        refine g_aload_n e_X11_tilt_44 rfl ?_
        refine g_get 0 70 ao rfl rfl fsX11_g70 fl_X11_445 e_X11_tilt_45 ?_
        refine g_imul e_X11_tilt_48 ?_
        refine g_iload_n e_X11_tilt_49 rfl ?_
        refine g_iadd e_X11_tilt_50 ?_
        refine g_iald 1 ao rfl rfl (Nat.le_of_ble_eq_true rfl) e_X11_tilt_51 hs (fun hi4 hs => ?_)
        refine g_imul e_X11_tilt_52 ?_
        refine g_aload_n e_X11_tilt_53 rfl ?_
        refine g_get 0 65 ao rfl rfl fsX11_g65 fl_X11_145 e_X11_tilt_54 ?_
        refine g_bipush e_X11_tilt_57 bp_6 ?_
        refine g_aload_n e_X11_tilt_59 rfl ?_
        refine g_get 0 70 ao rfl rfl fsX11_g70 fl_X11_445 e_X11_tilt_60 ?_
        refine g_imul e_X11_tilt_63 ?_
        refine g_iconst e_X11_tilt_64 ?_
        refine g_iadd e_X11_tilt_65 ?_
        refine g_iload_n e_X11_tilt_66 rfl ?_
        refine g_iadd e_X11_tilt_67 ?_
        refine g_iald 2 ao rfl rfl (Nat.le_of_ble_eq_true rfl) e_X11_tilt_68 hs (fun hi5 hs => ?_)
        refine g_imul e_X11_tilt_69 ?_
        obtain ⟨hc6, hs⟩ := chk_elim hs
        obtain rfl := Option.some.inj hs
        exact g_iret rfl ⟨hc6, Py3.2⟩ e_X11_tilt_70

noncomputable def m_X11_tilt (t_systems : Int) (t_wallFirst : Int) (t_grain : Nat → Int) (t_ways : Nat → Int) (v1 : Int) (v2 : Int) : Option (Int × Int) := m_X11_tilt_0 t_systems t_wallFirst t_grain t_ways v1 v2

set_option maxRecDepth 10000 in
set_option maxHeartbeats 8000000 in
theorem ct_X11_tilt {l : Launch} {E : EE} {b0 n : Nat} {h : AH} {a_t : Nat} {t_thrown t_taped t_p t_fault t_baseLow t_baseHigh t_newBaseLow t_newBaseHigh t_from t_knots t_lines t_chosen t_undos t_redos t_aimedMany t_fits t_fitOf t_sights t_systems t_own t_cross t_curveLong t_wallFirst : Int} {t_grain t_ways : Nat → Int} {v1 v2 : Int} (ao : AO b0 n [a_t, (a_t + 44), (a_t + 45)]) (hf : FA h [a_t, (a_t + 44), (a_t + 45)] [.inr (11, fsX11 a_t t_thrown t_taped t_p t_fault t_baseLow t_baseHigh t_newBaseLow t_newBaseHigh t_from t_knots t_lines t_chosen t_undos t_redos t_aimedMany t_fits t_fitOf t_sights t_systems t_own t_cross t_curveLong t_wallFirst), IA E 800 t_grain, IA E 48 t_ways]) (ok_t_systems : inI t_systems) (ok_t_wallFirst : inI t_wallFirst) (ok_t_grain : okA t_grain) (ok_t_ways : okA t_ways) (ok_v1 : inI v1) (ok_v2 : inI v2) {r : Int × Int} (hm : m_X11_tilt t_systems t_wallFirst t_grain t_ways v1 v2 = some r) : Ct l E b0 M_X11_tilt 0 0 [.ref a_t, vI v1, vI v2] h n (some (vI r.1)) (ov [a_t, (a_t + 44), (a_t + 45)] [.inr (11, fsX11 a_t t_thrown t_taped t_p t_fault t_baseLow t_baseHigh t_newBaseLow t_newBaseHigh t_from t_knots t_lines t_chosen t_undos t_redos t_aimedMany t_fits t_fitOf t_sights t_systems t_own t_cross t_curveLong r.2), IA E 800 t_grain, IA E 48 t_ways] h) n (inI r.1 ∧ inI r.2) := by
  rw [m_X11_tilt] at hm
  have hg : G l E b0 M_X11_tilt (fun _ => True) (ZM E b0 (some (vI r.1)) (ov [a_t, (a_t + 44), (a_t + 45)] [.inr (11, fsX11 a_t t_thrown t_taped t_p t_fault t_baseLow t_baseHigh t_newBaseLow t_newBaseHigh t_from t_knots t_lines t_chosen t_undos t_redos t_aimedMany t_fits t_fitOf t_sights t_systems t_own t_cross t_curveLong r.2), IA E 800 t_grain, IA E 48 t_ways] h) n (inI r.1 ∧ inI r.2) 0 0) 0 0 n (ov [a_t, (a_t + 44), (a_t + 45)] [.inr (11, fsX11 a_t t_thrown t_taped t_p t_fault t_baseLow t_baseHigh t_newBaseLow t_newBaseHigh t_from t_knots t_lines t_chosen t_undos t_redos t_aimedMany t_fits t_fitOf t_sights t_systems t_own t_cross t_curveLong t_wallFirst), IA E 800 t_grain, IA E 48 t_ways] h) 0 [some (.ref a_t), some (vI v1), some (vI v2), none] [] := by
    have hs := hm
    exact g_X11_tilt_0 ao ok_t_systems ok_t_wallFirst ok_t_grain ok_t_ways ok_v1 ok_v2 hs
  rw [FA_id hf] at hg
  exact Ct_of [some (.ref a_t), some (vI v1), some (vI v2), none] ⟨by decide +kernel, rfl⟩ rfl (Nat.le_of_ble_eq_true rfl) hg

/-! ===== X11_shieldAt ===== -/
theorem e_X11_shieldAt_0 : DC cX11_shieldAt 0 (.iconst 0) 1 1 := ⟨by decide +kernel, rfl⟩
theorem e_X11_shieldAt_1 : DC cX11_shieldAt 1 (.istore_n 2) 1 2 := ⟨by decide +kernel, rfl⟩
theorem e_X11_shieldAt_2 : DC cX11_shieldAt 2 (.iconst 1) 1 3 := ⟨by decide +kernel, rfl⟩
theorem e_X11_shieldAt_3 : DC cX11_shieldAt 3 (.istore_n 3) 1 4 := ⟨by decide +kernel, rfl⟩
theorem e_X11_shieldAt_4 : DC cX11_shieldAt 4 (.iload_n 3) 1 5 := ⟨by decide +kernel, rfl⟩
theorem e_X11_shieldAt_5 : DC cX11_shieldAt 5 (.bipush 21) 2 7 := ⟨by decide +kernel, rfl⟩
theorem e_X11_shieldAt_7 : DB cX11_shieldAt 7 (.if_icmp .ge 35) (35) 3 10 42 := ⟨by decide +kernel, rfl, rfl⟩
theorem e_X11_shieldAt_10 : DC cX11_shieldAt 10 (.iload_n 1) 1 11 := ⟨by decide +kernel, rfl⟩
theorem e_X11_shieldAt_11 : DC cX11_shieldAt 11 (.iload_n 3) 1 12 := ⟨by decide +kernel, rfl⟩
theorem e_X11_shieldAt_12 : DC cX11_shieldAt 12 (.iadd) 1 13 := ⟨by decide +kernel, rfl⟩
theorem e_X11_shieldAt_13 : DC cX11_shieldAt 13 (.bipush 100) 2 15 := ⟨by decide +kernel, rfl⟩
theorem e_X11_shieldAt_15 : DB cX11_shieldAt 15 (.if_icmp .ge 27) (27) 3 18 42 := ⟨by decide +kernel, rfl, rfl⟩
theorem e_X11_shieldAt_18 : DC cX11_shieldAt 18 (.iload_n 2) 1 19 := ⟨by decide +kernel, rfl⟩
theorem e_X11_shieldAt_19 : DC cX11_shieldAt 19 (.aload_n 0) 1 20 := ⟨by decide +kernel, rfl⟩
theorem e_X11_shieldAt_20 : DC cX11_shieldAt 20 (.getfield 97) 3 23 := ⟨by decide +kernel, rfl⟩
theorem e_X11_shieldAt_23 : DC cX11_shieldAt 23 (.iload_n 1) 1 24 := ⟨by decide +kernel, rfl⟩
theorem e_X11_shieldAt_24 : DC cX11_shieldAt 24 (.iload_n 3) 1 25 := ⟨by decide +kernel, rfl⟩
theorem e_X11_shieldAt_25 : DC cX11_shieldAt 25 (.iadd) 1 26 := ⟨by decide +kernel, rfl⟩
theorem e_X11_shieldAt_26 : DC cX11_shieldAt 26 (.iaload) 1 27 := ⟨by decide +kernel, rfl⟩
theorem e_X11_shieldAt_27 : DC cX11_shieldAt 27 (.aload_n 0) 1 28 := ⟨by decide +kernel, rfl⟩
theorem e_X11_shieldAt_28 : DC cX11_shieldAt 28 (.getfield 26) 3 31 := ⟨by decide +kernel, rfl⟩
theorem e_X11_shieldAt_31 : DC cX11_shieldAt 31 (.iload_n 3) 1 32 := ⟨by decide +kernel, rfl⟩
theorem e_X11_shieldAt_32 : DC cX11_shieldAt 32 (.iaload) 1 33 := ⟨by decide +kernel, rfl⟩
theorem e_X11_shieldAt_33 : DC cX11_shieldAt 33 (.imul) 1 34 := ⟨by decide +kernel, rfl⟩
theorem e_X11_shieldAt_34 : DC cX11_shieldAt 34 (.iadd) 1 35 := ⟨by decide +kernel, rfl⟩
theorem e_X11_shieldAt_35 : DC cX11_shieldAt 35 (.istore_n 2) 1 36 := ⟨by decide +kernel, rfl⟩
theorem e_X11_shieldAt_36 : DC cX11_shieldAt 36 (.iinc 3 1) 3 39 := ⟨by decide +kernel, rfl⟩
theorem e_X11_shieldAt_39 : DB cX11_shieldAt 39 (.goto (-35)) (-35) 3 42 4 := ⟨by decide +kernel, rfl, rfl⟩
theorem e_X11_shieldAt_42 : DC cX11_shieldAt 42 (.iload_n 2) 1 43 := ⟨by decide +kernel, rfl⟩
theorem e_X11_shieldAt_43 : DC cX11_shieldAt 43 (.ireturn) 1 44 := ⟨by decide +kernel, rfl⟩
noncomputable def m_X11_shieldAt_4 (t_push : Nat → Int) (t_row : Nat → Int) (v1 : Int) (k_42 : Int → Int → Option (Int)) : Nat → Int → Int → Option (Int)
  | 0, _, _ => none
  | F + 1, v2, v3 => if 21 ≤ v3 then (some (v2)) else (chk (inI (v1 + v3)) (if 100 ≤ (v1 + v3) then (some (v2)) else (chk (inB (v1 + v3) 100) (chk (inB v3 21) (chk (inI (v2 + ((t_row (Int.toNat (v1 + v3))) * (t_push (Int.toNat v3))))) (chk (inI (v3 + 1)) (m_X11_shieldAt_4 t_push t_row v1 k_42 F (v2 + ((t_row (Int.toNat (v1 + v3))) * (t_push (Int.toNat v3)))) (v3 + 1))))))))

set_option maxRecDepth 10000 in
set_option maxHeartbeats 8000000 in
theorem g_X11_shieldAt_4 {l : Launch} {E : EE} {b0 n : Nat} {h : AH} {a_t : Nat} {t_thrown t_taped t_p t_fault t_baseLow t_baseHigh t_newBaseLow t_newBaseHigh t_from t_knots t_lines t_chosen t_undos t_redos t_aimedMany t_fits t_fitOf t_sights t_systems t_own t_cross t_curveLong t_wallFirst v1 : Int} {t_push t_row : Nat → Int} {r : Int} {k_42 : Int → Int → Option (Int)} (ao : AO b0 n [a_t, (a_t + 6), (a_t + 29)]) (ok_t_push : okA t_push) (ok_t_row : okA t_row) (ok_v1 : inI v1) (hk_42 : ∀ (v2_ : Int) (v3_ : Int), inI v2_ → inI v3_ → k_42 v2_ v3_ = some r → G l E b0 M_X11_shieldAt (fun _ => True) (ZM E b0 (some (vI r)) (ov [a_t, (a_t + 6), (a_t + 29)] [.inr (11, fsX11 a_t t_thrown t_taped t_p t_fault t_baseLow t_baseHigh t_newBaseLow t_newBaseHigh t_from t_knots t_lines t_chosen t_undos t_redos t_aimedMany t_fits t_fitOf t_sights t_systems t_own t_cross t_curveLong t_wallFirst), IA E 21 t_push, IA E 100 t_row] h) n (inI r) 0 0) 0 0 n (ov [a_t, (a_t + 6), (a_t + 29)] [.inr (11, fsX11 a_t t_thrown t_taped t_p t_fault t_baseLow t_baseHigh t_newBaseLow t_newBaseHigh t_from t_knots t_lines t_chosen t_undos t_redos t_aimedMany t_fits t_fitOf t_sights t_systems t_own t_cross t_curveLong t_wallFirst), IA E 21 t_push, IA E 100 t_row] h) 42 [none, none, some (vI v2_), none] []) :
    ∀ (F : Nat) (v2 : Int) (v3 : Int), inI v2 → inI v3 → m_X11_shieldAt_4 t_push t_row v1 k_42 F v2 v3 = some r → G l E b0 M_X11_shieldAt (fun _ => True) (ZM E b0 (some (vI r)) (ov [a_t, (a_t + 6), (a_t + 29)] [.inr (11, fsX11 a_t t_thrown t_taped t_p t_fault t_baseLow t_baseHigh t_newBaseLow t_newBaseHigh t_from t_knots t_lines t_chosen t_undos t_redos t_aimedMany t_fits t_fitOf t_sights t_systems t_own t_cross t_curveLong t_wallFirst), IA E 21 t_push, IA E 100 t_row] h) n (inI r) 0 0) 0 0 n (ov [a_t, (a_t + 6), (a_t + 29)] [.inr (11, fsX11 a_t t_thrown t_taped t_p t_fault t_baseLow t_baseHigh t_newBaseLow t_newBaseHigh t_from t_knots t_lines t_chosen t_undos t_redos t_aimedMany t_fits t_fitOf t_sights t_systems t_own t_cross t_curveLong t_wallFirst), IA E 21 t_push, IA E 100 t_row] h) 4 [some (.ref a_t), some (vI v1), some (vI v2), some (vI v3)] [] := by
  intro F
  induction F with
  | zero =>
    intro v2 v3 ok_v2 ok_v3 hs
    rw [m_X11_shieldAt_4] at hs
    cases hs
  | succ F ih =>
    intro v2 v3 ok_v2 ok_v3 hs
    rw [m_X11_shieldAt_4] at hs
    refine g_iload_n e_X11_shieldAt_4 rfl ?_
    refine g_bipush e_X11_shieldAt_5 bp_21 ?_
    refine g_icmp_ge e_X11_shieldAt_7 ok_v3 (by decide : inI 21) hs (fun c7 hs => ?_) (fun c7 hs => ?_)
    · refine g_iload_n e_X11_shieldAt_42 rfl ?_
      obtain rfl := Option.some.inj hs
      exact g_iret rfl ok_v2 e_X11_shieldAt_43
    · refine g_iload_n e_X11_shieldAt_10 rfl ?_
      refine g_iload_n e_X11_shieldAt_11 rfl ?_
      refine g_iadd e_X11_shieldAt_12 ?_
      refine g_bipush e_X11_shieldAt_13 bp_100 ?_
      obtain ⟨hc1, hs⟩ := chk_elim hs
      refine g_icmp_ge e_X11_shieldAt_15 hc1 (by decide : inI 100) hs (fun c15 hs => ?_) (fun c15 hs => ?_)
      · refine g_iload_n e_X11_shieldAt_42 rfl ?_
        obtain rfl := Option.some.inj hs
        exact g_iret rfl ok_v2 e_X11_shieldAt_43
      · refine g_iload_n e_X11_shieldAt_18 rfl ?_
        refine g_aload_n e_X11_shieldAt_19 rfl ?_
        refine g_get 0 40 ao rfl rfl fsX11_g40 fl_X11_97 e_X11_shieldAt_20 ?_
        refine g_iload_n e_X11_shieldAt_23 rfl ?_
        refine g_iload_n e_X11_shieldAt_24 rfl ?_
        refine g_iadd e_X11_shieldAt_25 ?_
        refine g_iald 2 ao rfl rfl (Nat.le_of_ble_eq_true rfl) e_X11_shieldAt_26 hs (fun hi2 hs => ?_)
        refine g_aload_n e_X11_shieldAt_27 rfl ?_
        refine g_get 0 9 ao rfl rfl fsX11_g9 fl_X11_26 e_X11_shieldAt_28 ?_
        refine g_iload_n e_X11_shieldAt_31 rfl ?_
        refine g_iald 1 ao rfl rfl (Nat.le_of_ble_eq_true rfl) e_X11_shieldAt_32 hs (fun hi3 hs => ?_)
        refine g_imul e_X11_shieldAt_33 ?_
        refine g_iadd e_X11_shieldAt_34 ?_
        refine g_istore_n e_X11_shieldAt_35 st1_2 rfl ?_
        refine g_iinc e_X11_shieldAt_36 rfl st1_3 rfl ?_
        refine g_goto e_X11_shieldAt_39 ?_
        obtain ⟨hc4, hs⟩ := chk_elim hs
        obtain ⟨hc5, hs⟩ := chk_elim hs
        exact ih _ _ hc4 hc5 hs

noncomputable def m_X11_shieldAt_42 (v2 : Int) : Option (Int) :=
  some (v2)

set_option maxRecDepth 10000 in
set_option maxHeartbeats 8000000 in
theorem g_X11_shieldAt_42 {l : Launch} {E : EE} {b0 n : Nat} {h : AH} {a_t : Nat} {t_thrown t_taped t_p t_fault t_baseLow t_baseHigh t_newBaseLow t_newBaseHigh t_from t_knots t_lines t_chosen t_undos t_redos t_aimedMany t_fits t_fitOf t_sights t_systems t_own t_cross t_curveLong t_wallFirst v2 : Int} {t_push t_row : Nat → Int} {r : Int} (ao : AO b0 n [a_t, (a_t + 6), (a_t + 29)]) (ok_t_push : okA t_push) (ok_t_row : okA t_row) (ok_v2 : inI v2) (hs : m_X11_shieldAt_42 v2 = some r) : G l E b0 M_X11_shieldAt (fun _ => True) (ZM E b0 (some (vI r)) (ov [a_t, (a_t + 6), (a_t + 29)] [.inr (11, fsX11 a_t t_thrown t_taped t_p t_fault t_baseLow t_baseHigh t_newBaseLow t_newBaseHigh t_from t_knots t_lines t_chosen t_undos t_redos t_aimedMany t_fits t_fitOf t_sights t_systems t_own t_cross t_curveLong t_wallFirst), IA E 21 t_push, IA E 100 t_row] h) n (inI r) 0 0) 0 0 n (ov [a_t, (a_t + 6), (a_t + 29)] [.inr (11, fsX11 a_t t_thrown t_taped t_p t_fault t_baseLow t_baseHigh t_newBaseLow t_newBaseHigh t_from t_knots t_lines t_chosen t_undos t_redos t_aimedMany t_fits t_fitOf t_sights t_systems t_own t_cross t_curveLong t_wallFirst), IA E 21 t_push, IA E 100 t_row] h) 42 [none, none, some (vI v2), none] [] := by
  rw [m_X11_shieldAt_42] at hs
  refine g_iload_n e_X11_shieldAt_42 rfl ?_
  obtain rfl := Option.some.inj hs
  exact g_iret rfl ok_v2 e_X11_shieldAt_43

noncomputable def m_X11_shieldAt_0 (t_push : Nat → Int) (t_row : Nat → Int) (v1 : Int) : Option (Int) :=
  m_X11_shieldAt_4 t_push t_row v1 (fun v2' v3' => m_X11_shieldAt_42 v2') FU 0 1

set_option maxRecDepth 10000 in
set_option maxHeartbeats 8000000 in
theorem g_X11_shieldAt_0 {l : Launch} {E : EE} {b0 n : Nat} {h : AH} {a_t : Nat} {t_thrown t_taped t_p t_fault t_baseLow t_baseHigh t_newBaseLow t_newBaseHigh t_from t_knots t_lines t_chosen t_undos t_redos t_aimedMany t_fits t_fitOf t_sights t_systems t_own t_cross t_curveLong t_wallFirst v1 : Int} {t_push t_row : Nat → Int} {r : Int} (ao : AO b0 n [a_t, (a_t + 6), (a_t + 29)]) (ok_t_push : okA t_push) (ok_t_row : okA t_row) (ok_v1 : inI v1) (hs : m_X11_shieldAt_0 t_push t_row v1 = some r) : G l E b0 M_X11_shieldAt (fun _ => True) (ZM E b0 (some (vI r)) (ov [a_t, (a_t + 6), (a_t + 29)] [.inr (11, fsX11 a_t t_thrown t_taped t_p t_fault t_baseLow t_baseHigh t_newBaseLow t_newBaseHigh t_from t_knots t_lines t_chosen t_undos t_redos t_aimedMany t_fits t_fitOf t_sights t_systems t_own t_cross t_curveLong t_wallFirst), IA E 21 t_push, IA E 100 t_row] h) n (inI r) 0 0) 0 0 n (ov [a_t, (a_t + 6), (a_t + 29)] [.inr (11, fsX11 a_t t_thrown t_taped t_p t_fault t_baseLow t_baseHigh t_newBaseLow t_newBaseHigh t_from t_knots t_lines t_chosen t_undos t_redos t_aimedMany t_fits t_fitOf t_sights t_systems t_own t_cross t_curveLong t_wallFirst), IA E 21 t_push, IA E 100 t_row] h) 0 [some (.ref a_t), some (vI v1), none, none] [] := by
  rw [m_X11_shieldAt_0] at hs
  refine g_iconst e_X11_shieldAt_0 ?_
  refine g_istore_n e_X11_shieldAt_1 st1_2 rfl ?_
  refine g_iconst e_X11_shieldAt_2 ?_
  refine g_istore_n e_X11_shieldAt_3 st1_3 rfl ?_
  exact g_X11_shieldAt_4 ao ok_t_push ok_t_row ok_v1 (hk_42 := by
      intro v2' v3' ok_v2' ok_v3' hs
      exact g_X11_shieldAt_42 ao ok_t_push ok_t_row ok_v2' hs) FU _ _ (by decide : inI 0) (by decide : inI 1) hs

noncomputable def m_X11_shieldAt (t_push : Nat → Int) (t_row : Nat → Int) (v1 : Int) : Option (Int) := m_X11_shieldAt_0 t_push t_row v1

set_option maxRecDepth 10000 in
set_option maxHeartbeats 8000000 in
theorem ct_X11_shieldAt {l : Launch} {E : EE} {b0 n : Nat} {h : AH} {a_t : Nat} {t_thrown t_taped t_p t_fault t_baseLow t_baseHigh t_newBaseLow t_newBaseHigh t_from t_knots t_lines t_chosen t_undos t_redos t_aimedMany t_fits t_fitOf t_sights t_systems t_own t_cross t_curveLong t_wallFirst : Int} {t_push t_row : Nat → Int} {v1 : Int} (ao : AO b0 n [a_t, (a_t + 6), (a_t + 29)]) (hf : FA h [a_t, (a_t + 6), (a_t + 29)] [.inr (11, fsX11 a_t t_thrown t_taped t_p t_fault t_baseLow t_baseHigh t_newBaseLow t_newBaseHigh t_from t_knots t_lines t_chosen t_undos t_redos t_aimedMany t_fits t_fitOf t_sights t_systems t_own t_cross t_curveLong t_wallFirst), IA E 21 t_push, IA E 100 t_row]) (ok_t_push : okA t_push) (ok_t_row : okA t_row) (ok_v1 : inI v1) {r : Int} (hm : m_X11_shieldAt t_push t_row v1 = some r) : Ct l E b0 M_X11_shieldAt 0 0 [.ref a_t, vI v1] h n (some (vI r)) h n (inI r) := by
  rw [m_X11_shieldAt] at hm
  have hg : G l E b0 M_X11_shieldAt (fun _ => True) (ZM E b0 (some (vI r)) (ov [a_t, (a_t + 6), (a_t + 29)] [.inr (11, fsX11 a_t t_thrown t_taped t_p t_fault t_baseLow t_baseHigh t_newBaseLow t_newBaseHigh t_from t_knots t_lines t_chosen t_undos t_redos t_aimedMany t_fits t_fitOf t_sights t_systems t_own t_cross t_curveLong t_wallFirst), IA E 21 t_push, IA E 100 t_row] h) n (inI r) 0 0) 0 0 n (ov [a_t, (a_t + 6), (a_t + 29)] [.inr (11, fsX11 a_t t_thrown t_taped t_p t_fault t_baseLow t_baseHigh t_newBaseLow t_newBaseHigh t_from t_knots t_lines t_chosen t_undos t_redos t_aimedMany t_fits t_fitOf t_sights t_systems t_own t_cross t_curveLong t_wallFirst), IA E 21 t_push, IA E 100 t_row] h) 0 [some (.ref a_t), some (vI v1), none, none] [] := by
    have hs := hm
    exact g_X11_shieldAt_0 ao ok_t_push ok_t_row ok_v1 hs
  rw [FA_id hf] at hg
  exact Ct_of [some (.ref a_t), some (vI v1), none, none] ⟨by decide +kernel, rfl⟩ rfl (Nat.le_of_ble_eq_true rfl) hg

/-! ===== X11_shield ===== -/
theorem e_X11_shield_0 : DC cX11_shield 0 (.iload_n 1) 1 1 := ⟨by decide +kernel, rfl⟩
theorem e_X11_shield_1 : DC cX11_shield 1 (.iconst 0) 1 2 := ⟨by decide +kernel, rfl⟩
theorem e_X11_shield_2 : DC cX11_shield 2 (.bipush 60) 2 4 := ⟨by decide +kernel, rfl⟩
theorem e_X11_shield_4 : DC cX11_shield 4 (.invokestatic 226) 3 7 := ⟨by decide +kernel, rfl⟩
theorem e_X11_shield_7 : DB cX11_shield 7 (.ifCond .eq 11) (11) 3 10 18 := ⟨by decide +kernel, rfl, rfl⟩
theorem e_X11_shield_10 : DC cX11_shield 10 (.aload_n 0) 1 11 := ⟨by decide +kernel, rfl⟩
theorem e_X11_shield_11 : DC cX11_shield 11 (.iload_n 1) 1 12 := ⟨by decide +kernel, rfl⟩
theorem e_X11_shield_12 : DC cX11_shield 12 (.invokevirtual 451) 3 15 := ⟨by decide +kernel, rfl⟩
theorem e_X11_shield_15 : DB cX11_shield 15 (.goto 6) (6) 3 18 21 := ⟨by decide +kernel, rfl, rfl⟩
theorem e_X11_shield_18 : DC cX11_shield 18 (.ldc_w 301) 3 21 := ⟨by decide +kernel, rfl⟩
theorem e_X11_shield_21 : DC cX11_shield 21 (.ireturn) 1 22 := ⟨by decide +kernel, rfl⟩
noncomputable def m_X11_shield_0 (t_push : Nat → Int) (t_row : Nat → Int) (v1 : Int) : Option (Int) :=
  (m_X11_in v1 0 60).bind (fun y1 => if y1 = 0 then (some ((-1000000000))) else ((m_X11_shieldAt t_push t_row v1).bind (fun y2 => some (y2))))

set_option maxRecDepth 10000 in
set_option maxHeartbeats 8000000 in
theorem g_X11_shield_0 {l : Launch} {E : EE} {b0 n : Nat} {h : AH} {a_t : Nat} {t_thrown t_taped t_p t_fault t_baseLow t_baseHigh t_newBaseLow t_newBaseHigh t_from t_knots t_lines t_chosen t_undos t_redos t_aimedMany t_fits t_fitOf t_sights t_systems t_own t_cross t_curveLong t_wallFirst v1 : Int} {t_push t_row : Nat → Int} {r : Int} (ao : AO b0 n [a_t, (a_t + 6), (a_t + 29)]) (ok_t_push : okA t_push) (ok_t_row : okA t_row) (ok_v1 : inI v1) (hs : m_X11_shield_0 t_push t_row v1 = some r) : G l E b0 M_X11_shield (fun _ => True) (ZM E b0 (some (vI r)) (ov [a_t, (a_t + 6), (a_t + 29)] [.inr (11, fsX11 a_t t_thrown t_taped t_p t_fault t_baseLow t_baseHigh t_newBaseLow t_newBaseHigh t_from t_knots t_lines t_chosen t_undos t_redos t_aimedMany t_fits t_fitOf t_sights t_systems t_own t_cross t_curveLong t_wallFirst), IA E 21 t_push, IA E 100 t_row] h) n (inI r) 0 0) 0 0 n (ov [a_t, (a_t + 6), (a_t + 29)] [.inr (11, fsX11 a_t t_thrown t_taped t_p t_fault t_baseLow t_baseHigh t_newBaseLow t_newBaseHigh t_from t_knots t_lines t_chosen t_undos t_redos t_aimedMany t_fits t_fitOf t_sights t_systems t_own t_cross t_curveLong t_wallFirst), IA E 21 t_push, IA E 100 t_row] h) 0 [some (.ref a_t), some (vI v1)] [] := by
  rw [m_X11_shield_0] at hs
  refine g_iload_n e_X11_shield_0 rfl ?_
  refine g_iconst e_X11_shield_1 ?_
  refine g_bipush e_X11_shield_2 bp_60 ?_
  obtain ⟨y1, hy1, hs⟩ := bind_elim hs
  refine g_callSr [vI v1, vI 0, vI 60] cs_X11_226 ⟨rfl, rfl, Nat.le_of_ble_eq_true rfl, Nat.le_of_ble_eq_true rfl⟩ (ct_X11_in ⟨List.nodup_nil, fun i a h => by simp at h⟩ (fun i a e h => by simp at h) ok_v1 (by decide : inI 0) (by decide : inI 60) hy1) e_X11_shield_4 rfl rfl (Nat.le_of_ble_eq_true rfl) ⟨Nat.le_refl _, Nat.le_refl _⟩ (fun Py1 => ?_)
  refine g_if_eq e_X11_shield_7 (inZ_I Py1) hs (fun c7 hs => ?_) (fun c7 hs => ?_)
  · refine g_ldcw (a := -1000000000) e_X11_shield_18 k_X11_301 ?_
    obtain rfl := Option.some.inj hs
    exact g_iret rfl (by decide : inI (-1000000000)) e_X11_shield_21
  · refine g_aload_n e_X11_shield_10 rfl ?_
    refine g_iload_n e_X11_shield_11 rfl ?_
    obtain ⟨y2, hy2, hs⟩ := bind_elim hs
    refine g_callVr [vI v1] cv_X11_451 ⟨rfl, rfl, Nat.le_of_ble_eq_true rfl, Nat.le_of_ble_eq_true rfl⟩ (ct_X11_shieldAt (a_t := a_t) (AO_call [0, 1, 2] ao (by decide) rfl) (FA_call [0, 1, 2] ao.1 rfl rfl) ok_t_push ok_t_row ok_v1 hy2) e_X11_shield_12 (ao.2 0 _ rfl) (ov_get 0 ao.1 rfl rfl) rfl rfl rfl (Nat.le_of_ble_eq_true rfl) ⟨Nat.le_refl _, Nat.le_refl _⟩ (fun Py2 => ?_)
    refine g_goto e_X11_shield_15 ?_
    obtain rfl := Option.some.inj hs
    exact g_iret rfl Py2 e_X11_shield_21

noncomputable def m_X11_shield (t_push : Nat → Int) (t_row : Nat → Int) (v1 : Int) : Option (Int) := m_X11_shield_0 t_push t_row v1

set_option maxRecDepth 10000 in
set_option maxHeartbeats 8000000 in
theorem ct_X11_shield {l : Launch} {E : EE} {b0 n : Nat} {h : AH} {a_t : Nat} {t_thrown t_taped t_p t_fault t_baseLow t_baseHigh t_newBaseLow t_newBaseHigh t_from t_knots t_lines t_chosen t_undos t_redos t_aimedMany t_fits t_fitOf t_sights t_systems t_own t_cross t_curveLong t_wallFirst : Int} {t_push t_row : Nat → Int} {v1 : Int} (ao : AO b0 n [a_t, (a_t + 6), (a_t + 29)]) (hf : FA h [a_t, (a_t + 6), (a_t + 29)] [.inr (11, fsX11 a_t t_thrown t_taped t_p t_fault t_baseLow t_baseHigh t_newBaseLow t_newBaseHigh t_from t_knots t_lines t_chosen t_undos t_redos t_aimedMany t_fits t_fitOf t_sights t_systems t_own t_cross t_curveLong t_wallFirst), IA E 21 t_push, IA E 100 t_row]) (ok_t_push : okA t_push) (ok_t_row : okA t_row) (ok_v1 : inI v1) {r : Int} (hm : m_X11_shield t_push t_row v1 = some r) : Ct l E b0 M_X11_shield 0 0 [.ref a_t, vI v1] h n (some (vI r)) h n (inI r) := by
  rw [m_X11_shield] at hm
  have hg : G l E b0 M_X11_shield (fun _ => True) (ZM E b0 (some (vI r)) (ov [a_t, (a_t + 6), (a_t + 29)] [.inr (11, fsX11 a_t t_thrown t_taped t_p t_fault t_baseLow t_baseHigh t_newBaseLow t_newBaseHigh t_from t_knots t_lines t_chosen t_undos t_redos t_aimedMany t_fits t_fitOf t_sights t_systems t_own t_cross t_curveLong t_wallFirst), IA E 21 t_push, IA E 100 t_row] h) n (inI r) 0 0) 0 0 n (ov [a_t, (a_t + 6), (a_t + 29)] [.inr (11, fsX11 a_t t_thrown t_taped t_p t_fault t_baseLow t_baseHigh t_newBaseLow t_newBaseHigh t_from t_knots t_lines t_chosen t_undos t_redos t_aimedMany t_fits t_fitOf t_sights t_systems t_own t_cross t_curveLong t_wallFirst), IA E 21 t_push, IA E 100 t_row] h) 0 [some (.ref a_t), some (vI v1)] [] := by
    have hs := hm
    exact g_X11_shield_0 ao ok_t_push ok_t_row ok_v1 hs
  rw [FA_id hf] at hg
  exact Ct_of [some (.ref a_t), some (vI v1)] ⟨by decide +kernel, rfl⟩ rfl (Nat.le_of_ble_eq_true rfl) hg

/-! ===== X11_crack ===== -/
theorem e_X11_crack_0 : DC cX11_crack 0 (.iload_n 1) 1 1 := ⟨by decide +kernel, rfl⟩
theorem e_X11_crack_1 : DC cX11_crack 1 (.iconst 0) 1 2 := ⟨by decide +kernel, rfl⟩
theorem e_X11_crack_2 : DC cX11_crack 2 (.bipush 60) 2 4 := ⟨by decide +kernel, rfl⟩
theorem e_X11_crack_4 : DC cX11_crack 4 (.invokestatic 226) 3 7 := ⟨by decide +kernel, rfl⟩
theorem e_X11_crack_7 : DB cX11_crack 7 (.ifCond .eq 39) (39) 3 10 46 := ⟨by decide +kernel, rfl, rfl⟩
theorem e_X11_crack_10 : DC cX11_crack 10 (.iload_n 2) 1 11 := ⟨by decide +kernel, rfl⟩
theorem e_X11_crack_11 : DC cX11_crack 11 (.sipush (-9999)) 3 14 := ⟨by decide +kernel, rfl⟩
theorem e_X11_crack_14 : DC cX11_crack 14 (.sipush 9999) 3 17 := ⟨by decide +kernel, rfl⟩
theorem e_X11_crack_17 : DC cX11_crack 17 (.invokestatic 226) 3 20 := ⟨by decide +kernel, rfl⟩
theorem e_X11_crack_20 : DB cX11_crack 20 (.ifCond .eq 26) (26) 3 23 46 := ⟨by decide +kernel, rfl, rfl⟩
theorem e_X11_crack_23 : DC cX11_crack 23 (.iload_n 3) 1 24 := ⟨by decide +kernel, rfl⟩
theorem e_X11_crack_24 : DC cX11_crack 24 (.iconst 0) 1 25 := ⟨by decide +kernel, rfl⟩
theorem e_X11_crack_25 : DC cX11_crack 25 (.sipush 9999) 3 28 := ⟨by decide +kernel, rfl⟩
theorem e_X11_crack_28 : DC cX11_crack 28 (.invokestatic 226) 3 31 := ⟨by decide +kernel, rfl⟩
theorem e_X11_crack_31 : DB cX11_crack 31 (.ifCond .eq 15) (15) 3 34 46 := ⟨by decide +kernel, rfl, rfl⟩
theorem e_X11_crack_34 : DC cX11_crack 34 (.iload 4) 2 36 := ⟨by decide +kernel, rfl⟩
theorem e_X11_crack_36 : DC cX11_crack 36 (.iload_n 3) 1 37 := ⟨by decide +kernel, rfl⟩
theorem e_X11_crack_37 : DC cX11_crack 37 (.sipush 9999) 3 40 := ⟨by decide +kernel, rfl⟩
theorem e_X11_crack_40 : DC cX11_crack 40 (.invokestatic 226) 3 43 := ⟨by decide +kernel, rfl⟩
theorem e_X11_crack_43 : DB cX11_crack 43 (.ifCond .ne 5) (5) 3 46 48 := ⟨by decide +kernel, rfl, rfl⟩
theorem e_X11_crack_46 : DC cX11_crack 46 (.iconst (-1)) 1 47 := ⟨by decide +kernel, rfl⟩
theorem e_X11_crack_47 : DC cX11_crack 47 (.ireturn) 1 48 := ⟨by decide +kernel, rfl⟩
theorem e_X11_crack_48 : DC cX11_crack 48 (.iload_n 2) 1 49 := ⟨by decide +kernel, rfl⟩
theorem e_X11_crack_49 : DC cX11_crack 49 (.aload_n 0) 1 50 := ⟨by decide +kernel, rfl⟩
theorem e_X11_crack_50 : DC cX11_crack 50 (.iload_n 1) 1 51 := ⟨by decide +kernel, rfl⟩
theorem e_X11_crack_51 : DC cX11_crack 51 (.invokevirtual 451) 3 54 := ⟨by decide +kernel, rfl⟩
theorem e_X11_crack_54 : DC cX11_crack 54 (.isub) 1 55 := ⟨by decide +kernel, rfl⟩
theorem e_X11_crack_55 : DC cX11_crack 55 (.istore 5) 2 57 := ⟨by decide +kernel, rfl⟩
theorem e_X11_crack_57 : DC cX11_crack 57 (.iload 5) 2 59 := ⟨by decide +kernel, rfl⟩
theorem e_X11_crack_59 : DC cX11_crack 59 (.iload 4) 2 61 := ⟨by decide +kernel, rfl⟩
theorem e_X11_crack_61 : DB cX11_crack 61 (.if_icmp .le 7) (7) 3 64 68 := ⟨by decide +kernel, rfl, rfl⟩
theorem e_X11_crack_64 : DC cX11_crack 64 (.iconst 1) 1 65 := ⟨by decide +kernel, rfl⟩
theorem e_X11_crack_65 : DB cX11_crack 65 (.goto 14) (14) 3 68 79 := ⟨by decide +kernel, rfl, rfl⟩
theorem e_X11_crack_68 : DC cX11_crack 68 (.iload 5) 2 70 := ⟨by decide +kernel, rfl⟩
theorem e_X11_crack_70 : DC cX11_crack 70 (.iload_n 3) 1 71 := ⟨by decide +kernel, rfl⟩
theorem e_X11_crack_71 : DB cX11_crack 71 (.if_icmp .gt 7) (7) 3 74 78 := ⟨by decide +kernel, rfl, rfl⟩
theorem e_X11_crack_74 : DC cX11_crack 74 (.iconst 0) 1 75 := ⟨by decide +kernel, rfl⟩
theorem e_X11_crack_75 : DB cX11_crack 75 (.goto 4) (4) 3 78 79 := ⟨by decide +kernel, rfl, rfl⟩
theorem e_X11_crack_78 : DC cX11_crack 78 (.iconst 2) 1 79 := ⟨by decide +kernel, rfl⟩
theorem e_X11_crack_79 : DC cX11_crack 79 (.ireturn) 1 80 := ⟨by decide +kernel, rfl⟩
noncomputable def m_X11_crack_0 (t_push : Nat → Int) (t_row : Nat → Int) (v1 : Int) (v2 : Int) (v3 : Int) (v4 : Int) : Option (Int) :=
  (m_X11_in v1 0 60).bind (fun y1 => if y1 = 0 then (some ((-1))) else ((m_X11_in v2 (-9999) 9999).bind (fun y2 => if y2 = 0 then (some ((-1))) else ((m_X11_in v3 0 9999).bind (fun y3 => if y3 = 0 then (some ((-1))) else ((m_X11_in v4 v3 9999).bind (fun y4 => if y4 = 0 then (some ((-1))) else ((m_X11_shieldAt t_push t_row v1).bind (fun y5 => chk (inI (v2 - y5)) (if (v2 - y5) ≤ v4 then (if v3 < (v2 - y5) then (some (2)) else (some (0))) else (some (1))))))))))))

set_option maxRecDepth 10000 in
set_option maxHeartbeats 8000000 in
theorem g_X11_crack_0 {l : Launch} {E : EE} {b0 n : Nat} {h : AH} {a_t : Nat} {t_thrown t_taped t_p t_fault t_baseLow t_baseHigh t_newBaseLow t_newBaseHigh t_from t_knots t_lines t_chosen t_undos t_redos t_aimedMany t_fits t_fitOf t_sights t_systems t_own t_cross t_curveLong t_wallFirst v1 v2 v3 v4 : Int} {t_push t_row : Nat → Int} {r : Int} (ao : AO b0 n [a_t, (a_t + 6), (a_t + 29)]) (ok_t_push : okA t_push) (ok_t_row : okA t_row) (ok_v1 : inI v1) (ok_v2 : inI v2) (ok_v3 : inI v3) (ok_v4 : inI v4) (hs : m_X11_crack_0 t_push t_row v1 v2 v3 v4 = some r) : G l E b0 M_X11_crack (fun _ => True) (ZM E b0 (some (vI r)) (ov [a_t, (a_t + 6), (a_t + 29)] [.inr (11, fsX11 a_t t_thrown t_taped t_p t_fault t_baseLow t_baseHigh t_newBaseLow t_newBaseHigh t_from t_knots t_lines t_chosen t_undos t_redos t_aimedMany t_fits t_fitOf t_sights t_systems t_own t_cross t_curveLong t_wallFirst), IA E 21 t_push, IA E 100 t_row] h) n (inI r) 0 0) 0 0 n (ov [a_t, (a_t + 6), (a_t + 29)] [.inr (11, fsX11 a_t t_thrown t_taped t_p t_fault t_baseLow t_baseHigh t_newBaseLow t_newBaseHigh t_from t_knots t_lines t_chosen t_undos t_redos t_aimedMany t_fits t_fitOf t_sights t_systems t_own t_cross t_curveLong t_wallFirst), IA E 21 t_push, IA E 100 t_row] h) 0 [some (.ref a_t), some (vI v1), some (vI v2), some (vI v3), some (vI v4), none] [] := by
  rw [m_X11_crack_0] at hs
  refine g_iload_n e_X11_crack_0 rfl ?_
  refine g_iconst e_X11_crack_1 ?_
  refine g_bipush e_X11_crack_2 bp_60 ?_
  obtain ⟨y1, hy1, hs⟩ := bind_elim hs
  refine g_callSr [vI v1, vI 0, vI 60] cs_X11_226 ⟨rfl, rfl, Nat.le_of_ble_eq_true rfl, Nat.le_of_ble_eq_true rfl⟩ (ct_X11_in ⟨List.nodup_nil, fun i a h => by simp at h⟩ (fun i a e h => by simp at h) ok_v1 (by decide : inI 0) (by decide : inI 60) hy1) e_X11_crack_4 rfl rfl (Nat.le_of_ble_eq_true rfl) ⟨Nat.le_refl _, Nat.le_refl _⟩ (fun Py1 => ?_)
  refine g_if_eq e_X11_crack_7 (inZ_I Py1) hs (fun c7 hs => ?_) (fun c7 hs => ?_)
  · refine g_iconst e_X11_crack_46 ?_
    obtain rfl := Option.some.inj hs
    exact g_iret rfl (by decide : inI (-1)) e_X11_crack_47
  · refine g_iload_n e_X11_crack_10 rfl ?_
    refine g_sipush e_X11_crack_11 sp_m9999 ?_
    refine g_sipush e_X11_crack_14 sp_9999 ?_
    obtain ⟨y2, hy2, hs⟩ := bind_elim hs
    refine g_callSr [vI v2, vI (-9999), vI 9999] cs_X11_226 ⟨rfl, rfl, Nat.le_of_ble_eq_true rfl, Nat.le_of_ble_eq_true rfl⟩ (ct_X11_in ⟨List.nodup_nil, fun i a h => by simp at h⟩ (fun i a e h => by simp at h) ok_v2 (by decide : inI (-9999)) (by decide : inI 9999) hy2) e_X11_crack_17 rfl rfl (Nat.le_of_ble_eq_true rfl) ⟨Nat.le_refl _, Nat.le_refl _⟩ (fun Py2 => ?_)
    refine g_if_eq e_X11_crack_20 (inZ_I Py2) hs (fun c20 hs => ?_) (fun c20 hs => ?_)
    · refine g_iconst e_X11_crack_46 ?_
      obtain rfl := Option.some.inj hs
      exact g_iret rfl (by decide : inI (-1)) e_X11_crack_47
    · refine g_iload_n e_X11_crack_23 rfl ?_
      refine g_iconst e_X11_crack_24 ?_
      refine g_sipush e_X11_crack_25 sp_9999 ?_
      obtain ⟨y3, hy3, hs⟩ := bind_elim hs
      refine g_callSr [vI v3, vI 0, vI 9999] cs_X11_226 ⟨rfl, rfl, Nat.le_of_ble_eq_true rfl, Nat.le_of_ble_eq_true rfl⟩ (ct_X11_in ⟨List.nodup_nil, fun i a h => by simp at h⟩ (fun i a e h => by simp at h) ok_v3 (by decide : inI 0) (by decide : inI 9999) hy3) e_X11_crack_28 rfl rfl (Nat.le_of_ble_eq_true rfl) ⟨Nat.le_refl _, Nat.le_refl _⟩ (fun Py3 => ?_)
      refine g_if_eq e_X11_crack_31 (inZ_I Py3) hs (fun c31 hs => ?_) (fun c31 hs => ?_)
      · refine g_iconst e_X11_crack_46 ?_
        obtain rfl := Option.some.inj hs
        exact g_iret rfl (by decide : inI (-1)) e_X11_crack_47
      · refine g_iload e_X11_crack_34 rfl ?_
        refine g_iload_n e_X11_crack_36 rfl ?_
        refine g_sipush e_X11_crack_37 sp_9999 ?_
        obtain ⟨y4, hy4, hs⟩ := bind_elim hs
        refine g_callSr [vI v4, vI v3, vI 9999] cs_X11_226 ⟨rfl, rfl, Nat.le_of_ble_eq_true rfl, Nat.le_of_ble_eq_true rfl⟩ (ct_X11_in ⟨List.nodup_nil, fun i a h => by simp at h⟩ (fun i a e h => by simp at h) ok_v4 ok_v3 (by decide : inI 9999) hy4) e_X11_crack_40 rfl rfl (Nat.le_of_ble_eq_true rfl) ⟨Nat.le_refl _, Nat.le_refl _⟩ (fun Py4 => ?_)
        refine g_if_ne e_X11_crack_43 (inZ_I Py4) hs (fun c43 hs => ?_) (fun c43 hs => ?_)
        · refine g_iconst e_X11_crack_46 ?_
          obtain rfl := Option.some.inj hs
          exact g_iret rfl (by decide : inI (-1)) e_X11_crack_47
        · refine g_iload_n e_X11_crack_48 rfl ?_
          refine g_aload_n e_X11_crack_49 rfl ?_
          refine g_iload_n e_X11_crack_50 rfl ?_
          obtain ⟨y5, hy5, hs⟩ := bind_elim hs
          refine g_callVr [vI v1] cv_X11_451 ⟨rfl, rfl, Nat.le_of_ble_eq_true rfl, Nat.le_of_ble_eq_true rfl⟩ (ct_X11_shieldAt (a_t := a_t) (AO_call [0, 1, 2] ao (by decide) rfl) (FA_call [0, 1, 2] ao.1 rfl rfl) ok_t_push ok_t_row ok_v1 hy5) e_X11_crack_51 (ao.2 0 _ rfl) (ov_get 0 ao.1 rfl rfl) rfl rfl rfl (Nat.le_of_ble_eq_true rfl) ⟨Nat.le_refl _, Nat.le_refl _⟩ (fun Py5 => ?_)
          refine g_isub e_X11_crack_54 ?_
          refine g_istore e_X11_crack_55 st1_5 rfl ?_
          refine g_iload e_X11_crack_57 rfl ?_
          refine g_iload e_X11_crack_59 rfl ?_
          obtain ⟨hc6, hs⟩ := chk_elim hs
          refine g_icmp_le e_X11_crack_61 hc6 ok_v4 hs (fun c61 hs => ?_) (fun c61 hs => ?_)
          · refine g_iload e_X11_crack_68 rfl ?_
            refine g_iload_n e_X11_crack_70 rfl ?_
            refine g_icmp_gt e_X11_crack_71 hc6 ok_v3 hs (fun c71 hs => ?_) (fun c71 hs => ?_)
            · refine g_iconst e_X11_crack_78 ?_
              obtain rfl := Option.some.inj hs
              exact g_iret rfl (by decide : inI 2) e_X11_crack_79
            · refine g_iconst e_X11_crack_74 ?_
              refine g_goto e_X11_crack_75 ?_
              obtain rfl := Option.some.inj hs
              exact g_iret rfl (by decide : inI 0) e_X11_crack_79
          · refine g_iconst e_X11_crack_64 ?_
            refine g_goto e_X11_crack_65 ?_
            obtain rfl := Option.some.inj hs
            exact g_iret rfl (by decide : inI 1) e_X11_crack_79

noncomputable def m_X11_crack (t_push : Nat → Int) (t_row : Nat → Int) (v1 : Int) (v2 : Int) (v3 : Int) (v4 : Int) : Option (Int) := m_X11_crack_0 t_push t_row v1 v2 v3 v4

set_option maxRecDepth 10000 in
set_option maxHeartbeats 8000000 in
theorem ct_X11_crack {l : Launch} {E : EE} {b0 n : Nat} {h : AH} {a_t : Nat} {t_thrown t_taped t_p t_fault t_baseLow t_baseHigh t_newBaseLow t_newBaseHigh t_from t_knots t_lines t_chosen t_undos t_redos t_aimedMany t_fits t_fitOf t_sights t_systems t_own t_cross t_curveLong t_wallFirst : Int} {t_push t_row : Nat → Int} {v1 v2 v3 v4 : Int} (ao : AO b0 n [a_t, (a_t + 6), (a_t + 29)]) (hf : FA h [a_t, (a_t + 6), (a_t + 29)] [.inr (11, fsX11 a_t t_thrown t_taped t_p t_fault t_baseLow t_baseHigh t_newBaseLow t_newBaseHigh t_from t_knots t_lines t_chosen t_undos t_redos t_aimedMany t_fits t_fitOf t_sights t_systems t_own t_cross t_curveLong t_wallFirst), IA E 21 t_push, IA E 100 t_row]) (ok_t_push : okA t_push) (ok_t_row : okA t_row) (ok_v1 : inI v1) (ok_v2 : inI v2) (ok_v3 : inI v3) (ok_v4 : inI v4) {r : Int} (hm : m_X11_crack t_push t_row v1 v2 v3 v4 = some r) : Ct l E b0 M_X11_crack 0 0 [.ref a_t, vI v1, vI v2, vI v3, vI v4] h n (some (vI r)) h n (inI r) := by
  rw [m_X11_crack] at hm
  have hg : G l E b0 M_X11_crack (fun _ => True) (ZM E b0 (some (vI r)) (ov [a_t, (a_t + 6), (a_t + 29)] [.inr (11, fsX11 a_t t_thrown t_taped t_p t_fault t_baseLow t_baseHigh t_newBaseLow t_newBaseHigh t_from t_knots t_lines t_chosen t_undos t_redos t_aimedMany t_fits t_fitOf t_sights t_systems t_own t_cross t_curveLong t_wallFirst), IA E 21 t_push, IA E 100 t_row] h) n (inI r) 0 0) 0 0 n (ov [a_t, (a_t + 6), (a_t + 29)] [.inr (11, fsX11 a_t t_thrown t_taped t_p t_fault t_baseLow t_baseHigh t_newBaseLow t_newBaseHigh t_from t_knots t_lines t_chosen t_undos t_redos t_aimedMany t_fits t_fitOf t_sights t_systems t_own t_cross t_curveLong t_wallFirst), IA E 21 t_push, IA E 100 t_row] h) 0 [some (.ref a_t), some (vI v1), some (vI v2), some (vI v3), some (vI v4), none] [] := by
    have hs := hm
    exact g_X11_crack_0 ao ok_t_push ok_t_row ok_v1 ok_v2 ok_v3 ok_v4 hs
  rw [FA_id hf] at hg
  exact Ct_of [some (.ref a_t), some (vI v1), some (vI v2), some (vI v3), some (vI v4), none] ⟨by decide +kernel, rfl⟩ rfl (Nat.le_of_ble_eq_true rfl) hg

/-! ===== X11_runsTo ===== -/
theorem e_X11_runsTo_0 : DC cX11_runsTo 0 (.iload_n 1) 1 1 := ⟨by decide +kernel, rfl⟩
theorem e_X11_runsTo_1 : DC cX11_runsTo 1 (.iconst 0) 1 2 := ⟨by decide +kernel, rfl⟩
theorem e_X11_runsTo_2 : DC cX11_runsTo 2 (.bipush 60) 2 4 := ⟨by decide +kernel, rfl⟩
theorem e_X11_runsTo_4 : DC cX11_runsTo 4 (.invokestatic 226) 3 7 := ⟨by decide +kernel, rfl⟩
theorem e_X11_runsTo_7 : DB cX11_runsTo 7 (.ifCond .eq 39) (39) 3 10 46 := ⟨by decide +kernel, rfl, rfl⟩
theorem e_X11_runsTo_10 : DC cX11_runsTo 10 (.iload_n 2) 1 11 := ⟨by decide +kernel, rfl⟩
theorem e_X11_runsTo_11 : DC cX11_runsTo 11 (.sipush (-9999)) 3 14 := ⟨by decide +kernel, rfl⟩
theorem e_X11_runsTo_14 : DC cX11_runsTo 14 (.sipush 9999) 3 17 := ⟨by decide +kernel, rfl⟩
theorem e_X11_runsTo_17 : DC cX11_runsTo 17 (.invokestatic 226) 3 20 := ⟨by decide +kernel, rfl⟩
theorem e_X11_runsTo_20 : DB cX11_runsTo 20 (.ifCond .eq 26) (26) 3 23 46 := ⟨by decide +kernel, rfl, rfl⟩
theorem e_X11_runsTo_23 : DC cX11_runsTo 23 (.iload_n 3) 1 24 := ⟨by decide +kernel, rfl⟩
theorem e_X11_runsTo_24 : DC cX11_runsTo 24 (.iconst 0) 1 25 := ⟨by decide +kernel, rfl⟩
theorem e_X11_runsTo_25 : DC cX11_runsTo 25 (.sipush 9999) 3 28 := ⟨by decide +kernel, rfl⟩
theorem e_X11_runsTo_28 : DC cX11_runsTo 28 (.invokestatic 226) 3 31 := ⟨by decide +kernel, rfl⟩
theorem e_X11_runsTo_31 : DB cX11_runsTo 31 (.ifCond .eq 15) (15) 3 34 46 := ⟨by decide +kernel, rfl, rfl⟩
theorem e_X11_runsTo_34 : DC cX11_runsTo 34 (.iload 4) 2 36 := ⟨by decide +kernel, rfl⟩
theorem e_X11_runsTo_36 : DC cX11_runsTo 36 (.iconst 0) 1 37 := ⟨by decide +kernel, rfl⟩
theorem e_X11_runsTo_37 : DC cX11_runsTo 37 (.sipush 999) 3 40 := ⟨by decide +kernel, rfl⟩
theorem e_X11_runsTo_40 : DC cX11_runsTo 40 (.invokestatic 226) 3 43 := ⟨by decide +kernel, rfl⟩
theorem e_X11_runsTo_43 : DB cX11_runsTo 43 (.ifCond .ne 5) (5) 3 46 48 := ⟨by decide +kernel, rfl, rfl⟩
theorem e_X11_runsTo_46 : DC cX11_runsTo 46 (.iconst (-1)) 1 47 := ⟨by decide +kernel, rfl⟩
theorem e_X11_runsTo_47 : DC cX11_runsTo 47 (.ireturn) 1 48 := ⟨by decide +kernel, rfl⟩
theorem e_X11_runsTo_48 : DC cX11_runsTo 48 (.iload_n 1) 1 49 := ⟨by decide +kernel, rfl⟩
theorem e_X11_runsTo_49 : DC cX11_runsTo 49 (.istore 5) 2 51 := ⟨by decide +kernel, rfl⟩
theorem e_X11_runsTo_51 : DC cX11_runsTo 51 (.iload_n 2) 1 52 := ⟨by decide +kernel, rfl⟩
theorem e_X11_runsTo_52 : DC cX11_runsTo 52 (.istore 6) 2 54 := ⟨by decide +kernel, rfl⟩
theorem e_X11_runsTo_54 : DC cX11_runsTo 54 (.iload 5) 2 56 := ⟨by decide +kernel, rfl⟩
theorem e_X11_runsTo_56 : DC cX11_runsTo 56 (.bipush 60) 2 58 := ⟨by decide +kernel, rfl⟩
theorem e_X11_runsTo_58 : DB cX11_runsTo 58 (.if_icmp .ge 41) (41) 3 61 99 := ⟨by decide +kernel, rfl, rfl⟩
theorem e_X11_runsTo_61 : DC cX11_runsTo 61 (.iload 6) 2 63 := ⟨by decide +kernel, rfl⟩
theorem e_X11_runsTo_63 : DC cX11_runsTo 63 (.aload_n 0) 1 64 := ⟨by decide +kernel, rfl⟩
theorem e_X11_runsTo_64 : DC cX11_runsTo 64 (.iload 5) 2 66 := ⟨by decide +kernel, rfl⟩
theorem e_X11_runsTo_66 : DC cX11_runsTo 66 (.invokevirtual 451) 3 69 := ⟨by decide +kernel, rfl⟩
theorem e_X11_runsTo_69 : DC cX11_runsTo 69 (.isub) 1 70 := ⟨by decide +kernel, rfl⟩
theorem e_X11_runsTo_70 : DC cX11_runsTo 70 (.iload_n 3) 1 71 := ⟨by decide +kernel, rfl⟩
theorem e_X11_runsTo_71 : DB cX11_runsTo 71 (.if_icmp .le 28) (28) 3 74 99 := ⟨by decide +kernel, rfl, rfl⟩
theorem e_X11_runsTo_74 : DC cX11_runsTo 74 (.aload_n 0) 1 75 := ⟨by decide +kernel, rfl⟩
theorem e_X11_runsTo_75 : DC cX11_runsTo 75 (.getfield 97) 3 78 := ⟨by decide +kernel, rfl⟩
theorem e_X11_runsTo_78 : DC cX11_runsTo 78 (.iload 5) 2 80 := ⟨by decide +kernel, rfl⟩
theorem e_X11_runsTo_80 : DC cX11_runsTo 80 (.iconst 1) 1 81 := ⟨by decide +kernel, rfl⟩
theorem e_X11_runsTo_81 : DC cX11_runsTo 81 (.iadd) 1 82 := ⟨by decide +kernel, rfl⟩
theorem e_X11_runsTo_82 : DC cX11_runsTo 82 (.iaload) 1 83 := ⟨by decide +kernel, rfl⟩
theorem e_X11_runsTo_83 : DB cX11_runsTo 83 (.ifCond .ne 16) (16) 3 86 99 := ⟨by decide +kernel, rfl, rfl⟩
theorem e_X11_runsTo_86 : DC cX11_runsTo 86 (.iinc 5 1) 3 89 := ⟨by decide +kernel, rfl⟩
theorem e_X11_runsTo_89 : DC cX11_runsTo 89 (.iload 6) 2 91 := ⟨by decide +kernel, rfl⟩
theorem e_X11_runsTo_91 : DC cX11_runsTo 91 (.iload 4) 2 93 := ⟨by decide +kernel, rfl⟩
theorem e_X11_runsTo_93 : DC cX11_runsTo 93 (.isub) 1 94 := ⟨by decide +kernel, rfl⟩
theorem e_X11_runsTo_94 : DC cX11_runsTo 94 (.istore 6) 2 96 := ⟨by decide +kernel, rfl⟩
theorem e_X11_runsTo_96 : DB cX11_runsTo 96 (.goto (-42)) (-42) 3 99 54 := ⟨by decide +kernel, rfl, rfl⟩
theorem e_X11_runsTo_99 : DC cX11_runsTo 99 (.iload 5) 2 101 := ⟨by decide +kernel, rfl⟩
theorem e_X11_runsTo_101 : DC cX11_runsTo 101 (.ireturn) 1 102 := ⟨by decide +kernel, rfl⟩
noncomputable def m_X11_runsTo_54 (t_push : Nat → Int) (t_row : Nat → Int) (v3 : Int) (v4 : Int) (k_99 : Int → Int → Option (Int)) : Nat → Int → Int → Option (Int)
  | 0, _, _ => none
  | F + 1, v5, v6 => if 60 ≤ v5 then (some (v5)) else ((m_X11_shieldAt t_push t_row v5).bind (fun y5 => chk (inI (v6 - y5)) (if (v6 - y5) ≤ v3 then (some (v5)) else (chk (inB (v5 + 1) 100) (if (t_row (Int.toNat (v5 + 1))) = 0 then (chk (inI (v6 - v4)) (m_X11_runsTo_54 t_push t_row v3 v4 k_99 F (v5 + 1) (v6 - v4))) else (some (v5)))))))

set_option maxRecDepth 10000 in
set_option maxHeartbeats 8000000 in
theorem g_X11_runsTo_54 {l : Launch} {E : EE} {b0 n : Nat} {h : AH} {a_t : Nat} {t_thrown t_taped t_p t_fault t_baseLow t_baseHigh t_newBaseLow t_newBaseHigh t_from t_knots t_lines t_chosen t_undos t_redos t_aimedMany t_fits t_fitOf t_sights t_systems t_own t_cross t_curveLong t_wallFirst v3 v4 : Int} {t_push t_row : Nat → Int} {r : Int} {k_99 : Int → Int → Option (Int)} (ao : AO b0 n [a_t, (a_t + 6), (a_t + 29)]) (ok_t_push : okA t_push) (ok_t_row : okA t_row) (ok_v3 : inI v3) (ok_v4 : inI v4) (hk_99 : ∀ (v5_ : Int) (v6_ : Int), inI v5_ → inI v6_ → k_99 v5_ v6_ = some r → G l E b0 M_X11_runsTo (fun _ => True) (ZM E b0 (some (vI r)) (ov [a_t, (a_t + 6), (a_t + 29)] [.inr (11, fsX11 a_t t_thrown t_taped t_p t_fault t_baseLow t_baseHigh t_newBaseLow t_newBaseHigh t_from t_knots t_lines t_chosen t_undos t_redos t_aimedMany t_fits t_fitOf t_sights t_systems t_own t_cross t_curveLong t_wallFirst), IA E 21 t_push, IA E 100 t_row] h) n (inI r) 0 0) 0 0 n (ov [a_t, (a_t + 6), (a_t + 29)] [.inr (11, fsX11 a_t t_thrown t_taped t_p t_fault t_baseLow t_baseHigh t_newBaseLow t_newBaseHigh t_from t_knots t_lines t_chosen t_undos t_redos t_aimedMany t_fits t_fitOf t_sights t_systems t_own t_cross t_curveLong t_wallFirst), IA E 21 t_push, IA E 100 t_row] h) 99 [none, none, none, none, none, some (vI v5_), none] []) :
    ∀ (F : Nat) (v5 : Int) (v6 : Int), inI v5 → inI v6 → m_X11_runsTo_54 t_push t_row v3 v4 k_99 F v5 v6 = some r → G l E b0 M_X11_runsTo (fun _ => True) (ZM E b0 (some (vI r)) (ov [a_t, (a_t + 6), (a_t + 29)] [.inr (11, fsX11 a_t t_thrown t_taped t_p t_fault t_baseLow t_baseHigh t_newBaseLow t_newBaseHigh t_from t_knots t_lines t_chosen t_undos t_redos t_aimedMany t_fits t_fitOf t_sights t_systems t_own t_cross t_curveLong t_wallFirst), IA E 21 t_push, IA E 100 t_row] h) n (inI r) 0 0) 0 0 n (ov [a_t, (a_t + 6), (a_t + 29)] [.inr (11, fsX11 a_t t_thrown t_taped t_p t_fault t_baseLow t_baseHigh t_newBaseLow t_newBaseHigh t_from t_knots t_lines t_chosen t_undos t_redos t_aimedMany t_fits t_fitOf t_sights t_systems t_own t_cross t_curveLong t_wallFirst), IA E 21 t_push, IA E 100 t_row] h) 54 [some (.ref a_t), none, none, some (vI v3), some (vI v4), some (vI v5), some (vI v6)] [] := by
  intro F
  induction F with
  | zero =>
    intro v5 v6 ok_v5 ok_v6 hs
    rw [m_X11_runsTo_54] at hs
    cases hs
  | succ F ih =>
    intro v5 v6 ok_v5 ok_v6 hs
    rw [m_X11_runsTo_54] at hs
    refine g_iload e_X11_runsTo_54 rfl ?_
    refine g_bipush e_X11_runsTo_56 bp_60 ?_
    refine g_icmp_ge e_X11_runsTo_58 ok_v5 (by decide : inI 60) hs (fun c58 hs => ?_) (fun c58 hs => ?_)
    · refine g_iload e_X11_runsTo_99 rfl ?_
      obtain rfl := Option.some.inj hs
      exact g_iret rfl ok_v5 e_X11_runsTo_101
    · refine g_iload e_X11_runsTo_61 rfl ?_
      refine g_aload_n e_X11_runsTo_63 rfl ?_
      refine g_iload e_X11_runsTo_64 rfl ?_
      obtain ⟨y5, hy5, hs⟩ := bind_elim hs
      refine g_callVr [vI v5] cv_X11_451 ⟨rfl, rfl, Nat.le_of_ble_eq_true rfl, Nat.le_of_ble_eq_true rfl⟩ (ct_X11_shieldAt (a_t := a_t) (AO_call [0, 1, 2] ao (by decide) rfl) (FA_call [0, 1, 2] ao.1 rfl rfl) ok_t_push ok_t_row ok_v5 hy5) e_X11_runsTo_66 (ao.2 0 _ rfl) (ov_get 0 ao.1 rfl rfl) rfl rfl rfl (Nat.le_of_ble_eq_true rfl) ⟨Nat.le_refl _, Nat.le_refl _⟩ (fun Py5 => ?_)
      refine g_isub e_X11_runsTo_69 ?_
      refine g_iload_n e_X11_runsTo_70 rfl ?_
      obtain ⟨hc6, hs⟩ := chk_elim hs
      refine g_icmp_le e_X11_runsTo_71 hc6 ok_v3 hs (fun c71 hs => ?_) (fun c71 hs => ?_)
      · refine g_iload e_X11_runsTo_99 rfl ?_
        obtain rfl := Option.some.inj hs
        exact g_iret rfl ok_v5 e_X11_runsTo_101
      · refine g_aload_n e_X11_runsTo_74 rfl ?_
        refine g_get 0 40 ao rfl rfl fsX11_g40 fl_X11_97 e_X11_runsTo_75 ?_
        refine g_iload e_X11_runsTo_78 rfl ?_
        refine g_iconst e_X11_runsTo_80 ?_
        refine g_iadd e_X11_runsTo_81 ?_
        refine g_iald 2 ao rfl rfl (Nat.le_of_ble_eq_true rfl) e_X11_runsTo_82 hs (fun hi7 hs => ?_)
        refine g_if_ne e_X11_runsTo_83 (ok_t_row _) hs (fun c83 hs => ?_) (fun c83 hs => ?_)
        · refine g_iinc e_X11_runsTo_86 rfl st1_5 rfl ?_
          refine g_iload e_X11_runsTo_89 rfl ?_
          refine g_iload e_X11_runsTo_91 rfl ?_
          refine g_isub e_X11_runsTo_93 ?_
          refine g_istore e_X11_runsTo_94 st1_6 rfl ?_
          refine g_goto e_X11_runsTo_96 ?_
          obtain ⟨hc8, hs⟩ := chk_elim hs
          exact ih _ _ (⟨by have := hi7.1; omega, by have := hi7.2; omega⟩) hc8 hs
        · refine g_iload e_X11_runsTo_99 rfl ?_
          obtain rfl := Option.some.inj hs
          exact g_iret rfl ok_v5 e_X11_runsTo_101

noncomputable def m_X11_runsTo_99 (v5 : Int) : Option (Int) :=
  some (v5)

set_option maxRecDepth 10000 in
set_option maxHeartbeats 8000000 in
theorem g_X11_runsTo_99 {l : Launch} {E : EE} {b0 n : Nat} {h : AH} {a_t : Nat} {t_thrown t_taped t_p t_fault t_baseLow t_baseHigh t_newBaseLow t_newBaseHigh t_from t_knots t_lines t_chosen t_undos t_redos t_aimedMany t_fits t_fitOf t_sights t_systems t_own t_cross t_curveLong t_wallFirst v5 : Int} {t_push t_row : Nat → Int} {r : Int} (ao : AO b0 n [a_t, (a_t + 6), (a_t + 29)]) (ok_t_push : okA t_push) (ok_t_row : okA t_row) (ok_v5 : inI v5) (hs : m_X11_runsTo_99 v5 = some r) : G l E b0 M_X11_runsTo (fun _ => True) (ZM E b0 (some (vI r)) (ov [a_t, (a_t + 6), (a_t + 29)] [.inr (11, fsX11 a_t t_thrown t_taped t_p t_fault t_baseLow t_baseHigh t_newBaseLow t_newBaseHigh t_from t_knots t_lines t_chosen t_undos t_redos t_aimedMany t_fits t_fitOf t_sights t_systems t_own t_cross t_curveLong t_wallFirst), IA E 21 t_push, IA E 100 t_row] h) n (inI r) 0 0) 0 0 n (ov [a_t, (a_t + 6), (a_t + 29)] [.inr (11, fsX11 a_t t_thrown t_taped t_p t_fault t_baseLow t_baseHigh t_newBaseLow t_newBaseHigh t_from t_knots t_lines t_chosen t_undos t_redos t_aimedMany t_fits t_fitOf t_sights t_systems t_own t_cross t_curveLong t_wallFirst), IA E 21 t_push, IA E 100 t_row] h) 99 [none, none, none, none, none, some (vI v5), none] [] := by
  rw [m_X11_runsTo_99] at hs
  refine g_iload e_X11_runsTo_99 rfl ?_
  obtain rfl := Option.some.inj hs
  exact g_iret rfl ok_v5 e_X11_runsTo_101

noncomputable def m_X11_runsTo_0 (t_push : Nat → Int) (t_row : Nat → Int) (v1 : Int) (v2 : Int) (v3 : Int) (v4 : Int) : Option (Int) :=
  (m_X11_in v1 0 60).bind (fun y1 => if y1 = 0 then (some ((-1))) else ((m_X11_in v2 (-9999) 9999).bind (fun y2 => if y2 = 0 then (some ((-1))) else ((m_X11_in v3 0 9999).bind (fun y3 => if y3 = 0 then (some ((-1))) else ((m_X11_in v4 0 999).bind (fun y4 => if y4 = 0 then (some ((-1))) else (m_X11_runsTo_54 t_push t_row v3 v4 (fun v5' v6' => m_X11_runsTo_99 v5') FU v1 v2))))))))

set_option maxRecDepth 10000 in
set_option maxHeartbeats 8000000 in
theorem g_X11_runsTo_0 {l : Launch} {E : EE} {b0 n : Nat} {h : AH} {a_t : Nat} {t_thrown t_taped t_p t_fault t_baseLow t_baseHigh t_newBaseLow t_newBaseHigh t_from t_knots t_lines t_chosen t_undos t_redos t_aimedMany t_fits t_fitOf t_sights t_systems t_own t_cross t_curveLong t_wallFirst v1 v2 v3 v4 : Int} {t_push t_row : Nat → Int} {r : Int} (ao : AO b0 n [a_t, (a_t + 6), (a_t + 29)]) (ok_t_push : okA t_push) (ok_t_row : okA t_row) (ok_v1 : inI v1) (ok_v2 : inI v2) (ok_v3 : inI v3) (ok_v4 : inI v4) (hs : m_X11_runsTo_0 t_push t_row v1 v2 v3 v4 = some r) : G l E b0 M_X11_runsTo (fun _ => True) (ZM E b0 (some (vI r)) (ov [a_t, (a_t + 6), (a_t + 29)] [.inr (11, fsX11 a_t t_thrown t_taped t_p t_fault t_baseLow t_baseHigh t_newBaseLow t_newBaseHigh t_from t_knots t_lines t_chosen t_undos t_redos t_aimedMany t_fits t_fitOf t_sights t_systems t_own t_cross t_curveLong t_wallFirst), IA E 21 t_push, IA E 100 t_row] h) n (inI r) 0 0) 0 0 n (ov [a_t, (a_t + 6), (a_t + 29)] [.inr (11, fsX11 a_t t_thrown t_taped t_p t_fault t_baseLow t_baseHigh t_newBaseLow t_newBaseHigh t_from t_knots t_lines t_chosen t_undos t_redos t_aimedMany t_fits t_fitOf t_sights t_systems t_own t_cross t_curveLong t_wallFirst), IA E 21 t_push, IA E 100 t_row] h) 0 [some (.ref a_t), some (vI v1), some (vI v2), some (vI v3), some (vI v4), none, none] [] := by
  rw [m_X11_runsTo_0] at hs
  refine g_iload_n e_X11_runsTo_0 rfl ?_
  refine g_iconst e_X11_runsTo_1 ?_
  refine g_bipush e_X11_runsTo_2 bp_60 ?_
  obtain ⟨y1, hy1, hs⟩ := bind_elim hs
  refine g_callSr [vI v1, vI 0, vI 60] cs_X11_226 ⟨rfl, rfl, Nat.le_of_ble_eq_true rfl, Nat.le_of_ble_eq_true rfl⟩ (ct_X11_in ⟨List.nodup_nil, fun i a h => by simp at h⟩ (fun i a e h => by simp at h) ok_v1 (by decide : inI 0) (by decide : inI 60) hy1) e_X11_runsTo_4 rfl rfl (Nat.le_of_ble_eq_true rfl) ⟨Nat.le_refl _, Nat.le_refl _⟩ (fun Py1 => ?_)
  refine g_if_eq e_X11_runsTo_7 (inZ_I Py1) hs (fun c7 hs => ?_) (fun c7 hs => ?_)
  · refine g_iconst e_X11_runsTo_46 ?_
    obtain rfl := Option.some.inj hs
    exact g_iret rfl (by decide : inI (-1)) e_X11_runsTo_47
  · refine g_iload_n e_X11_runsTo_10 rfl ?_
    refine g_sipush e_X11_runsTo_11 sp_m9999 ?_
    refine g_sipush e_X11_runsTo_14 sp_9999 ?_
    obtain ⟨y2, hy2, hs⟩ := bind_elim hs
    refine g_callSr [vI v2, vI (-9999), vI 9999] cs_X11_226 ⟨rfl, rfl, Nat.le_of_ble_eq_true rfl, Nat.le_of_ble_eq_true rfl⟩ (ct_X11_in ⟨List.nodup_nil, fun i a h => by simp at h⟩ (fun i a e h => by simp at h) ok_v2 (by decide : inI (-9999)) (by decide : inI 9999) hy2) e_X11_runsTo_17 rfl rfl (Nat.le_of_ble_eq_true rfl) ⟨Nat.le_refl _, Nat.le_refl _⟩ (fun Py2 => ?_)
    refine g_if_eq e_X11_runsTo_20 (inZ_I Py2) hs (fun c20 hs => ?_) (fun c20 hs => ?_)
    · refine g_iconst e_X11_runsTo_46 ?_
      obtain rfl := Option.some.inj hs
      exact g_iret rfl (by decide : inI (-1)) e_X11_runsTo_47
    · refine g_iload_n e_X11_runsTo_23 rfl ?_
      refine g_iconst e_X11_runsTo_24 ?_
      refine g_sipush e_X11_runsTo_25 sp_9999 ?_
      obtain ⟨y3, hy3, hs⟩ := bind_elim hs
      refine g_callSr [vI v3, vI 0, vI 9999] cs_X11_226 ⟨rfl, rfl, Nat.le_of_ble_eq_true rfl, Nat.le_of_ble_eq_true rfl⟩ (ct_X11_in ⟨List.nodup_nil, fun i a h => by simp at h⟩ (fun i a e h => by simp at h) ok_v3 (by decide : inI 0) (by decide : inI 9999) hy3) e_X11_runsTo_28 rfl rfl (Nat.le_of_ble_eq_true rfl) ⟨Nat.le_refl _, Nat.le_refl _⟩ (fun Py3 => ?_)
      refine g_if_eq e_X11_runsTo_31 (inZ_I Py3) hs (fun c31 hs => ?_) (fun c31 hs => ?_)
      · refine g_iconst e_X11_runsTo_46 ?_
        obtain rfl := Option.some.inj hs
        exact g_iret rfl (by decide : inI (-1)) e_X11_runsTo_47
      · refine g_iload e_X11_runsTo_34 rfl ?_
        refine g_iconst e_X11_runsTo_36 ?_
        refine g_sipush e_X11_runsTo_37 sp_999 ?_
        obtain ⟨y4, hy4, hs⟩ := bind_elim hs
        refine g_callSr [vI v4, vI 0, vI 999] cs_X11_226 ⟨rfl, rfl, Nat.le_of_ble_eq_true rfl, Nat.le_of_ble_eq_true rfl⟩ (ct_X11_in ⟨List.nodup_nil, fun i a h => by simp at h⟩ (fun i a e h => by simp at h) ok_v4 (by decide : inI 0) (by decide : inI 999) hy4) e_X11_runsTo_40 rfl rfl (Nat.le_of_ble_eq_true rfl) ⟨Nat.le_refl _, Nat.le_refl _⟩ (fun Py4 => ?_)
        refine g_if_ne e_X11_runsTo_43 (inZ_I Py4) hs (fun c43 hs => ?_) (fun c43 hs => ?_)
        · refine g_iconst e_X11_runsTo_46 ?_
          obtain rfl := Option.some.inj hs
          exact g_iret rfl (by decide : inI (-1)) e_X11_runsTo_47
        · refine g_iload_n e_X11_runsTo_48 rfl ?_
          refine g_istore e_X11_runsTo_49 st1_5 rfl ?_
          refine g_iload_n e_X11_runsTo_51 rfl ?_
          refine g_istore e_X11_runsTo_52 st1_6 rfl ?_
          exact g_mask [true, false, false, true, true, true, true] (g_X11_runsTo_54 ao ok_t_push ok_t_row ok_v3 ok_v4 (hk_99 := by
      intro v5' v6' ok_v5' ok_v6' hs
      exact g_X11_runsTo_99 ao ok_t_push ok_t_row ok_v5' hs) FU _ _ ok_v1 ok_v2 hs)

noncomputable def m_X11_runsTo (t_push : Nat → Int) (t_row : Nat → Int) (v1 : Int) (v2 : Int) (v3 : Int) (v4 : Int) : Option (Int) := m_X11_runsTo_0 t_push t_row v1 v2 v3 v4

set_option maxRecDepth 10000 in
set_option maxHeartbeats 8000000 in
theorem ct_X11_runsTo {l : Launch} {E : EE} {b0 n : Nat} {h : AH} {a_t : Nat} {t_thrown t_taped t_p t_fault t_baseLow t_baseHigh t_newBaseLow t_newBaseHigh t_from t_knots t_lines t_chosen t_undos t_redos t_aimedMany t_fits t_fitOf t_sights t_systems t_own t_cross t_curveLong t_wallFirst : Int} {t_push t_row : Nat → Int} {v1 v2 v3 v4 : Int} (ao : AO b0 n [a_t, (a_t + 6), (a_t + 29)]) (hf : FA h [a_t, (a_t + 6), (a_t + 29)] [.inr (11, fsX11 a_t t_thrown t_taped t_p t_fault t_baseLow t_baseHigh t_newBaseLow t_newBaseHigh t_from t_knots t_lines t_chosen t_undos t_redos t_aimedMany t_fits t_fitOf t_sights t_systems t_own t_cross t_curveLong t_wallFirst), IA E 21 t_push, IA E 100 t_row]) (ok_t_push : okA t_push) (ok_t_row : okA t_row) (ok_v1 : inI v1) (ok_v2 : inI v2) (ok_v3 : inI v3) (ok_v4 : inI v4) {r : Int} (hm : m_X11_runsTo t_push t_row v1 v2 v3 v4 = some r) : Ct l E b0 M_X11_runsTo 0 0 [.ref a_t, vI v1, vI v2, vI v3, vI v4] h n (some (vI r)) h n (inI r) := by
  rw [m_X11_runsTo] at hm
  have hg : G l E b0 M_X11_runsTo (fun _ => True) (ZM E b0 (some (vI r)) (ov [a_t, (a_t + 6), (a_t + 29)] [.inr (11, fsX11 a_t t_thrown t_taped t_p t_fault t_baseLow t_baseHigh t_newBaseLow t_newBaseHigh t_from t_knots t_lines t_chosen t_undos t_redos t_aimedMany t_fits t_fitOf t_sights t_systems t_own t_cross t_curveLong t_wallFirst), IA E 21 t_push, IA E 100 t_row] h) n (inI r) 0 0) 0 0 n (ov [a_t, (a_t + 6), (a_t + 29)] [.inr (11, fsX11 a_t t_thrown t_taped t_p t_fault t_baseLow t_baseHigh t_newBaseLow t_newBaseHigh t_from t_knots t_lines t_chosen t_undos t_redos t_aimedMany t_fits t_fitOf t_sights t_systems t_own t_cross t_curveLong t_wallFirst), IA E 21 t_push, IA E 100 t_row] h) 0 [some (.ref a_t), some (vI v1), some (vI v2), some (vI v3), some (vI v4), none, none] [] := by
    have hs := hm
    exact g_X11_runsTo_0 ao ok_t_push ok_t_row ok_v1 ok_v2 ok_v3 ok_v4 hs
  rw [FA_id hf] at hg
  exact Ct_of [some (.ref a_t), some (vI v1), some (vI v2), some (vI v3), some (vI v4), none, none] ⟨by decide +kernel, rfl⟩ rfl (Nat.le_of_ble_eq_true rfl) hg

/-! ===== X11_count ===== -/
theorem e_X11_count_0 : DC cX11_count 0 (.iconst 0) 1 1 := ⟨by decide +kernel, rfl⟩
theorem e_X11_count_1 : DC cX11_count 1 (.istore_n 2) 1 2 := ⟨by decide +kernel, rfl⟩
theorem e_X11_count_2 : DC cX11_count 2 (.iload_n 1) 1 3 := ⟨by decide +kernel, rfl⟩
theorem e_X11_count_3 : DC cX11_count 3 (.tableswitch 232 0 14 #[73, 81, 89, 97, 103, 139, 173, 180, 187, 194, 201, 208, 214, 220, 226]) 73 76 := ⟨by decide +kernel, rfl⟩
theorem e_X11_count_76 : DC cX11_count 76 (.aload_n 0) 1 77 := ⟨by decide +kernel, rfl⟩
theorem e_X11_count_77 : DC cX11_count 77 (.getfield 13) 3 80 := ⟨by decide +kernel, rfl⟩
theorem e_X11_count_80 : DC cX11_count 80 (.iconst 0) 1 81 := ⟨by decide +kernel, rfl⟩
theorem e_X11_count_81 : DC cX11_count 81 (.iaload) 1 82 := ⟨by decide +kernel, rfl⟩
theorem e_X11_count_82 : DC cX11_count 82 (.i2l) 1 83 := ⟨by decide +kernel, rfl⟩
theorem e_X11_count_83 : DC cX11_count 83 (.lreturn) 1 84 := ⟨by decide +kernel, rfl⟩
theorem e_X11_count_84 : DC cX11_count 84 (.aload_n 0) 1 85 := ⟨by decide +kernel, rfl⟩
theorem e_X11_count_85 : DC cX11_count 85 (.getfield 13) 3 88 := ⟨by decide +kernel, rfl⟩
theorem e_X11_count_88 : DC cX11_count 88 (.iconst 1) 1 89 := ⟨by decide +kernel, rfl⟩
theorem e_X11_count_89 : DC cX11_count 89 (.iaload) 1 90 := ⟨by decide +kernel, rfl⟩
theorem e_X11_count_90 : DC cX11_count 90 (.i2l) 1 91 := ⟨by decide +kernel, rfl⟩
theorem e_X11_count_91 : DC cX11_count 91 (.lreturn) 1 92 := ⟨by decide +kernel, rfl⟩
theorem e_X11_count_92 : DC cX11_count 92 (.aload_n 0) 1 93 := ⟨by decide +kernel, rfl⟩
theorem e_X11_count_93 : DC cX11_count 93 (.getfield 13) 3 96 := ⟨by decide +kernel, rfl⟩
theorem e_X11_count_96 : DC cX11_count 96 (.iconst 2) 1 97 := ⟨by decide +kernel, rfl⟩
theorem e_X11_count_97 : DC cX11_count 97 (.iaload) 1 98 := ⟨by decide +kernel, rfl⟩
theorem e_X11_count_98 : DC cX11_count 98 (.i2l) 1 99 := ⟨by decide +kernel, rfl⟩
theorem e_X11_count_99 : DC cX11_count 99 (.lreturn) 1 100 := ⟨by decide +kernel, rfl⟩
theorem e_X11_count_100 : DC cX11_count 100 (.aload_n 0) 1 101 := ⟨by decide +kernel, rfl⟩
theorem e_X11_count_101 : DC cX11_count 101 (.getfield 268) 3 104 := ⟨by decide +kernel, rfl⟩
theorem e_X11_count_104 : DC cX11_count 104 (.i2l) 1 105 := ⟨by decide +kernel, rfl⟩
theorem e_X11_count_105 : DC cX11_count 105 (.lreturn) 1 106 := ⟨by decide +kernel, rfl⟩
theorem e_X11_count_106 : DC cX11_count 106 (.iconst 0) 1 107 := ⟨by decide +kernel, rfl⟩
theorem e_X11_count_107 : DC cX11_count 107 (.istore_n 3) 1 108 := ⟨by decide +kernel, rfl⟩
theorem e_X11_count_108 : DC cX11_count 108 (.iload_n 3) 1 109 := ⟨by decide +kernel, rfl⟩
theorem e_X11_count_109 : DC cX11_count 109 (.aload_n 0) 1 110 := ⟨by decide +kernel, rfl⟩
theorem e_X11_count_110 : DC cX11_count 110 (.getfield 271) 3 113 := ⟨by decide +kernel, rfl⟩
theorem e_X11_count_113 : DB cX11_count 113 (.if_icmp .ge 26) (26) 3 116 139 := ⟨by decide +kernel, rfl, rfl⟩
theorem e_X11_count_116 : DC cX11_count 116 (.iload_n 2) 1 117 := ⟨by decide +kernel, rfl⟩
theorem e_X11_count_117 : DC cX11_count 117 (.aload_n 0) 1 118 := ⟨by decide +kernel, rfl⟩
theorem e_X11_count_118 : DC cX11_count 118 (.getfield 54) 3 121 := ⟨by decide +kernel, rfl⟩
theorem e_X11_count_121 : DC cX11_count 121 (.iload_n 3) 1 122 := ⟨by decide +kernel, rfl⟩
theorem e_X11_count_122 : DC cX11_count 122 (.baload) 1 123 := ⟨by decide +kernel, rfl⟩
theorem e_X11_count_123 : DB cX11_count 123 (.ifCond .eq 7) (7) 3 126 130 := ⟨by decide +kernel, rfl, rfl⟩
theorem e_X11_count_126 : DC cX11_count 126 (.iconst 0) 1 127 := ⟨by decide +kernel, rfl⟩
theorem e_X11_count_127 : DB cX11_count 127 (.goto 4) (4) 3 130 131 := ⟨by decide +kernel, rfl, rfl⟩
theorem e_X11_count_130 : DC cX11_count 130 (.iconst 1) 1 131 := ⟨by decide +kernel, rfl⟩
theorem e_X11_count_131 : DC cX11_count 131 (.iadd) 1 132 := ⟨by decide +kernel, rfl⟩
theorem e_X11_count_132 : DC cX11_count 132 (.istore_n 2) 1 133 := ⟨by decide +kernel, rfl⟩
theorem e_X11_count_133 : DC cX11_count 133 (.iinc 3 1) 3 136 := ⟨by decide +kernel, rfl⟩
theorem e_X11_count_136 : DB cX11_count 136 (.goto (-28)) (-28) 3 139 108 := ⟨by decide +kernel, rfl, rfl⟩
theorem e_X11_count_139 : DC cX11_count 139 (.iload_n 2) 1 140 := ⟨by decide +kernel, rfl⟩
theorem e_X11_count_140 : DC cX11_count 140 (.i2l) 1 141 := ⟨by decide +kernel, rfl⟩
theorem e_X11_count_141 : DC cX11_count 141 (.lreturn) 1 142 := ⟨by decide +kernel, rfl⟩
theorem e_X11_count_142 : DC cX11_count 142 (.iconst 0) 1 143 := ⟨by decide +kernel, rfl⟩
theorem e_X11_count_143 : DC cX11_count 143 (.istore_n 3) 1 144 := ⟨by decide +kernel, rfl⟩
theorem e_X11_count_144 : DC cX11_count 144 (.iload_n 3) 1 145 := ⟨by decide +kernel, rfl⟩
theorem e_X11_count_145 : DC cX11_count 145 (.bipush 100) 2 147 := ⟨by decide +kernel, rfl⟩
theorem e_X11_count_147 : DB cX11_count 147 (.if_icmp .ge 26) (26) 3 150 173 := ⟨by decide +kernel, rfl, rfl⟩
theorem e_X11_count_150 : DC cX11_count 150 (.iload_n 2) 1 151 := ⟨by decide +kernel, rfl⟩
theorem e_X11_count_151 : DC cX11_count 151 (.aload_n 0) 1 152 := ⟨by decide +kernel, rfl⟩
theorem e_X11_count_152 : DC cX11_count 152 (.getfield 97) 3 155 := ⟨by decide +kernel, rfl⟩
theorem e_X11_count_155 : DC cX11_count 155 (.iload_n 3) 1 156 := ⟨by decide +kernel, rfl⟩
theorem e_X11_count_156 : DC cX11_count 156 (.iaload) 1 157 := ⟨by decide +kernel, rfl⟩
theorem e_X11_count_157 : DB cX11_count 157 (.ifCond .ne 7) (7) 3 160 164 := ⟨by decide +kernel, rfl, rfl⟩
theorem e_X11_count_160 : DC cX11_count 160 (.iconst 0) 1 161 := ⟨by decide +kernel, rfl⟩
theorem e_X11_count_161 : DB cX11_count 161 (.goto 4) (4) 3 164 165 := ⟨by decide +kernel, rfl, rfl⟩
theorem e_X11_count_164 : DC cX11_count 164 (.iconst 1) 1 165 := ⟨by decide +kernel, rfl⟩
theorem e_X11_count_165 : DC cX11_count 165 (.iadd) 1 166 := ⟨by decide +kernel, rfl⟩
theorem e_X11_count_166 : DC cX11_count 166 (.istore_n 2) 1 167 := ⟨by decide +kernel, rfl⟩
theorem e_X11_count_167 : DC cX11_count 167 (.iinc 3 1) 3 170 := ⟨by decide +kernel, rfl⟩
theorem e_X11_count_170 : DB cX11_count 170 (.goto (-26)) (-26) 3 173 144 := ⟨by decide +kernel, rfl, rfl⟩
theorem e_X11_count_173 : DC cX11_count 173 (.iload_n 2) 1 174 := ⟨by decide +kernel, rfl⟩
theorem e_X11_count_174 : DC cX11_count 174 (.i2l) 1 175 := ⟨by decide +kernel, rfl⟩
theorem e_X11_count_175 : DC cX11_count 175 (.lreturn) 1 176 := ⟨by decide +kernel, rfl⟩
theorem e_X11_count_176 : DC cX11_count 176 (.aload_n 0) 1 177 := ⟨by decide +kernel, rfl⟩
theorem e_X11_count_177 : DC cX11_count 177 (.getfield 103) 3 180 := ⟨by decide +kernel, rfl⟩
theorem e_X11_count_180 : DC cX11_count 180 (.iconst 0) 1 181 := ⟨by decide +kernel, rfl⟩
theorem e_X11_count_181 : DC cX11_count 181 (.laload) 1 182 := ⟨by decide +kernel, rfl⟩
theorem e_X11_count_182 : DC cX11_count 182 (.lreturn) 1 183 := ⟨by decide +kernel, rfl⟩
theorem e_X11_count_183 : DC cX11_count 183 (.aload_n 0) 1 184 := ⟨by decide +kernel, rfl⟩
theorem e_X11_count_184 : DC cX11_count 184 (.getfield 103) 3 187 := ⟨by decide +kernel, rfl⟩
theorem e_X11_count_187 : DC cX11_count 187 (.iconst 1) 1 188 := ⟨by decide +kernel, rfl⟩
theorem e_X11_count_188 : DC cX11_count 188 (.laload) 1 189 := ⟨by decide +kernel, rfl⟩
theorem e_X11_count_189 : DC cX11_count 189 (.lreturn) 1 190 := ⟨by decide +kernel, rfl⟩
theorem e_X11_count_190 : DC cX11_count 190 (.aload_n 0) 1 191 := ⟨by decide +kernel, rfl⟩
theorem e_X11_count_191 : DC cX11_count 191 (.getfield 103) 3 194 := ⟨by decide +kernel, rfl⟩
theorem e_X11_count_194 : DC cX11_count 194 (.iconst 2) 1 195 := ⟨by decide +kernel, rfl⟩
theorem e_X11_count_195 : DC cX11_count 195 (.laload) 1 196 := ⟨by decide +kernel, rfl⟩
theorem e_X11_count_196 : DC cX11_count 196 (.lreturn) 1 197 := ⟨by decide +kernel, rfl⟩
theorem e_X11_count_197 : DC cX11_count 197 (.aload_n 0) 1 198 := ⟨by decide +kernel, rfl⟩
theorem e_X11_count_198 : DC cX11_count 198 (.getfield 103) 3 201 := ⟨by decide +kernel, rfl⟩
theorem e_X11_count_201 : DC cX11_count 201 (.iconst 3) 1 202 := ⟨by decide +kernel, rfl⟩
theorem e_X11_count_202 : DC cX11_count 202 (.laload) 1 203 := ⟨by decide +kernel, rfl⟩
theorem e_X11_count_203 : DC cX11_count 203 (.lreturn) 1 204 := ⟨by decide +kernel, rfl⟩
theorem e_X11_count_204 : DC cX11_count 204 (.aload_n 0) 1 205 := ⟨by decide +kernel, rfl⟩
theorem e_X11_count_205 : DC cX11_count 205 (.getfield 103) 3 208 := ⟨by decide +kernel, rfl⟩
theorem e_X11_count_208 : DC cX11_count 208 (.iconst 4) 1 209 := ⟨by decide +kernel, rfl⟩
theorem e_X11_count_209 : DC cX11_count 209 (.laload) 1 210 := ⟨by decide +kernel, rfl⟩
theorem e_X11_count_210 : DC cX11_count 210 (.lreturn) 1 211 := ⟨by decide +kernel, rfl⟩
theorem e_X11_count_211 : DC cX11_count 211 (.aload_n 0) 1 212 := ⟨by decide +kernel, rfl⟩
theorem e_X11_count_212 : DC cX11_count 212 (.getfield 161) 3 215 := ⟨by decide +kernel, rfl⟩
theorem e_X11_count_215 : DC cX11_count 215 (.i2l) 1 216 := ⟨by decide +kernel, rfl⟩
theorem e_X11_count_216 : DC cX11_count 216 (.lreturn) 1 217 := ⟨by decide +kernel, rfl⟩
theorem e_X11_count_217 : DC cX11_count 217 (.aload_n 0) 1 218 := ⟨by decide +kernel, rfl⟩
theorem e_X11_count_218 : DC cX11_count 218 (.getfield 258) 3 221 := ⟨by decide +kernel, rfl⟩
theorem e_X11_count_221 : DC cX11_count 221 (.i2l) 1 222 := ⟨by decide +kernel, rfl⟩
theorem e_X11_count_222 : DC cX11_count 222 (.lreturn) 1 223 := ⟨by decide +kernel, rfl⟩
theorem e_X11_count_223 : DC cX11_count 223 (.aload_n 0) 1 224 := ⟨by decide +kernel, rfl⟩
theorem e_X11_count_224 : DC cX11_count 224 (.getfield 398) 3 227 := ⟨by decide +kernel, rfl⟩
theorem e_X11_count_227 : DC cX11_count 227 (.i2l) 1 228 := ⟨by decide +kernel, rfl⟩
theorem e_X11_count_228 : DC cX11_count 228 (.lreturn) 1 229 := ⟨by decide +kernel, rfl⟩
theorem e_X11_count_229 : DC cX11_count 229 (.aload_n 0) 1 230 := ⟨by decide +kernel, rfl⟩
theorem e_X11_count_230 : DC cX11_count 230 (.getfield 350) 3 233 := ⟨by decide +kernel, rfl⟩
theorem e_X11_count_233 : DC cX11_count 233 (.i2l) 1 234 := ⟨by decide +kernel, rfl⟩
theorem e_X11_count_234 : DC cX11_count 234 (.lreturn) 1 235 := ⟨by decide +kernel, rfl⟩
theorem e_X11_count_235 : DC cX11_count 235 (.ldc2_w 317) 3 238 := ⟨by decide +kernel, rfl⟩
theorem e_X11_count_238 : DC cX11_count 238 (.lreturn) 1 239 := ⟨by decide +kernel, rfl⟩
noncomputable def m_X11_count_131 (t_lines : Int) (t_isGone : Nat → Int) (v3 : Int) (s0 : Int) (s1 : Int) (ag : Int → Int → Option (Int)) (k_139 : Int → Int → Option (Int)) : Option (Int) :=
  chk (inI (s0 + s1)) (chk (inI (v3 + 1)) (ag (s0 + s1) (v3 + 1)))

set_option maxRecDepth 10000 in
set_option maxHeartbeats 8000000 in
theorem g_X11_count_131 {l : Launch} {E : EE} {b0 n : Nat} {h : AH} {a_t : Nat} {t_thrown t_taped t_p t_fault t_baseLow t_baseHigh t_newBaseLow t_newBaseHigh t_from t_knots t_lines t_chosen t_undos t_redos t_aimedMany t_fits t_fitOf t_sights t_systems t_own t_cross t_curveLong t_wallFirst v3 s0 s1 : Int} {t_many t_isGone t_row t_sums : Nat → Int} {r : Int} {ag : Int → Int → Option (Int)} {k_139 : Int → Int → Option (Int)} (ao : AO b0 n [a_t, (a_t + 2), (a_t + 15), (a_t + 29), (a_t + 31)]) (ok_t_taped : inI t_taped) (ok_t_knots : inI t_knots) (ok_t_lines : inI t_lines) (ok_t_undos : inI t_undos) (ok_t_sights : inI t_sights) (ok_t_systems : inI t_systems) (ok_t_many : okA t_many) (ok_t_isGone : okZ t_isGone) (ok_t_row : okA t_row) (ok_t_sums : okJ t_sums) (ok_v3 : inI v3) (ok_s0 : inI s0) (ok_s1 : inZ s1) (hag : ∀ (v2_ : Int) (v3_ : Int), inI v2_ → inI v3_ → ag v2_ v3_ = some r → G l E b0 M_X11_count (fun _ => True) (ZM E b0 (some (vJ r)) (ov [a_t, (a_t + 2), (a_t + 15), (a_t + 29), (a_t + 31)] [.inr (11, fsX11 a_t t_thrown t_taped t_p t_fault t_baseLow t_baseHigh t_newBaseLow t_newBaseHigh t_from t_knots t_lines t_chosen t_undos t_redos t_aimedMany t_fits t_fitOf t_sights t_systems t_own t_cross t_curveLong t_wallFirst), IA E 7 t_many, ZA E 120 t_isGone, IA E 100 t_row, JA E 6 t_sums] h) n (inJ r) 0 0) 0 0 n (ov [a_t, (a_t + 2), (a_t + 15), (a_t + 29), (a_t + 31)] [.inr (11, fsX11 a_t t_thrown t_taped t_p t_fault t_baseLow t_baseHigh t_newBaseLow t_newBaseHigh t_from t_knots t_lines t_chosen t_undos t_redos t_aimedMany t_fits t_fitOf t_sights t_systems t_own t_cross t_curveLong t_wallFirst), IA E 7 t_many, ZA E 120 t_isGone, IA E 100 t_row, JA E 6 t_sums] h) 108 [some (.ref a_t), none, some (vI v2_), some (vI v3_)] []) (hk_139 : ∀ (v2_ : Int) (v3_ : Int), inI v2_ → inI v3_ → k_139 v2_ v3_ = some r → G l E b0 M_X11_count (fun _ => True) (ZM E b0 (some (vJ r)) (ov [a_t, (a_t + 2), (a_t + 15), (a_t + 29), (a_t + 31)] [.inr (11, fsX11 a_t t_thrown t_taped t_p t_fault t_baseLow t_baseHigh t_newBaseLow t_newBaseHigh t_from t_knots t_lines t_chosen t_undos t_redos t_aimedMany t_fits t_fitOf t_sights t_systems t_own t_cross t_curveLong t_wallFirst), IA E 7 t_many, ZA E 120 t_isGone, IA E 100 t_row, JA E 6 t_sums] h) n (inJ r) 0 0) 0 0 n (ov [a_t, (a_t + 2), (a_t + 15), (a_t + 29), (a_t + 31)] [.inr (11, fsX11 a_t t_thrown t_taped t_p t_fault t_baseLow t_baseHigh t_newBaseLow t_newBaseHigh t_from t_knots t_lines t_chosen t_undos t_redos t_aimedMany t_fits t_fitOf t_sights t_systems t_own t_cross t_curveLong t_wallFirst), IA E 7 t_many, ZA E 120 t_isGone, IA E 100 t_row, JA E 6 t_sums] h) 139 [none, none, some (vI v2_), none] []) (hs : m_X11_count_131 t_lines t_isGone v3 s0 s1 ag k_139 = some r) : G l E b0 M_X11_count (fun _ => True) (ZM E b0 (some (vJ r)) (ov [a_t, (a_t + 2), (a_t + 15), (a_t + 29), (a_t + 31)] [.inr (11, fsX11 a_t t_thrown t_taped t_p t_fault t_baseLow t_baseHigh t_newBaseLow t_newBaseHigh t_from t_knots t_lines t_chosen t_undos t_redos t_aimedMany t_fits t_fitOf t_sights t_systems t_own t_cross t_curveLong t_wallFirst), IA E 7 t_many, ZA E 120 t_isGone, IA E 100 t_row, JA E 6 t_sums] h) n (inJ r) 0 0) 0 0 n (ov [a_t, (a_t + 2), (a_t + 15), (a_t + 29), (a_t + 31)] [.inr (11, fsX11 a_t t_thrown t_taped t_p t_fault t_baseLow t_baseHigh t_newBaseLow t_newBaseHigh t_from t_knots t_lines t_chosen t_undos t_redos t_aimedMany t_fits t_fitOf t_sights t_systems t_own t_cross t_curveLong t_wallFirst), IA E 7 t_many, ZA E 120 t_isGone, IA E 100 t_row, JA E 6 t_sums] h) 131 [some (.ref a_t), none, none, some (vI v3)] [vI s1, vI s0] := by
  rw [m_X11_count_131] at hs
  refine g_iadd e_X11_count_131 ?_
  refine g_istore_n e_X11_count_132 st1_2 rfl ?_
  refine g_iinc e_X11_count_133 rfl st1_3 rfl ?_
  refine g_goto e_X11_count_136 ?_
  obtain ⟨hc5, hs⟩ := chk_elim hs
  obtain ⟨hc6, hs⟩ := chk_elim hs
  exact hag _ _ hc5 hc6 hs

noncomputable def m_X11_count_108 (t_lines : Int) (t_isGone : Nat → Int) (k_139 : Int → Int → Option (Int)) : Nat → Int → Int → Option (Int)
  | 0, _, _ => none
  | F + 1, v2, v3 => if t_lines ≤ v3 then (some (v2)) else (chk (inB v3 120) (if (t_isGone (Int.toNat v3)) = 0 then (m_X11_count_131 t_lines t_isGone v3 v2 1 (m_X11_count_108 t_lines t_isGone k_139 F) k_139) else (m_X11_count_131 t_lines t_isGone v3 v2 0 (m_X11_count_108 t_lines t_isGone k_139 F) k_139)))

set_option maxRecDepth 10000 in
set_option maxHeartbeats 8000000 in
theorem g_X11_count_108 {l : Launch} {E : EE} {b0 n : Nat} {h : AH} {a_t : Nat} {t_thrown t_taped t_p t_fault t_baseLow t_baseHigh t_newBaseLow t_newBaseHigh t_from t_knots t_lines t_chosen t_undos t_redos t_aimedMany t_fits t_fitOf t_sights t_systems t_own t_cross t_curveLong t_wallFirst : Int} {t_many t_isGone t_row t_sums : Nat → Int} {r : Int} {k_139 : Int → Int → Option (Int)} (ao : AO b0 n [a_t, (a_t + 2), (a_t + 15), (a_t + 29), (a_t + 31)]) (ok_t_taped : inI t_taped) (ok_t_knots : inI t_knots) (ok_t_lines : inI t_lines) (ok_t_undos : inI t_undos) (ok_t_sights : inI t_sights) (ok_t_systems : inI t_systems) (ok_t_many : okA t_many) (ok_t_isGone : okZ t_isGone) (ok_t_row : okA t_row) (ok_t_sums : okJ t_sums) (hk_139 : ∀ (v2_ : Int) (v3_ : Int), inI v2_ → inI v3_ → k_139 v2_ v3_ = some r → G l E b0 M_X11_count (fun _ => True) (ZM E b0 (some (vJ r)) (ov [a_t, (a_t + 2), (a_t + 15), (a_t + 29), (a_t + 31)] [.inr (11, fsX11 a_t t_thrown t_taped t_p t_fault t_baseLow t_baseHigh t_newBaseLow t_newBaseHigh t_from t_knots t_lines t_chosen t_undos t_redos t_aimedMany t_fits t_fitOf t_sights t_systems t_own t_cross t_curveLong t_wallFirst), IA E 7 t_many, ZA E 120 t_isGone, IA E 100 t_row, JA E 6 t_sums] h) n (inJ r) 0 0) 0 0 n (ov [a_t, (a_t + 2), (a_t + 15), (a_t + 29), (a_t + 31)] [.inr (11, fsX11 a_t t_thrown t_taped t_p t_fault t_baseLow t_baseHigh t_newBaseLow t_newBaseHigh t_from t_knots t_lines t_chosen t_undos t_redos t_aimedMany t_fits t_fitOf t_sights t_systems t_own t_cross t_curveLong t_wallFirst), IA E 7 t_many, ZA E 120 t_isGone, IA E 100 t_row, JA E 6 t_sums] h) 139 [none, none, some (vI v2_), none] []) :
    ∀ (F : Nat) (v2 : Int) (v3 : Int), inI v2 → inI v3 → m_X11_count_108 t_lines t_isGone k_139 F v2 v3 = some r → G l E b0 M_X11_count (fun _ => True) (ZM E b0 (some (vJ r)) (ov [a_t, (a_t + 2), (a_t + 15), (a_t + 29), (a_t + 31)] [.inr (11, fsX11 a_t t_thrown t_taped t_p t_fault t_baseLow t_baseHigh t_newBaseLow t_newBaseHigh t_from t_knots t_lines t_chosen t_undos t_redos t_aimedMany t_fits t_fitOf t_sights t_systems t_own t_cross t_curveLong t_wallFirst), IA E 7 t_many, ZA E 120 t_isGone, IA E 100 t_row, JA E 6 t_sums] h) n (inJ r) 0 0) 0 0 n (ov [a_t, (a_t + 2), (a_t + 15), (a_t + 29), (a_t + 31)] [.inr (11, fsX11 a_t t_thrown t_taped t_p t_fault t_baseLow t_baseHigh t_newBaseLow t_newBaseHigh t_from t_knots t_lines t_chosen t_undos t_redos t_aimedMany t_fits t_fitOf t_sights t_systems t_own t_cross t_curveLong t_wallFirst), IA E 7 t_many, ZA E 120 t_isGone, IA E 100 t_row, JA E 6 t_sums] h) 108 [some (.ref a_t), none, some (vI v2), some (vI v3)] [] := by
  intro F
  induction F with
  | zero =>
    intro v2 v3 ok_v2 ok_v3 hs
    rw [m_X11_count_108] at hs
    cases hs
  | succ F ih =>
    intro v2 v3 ok_v2 ok_v3 hs
    rw [m_X11_count_108] at hs
    refine g_iload_n e_X11_count_108 rfl ?_
    refine g_aload_n e_X11_count_109 rfl ?_
    refine g_get 0 23 ao rfl rfl fsX11_g23 fl_X11_271 e_X11_count_110 ?_
    refine g_icmp_ge e_X11_count_113 ok_v3 ok_t_lines hs (fun c113 hs => ?_) (fun c113 hs => ?_)
    · refine g_iload_n e_X11_count_139 rfl ?_
      refine g_i2l e_X11_count_140 ok_v2 ?_
      obtain rfl := Option.some.inj hs
      exact g_lret rfl (inI_J ok_v2) e_X11_count_141
    · refine g_iload_n e_X11_count_116 rfl ?_
      refine g_aload_n e_X11_count_117 rfl ?_
      refine g_get 0 25 ao rfl rfl fsX11_g25 fl_X11_54 e_X11_count_118 ?_
      refine g_iload_n e_X11_count_121 rfl ?_
      refine g_zald 2 ao rfl rfl (Nat.le_of_ble_eq_true rfl) e_X11_count_122 hs (fun hi4 hs => ?_)
      refine g_if_eq e_X11_count_123 (inZ_I (ok_t_isGone _)) hs (fun c123 hs => ?_) (fun c123 hs => ?_)
      · refine g_iconst e_X11_count_130 ?_
        exact g_mask [true, true, false, true] (g_X11_count_131 ao ok_t_taped ok_t_knots ok_t_lines ok_t_undos ok_t_sights ok_t_systems ok_t_many ok_t_isGone ok_t_row ok_t_sums ok_v3 ok_v2 (by decide : inZ 1) ih hk_139 hs)
      · refine g_iconst e_X11_count_126 ?_
        refine g_goto e_X11_count_127 ?_
        exact g_mask [true, true, false, true] (g_X11_count_131 ao ok_t_taped ok_t_knots ok_t_lines ok_t_undos ok_t_sights ok_t_systems ok_t_many ok_t_isGone ok_t_row ok_t_sums ok_v3 ok_v2 (by decide : inZ 0) ih hk_139 hs)

noncomputable def m_X11_count_139 (v2 : Int) : Option (Int) :=
  some (v2)

set_option maxRecDepth 10000 in
set_option maxHeartbeats 8000000 in
theorem g_X11_count_139 {l : Launch} {E : EE} {b0 n : Nat} {h : AH} {a_t : Nat} {t_thrown t_taped t_p t_fault t_baseLow t_baseHigh t_newBaseLow t_newBaseHigh t_from t_knots t_lines t_chosen t_undos t_redos t_aimedMany t_fits t_fitOf t_sights t_systems t_own t_cross t_curveLong t_wallFirst v2 : Int} {t_many t_isGone t_row t_sums : Nat → Int} {r : Int} (ao : AO b0 n [a_t, (a_t + 2), (a_t + 15), (a_t + 29), (a_t + 31)]) (ok_t_taped : inI t_taped) (ok_t_knots : inI t_knots) (ok_t_lines : inI t_lines) (ok_t_undos : inI t_undos) (ok_t_sights : inI t_sights) (ok_t_systems : inI t_systems) (ok_t_many : okA t_many) (ok_t_isGone : okZ t_isGone) (ok_t_row : okA t_row) (ok_t_sums : okJ t_sums) (ok_v2 : inI v2) (hs : m_X11_count_139 v2 = some r) : G l E b0 M_X11_count (fun _ => True) (ZM E b0 (some (vJ r)) (ov [a_t, (a_t + 2), (a_t + 15), (a_t + 29), (a_t + 31)] [.inr (11, fsX11 a_t t_thrown t_taped t_p t_fault t_baseLow t_baseHigh t_newBaseLow t_newBaseHigh t_from t_knots t_lines t_chosen t_undos t_redos t_aimedMany t_fits t_fitOf t_sights t_systems t_own t_cross t_curveLong t_wallFirst), IA E 7 t_many, ZA E 120 t_isGone, IA E 100 t_row, JA E 6 t_sums] h) n (inJ r) 0 0) 0 0 n (ov [a_t, (a_t + 2), (a_t + 15), (a_t + 29), (a_t + 31)] [.inr (11, fsX11 a_t t_thrown t_taped t_p t_fault t_baseLow t_baseHigh t_newBaseLow t_newBaseHigh t_from t_knots t_lines t_chosen t_undos t_redos t_aimedMany t_fits t_fitOf t_sights t_systems t_own t_cross t_curveLong t_wallFirst), IA E 7 t_many, ZA E 120 t_isGone, IA E 100 t_row, JA E 6 t_sums] h) 139 [none, none, some (vI v2), none] [] := by
  rw [m_X11_count_139] at hs
  refine g_iload_n e_X11_count_139 rfl ?_
  refine g_i2l e_X11_count_140 ok_v2 ?_
  obtain rfl := Option.some.inj hs
  exact g_lret rfl (inI_J ok_v2) e_X11_count_141

noncomputable def m_X11_count_165 (t_row : Nat → Int) (v3 : Int) (s0 : Int) (s1 : Int) (ag : Int → Int → Option (Int)) (k_173 : Int → Int → Option (Int)) : Option (Int) :=
  chk (inI (s0 + s1)) (chk (inI (v3 + 1)) (ag (s0 + s1) (v3 + 1)))

set_option maxRecDepth 10000 in
set_option maxHeartbeats 8000000 in
theorem g_X11_count_165 {l : Launch} {E : EE} {b0 n : Nat} {h : AH} {a_t : Nat} {t_thrown t_taped t_p t_fault t_baseLow t_baseHigh t_newBaseLow t_newBaseHigh t_from t_knots t_lines t_chosen t_undos t_redos t_aimedMany t_fits t_fitOf t_sights t_systems t_own t_cross t_curveLong t_wallFirst v3 s0 s1 : Int} {t_many t_isGone t_row t_sums : Nat → Int} {r : Int} {ag : Int → Int → Option (Int)} {k_173 : Int → Int → Option (Int)} (ao : AO b0 n [a_t, (a_t + 2), (a_t + 15), (a_t + 29), (a_t + 31)]) (ok_t_taped : inI t_taped) (ok_t_knots : inI t_knots) (ok_t_lines : inI t_lines) (ok_t_undos : inI t_undos) (ok_t_sights : inI t_sights) (ok_t_systems : inI t_systems) (ok_t_many : okA t_many) (ok_t_isGone : okZ t_isGone) (ok_t_row : okA t_row) (ok_t_sums : okJ t_sums) (ok_v3 : inI v3) (ok_s0 : inI s0) (ok_s1 : inZ s1) (hag : ∀ (v2_ : Int) (v3_ : Int), inI v2_ → inI v3_ → ag v2_ v3_ = some r → G l E b0 M_X11_count (fun _ => True) (ZM E b0 (some (vJ r)) (ov [a_t, (a_t + 2), (a_t + 15), (a_t + 29), (a_t + 31)] [.inr (11, fsX11 a_t t_thrown t_taped t_p t_fault t_baseLow t_baseHigh t_newBaseLow t_newBaseHigh t_from t_knots t_lines t_chosen t_undos t_redos t_aimedMany t_fits t_fitOf t_sights t_systems t_own t_cross t_curveLong t_wallFirst), IA E 7 t_many, ZA E 120 t_isGone, IA E 100 t_row, JA E 6 t_sums] h) n (inJ r) 0 0) 0 0 n (ov [a_t, (a_t + 2), (a_t + 15), (a_t + 29), (a_t + 31)] [.inr (11, fsX11 a_t t_thrown t_taped t_p t_fault t_baseLow t_baseHigh t_newBaseLow t_newBaseHigh t_from t_knots t_lines t_chosen t_undos t_redos t_aimedMany t_fits t_fitOf t_sights t_systems t_own t_cross t_curveLong t_wallFirst), IA E 7 t_many, ZA E 120 t_isGone, IA E 100 t_row, JA E 6 t_sums] h) 144 [some (.ref a_t), none, some (vI v2_), some (vI v3_)] []) (hk_173 : ∀ (v2_ : Int) (v3_ : Int), inI v2_ → inI v3_ → k_173 v2_ v3_ = some r → G l E b0 M_X11_count (fun _ => True) (ZM E b0 (some (vJ r)) (ov [a_t, (a_t + 2), (a_t + 15), (a_t + 29), (a_t + 31)] [.inr (11, fsX11 a_t t_thrown t_taped t_p t_fault t_baseLow t_baseHigh t_newBaseLow t_newBaseHigh t_from t_knots t_lines t_chosen t_undos t_redos t_aimedMany t_fits t_fitOf t_sights t_systems t_own t_cross t_curveLong t_wallFirst), IA E 7 t_many, ZA E 120 t_isGone, IA E 100 t_row, JA E 6 t_sums] h) n (inJ r) 0 0) 0 0 n (ov [a_t, (a_t + 2), (a_t + 15), (a_t + 29), (a_t + 31)] [.inr (11, fsX11 a_t t_thrown t_taped t_p t_fault t_baseLow t_baseHigh t_newBaseLow t_newBaseHigh t_from t_knots t_lines t_chosen t_undos t_redos t_aimedMany t_fits t_fitOf t_sights t_systems t_own t_cross t_curveLong t_wallFirst), IA E 7 t_many, ZA E 120 t_isGone, IA E 100 t_row, JA E 6 t_sums] h) 173 [none, none, some (vI v2_), none] []) (hs : m_X11_count_165 t_row v3 s0 s1 ag k_173 = some r) : G l E b0 M_X11_count (fun _ => True) (ZM E b0 (some (vJ r)) (ov [a_t, (a_t + 2), (a_t + 15), (a_t + 29), (a_t + 31)] [.inr (11, fsX11 a_t t_thrown t_taped t_p t_fault t_baseLow t_baseHigh t_newBaseLow t_newBaseHigh t_from t_knots t_lines t_chosen t_undos t_redos t_aimedMany t_fits t_fitOf t_sights t_systems t_own t_cross t_curveLong t_wallFirst), IA E 7 t_many, ZA E 120 t_isGone, IA E 100 t_row, JA E 6 t_sums] h) n (inJ r) 0 0) 0 0 n (ov [a_t, (a_t + 2), (a_t + 15), (a_t + 29), (a_t + 31)] [.inr (11, fsX11 a_t t_thrown t_taped t_p t_fault t_baseLow t_baseHigh t_newBaseLow t_newBaseHigh t_from t_knots t_lines t_chosen t_undos t_redos t_aimedMany t_fits t_fitOf t_sights t_systems t_own t_cross t_curveLong t_wallFirst), IA E 7 t_many, ZA E 120 t_isGone, IA E 100 t_row, JA E 6 t_sums] h) 165 [some (.ref a_t), none, none, some (vI v3)] [vI s1, vI s0] := by
  rw [m_X11_count_165] at hs
  refine g_iadd e_X11_count_165 ?_
  refine g_istore_n e_X11_count_166 st1_2 rfl ?_
  refine g_iinc e_X11_count_167 rfl st1_3 rfl ?_
  refine g_goto e_X11_count_170 ?_
  obtain ⟨hc8, hs⟩ := chk_elim hs
  obtain ⟨hc9, hs⟩ := chk_elim hs
  exact hag _ _ hc8 hc9 hs

noncomputable def m_X11_count_144 (t_row : Nat → Int) (k_173 : Int → Int → Option (Int)) : Nat → Int → Int → Option (Int)
  | 0, _, _ => none
  | F + 1, v2, v3 => if 100 ≤ v3 then (some (v2)) else (chk (inB v3 100) (if (t_row (Int.toNat v3)) = 0 then (m_X11_count_165 t_row v3 v2 0 (m_X11_count_144 t_row k_173 F) k_173) else (m_X11_count_165 t_row v3 v2 1 (m_X11_count_144 t_row k_173 F) k_173)))

set_option maxRecDepth 10000 in
set_option maxHeartbeats 8000000 in
theorem g_X11_count_144 {l : Launch} {E : EE} {b0 n : Nat} {h : AH} {a_t : Nat} {t_thrown t_taped t_p t_fault t_baseLow t_baseHigh t_newBaseLow t_newBaseHigh t_from t_knots t_lines t_chosen t_undos t_redos t_aimedMany t_fits t_fitOf t_sights t_systems t_own t_cross t_curveLong t_wallFirst : Int} {t_many t_isGone t_row t_sums : Nat → Int} {r : Int} {k_173 : Int → Int → Option (Int)} (ao : AO b0 n [a_t, (a_t + 2), (a_t + 15), (a_t + 29), (a_t + 31)]) (ok_t_taped : inI t_taped) (ok_t_knots : inI t_knots) (ok_t_lines : inI t_lines) (ok_t_undos : inI t_undos) (ok_t_sights : inI t_sights) (ok_t_systems : inI t_systems) (ok_t_many : okA t_many) (ok_t_isGone : okZ t_isGone) (ok_t_row : okA t_row) (ok_t_sums : okJ t_sums) (hk_173 : ∀ (v2_ : Int) (v3_ : Int), inI v2_ → inI v3_ → k_173 v2_ v3_ = some r → G l E b0 M_X11_count (fun _ => True) (ZM E b0 (some (vJ r)) (ov [a_t, (a_t + 2), (a_t + 15), (a_t + 29), (a_t + 31)] [.inr (11, fsX11 a_t t_thrown t_taped t_p t_fault t_baseLow t_baseHigh t_newBaseLow t_newBaseHigh t_from t_knots t_lines t_chosen t_undos t_redos t_aimedMany t_fits t_fitOf t_sights t_systems t_own t_cross t_curveLong t_wallFirst), IA E 7 t_many, ZA E 120 t_isGone, IA E 100 t_row, JA E 6 t_sums] h) n (inJ r) 0 0) 0 0 n (ov [a_t, (a_t + 2), (a_t + 15), (a_t + 29), (a_t + 31)] [.inr (11, fsX11 a_t t_thrown t_taped t_p t_fault t_baseLow t_baseHigh t_newBaseLow t_newBaseHigh t_from t_knots t_lines t_chosen t_undos t_redos t_aimedMany t_fits t_fitOf t_sights t_systems t_own t_cross t_curveLong t_wallFirst), IA E 7 t_many, ZA E 120 t_isGone, IA E 100 t_row, JA E 6 t_sums] h) 173 [none, none, some (vI v2_), none] []) :
    ∀ (F : Nat) (v2 : Int) (v3 : Int), inI v2 → inI v3 → m_X11_count_144 t_row k_173 F v2 v3 = some r → G l E b0 M_X11_count (fun _ => True) (ZM E b0 (some (vJ r)) (ov [a_t, (a_t + 2), (a_t + 15), (a_t + 29), (a_t + 31)] [.inr (11, fsX11 a_t t_thrown t_taped t_p t_fault t_baseLow t_baseHigh t_newBaseLow t_newBaseHigh t_from t_knots t_lines t_chosen t_undos t_redos t_aimedMany t_fits t_fitOf t_sights t_systems t_own t_cross t_curveLong t_wallFirst), IA E 7 t_many, ZA E 120 t_isGone, IA E 100 t_row, JA E 6 t_sums] h) n (inJ r) 0 0) 0 0 n (ov [a_t, (a_t + 2), (a_t + 15), (a_t + 29), (a_t + 31)] [.inr (11, fsX11 a_t t_thrown t_taped t_p t_fault t_baseLow t_baseHigh t_newBaseLow t_newBaseHigh t_from t_knots t_lines t_chosen t_undos t_redos t_aimedMany t_fits t_fitOf t_sights t_systems t_own t_cross t_curveLong t_wallFirst), IA E 7 t_many, ZA E 120 t_isGone, IA E 100 t_row, JA E 6 t_sums] h) 144 [some (.ref a_t), none, some (vI v2), some (vI v3)] [] := by
  intro F
  induction F with
  | zero =>
    intro v2 v3 ok_v2 ok_v3 hs
    rw [m_X11_count_144] at hs
    cases hs
  | succ F ih =>
    intro v2 v3 ok_v2 ok_v3 hs
    rw [m_X11_count_144] at hs
    refine g_iload_n e_X11_count_144 rfl ?_
    refine g_bipush e_X11_count_145 bp_100 ?_
    refine g_icmp_ge e_X11_count_147 ok_v3 (by decide : inI 100) hs (fun c147 hs => ?_) (fun c147 hs => ?_)
    · refine g_iload_n e_X11_count_173 rfl ?_
      refine g_i2l e_X11_count_174 ok_v2 ?_
      obtain rfl := Option.some.inj hs
      exact g_lret rfl (inI_J ok_v2) e_X11_count_175
    · refine g_iload_n e_X11_count_150 rfl ?_
      refine g_aload_n e_X11_count_151 rfl ?_
      refine g_get 0 40 ao rfl rfl fsX11_g40 fl_X11_97 e_X11_count_152 ?_
      refine g_iload_n e_X11_count_155 rfl ?_
      refine g_iald 3 ao rfl rfl (Nat.le_of_ble_eq_true rfl) e_X11_count_156 hs (fun hi7 hs => ?_)
      refine g_if_ne e_X11_count_157 (ok_t_row _) hs (fun c157 hs => ?_) (fun c157 hs => ?_)
      · refine g_iconst e_X11_count_160 ?_
        refine g_goto e_X11_count_161 ?_
        exact g_mask [true, true, false, true] (g_X11_count_165 ao ok_t_taped ok_t_knots ok_t_lines ok_t_undos ok_t_sights ok_t_systems ok_t_many ok_t_isGone ok_t_row ok_t_sums ok_v3 ok_v2 (by decide : inZ 0) ih hk_173 hs)
      · refine g_iconst e_X11_count_164 ?_
        exact g_mask [true, true, false, true] (g_X11_count_165 ao ok_t_taped ok_t_knots ok_t_lines ok_t_undos ok_t_sights ok_t_systems ok_t_many ok_t_isGone ok_t_row ok_t_sums ok_v3 ok_v2 (by decide : inZ 1) ih hk_173 hs)

noncomputable def m_X11_count_173 (v2 : Int) : Option (Int) :=
  some (v2)

set_option maxRecDepth 10000 in
set_option maxHeartbeats 8000000 in
theorem g_X11_count_173 {l : Launch} {E : EE} {b0 n : Nat} {h : AH} {a_t : Nat} {t_thrown t_taped t_p t_fault t_baseLow t_baseHigh t_newBaseLow t_newBaseHigh t_from t_knots t_lines t_chosen t_undos t_redos t_aimedMany t_fits t_fitOf t_sights t_systems t_own t_cross t_curveLong t_wallFirst v2 : Int} {t_many t_isGone t_row t_sums : Nat → Int} {r : Int} (ao : AO b0 n [a_t, (a_t + 2), (a_t + 15), (a_t + 29), (a_t + 31)]) (ok_t_taped : inI t_taped) (ok_t_knots : inI t_knots) (ok_t_lines : inI t_lines) (ok_t_undos : inI t_undos) (ok_t_sights : inI t_sights) (ok_t_systems : inI t_systems) (ok_t_many : okA t_many) (ok_t_isGone : okZ t_isGone) (ok_t_row : okA t_row) (ok_t_sums : okJ t_sums) (ok_v2 : inI v2) (hs : m_X11_count_173 v2 = some r) : G l E b0 M_X11_count (fun _ => True) (ZM E b0 (some (vJ r)) (ov [a_t, (a_t + 2), (a_t + 15), (a_t + 29), (a_t + 31)] [.inr (11, fsX11 a_t t_thrown t_taped t_p t_fault t_baseLow t_baseHigh t_newBaseLow t_newBaseHigh t_from t_knots t_lines t_chosen t_undos t_redos t_aimedMany t_fits t_fitOf t_sights t_systems t_own t_cross t_curveLong t_wallFirst), IA E 7 t_many, ZA E 120 t_isGone, IA E 100 t_row, JA E 6 t_sums] h) n (inJ r) 0 0) 0 0 n (ov [a_t, (a_t + 2), (a_t + 15), (a_t + 29), (a_t + 31)] [.inr (11, fsX11 a_t t_thrown t_taped t_p t_fault t_baseLow t_baseHigh t_newBaseLow t_newBaseHigh t_from t_knots t_lines t_chosen t_undos t_redos t_aimedMany t_fits t_fitOf t_sights t_systems t_own t_cross t_curveLong t_wallFirst), IA E 7 t_many, ZA E 120 t_isGone, IA E 100 t_row, JA E 6 t_sums] h) 173 [none, none, some (vI v2), none] [] := by
  rw [m_X11_count_173] at hs
  refine g_iload_n e_X11_count_173 rfl ?_
  refine g_i2l e_X11_count_174 ok_v2 ?_
  obtain rfl := Option.some.inj hs
  exact g_lret rfl (inI_J ok_v2) e_X11_count_175

noncomputable def m_X11_count_0 (t_taped : Int) (t_knots : Int) (t_lines : Int) (t_undos : Int) (t_sights : Int) (t_systems : Int) (t_many : Nat → Int) (t_isGone : Nat → Int) (t_row : Nat → Int) (t_sums : Nat → Int) (v1 : Int) : Option (Int) :=
  if v1 = 0 then (chk (inB 0 7) (some (t_many (Int.toNat 0)))) else (if v1 = 1 then (chk (inB 1 7) (some (t_many (Int.toNat 1)))) else (if v1 = 2 then (chk (inB 2 7) (some (t_many (Int.toNat 2)))) else (if v1 = 3 then (some (t_knots)) else (if v1 = 4 then (m_X11_count_108 t_lines t_isGone (fun v2' v3' => m_X11_count_139 v2') FU 0 0) else (if v1 = 5 then (m_X11_count_144 t_row (fun v2' v3' => m_X11_count_173 v2') FU 0 0) else (if v1 = 6 then (chk (inB 0 6) (some (t_sums (Int.toNat 0)))) else (if v1 = 7 then (chk (inB 1 6) (some (t_sums (Int.toNat 1)))) else (if v1 = 8 then (chk (inB 2 6) (some (t_sums (Int.toNat 2)))) else (if v1 = 9 then (chk (inB 3 6) (some (t_sums (Int.toNat 3)))) else (if v1 = 10 then (chk (inB 4 6) (some (t_sums (Int.toNat 4)))) else (if v1 = 11 then (some (t_taped)) else (if v1 = 12 then (some (t_sights)) else (if v1 = 13 then (some (t_systems)) else (if v1 = 14 then (some (t_undos)) else (some ((-1)))))))))))))))))

set_option maxRecDepth 10000 in
set_option maxHeartbeats 8000000 in
theorem g_X11_count_0 {l : Launch} {E : EE} {b0 n : Nat} {h : AH} {a_t : Nat} {t_thrown t_taped t_p t_fault t_baseLow t_baseHigh t_newBaseLow t_newBaseHigh t_from t_knots t_lines t_chosen t_undos t_redos t_aimedMany t_fits t_fitOf t_sights t_systems t_own t_cross t_curveLong t_wallFirst v1 : Int} {t_many t_isGone t_row t_sums : Nat → Int} {r : Int} (ao : AO b0 n [a_t, (a_t + 2), (a_t + 15), (a_t + 29), (a_t + 31)]) (ok_t_taped : inI t_taped) (ok_t_knots : inI t_knots) (ok_t_lines : inI t_lines) (ok_t_undos : inI t_undos) (ok_t_sights : inI t_sights) (ok_t_systems : inI t_systems) (ok_t_many : okA t_many) (ok_t_isGone : okZ t_isGone) (ok_t_row : okA t_row) (ok_t_sums : okJ t_sums) (ok_v1 : inI v1) (hs : m_X11_count_0 t_taped t_knots t_lines t_undos t_sights t_systems t_many t_isGone t_row t_sums v1 = some r) : G l E b0 M_X11_count (fun _ => True) (ZM E b0 (some (vJ r)) (ov [a_t, (a_t + 2), (a_t + 15), (a_t + 29), (a_t + 31)] [.inr (11, fsX11 a_t t_thrown t_taped t_p t_fault t_baseLow t_baseHigh t_newBaseLow t_newBaseHigh t_from t_knots t_lines t_chosen t_undos t_redos t_aimedMany t_fits t_fitOf t_sights t_systems t_own t_cross t_curveLong t_wallFirst), IA E 7 t_many, ZA E 120 t_isGone, IA E 100 t_row, JA E 6 t_sums] h) n (inJ r) 0 0) 0 0 n (ov [a_t, (a_t + 2), (a_t + 15), (a_t + 29), (a_t + 31)] [.inr (11, fsX11 a_t t_thrown t_taped t_p t_fault t_baseLow t_baseHigh t_newBaseLow t_newBaseHigh t_from t_knots t_lines t_chosen t_undos t_redos t_aimedMany t_fits t_fitOf t_sights t_systems t_own t_cross t_curveLong t_wallFirst), IA E 7 t_many, ZA E 120 t_isGone, IA E 100 t_row, JA E 6 t_sums] h) 0 [some (.ref a_t), some (vI v1), none, none] [] := by
  rw [m_X11_count_0] at hs
  refine g_iconst e_X11_count_0 ?_
  refine g_istore_n e_X11_count_1 st1_2 rfl ?_
  refine g_iload_n e_X11_count_2 rfl ?_
  by_cases c3_0 : v1 = 0
  · rw [if_pos c3_0] at hs
    refine g_tableIn (off := 73) (tgt := 76) e_X11_count_3 ok_v1 (by rw [c3_0]; decide) (by rw [c3_0]; decide) (by rw [c3_0]; rfl) rfl ?_
    refine g_aload_n e_X11_count_76 rfl ?_
    refine g_get 0 5 ao rfl rfl fsX11_g5 fl_X11_13 e_X11_count_77 ?_
    refine g_iconst e_X11_count_80 ?_
    refine g_iald 1 ao rfl rfl (Nat.le_of_ble_eq_true rfl) e_X11_count_81 hs (fun hi1 hs => ?_)
    refine g_i2l e_X11_count_82 (ok_t_many _) ?_
    obtain rfl := Option.some.inj hs
    exact g_lret rfl (inI_J (ok_t_many _)) e_X11_count_83
  · rw [if_neg c3_0] at hs
    by_cases c3_1 : v1 = 1
    · rw [if_pos c3_1] at hs
      refine g_tableIn (off := 81) (tgt := 84) e_X11_count_3 ok_v1 (by rw [c3_1]; decide) (by rw [c3_1]; decide) (by rw [c3_1]; rfl) rfl ?_
      refine g_aload_n e_X11_count_84 rfl ?_
      refine g_get 0 5 ao rfl rfl fsX11_g5 fl_X11_13 e_X11_count_85 ?_
      refine g_iconst e_X11_count_88 ?_
      refine g_iald 1 ao rfl rfl (Nat.le_of_ble_eq_true rfl) e_X11_count_89 hs (fun hi2 hs => ?_)
      refine g_i2l e_X11_count_90 (ok_t_many _) ?_
      obtain rfl := Option.some.inj hs
      exact g_lret rfl (inI_J (ok_t_many _)) e_X11_count_91
    · rw [if_neg c3_1] at hs
      by_cases c3_2 : v1 = 2
      · rw [if_pos c3_2] at hs
        refine g_tableIn (off := 89) (tgt := 92) e_X11_count_3 ok_v1 (by rw [c3_2]; decide) (by rw [c3_2]; decide) (by rw [c3_2]; rfl) rfl ?_
        refine g_aload_n e_X11_count_92 rfl ?_
        refine g_get 0 5 ao rfl rfl fsX11_g5 fl_X11_13 e_X11_count_93 ?_
        refine g_iconst e_X11_count_96 ?_
        refine g_iald 1 ao rfl rfl (Nat.le_of_ble_eq_true rfl) e_X11_count_97 hs (fun hi3 hs => ?_)
        refine g_i2l e_X11_count_98 (ok_t_many _) ?_
        obtain rfl := Option.some.inj hs
        exact g_lret rfl (inI_J (ok_t_many _)) e_X11_count_99
      · rw [if_neg c3_2] at hs
        by_cases c3_3 : v1 = 3
        · rw [if_pos c3_3] at hs
          refine g_tableIn (off := 97) (tgt := 100) e_X11_count_3 ok_v1 (by rw [c3_3]; decide) (by rw [c3_3]; decide) (by rw [c3_3]; rfl) rfl ?_
          refine g_aload_n e_X11_count_100 rfl ?_
          refine g_get 0 22 ao rfl rfl fsX11_g22 fl_X11_268 e_X11_count_101 ?_
          refine g_i2l e_X11_count_104 ok_t_knots ?_
          obtain rfl := Option.some.inj hs
          exact g_lret rfl (inI_J ok_t_knots) e_X11_count_105
        · rw [if_neg c3_3] at hs
          by_cases c3_4 : v1 = 4
          · rw [if_pos c3_4] at hs
            refine g_tableIn (off := 103) (tgt := 106) e_X11_count_3 ok_v1 (by rw [c3_4]; decide) (by rw [c3_4]; decide) (by rw [c3_4]; rfl) rfl ?_
            refine g_iconst e_X11_count_106 ?_
            refine g_istore_n e_X11_count_107 st1_3 rfl ?_
            exact g_mask [true, false, true, true] (g_X11_count_108 ao ok_t_taped ok_t_knots ok_t_lines ok_t_undos ok_t_sights ok_t_systems ok_t_many ok_t_isGone ok_t_row ok_t_sums (hk_139 := by
      intro v2' v3' ok_v2' ok_v3' hs
      exact g_X11_count_139 ao ok_t_taped ok_t_knots ok_t_lines ok_t_undos ok_t_sights ok_t_systems ok_t_many ok_t_isGone ok_t_row ok_t_sums ok_v2' hs) FU _ _ (by decide : inI 0) (by decide : inI 0) hs)
          · rw [if_neg c3_4] at hs
            by_cases c3_5 : v1 = 5
            · rw [if_pos c3_5] at hs
              refine g_tableIn (off := 139) (tgt := 142) e_X11_count_3 ok_v1 (by rw [c3_5]; decide) (by rw [c3_5]; decide) (by rw [c3_5]; rfl) rfl ?_
              refine g_iconst e_X11_count_142 ?_
              refine g_istore_n e_X11_count_143 st1_3 rfl ?_
              exact g_mask [true, false, true, true] (g_X11_count_144 ao ok_t_taped ok_t_knots ok_t_lines ok_t_undos ok_t_sights ok_t_systems ok_t_many ok_t_isGone ok_t_row ok_t_sums (hk_173 := by
      intro v2' v3' ok_v2' ok_v3' hs
      exact g_X11_count_173 ao ok_t_taped ok_t_knots ok_t_lines ok_t_undos ok_t_sights ok_t_systems ok_t_many ok_t_isGone ok_t_row ok_t_sums ok_v2' hs) FU _ _ (by decide : inI 0) (by decide : inI 0) hs)
            · rw [if_neg c3_5] at hs
              by_cases c3_6 : v1 = 6
              · rw [if_pos c3_6] at hs
                refine g_tableIn (off := 173) (tgt := 176) e_X11_count_3 ok_v1 (by rw [c3_6]; decide) (by rw [c3_6]; decide) (by rw [c3_6]; rfl) rfl ?_
                refine g_aload_n e_X11_count_176 rfl ?_
                refine g_get 0 42 ao rfl rfl fsX11_g42 fl_X11_103 e_X11_count_177 ?_
                refine g_iconst e_X11_count_180 ?_
                refine g_lald 4 ao rfl rfl (Nat.le_of_ble_eq_true rfl) e_X11_count_181 hs (fun hi10 hs => ?_)
                obtain rfl := Option.some.inj hs
                exact g_lret rfl (ok_t_sums _) e_X11_count_182
              · rw [if_neg c3_6] at hs
                by_cases c3_7 : v1 = 7
                · rw [if_pos c3_7] at hs
                  refine g_tableIn (off := 180) (tgt := 183) e_X11_count_3 ok_v1 (by rw [c3_7]; decide) (by rw [c3_7]; decide) (by rw [c3_7]; rfl) rfl ?_
                  refine g_aload_n e_X11_count_183 rfl ?_
                  refine g_get 0 42 ao rfl rfl fsX11_g42 fl_X11_103 e_X11_count_184 ?_
                  refine g_iconst e_X11_count_187 ?_
                  refine g_lald 4 ao rfl rfl (Nat.le_of_ble_eq_true rfl) e_X11_count_188 hs (fun hi11 hs => ?_)
                  obtain rfl := Option.some.inj hs
                  exact g_lret rfl (ok_t_sums _) e_X11_count_189
                · rw [if_neg c3_7] at hs
                  by_cases c3_8 : v1 = 8
                  · rw [if_pos c3_8] at hs
                    refine g_tableIn (off := 187) (tgt := 190) e_X11_count_3 ok_v1 (by rw [c3_8]; decide) (by rw [c3_8]; decide) (by rw [c3_8]; rfl) rfl ?_
                    refine g_aload_n e_X11_count_190 rfl ?_
                    refine g_get 0 42 ao rfl rfl fsX11_g42 fl_X11_103 e_X11_count_191 ?_
                    refine g_iconst e_X11_count_194 ?_
                    refine g_lald 4 ao rfl rfl (Nat.le_of_ble_eq_true rfl) e_X11_count_195 hs (fun hi12 hs => ?_)
                    obtain rfl := Option.some.inj hs
                    exact g_lret rfl (ok_t_sums _) e_X11_count_196
                  · rw [if_neg c3_8] at hs
                    by_cases c3_9 : v1 = 9
                    · rw [if_pos c3_9] at hs
                      refine g_tableIn (off := 194) (tgt := 197) e_X11_count_3 ok_v1 (by rw [c3_9]; decide) (by rw [c3_9]; decide) (by rw [c3_9]; rfl) rfl ?_
                      refine g_aload_n e_X11_count_197 rfl ?_
                      refine g_get 0 42 ao rfl rfl fsX11_g42 fl_X11_103 e_X11_count_198 ?_
                      refine g_iconst e_X11_count_201 ?_
                      refine g_lald 4 ao rfl rfl (Nat.le_of_ble_eq_true rfl) e_X11_count_202 hs (fun hi13 hs => ?_)
                      obtain rfl := Option.some.inj hs
                      exact g_lret rfl (ok_t_sums _) e_X11_count_203
                    · rw [if_neg c3_9] at hs
                      by_cases c3_10 : v1 = 10
                      · rw [if_pos c3_10] at hs
                        refine g_tableIn (off := 201) (tgt := 204) e_X11_count_3 ok_v1 (by rw [c3_10]; decide) (by rw [c3_10]; decide) (by rw [c3_10]; rfl) rfl ?_
                        refine g_aload_n e_X11_count_204 rfl ?_
                        refine g_get 0 42 ao rfl rfl fsX11_g42 fl_X11_103 e_X11_count_205 ?_
                        refine g_iconst e_X11_count_208 ?_
                        refine g_lald 4 ao rfl rfl (Nat.le_of_ble_eq_true rfl) e_X11_count_209 hs (fun hi14 hs => ?_)
                        obtain rfl := Option.some.inj hs
                        exact g_lret rfl (ok_t_sums _) e_X11_count_210
                      · rw [if_neg c3_10] at hs
                        by_cases c3_11 : v1 = 11
                        · rw [if_pos c3_11] at hs
                          refine g_tableIn (off := 208) (tgt := 211) e_X11_count_3 ok_v1 (by rw [c3_11]; decide) (by rw [c3_11]; decide) (by rw [c3_11]; rfl) rfl ?_
                          refine g_aload_n e_X11_count_211 rfl ?_
                          refine g_get 0 1 ao rfl rfl fsX11_g1 fl_X11_161 e_X11_count_212 ?_
                          refine g_i2l e_X11_count_215 ok_t_taped ?_
                          obtain rfl := Option.some.inj hs
                          exact g_lret rfl (inI_J ok_t_taped) e_X11_count_216
                        · rw [if_neg c3_11] at hs
                          by_cases c3_12 : v1 = 12
                          · rw [if_pos c3_12] at hs
                            refine g_tableIn (off := 214) (tgt := 217) e_X11_count_3 ok_v1 (by rw [c3_12]; decide) (by rw [c3_12]; decide) (by rw [c3_12]; rfl) rfl ?_
                            refine g_aload_n e_X11_count_217 rfl ?_
                            refine g_get 0 58 ao rfl rfl fsX11_g58 fl_X11_258 e_X11_count_218 ?_
                            refine g_i2l e_X11_count_221 ok_t_sights ?_
                            obtain rfl := Option.some.inj hs
                            exact g_lret rfl (inI_J ok_t_sights) e_X11_count_222
                          · rw [if_neg c3_12] at hs
                            by_cases c3_13 : v1 = 13
                            · rw [if_pos c3_13] at hs
                              refine g_tableIn (off := 220) (tgt := 223) e_X11_count_3 ok_v1 (by rw [c3_13]; decide) (by rw [c3_13]; decide) (by rw [c3_13]; rfl) rfl ?_
                              refine g_aload_n e_X11_count_223 rfl ?_
                              refine g_get 0 61 ao rfl rfl fsX11_g61 fl_X11_398 e_X11_count_224 ?_
                              refine g_i2l e_X11_count_227 ok_t_systems ?_
                              obtain rfl := Option.some.inj hs
                              exact g_lret rfl (inI_J ok_t_systems) e_X11_count_228
                            · rw [if_neg c3_13] at hs
                              by_cases c3_14 : v1 = 14
                              · rw [if_pos c3_14] at hs
                                refine g_tableIn (off := 226) (tgt := 229) e_X11_count_3 ok_v1 (by rw [c3_14]; decide) (by rw [c3_14]; decide) (by rw [c3_14]; rfl) rfl ?_
                                refine g_aload_n e_X11_count_229 rfl ?_
                                refine g_get 0 47 ao rfl rfl fsX11_g47 fl_X11_350 e_X11_count_230 ?_
                                refine g_i2l e_X11_count_233 ok_t_undos ?_
                                obtain rfl := Option.some.inj hs
                                exact g_lret rfl (inI_J ok_t_undos) e_X11_count_234
                              · rw [if_neg c3_14] at hs
                                refine g_tableOut (tgt := 235) e_X11_count_3 ok_v1 (by omega) rfl ?_
                                refine g_ldc2 (a := -1) e_X11_count_235 k_X11_317 ?_
                                obtain rfl := Option.some.inj hs
                                exact g_lret rfl (by decide : inJ (-1)) e_X11_count_238

noncomputable def m_X11_count (t_taped : Int) (t_knots : Int) (t_lines : Int) (t_undos : Int) (t_sights : Int) (t_systems : Int) (t_many : Nat → Int) (t_isGone : Nat → Int) (t_row : Nat → Int) (t_sums : Nat → Int) (v1 : Int) : Option (Int) := m_X11_count_0 t_taped t_knots t_lines t_undos t_sights t_systems t_many t_isGone t_row t_sums v1

set_option maxRecDepth 10000 in
set_option maxHeartbeats 8000000 in
theorem ct_X11_count {l : Launch} {E : EE} {b0 n : Nat} {h : AH} {a_t : Nat} {t_thrown t_taped t_p t_fault t_baseLow t_baseHigh t_newBaseLow t_newBaseHigh t_from t_knots t_lines t_chosen t_undos t_redos t_aimedMany t_fits t_fitOf t_sights t_systems t_own t_cross t_curveLong t_wallFirst : Int} {t_many t_isGone t_row t_sums : Nat → Int} {v1 : Int} (ao : AO b0 n [a_t, (a_t + 2), (a_t + 15), (a_t + 29), (a_t + 31)]) (hf : FA h [a_t, (a_t + 2), (a_t + 15), (a_t + 29), (a_t + 31)] [.inr (11, fsX11 a_t t_thrown t_taped t_p t_fault t_baseLow t_baseHigh t_newBaseLow t_newBaseHigh t_from t_knots t_lines t_chosen t_undos t_redos t_aimedMany t_fits t_fitOf t_sights t_systems t_own t_cross t_curveLong t_wallFirst), IA E 7 t_many, ZA E 120 t_isGone, IA E 100 t_row, JA E 6 t_sums]) (ok_t_taped : inI t_taped) (ok_t_knots : inI t_knots) (ok_t_lines : inI t_lines) (ok_t_undos : inI t_undos) (ok_t_sights : inI t_sights) (ok_t_systems : inI t_systems) (ok_t_many : okA t_many) (ok_t_isGone : okZ t_isGone) (ok_t_row : okA t_row) (ok_t_sums : okJ t_sums) (ok_v1 : inI v1) {r : Int} (hm : m_X11_count t_taped t_knots t_lines t_undos t_sights t_systems t_many t_isGone t_row t_sums v1 = some r) : Ct l E b0 M_X11_count 0 0 [.ref a_t, vI v1] h n (some (vJ r)) h n (inJ r) := by
  rw [m_X11_count] at hm
  have hg : G l E b0 M_X11_count (fun _ => True) (ZM E b0 (some (vJ r)) (ov [a_t, (a_t + 2), (a_t + 15), (a_t + 29), (a_t + 31)] [.inr (11, fsX11 a_t t_thrown t_taped t_p t_fault t_baseLow t_baseHigh t_newBaseLow t_newBaseHigh t_from t_knots t_lines t_chosen t_undos t_redos t_aimedMany t_fits t_fitOf t_sights t_systems t_own t_cross t_curveLong t_wallFirst), IA E 7 t_many, ZA E 120 t_isGone, IA E 100 t_row, JA E 6 t_sums] h) n (inJ r) 0 0) 0 0 n (ov [a_t, (a_t + 2), (a_t + 15), (a_t + 29), (a_t + 31)] [.inr (11, fsX11 a_t t_thrown t_taped t_p t_fault t_baseLow t_baseHigh t_newBaseLow t_newBaseHigh t_from t_knots t_lines t_chosen t_undos t_redos t_aimedMany t_fits t_fitOf t_sights t_systems t_own t_cross t_curveLong t_wallFirst), IA E 7 t_many, ZA E 120 t_isGone, IA E 100 t_row, JA E 6 t_sums] h) 0 [some (.ref a_t), some (vI v1), none, none] [] := by
    have hs := hm
    exact g_X11_count_0 ao ok_t_taped ok_t_knots ok_t_lines ok_t_undos ok_t_sights ok_t_systems ok_t_many ok_t_isGone ok_t_row ok_t_sums ok_v1 hs
  rw [FA_id hf] at hg
  exact Ct_of [some (.ref a_t), some (vI v1), none, none] ⟨by decide +kernel, rfl⟩ rfl (Nat.le_of_ble_eq_true rfl) hg

/-! ===== X11_feed ===== -/
theorem e_X11_feed_0 : DC cX11_feed 0 (.aload_n 0) 1 1 := ⟨by decide +kernel, rfl⟩
theorem e_X11_feed_1 : DC cX11_feed 1 (.getfield 161) 3 4 := ⟨by decide +kernel, rfl⟩
theorem e_X11_feed_4 : DC cX11_feed 4 (.bipush 20) 2 6 := ⟨by decide +kernel, rfl⟩
theorem e_X11_feed_6 : DC cX11_feed 6 (.iadd) 1 7 := ⟨by decide +kernel, rfl⟩
theorem e_X11_feed_7 : DC cX11_feed 7 (.sipush 400) 3 10 := ⟨by decide +kernel, rfl⟩
theorem e_X11_feed_10 : DB cX11_feed 10 (.if_icmp .le 5) (5) 3 13 15 := ⟨by decide +kernel, rfl, rfl⟩
theorem e_X11_feed_13 : DC cX11_feed 13 (.iconst (-1)) 1 14 := ⟨by decide +kernel, rfl⟩
theorem e_X11_feed_14 : DC cX11_feed 14 (.ireturn) 1 15 := ⟨by decide +kernel, rfl⟩
theorem e_X11_feed_15 : DC cX11_feed 15 (.aload_n 0) 1 16 := ⟨by decide +kernel, rfl⟩
theorem e_X11_feed_16 : DC cX11_feed 16 (.iload_n 1) 1 17 := ⟨by decide +kernel, rfl⟩
theorem e_X11_feed_17 : DC cX11_feed 17 (.invokevirtual 164) 3 20 := ⟨by decide +kernel, rfl⟩
theorem e_X11_feed_20 : DC cX11_feed 20 (.aload_n 0) 1 21 := ⟨by decide +kernel, rfl⟩
theorem e_X11_feed_21 : DC cX11_feed 21 (.iload_n 2) 1 22 := ⟨by decide +kernel, rfl⟩
theorem e_X11_feed_22 : DC cX11_feed 22 (.invokevirtual 164) 3 25 := ⟨by decide +kernel, rfl⟩
theorem e_X11_feed_25 : DC cX11_feed 25 (.aload_n 0) 1 26 := ⟨by decide +kernel, rfl⟩
theorem e_X11_feed_26 : DC cX11_feed 26 (.iload_n 3) 1 27 := ⟨by decide +kernel, rfl⟩
theorem e_X11_feed_27 : DC cX11_feed 27 (.invokevirtual 164) 3 30 := ⟨by decide +kernel, rfl⟩
theorem e_X11_feed_30 : DC cX11_feed 30 (.aload_n 0) 1 31 := ⟨by decide +kernel, rfl⟩
theorem e_X11_feed_31 : DC cX11_feed 31 (.iload 4) 2 33 := ⟨by decide +kernel, rfl⟩
theorem e_X11_feed_33 : DC cX11_feed 33 (.invokevirtual 164) 3 36 := ⟨by decide +kernel, rfl⟩
theorem e_X11_feed_36 : DC cX11_feed 36 (.aload_n 0) 1 37 := ⟨by decide +kernel, rfl⟩
theorem e_X11_feed_37 : DC cX11_feed 37 (.iload 5) 2 39 := ⟨by decide +kernel, rfl⟩
theorem e_X11_feed_39 : DC cX11_feed 39 (.invokevirtual 164) 3 42 := ⟨by decide +kernel, rfl⟩
theorem e_X11_feed_42 : DC cX11_feed 42 (.aload_n 0) 1 43 := ⟨by decide +kernel, rfl⟩
theorem e_X11_feed_43 : DC cX11_feed 43 (.getfield 161) 3 46 := ⟨by decide +kernel, rfl⟩
theorem e_X11_feed_46 : DC cX11_feed 46 (.ireturn) 1 47 := ⟨by decide +kernel, rfl⟩
noncomputable def m_X11_feed_0 (t_taped : Int) (t_tape : Nat → Int) (v1 : Int) (v2 : Int) (v3 : Int) (v4 : Int) (v5 : Int) : Option (Int × Int × (Nat → Int)) :=
  chk (inI (t_taped + 20)) (if (t_taped + 20) ≤ 400 then ((m_X11_put t_taped t_tape v1).bind (fun y2 => (m_X11_put y2.1 y2.2 v2).bind (fun y3 => (m_X11_put y3.1 y3.2 v3).bind (fun y4 => (m_X11_put y4.1 y4.2 v4).bind (fun y5 => (m_X11_put y5.1 y5.2 v5).bind (fun y6 => some (y6.1, y6.1, y6.2))))))) else (some ((-1), t_taped, t_tape)))

set_option maxRecDepth 10000 in
set_option maxHeartbeats 8000000 in
theorem g_X11_feed_0 {l : Launch} {E : EE} {b0 n : Nat} {h : AH} {a_t : Nat} {t_thrown t_taped t_p t_fault t_baseLow t_baseHigh t_newBaseLow t_newBaseHigh t_from t_knots t_lines t_chosen t_undos t_redos t_aimedMany t_fits t_fitOf t_sights t_systems t_own t_cross t_curveLong t_wallFirst v1 v2 v3 v4 v5 : Int} {t_tape : Nat → Int} {r : Int × Int × (Nat → Int)} (ao : AO b0 n [a_t, (a_t + 1)]) (ok_t_taped : inI t_taped) (ok_t_tape : okY t_tape) (ok_v1 : inI v1) (ok_v2 : inI v2) (ok_v3 : inI v3) (ok_v4 : inI v4) (ok_v5 : inI v5) (hs : m_X11_feed_0 t_taped t_tape v1 v2 v3 v4 v5 = some r) : G l E b0 M_X11_feed (fun _ => True) (ZM E b0 (some (vI r.1)) (ov [a_t, (a_t + 1)] [.inr (11, fsX11 a_t t_thrown r.2.1 t_p t_fault t_baseLow t_baseHigh t_newBaseLow t_newBaseHigh t_from t_knots t_lines t_chosen t_undos t_redos t_aimedMany t_fits t_fitOf t_sights t_systems t_own t_cross t_curveLong t_wallFirst), YA E 400 r.2.2] h) n (inI r.1 ∧ inI r.2.1 ∧ okY r.2.2) 0 0) 0 0 n (ov [a_t, (a_t + 1)] [.inr (11, fsX11 a_t t_thrown t_taped t_p t_fault t_baseLow t_baseHigh t_newBaseLow t_newBaseHigh t_from t_knots t_lines t_chosen t_undos t_redos t_aimedMany t_fits t_fitOf t_sights t_systems t_own t_cross t_curveLong t_wallFirst), YA E 400 t_tape] h) 0 [some (.ref a_t), some (vI v1), some (vI v2), some (vI v3), some (vI v4), some (vI v5)] [] := by
  rw [m_X11_feed_0] at hs
  refine g_aload_n e_X11_feed_0 rfl ?_
  refine g_get 0 1 ao rfl rfl fsX11_g1 fl_X11_161 e_X11_feed_1 ?_
  refine g_bipush e_X11_feed_4 bp_20 ?_
  refine g_iadd e_X11_feed_6 ?_
  refine g_sipush e_X11_feed_7 sp_400 ?_
  obtain ⟨hc1, hs⟩ := chk_elim hs
  refine g_icmp_le e_X11_feed_10 hc1 (by decide : inI 400) hs (fun c10 hs => ?_) (fun c10 hs => ?_)
  · refine g_aload_n e_X11_feed_15 rfl ?_
    refine g_iload_n e_X11_feed_16 rfl ?_
    obtain ⟨y2, hy2, hs⟩ := bind_elim hs
    refine g_callVv [vI v1] cv_X11_164 ⟨rfl, rfl, Nat.le_of_ble_eq_true rfl, Nat.le_of_ble_eq_true rfl⟩ (Ct_heap (ct_X11_put (a_t := a_t) (AO_call [0, 1] ao (by decide) rfl) (FA_call [0, 1] ao.1 rfl rfl) ok_t_taped ok_t_tape ok_v1 hy2) (ov_call (esn := [.inr (11, fsX11 a_t t_thrown y2.1 t_p t_fault t_baseLow t_baseHigh t_newBaseLow t_newBaseHigh t_from t_knots t_lines t_chosen t_undos t_redos t_aimedMany t_fits t_fitOf t_sights t_systems t_own t_cross t_curveLong t_wallFirst), YA E 400 y2.2]) [0, 1] ao.1 rfl rfl rfl rfl)) e_X11_feed_17 (ao.2 0 _ rfl) (ov_get 0 ao.1 rfl rfl) rfl rfl rfl (Nat.le_of_ble_eq_true rfl) ⟨Nat.le_refl _, Nat.le_refl _⟩ (fun Py2 => ?_)
    refine g_aload_n e_X11_feed_20 rfl ?_
    refine g_iload_n e_X11_feed_21 rfl ?_
    obtain ⟨y3, hy3, hs⟩ := bind_elim hs
    refine g_callVv [vI v2] cv_X11_164 ⟨rfl, rfl, Nat.le_of_ble_eq_true rfl, Nat.le_of_ble_eq_true rfl⟩ (Ct_heap (ct_X11_put (a_t := a_t) (AO_call [0, 1] ao (by decide) rfl) (FA_call [0, 1] ao.1 rfl rfl) Py2.1 Py2.2 ok_v2 hy3) (ov_call (esn := [.inr (11, fsX11 a_t t_thrown y3.1 t_p t_fault t_baseLow t_baseHigh t_newBaseLow t_newBaseHigh t_from t_knots t_lines t_chosen t_undos t_redos t_aimedMany t_fits t_fitOf t_sights t_systems t_own t_cross t_curveLong t_wallFirst), YA E 400 y3.2]) [0, 1] ao.1 rfl rfl rfl rfl)) e_X11_feed_22 (ao.2 0 _ rfl) (ov_get 0 ao.1 rfl rfl) rfl rfl rfl (Nat.le_of_ble_eq_true rfl) ⟨Nat.le_refl _, Nat.le_refl _⟩ (fun Py3 => ?_)
    refine g_aload_n e_X11_feed_25 rfl ?_
    refine g_iload_n e_X11_feed_26 rfl ?_
    obtain ⟨y4, hy4, hs⟩ := bind_elim hs
    refine g_callVv [vI v3] cv_X11_164 ⟨rfl, rfl, Nat.le_of_ble_eq_true rfl, Nat.le_of_ble_eq_true rfl⟩ (Ct_heap (ct_X11_put (a_t := a_t) (AO_call [0, 1] ao (by decide) rfl) (FA_call [0, 1] ao.1 rfl rfl) Py3.1 Py3.2 ok_v3 hy4) (ov_call (esn := [.inr (11, fsX11 a_t t_thrown y4.1 t_p t_fault t_baseLow t_baseHigh t_newBaseLow t_newBaseHigh t_from t_knots t_lines t_chosen t_undos t_redos t_aimedMany t_fits t_fitOf t_sights t_systems t_own t_cross t_curveLong t_wallFirst), YA E 400 y4.2]) [0, 1] ao.1 rfl rfl rfl rfl)) e_X11_feed_27 (ao.2 0 _ rfl) (ov_get 0 ao.1 rfl rfl) rfl rfl rfl (Nat.le_of_ble_eq_true rfl) ⟨Nat.le_refl _, Nat.le_refl _⟩ (fun Py4 => ?_)
    refine g_aload_n e_X11_feed_30 rfl ?_
    refine g_iload e_X11_feed_31 rfl ?_
    obtain ⟨y5, hy5, hs⟩ := bind_elim hs
    refine g_callVv [vI v4] cv_X11_164 ⟨rfl, rfl, Nat.le_of_ble_eq_true rfl, Nat.le_of_ble_eq_true rfl⟩ (Ct_heap (ct_X11_put (a_t := a_t) (AO_call [0, 1] ao (by decide) rfl) (FA_call [0, 1] ao.1 rfl rfl) Py4.1 Py4.2 ok_v4 hy5) (ov_call (esn := [.inr (11, fsX11 a_t t_thrown y5.1 t_p t_fault t_baseLow t_baseHigh t_newBaseLow t_newBaseHigh t_from t_knots t_lines t_chosen t_undos t_redos t_aimedMany t_fits t_fitOf t_sights t_systems t_own t_cross t_curveLong t_wallFirst), YA E 400 y5.2]) [0, 1] ao.1 rfl rfl rfl rfl)) e_X11_feed_33 (ao.2 0 _ rfl) (ov_get 0 ao.1 rfl rfl) rfl rfl rfl (Nat.le_of_ble_eq_true rfl) ⟨Nat.le_refl _, Nat.le_refl _⟩ (fun Py5 => ?_)
    refine g_aload_n e_X11_feed_36 rfl ?_
    refine g_iload e_X11_feed_37 rfl ?_
    obtain ⟨y6, hy6, hs⟩ := bind_elim hs
    refine g_callVv [vI v5] cv_X11_164 ⟨rfl, rfl, Nat.le_of_ble_eq_true rfl, Nat.le_of_ble_eq_true rfl⟩ (Ct_heap (ct_X11_put (a_t := a_t) (AO_call [0, 1] ao (by decide) rfl) (FA_call [0, 1] ao.1 rfl rfl) Py5.1 Py5.2 ok_v5 hy6) (ov_call (esn := [.inr (11, fsX11 a_t t_thrown y6.1 t_p t_fault t_baseLow t_baseHigh t_newBaseLow t_newBaseHigh t_from t_knots t_lines t_chosen t_undos t_redos t_aimedMany t_fits t_fitOf t_sights t_systems t_own t_cross t_curveLong t_wallFirst), YA E 400 y6.2]) [0, 1] ao.1 rfl rfl rfl rfl)) e_X11_feed_39 (ao.2 0 _ rfl) (ov_get 0 ao.1 rfl rfl) rfl rfl rfl (Nat.le_of_ble_eq_true rfl) ⟨Nat.le_refl _, Nat.le_refl _⟩ (fun Py6 => ?_)
    refine g_aload_n e_X11_feed_42 rfl ?_
    refine g_get 0 1 ao rfl rfl fsX11_g1 fl_X11_161 e_X11_feed_43 ?_
    obtain rfl := Option.some.inj hs
    exact g_iret rfl ⟨Py6.1, Py6.1, Py6.2⟩ e_X11_feed_46
  · refine g_iconst e_X11_feed_13 ?_
    obtain rfl := Option.some.inj hs
    exact g_iret rfl ⟨(by decide : inI (-1)), ok_t_taped, ok_t_tape⟩ e_X11_feed_14

noncomputable def m_X11_feed (t_taped : Int) (t_tape : Nat → Int) (v1 : Int) (v2 : Int) (v3 : Int) (v4 : Int) (v5 : Int) : Option (Int × Int × (Nat → Int)) := m_X11_feed_0 t_taped t_tape v1 v2 v3 v4 v5

set_option maxRecDepth 10000 in
set_option maxHeartbeats 8000000 in
theorem ct_X11_feed {l : Launch} {E : EE} {b0 n : Nat} {h : AH} {a_t : Nat} {t_thrown t_taped t_p t_fault t_baseLow t_baseHigh t_newBaseLow t_newBaseHigh t_from t_knots t_lines t_chosen t_undos t_redos t_aimedMany t_fits t_fitOf t_sights t_systems t_own t_cross t_curveLong t_wallFirst : Int} {t_tape : Nat → Int} {v1 v2 v3 v4 v5 : Int} (ao : AO b0 n [a_t, (a_t + 1)]) (hf : FA h [a_t, (a_t + 1)] [.inr (11, fsX11 a_t t_thrown t_taped t_p t_fault t_baseLow t_baseHigh t_newBaseLow t_newBaseHigh t_from t_knots t_lines t_chosen t_undos t_redos t_aimedMany t_fits t_fitOf t_sights t_systems t_own t_cross t_curveLong t_wallFirst), YA E 400 t_tape]) (ok_t_taped : inI t_taped) (ok_t_tape : okY t_tape) (ok_v1 : inI v1) (ok_v2 : inI v2) (ok_v3 : inI v3) (ok_v4 : inI v4) (ok_v5 : inI v5) {r : Int × Int × (Nat → Int)} (hm : m_X11_feed t_taped t_tape v1 v2 v3 v4 v5 = some r) : Ct l E b0 M_X11_feed 0 0 [.ref a_t, vI v1, vI v2, vI v3, vI v4, vI v5] h n (some (vI r.1)) (ov [a_t, (a_t + 1)] [.inr (11, fsX11 a_t t_thrown r.2.1 t_p t_fault t_baseLow t_baseHigh t_newBaseLow t_newBaseHigh t_from t_knots t_lines t_chosen t_undos t_redos t_aimedMany t_fits t_fitOf t_sights t_systems t_own t_cross t_curveLong t_wallFirst), YA E 400 r.2.2] h) n (inI r.1 ∧ inI r.2.1 ∧ okY r.2.2) := by
  rw [m_X11_feed] at hm
  have hg : G l E b0 M_X11_feed (fun _ => True) (ZM E b0 (some (vI r.1)) (ov [a_t, (a_t + 1)] [.inr (11, fsX11 a_t t_thrown r.2.1 t_p t_fault t_baseLow t_baseHigh t_newBaseLow t_newBaseHigh t_from t_knots t_lines t_chosen t_undos t_redos t_aimedMany t_fits t_fitOf t_sights t_systems t_own t_cross t_curveLong t_wallFirst), YA E 400 r.2.2] h) n (inI r.1 ∧ inI r.2.1 ∧ okY r.2.2) 0 0) 0 0 n (ov [a_t, (a_t + 1)] [.inr (11, fsX11 a_t t_thrown t_taped t_p t_fault t_baseLow t_baseHigh t_newBaseLow t_newBaseHigh t_from t_knots t_lines t_chosen t_undos t_redos t_aimedMany t_fits t_fitOf t_sights t_systems t_own t_cross t_curveLong t_wallFirst), YA E 400 t_tape] h) 0 [some (.ref a_t), some (vI v1), some (vI v2), some (vI v3), some (vI v4), some (vI v5)] [] := by
    have hs := hm
    exact g_X11_feed_0 ao ok_t_taped ok_t_tape ok_v1 ok_v2 ok_v3 ok_v4 ok_v5 hs
  rw [FA_id hf] at hg
  exact Ct_of [some (.ref a_t), some (vI v1), some (vI v2), some (vI v3), some (vI v4), some (vI v5)] ⟨by decide +kernel, rfl⟩ rfl (Nat.le_of_ble_eq_true rfl) hg

/-! ===== X11_line ===== -/
theorem e_X11_line_0 : DC cX11_line 0 (.aload_n 0) 1 1 := ⟨by decide +kernel, rfl⟩
theorem e_X11_line_1 : DC cX11_line 1 (.iload_n 1) 1 2 := ⟨by decide +kernel, rfl⟩
theorem e_X11_line_2 : DC cX11_line 2 (.invokevirtual 274) 3 5 := ⟨by decide +kernel, rfl⟩
theorem e_X11_line_5 : DB cX11_line 5 (.ifCond .eq 69) (69) 3 8 74 := ⟨by decide +kernel, rfl, rfl⟩
theorem e_X11_line_8 : DC cX11_line 8 (.aload_n 0) 1 9 := ⟨by decide +kernel, rfl⟩
theorem e_X11_line_9 : DC cX11_line 9 (.iload_n 2) 1 10 := ⟨by decide +kernel, rfl⟩
theorem e_X11_line_10 : DC cX11_line 10 (.invokevirtual 274) 3 13 := ⟨by decide +kernel, rfl⟩
theorem e_X11_line_13 : DB cX11_line 13 (.ifCond .eq 61) (61) 3 16 74 := ⟨by decide +kernel, rfl, rfl⟩
theorem e_X11_line_16 : DC cX11_line 16 (.iload_n 1) 1 17 := ⟨by decide +kernel, rfl⟩
theorem e_X11_line_17 : DC cX11_line 17 (.iload_n 2) 1 18 := ⟨by decide +kernel, rfl⟩
theorem e_X11_line_18 : DB cX11_line 18 (.if_icmp .eq 56) (56) 3 21 74 := ⟨by decide +kernel, rfl, rfl⟩
theorem e_X11_line_21 : DC cX11_line 21 (.iload_n 3) 1 22 := ⟨by decide +kernel, rfl⟩
theorem e_X11_line_22 : DC cX11_line 22 (.bipush (-99)) 2 24 := ⟨by decide +kernel, rfl⟩
theorem e_X11_line_24 : DC cX11_line 24 (.bipush 99) 2 26 := ⟨by decide +kernel, rfl⟩
theorem e_X11_line_26 : DC cX11_line 26 (.invokestatic 226) 3 29 := ⟨by decide +kernel, rfl⟩
theorem e_X11_line_29 : DB cX11_line 29 (.ifCond .eq 45) (45) 3 32 74 := ⟨by decide +kernel, rfl, rfl⟩
theorem e_X11_line_32 : DC cX11_line 32 (.iload 4) 2 34 := ⟨by decide +kernel, rfl⟩
theorem e_X11_line_34 : DC cX11_line 34 (.bipush (-99)) 2 36 := ⟨by decide +kernel, rfl⟩
theorem e_X11_line_36 : DC cX11_line 36 (.bipush 99) 2 38 := ⟨by decide +kernel, rfl⟩
theorem e_X11_line_38 : DC cX11_line 38 (.invokestatic 226) 3 41 := ⟨by decide +kernel, rfl⟩
theorem e_X11_line_41 : DB cX11_line 41 (.ifCond .eq 33) (33) 3 44 74 := ⟨by decide +kernel, rfl, rfl⟩
theorem e_X11_line_44 : DC cX11_line 44 (.iload 5) 2 46 := ⟨by decide +kernel, rfl⟩
theorem e_X11_line_46 : DC cX11_line 46 (.bipush (-99)) 2 48 := ⟨by decide +kernel, rfl⟩
theorem e_X11_line_48 : DC cX11_line 48 (.bipush 99) 2 50 := ⟨by decide +kernel, rfl⟩
theorem e_X11_line_50 : DC cX11_line 50 (.invokestatic 226) 3 53 := ⟨by decide +kernel, rfl⟩
theorem e_X11_line_53 : DB cX11_line 53 (.ifCond .eq 21) (21) 3 56 74 := ⟨by decide +kernel, rfl, rfl⟩
theorem e_X11_line_56 : DC cX11_line 56 (.iload_n 3) 1 57 := ⟨by decide +kernel, rfl⟩
theorem e_X11_line_57 : DB cX11_line 57 (.ifCond .ne 13) (13) 3 60 70 := ⟨by decide +kernel, rfl, rfl⟩
theorem e_X11_line_60 : DC cX11_line 60 (.iload 4) 2 62 := ⟨by decide +kernel, rfl⟩
theorem e_X11_line_62 : DB cX11_line 62 (.ifCond .ne 8) (8) 3 65 70 := ⟨by decide +kernel, rfl, rfl⟩
theorem e_X11_line_65 : DC cX11_line 65 (.iload 5) 2 67 := ⟨by decide +kernel, rfl⟩
theorem e_X11_line_67 : DB cX11_line 67 (.ifCond .eq 7) (7) 3 70 74 := ⟨by decide +kernel, rfl, rfl⟩
theorem e_X11_line_70 : DC cX11_line 70 (.iconst 1) 1 71 := ⟨by decide +kernel, rfl⟩
theorem e_X11_line_71 : DB cX11_line 71 (.goto 4) (4) 3 74 75 := ⟨by decide +kernel, rfl, rfl⟩
theorem e_X11_line_74 : DC cX11_line 74 (.iconst 0) 1 75 := ⟨by decide +kernel, rfl⟩
theorem e_X11_line_75 : DC cX11_line 75 (.istore 6) 2 77 := ⟨by decide +kernel, rfl⟩
theorem e_X11_line_77 : DC cX11_line 77 (.iload 6) 2 79 := ⟨by decide +kernel, rfl⟩
theorem e_X11_line_79 : DB cX11_line 79 (.ifCond .eq 26) (26) 3 82 105 := ⟨by decide +kernel, rfl, rfl⟩
theorem e_X11_line_82 : DC cX11_line 82 (.aload_n 0) 1 83 := ⟨by decide +kernel, rfl⟩
theorem e_X11_line_83 : DC cX11_line 83 (.getfield 271) 3 86 := ⟨by decide +kernel, rfl⟩
theorem e_X11_line_86 : DC cX11_line 86 (.bipush 120) 2 88 := ⟨by decide +kernel, rfl⟩
theorem e_X11_line_88 : DB cX11_line 88 (.if_icmp .ge 17) (17) 3 91 105 := ⟨by decide +kernel, rfl, rfl⟩
theorem e_X11_line_91 : DC cX11_line 91 (.aload_n 0) 1 92 := ⟨by decide +kernel, rfl⟩
theorem e_X11_line_92 : DC cX11_line 92 (.iload_n 1) 1 93 := ⟨by decide +kernel, rfl⟩
theorem e_X11_line_93 : DC cX11_line 93 (.iload_n 2) 1 94 := ⟨by decide +kernel, rfl⟩
theorem e_X11_line_94 : DC cX11_line 94 (.iload_n 3) 1 95 := ⟨by decide +kernel, rfl⟩
theorem e_X11_line_95 : DC cX11_line 95 (.iload 4) 2 97 := ⟨by decide +kernel, rfl⟩
theorem e_X11_line_97 : DC cX11_line 97 (.iload 5) 2 99 := ⟨by decide +kernel, rfl⟩
theorem e_X11_line_99 : DC cX11_line 99 (.invokevirtual 277) 3 102 := ⟨by decide +kernel, rfl⟩
theorem e_X11_line_102 : DB cX11_line 102 (.goto 4) (4) 3 105 106 := ⟨by decide +kernel, rfl, rfl⟩
theorem e_X11_line_105 : DC cX11_line 105 (.iconst (-1)) 1 106 := ⟨by decide +kernel, rfl⟩
theorem e_X11_line_106 : DC cX11_line 106 (.ireturn) 1 107 := ⟨by decide +kernel, rfl⟩
noncomputable def m_X11_line_75 (t_lines : Int) (t_start : Nat → Int) (t_goal : Nat → Int) (t_line : Nat → Int) (v1 : Int) (v2 : Int) (v3 : Int) (v4 : Int) (v5 : Int) (s0 : Int) : Option (Int × Int × (Nat → Int) × (Nat → Int) × (Nat → Int)) :=
  if s0 = 0 then (some ((-1), t_lines, t_start, t_goal, t_line)) else (if 120 ≤ t_lines then (some ((-1), t_lines, t_start, t_goal, t_line)) else ((m_X11_lineIn t_lines t_start t_goal t_line v1 v2 v3 v4 v5).bind (fun y2 => some (y2.1, y2.2.1, y2.2.2.1, y2.2.2.2.1, y2.2.2.2.2))))

set_option maxRecDepth 10000 in
set_option maxHeartbeats 8000000 in
theorem g_X11_line_75 {l : Launch} {E : EE} {b0 n : Nat} {h : AH} {a_t : Nat} {t_thrown t_taped t_p t_fault t_baseLow t_baseHigh t_newBaseLow t_newBaseHigh t_from t_knots t_lines t_chosen t_undos t_redos t_aimedMany t_fits t_fitOf t_sights t_systems t_own t_cross t_curveLong t_wallFirst v1 v2 v3 v4 v5 s0 : Int} {t_start t_goal t_line : Nat → Int} {r : Int × Int × (Nat → Int) × (Nat → Int) × (Nat → Int)} (ao : AO b0 n [a_t, (a_t + 16), (a_t + 17), (a_t + 18)]) (ok_t_knots : inI t_knots) (ok_t_lines : inI t_lines) (ok_t_start : okA t_start) (ok_t_goal : okA t_goal) (ok_t_line : okA t_line) (ok_v1 : inI v1) (ok_v2 : inI v2) (ok_v3 : inI v3) (ok_v4 : inI v4) (ok_v5 : inI v5) (ok_s0 : inZ s0) (hs : m_X11_line_75 t_lines t_start t_goal t_line v1 v2 v3 v4 v5 s0 = some r) : G l E b0 M_X11_line (fun _ => True) (ZM E b0 (some (vI r.1)) (ov [a_t, (a_t + 16), (a_t + 17), (a_t + 18)] [.inr (11, fsX11 a_t t_thrown t_taped t_p t_fault t_baseLow t_baseHigh t_newBaseLow t_newBaseHigh t_from t_knots r.2.1 t_chosen t_undos t_redos t_aimedMany t_fits t_fitOf t_sights t_systems t_own t_cross t_curveLong t_wallFirst), IA E 120 r.2.2.1, IA E 120 r.2.2.2.1, IA E 360 r.2.2.2.2] h) n (inI r.1 ∧ inI r.2.1 ∧ okA r.2.2.1 ∧ okA r.2.2.2.1 ∧ okA r.2.2.2.2) 0 0) 0 0 n (ov [a_t, (a_t + 16), (a_t + 17), (a_t + 18)] [.inr (11, fsX11 a_t t_thrown t_taped t_p t_fault t_baseLow t_baseHigh t_newBaseLow t_newBaseHigh t_from t_knots t_lines t_chosen t_undos t_redos t_aimedMany t_fits t_fitOf t_sights t_systems t_own t_cross t_curveLong t_wallFirst), IA E 120 t_start, IA E 120 t_goal, IA E 360 t_line] h) 75 [some (.ref a_t), some (vI v1), some (vI v2), some (vI v3), some (vI v4), some (vI v5), none] [vI s0] := by
  rw [m_X11_line_75] at hs
  refine g_istore e_X11_line_75 st1_6 rfl ?_
  refine g_iload e_X11_line_77 rfl ?_
  refine g_if_eq e_X11_line_79 (inZ_I ok_s0) hs (fun c79 hs => ?_) (fun c79 hs => ?_)
  · refine g_iconst e_X11_line_105 ?_
    obtain rfl := Option.some.inj hs
    exact g_iret rfl ⟨(by decide : inI (-1)), ok_t_lines, ok_t_start, ok_t_goal, ok_t_line⟩ e_X11_line_106
  · refine g_aload_n e_X11_line_82 rfl ?_
    refine g_get 0 23 ao rfl rfl fsX11_g23 fl_X11_271 e_X11_line_83 ?_
    refine g_bipush e_X11_line_86 bp_120 ?_
    refine g_icmp_ge e_X11_line_88 ok_t_lines (by decide : inI 120) hs (fun c88 hs => ?_) (fun c88 hs => ?_)
    · refine g_iconst e_X11_line_105 ?_
      obtain rfl := Option.some.inj hs
      exact g_iret rfl ⟨(by decide : inI (-1)), ok_t_lines, ok_t_start, ok_t_goal, ok_t_line⟩ e_X11_line_106
    · refine g_aload_n e_X11_line_91 rfl ?_
      refine g_iload_n e_X11_line_92 rfl ?_
      refine g_iload_n e_X11_line_93 rfl ?_
      refine g_iload_n e_X11_line_94 rfl ?_
      refine g_iload e_X11_line_95 rfl ?_
      refine g_iload e_X11_line_97 rfl ?_
      obtain ⟨y2, hy2, hs⟩ := bind_elim hs
      refine g_callVr [vI v1, vI v2, vI v3, vI v4, vI v5] cv_X11_277 ⟨rfl, rfl, Nat.le_of_ble_eq_true rfl, Nat.le_of_ble_eq_true rfl⟩ (Ct_heap (ct_X11_lineIn (a_t := a_t) (AO_call [0, 1, 2, 3] ao (by decide) rfl) (FA_call [0, 1, 2, 3] ao.1 rfl rfl) ok_t_lines ok_t_start ok_t_goal ok_t_line ok_v1 ok_v2 ok_v3 ok_v4 ok_v5 hy2) (ov_call (esn := [.inr (11, fsX11 a_t t_thrown t_taped t_p t_fault t_baseLow t_baseHigh t_newBaseLow t_newBaseHigh t_from t_knots y2.2.1 t_chosen t_undos t_redos t_aimedMany t_fits t_fitOf t_sights t_systems t_own t_cross t_curveLong t_wallFirst), IA E 120 y2.2.2.1, IA E 120 y2.2.2.2.1, IA E 360 y2.2.2.2.2]) [0, 1, 2, 3] ao.1 rfl rfl rfl rfl)) e_X11_line_99 (ao.2 0 _ rfl) (ov_get 0 ao.1 rfl rfl) rfl rfl rfl (Nat.le_of_ble_eq_true rfl) ⟨Nat.le_refl _, Nat.le_refl _⟩ (fun Py2 => ?_)
      refine g_goto e_X11_line_102 ?_
      obtain rfl := Option.some.inj hs
      exact g_iret rfl ⟨Py2.1, Py2.2.1, Py2.2.2.1, Py2.2.2.2.1, Py2.2.2.2.2⟩ e_X11_line_106

noncomputable def m_X11_line_74 (t_lines : Int) (t_start : Nat → Int) (t_goal : Nat → Int) (t_line : Nat → Int) (v1 : Int) (v2 : Int) (v3 : Int) (v4 : Int) (v5 : Int) : Option (Int × Int × (Nat → Int) × (Nat → Int) × (Nat → Int)) :=
  m_X11_line_75 t_lines t_start t_goal t_line v1 v2 v3 v4 v5 0

set_option maxRecDepth 10000 in
set_option maxHeartbeats 8000000 in
theorem g_X11_line_74 {l : Launch} {E : EE} {b0 n : Nat} {h : AH} {a_t : Nat} {t_thrown t_taped t_p t_fault t_baseLow t_baseHigh t_newBaseLow t_newBaseHigh t_from t_knots t_lines t_chosen t_undos t_redos t_aimedMany t_fits t_fitOf t_sights t_systems t_own t_cross t_curveLong t_wallFirst v1 v2 v3 v4 v5 : Int} {t_start t_goal t_line : Nat → Int} {r : Int × Int × (Nat → Int) × (Nat → Int) × (Nat → Int)} (ao : AO b0 n [a_t, (a_t + 16), (a_t + 17), (a_t + 18)]) (ok_t_knots : inI t_knots) (ok_t_lines : inI t_lines) (ok_t_start : okA t_start) (ok_t_goal : okA t_goal) (ok_t_line : okA t_line) (ok_v1 : inI v1) (ok_v2 : inI v2) (ok_v3 : inI v3) (ok_v4 : inI v4) (ok_v5 : inI v5) (hs : m_X11_line_74 t_lines t_start t_goal t_line v1 v2 v3 v4 v5 = some r) : G l E b0 M_X11_line (fun _ => True) (ZM E b0 (some (vI r.1)) (ov [a_t, (a_t + 16), (a_t + 17), (a_t + 18)] [.inr (11, fsX11 a_t t_thrown t_taped t_p t_fault t_baseLow t_baseHigh t_newBaseLow t_newBaseHigh t_from t_knots r.2.1 t_chosen t_undos t_redos t_aimedMany t_fits t_fitOf t_sights t_systems t_own t_cross t_curveLong t_wallFirst), IA E 120 r.2.2.1, IA E 120 r.2.2.2.1, IA E 360 r.2.2.2.2] h) n (inI r.1 ∧ inI r.2.1 ∧ okA r.2.2.1 ∧ okA r.2.2.2.1 ∧ okA r.2.2.2.2) 0 0) 0 0 n (ov [a_t, (a_t + 16), (a_t + 17), (a_t + 18)] [.inr (11, fsX11 a_t t_thrown t_taped t_p t_fault t_baseLow t_baseHigh t_newBaseLow t_newBaseHigh t_from t_knots t_lines t_chosen t_undos t_redos t_aimedMany t_fits t_fitOf t_sights t_systems t_own t_cross t_curveLong t_wallFirst), IA E 120 t_start, IA E 120 t_goal, IA E 360 t_line] h) 74 [some (.ref a_t), some (vI v1), some (vI v2), some (vI v3), some (vI v4), some (vI v5), none] [] := by
  rw [m_X11_line_74] at hs
  refine g_iconst e_X11_line_74 ?_
  exact g_X11_line_75 ao ok_t_knots ok_t_lines ok_t_start ok_t_goal ok_t_line ok_v1 ok_v2 ok_v3 ok_v4 ok_v5 (by decide : inZ 0) hs

noncomputable def m_X11_line_70 (t_lines : Int) (t_start : Nat → Int) (t_goal : Nat → Int) (t_line : Nat → Int) (v1 : Int) (v2 : Int) (v3 : Int) (v4 : Int) (v5 : Int) : Option (Int × Int × (Nat → Int) × (Nat → Int) × (Nat → Int)) :=
  m_X11_line_75 t_lines t_start t_goal t_line v1 v2 v3 v4 v5 1

set_option maxRecDepth 10000 in
set_option maxHeartbeats 8000000 in
theorem g_X11_line_70 {l : Launch} {E : EE} {b0 n : Nat} {h : AH} {a_t : Nat} {t_thrown t_taped t_p t_fault t_baseLow t_baseHigh t_newBaseLow t_newBaseHigh t_from t_knots t_lines t_chosen t_undos t_redos t_aimedMany t_fits t_fitOf t_sights t_systems t_own t_cross t_curveLong t_wallFirst v1 v2 v3 v4 v5 : Int} {t_start t_goal t_line : Nat → Int} {r : Int × Int × (Nat → Int) × (Nat → Int) × (Nat → Int)} (ao : AO b0 n [a_t, (a_t + 16), (a_t + 17), (a_t + 18)]) (ok_t_knots : inI t_knots) (ok_t_lines : inI t_lines) (ok_t_start : okA t_start) (ok_t_goal : okA t_goal) (ok_t_line : okA t_line) (ok_v1 : inI v1) (ok_v2 : inI v2) (ok_v3 : inI v3) (ok_v4 : inI v4) (ok_v5 : inI v5) (hs : m_X11_line_70 t_lines t_start t_goal t_line v1 v2 v3 v4 v5 = some r) : G l E b0 M_X11_line (fun _ => True) (ZM E b0 (some (vI r.1)) (ov [a_t, (a_t + 16), (a_t + 17), (a_t + 18)] [.inr (11, fsX11 a_t t_thrown t_taped t_p t_fault t_baseLow t_baseHigh t_newBaseLow t_newBaseHigh t_from t_knots r.2.1 t_chosen t_undos t_redos t_aimedMany t_fits t_fitOf t_sights t_systems t_own t_cross t_curveLong t_wallFirst), IA E 120 r.2.2.1, IA E 120 r.2.2.2.1, IA E 360 r.2.2.2.2] h) n (inI r.1 ∧ inI r.2.1 ∧ okA r.2.2.1 ∧ okA r.2.2.2.1 ∧ okA r.2.2.2.2) 0 0) 0 0 n (ov [a_t, (a_t + 16), (a_t + 17), (a_t + 18)] [.inr (11, fsX11 a_t t_thrown t_taped t_p t_fault t_baseLow t_baseHigh t_newBaseLow t_newBaseHigh t_from t_knots t_lines t_chosen t_undos t_redos t_aimedMany t_fits t_fitOf t_sights t_systems t_own t_cross t_curveLong t_wallFirst), IA E 120 t_start, IA E 120 t_goal, IA E 360 t_line] h) 70 [some (.ref a_t), some (vI v1), some (vI v2), some (vI v3), some (vI v4), some (vI v5), none] [] := by
  rw [m_X11_line_70] at hs
  refine g_iconst e_X11_line_70 ?_
  refine g_goto e_X11_line_71 ?_
  exact g_X11_line_75 ao ok_t_knots ok_t_lines ok_t_start ok_t_goal ok_t_line ok_v1 ok_v2 ok_v3 ok_v4 ok_v5 (by decide : inZ 1) hs

noncomputable def m_X11_line_0 (t_knots : Int) (t_lines : Int) (t_start : Nat → Int) (t_goal : Nat → Int) (t_line : Nat → Int) (v1 : Int) (v2 : Int) (v3 : Int) (v4 : Int) (v5 : Int) : Option (Int × Int × (Nat → Int) × (Nat → Int) × (Nat → Int)) :=
  (m_X11_isKnot t_knots v1).bind (fun y1 => if y1 = 0 then (m_X11_line_74 t_lines t_start t_goal t_line v1 v2 v3 v4 v5) else ((m_X11_isKnot t_knots v2).bind (fun y3 => if y3 = 0 then (m_X11_line_74 t_lines t_start t_goal t_line v1 v2 v3 v4 v5) else (if v1 = v2 then (m_X11_line_74 t_lines t_start t_goal t_line v1 v2 v3 v4 v5) else ((m_X11_in v3 (-99) 99).bind (fun y4 => if y4 = 0 then (m_X11_line_74 t_lines t_start t_goal t_line v1 v2 v3 v4 v5) else ((m_X11_in v4 (-99) 99).bind (fun y5 => if y5 = 0 then (m_X11_line_74 t_lines t_start t_goal t_line v1 v2 v3 v4 v5) else ((m_X11_in v5 (-99) 99).bind (fun y6 => if y6 = 0 then (m_X11_line_74 t_lines t_start t_goal t_line v1 v2 v3 v4 v5) else (if v3 = 0 then (if v4 = 0 then (if v5 = 0 then (m_X11_line_74 t_lines t_start t_goal t_line v1 v2 v3 v4 v5) else (m_X11_line_70 t_lines t_start t_goal t_line v1 v2 v3 v4 v5)) else (m_X11_line_70 t_lines t_start t_goal t_line v1 v2 v3 v4 v5)) else (m_X11_line_70 t_lines t_start t_goal t_line v1 v2 v3 v4 v5))))))))))))

set_option maxRecDepth 10000 in
set_option maxHeartbeats 8000000 in
theorem g_X11_line_0 {l : Launch} {E : EE} {b0 n : Nat} {h : AH} {a_t : Nat} {t_thrown t_taped t_p t_fault t_baseLow t_baseHigh t_newBaseLow t_newBaseHigh t_from t_knots t_lines t_chosen t_undos t_redos t_aimedMany t_fits t_fitOf t_sights t_systems t_own t_cross t_curveLong t_wallFirst v1 v2 v3 v4 v5 : Int} {t_start t_goal t_line : Nat → Int} {r : Int × Int × (Nat → Int) × (Nat → Int) × (Nat → Int)} (ao : AO b0 n [a_t, (a_t + 16), (a_t + 17), (a_t + 18)]) (ok_t_knots : inI t_knots) (ok_t_lines : inI t_lines) (ok_t_start : okA t_start) (ok_t_goal : okA t_goal) (ok_t_line : okA t_line) (ok_v1 : inI v1) (ok_v2 : inI v2) (ok_v3 : inI v3) (ok_v4 : inI v4) (ok_v5 : inI v5) (hs : m_X11_line_0 t_knots t_lines t_start t_goal t_line v1 v2 v3 v4 v5 = some r) : G l E b0 M_X11_line (fun _ => True) (ZM E b0 (some (vI r.1)) (ov [a_t, (a_t + 16), (a_t + 17), (a_t + 18)] [.inr (11, fsX11 a_t t_thrown t_taped t_p t_fault t_baseLow t_baseHigh t_newBaseLow t_newBaseHigh t_from t_knots r.2.1 t_chosen t_undos t_redos t_aimedMany t_fits t_fitOf t_sights t_systems t_own t_cross t_curveLong t_wallFirst), IA E 120 r.2.2.1, IA E 120 r.2.2.2.1, IA E 360 r.2.2.2.2] h) n (inI r.1 ∧ inI r.2.1 ∧ okA r.2.2.1 ∧ okA r.2.2.2.1 ∧ okA r.2.2.2.2) 0 0) 0 0 n (ov [a_t, (a_t + 16), (a_t + 17), (a_t + 18)] [.inr (11, fsX11 a_t t_thrown t_taped t_p t_fault t_baseLow t_baseHigh t_newBaseLow t_newBaseHigh t_from t_knots t_lines t_chosen t_undos t_redos t_aimedMany t_fits t_fitOf t_sights t_systems t_own t_cross t_curveLong t_wallFirst), IA E 120 t_start, IA E 120 t_goal, IA E 360 t_line] h) 0 [some (.ref a_t), some (vI v1), some (vI v2), some (vI v3), some (vI v4), some (vI v5), none] [] := by
  rw [m_X11_line_0] at hs
  refine g_aload_n e_X11_line_0 rfl ?_
  refine g_iload_n e_X11_line_1 rfl ?_
  obtain ⟨y1, hy1, hs⟩ := bind_elim hs
  refine g_callVr [vI v1] cv_X11_274 ⟨rfl, rfl, Nat.le_of_ble_eq_true rfl, Nat.le_of_ble_eq_true rfl⟩ (ct_X11_isKnot (a_t := a_t) (AO_call [0] ao (by decide) rfl) (FA_call [0] ao.1 rfl rfl) ok_t_knots ok_v1 hy1) e_X11_line_2 (ao.2 0 _ rfl) (ov_get 0 ao.1 rfl rfl) rfl rfl rfl (Nat.le_of_ble_eq_true rfl) ⟨Nat.le_refl _, Nat.le_refl _⟩ (fun Py1 => ?_)
  refine g_if_eq e_X11_line_5 (inZ_I Py1) hs (fun c5 hs => ?_) (fun c5 hs => ?_)
  · exact g_X11_line_74 ao ok_t_knots ok_t_lines ok_t_start ok_t_goal ok_t_line ok_v1 ok_v2 ok_v3 ok_v4 ok_v5 hs
  · refine g_aload_n e_X11_line_8 rfl ?_
    refine g_iload_n e_X11_line_9 rfl ?_
    obtain ⟨y3, hy3, hs⟩ := bind_elim hs
    refine g_callVr [vI v2] cv_X11_274 ⟨rfl, rfl, Nat.le_of_ble_eq_true rfl, Nat.le_of_ble_eq_true rfl⟩ (ct_X11_isKnot (a_t := a_t) (AO_call [0] ao (by decide) rfl) (FA_call [0] ao.1 rfl rfl) ok_t_knots ok_v2 hy3) e_X11_line_10 (ao.2 0 _ rfl) (ov_get 0 ao.1 rfl rfl) rfl rfl rfl (Nat.le_of_ble_eq_true rfl) ⟨Nat.le_refl _, Nat.le_refl _⟩ (fun Py3 => ?_)
    refine g_if_eq e_X11_line_13 (inZ_I Py3) hs (fun c13 hs => ?_) (fun c13 hs => ?_)
    · exact g_X11_line_74 ao ok_t_knots ok_t_lines ok_t_start ok_t_goal ok_t_line ok_v1 ok_v2 ok_v3 ok_v4 ok_v5 hs
    · refine g_iload_n e_X11_line_16 rfl ?_
      refine g_iload_n e_X11_line_17 rfl ?_
      refine g_icmp_eq e_X11_line_18 ok_v1 ok_v2 hs (fun c18 hs => ?_) (fun c18 hs => ?_)
      · exact g_X11_line_74 ao ok_t_knots ok_t_lines ok_t_start ok_t_goal ok_t_line ok_v1 ok_v2 ok_v3 ok_v4 ok_v5 hs
      · refine g_iload_n e_X11_line_21 rfl ?_
        refine g_bipush e_X11_line_22 bp_m99 ?_
        refine g_bipush e_X11_line_24 bp_99 ?_
        obtain ⟨y4, hy4, hs⟩ := bind_elim hs
        refine g_callSr [vI v3, vI (-99), vI 99] cs_X11_226 ⟨rfl, rfl, Nat.le_of_ble_eq_true rfl, Nat.le_of_ble_eq_true rfl⟩ (ct_X11_in ⟨List.nodup_nil, fun i a h => by simp at h⟩ (fun i a e h => by simp at h) ok_v3 (by decide : inI (-99)) (by decide : inI 99) hy4) e_X11_line_26 rfl rfl (Nat.le_of_ble_eq_true rfl) ⟨Nat.le_refl _, Nat.le_refl _⟩ (fun Py4 => ?_)
        refine g_if_eq e_X11_line_29 (inZ_I Py4) hs (fun c29 hs => ?_) (fun c29 hs => ?_)
        · exact g_X11_line_74 ao ok_t_knots ok_t_lines ok_t_start ok_t_goal ok_t_line ok_v1 ok_v2 ok_v3 ok_v4 ok_v5 hs
        · refine g_iload e_X11_line_32 rfl ?_
          refine g_bipush e_X11_line_34 bp_m99 ?_
          refine g_bipush e_X11_line_36 bp_99 ?_
          obtain ⟨y5, hy5, hs⟩ := bind_elim hs
          refine g_callSr [vI v4, vI (-99), vI 99] cs_X11_226 ⟨rfl, rfl, Nat.le_of_ble_eq_true rfl, Nat.le_of_ble_eq_true rfl⟩ (ct_X11_in ⟨List.nodup_nil, fun i a h => by simp at h⟩ (fun i a e h => by simp at h) ok_v4 (by decide : inI (-99)) (by decide : inI 99) hy5) e_X11_line_38 rfl rfl (Nat.le_of_ble_eq_true rfl) ⟨Nat.le_refl _, Nat.le_refl _⟩ (fun Py5 => ?_)
          refine g_if_eq e_X11_line_41 (inZ_I Py5) hs (fun c41 hs => ?_) (fun c41 hs => ?_)
          · exact g_X11_line_74 ao ok_t_knots ok_t_lines ok_t_start ok_t_goal ok_t_line ok_v1 ok_v2 ok_v3 ok_v4 ok_v5 hs
          · refine g_iload e_X11_line_44 rfl ?_
            refine g_bipush e_X11_line_46 bp_m99 ?_
            refine g_bipush e_X11_line_48 bp_99 ?_
            obtain ⟨y6, hy6, hs⟩ := bind_elim hs
            refine g_callSr [vI v5, vI (-99), vI 99] cs_X11_226 ⟨rfl, rfl, Nat.le_of_ble_eq_true rfl, Nat.le_of_ble_eq_true rfl⟩ (ct_X11_in ⟨List.nodup_nil, fun i a h => by simp at h⟩ (fun i a e h => by simp at h) ok_v5 (by decide : inI (-99)) (by decide : inI 99) hy6) e_X11_line_50 rfl rfl (Nat.le_of_ble_eq_true rfl) ⟨Nat.le_refl _, Nat.le_refl _⟩ (fun Py6 => ?_)
            refine g_if_eq e_X11_line_53 (inZ_I Py6) hs (fun c53 hs => ?_) (fun c53 hs => ?_)
            · exact g_X11_line_74 ao ok_t_knots ok_t_lines ok_t_start ok_t_goal ok_t_line ok_v1 ok_v2 ok_v3 ok_v4 ok_v5 hs
            · refine g_iload_n e_X11_line_56 rfl ?_
              refine g_if_ne e_X11_line_57 ok_v3 hs (fun c57 hs => ?_) (fun c57 hs => ?_)
              · refine g_iload e_X11_line_60 rfl ?_
                refine g_if_ne e_X11_line_62 ok_v4 hs (fun c62 hs => ?_) (fun c62 hs => ?_)
                · refine g_iload e_X11_line_65 rfl ?_
                  refine g_if_eq e_X11_line_67 ok_v5 hs (fun c67 hs => ?_) (fun c67 hs => ?_)
                  · exact g_X11_line_74 ao ok_t_knots ok_t_lines ok_t_start ok_t_goal ok_t_line ok_v1 ok_v2 ok_v3 ok_v4 ok_v5 hs
                  · exact g_X11_line_70 ao ok_t_knots ok_t_lines ok_t_start ok_t_goal ok_t_line ok_v1 ok_v2 ok_v3 ok_v4 ok_v5 hs
                · exact g_X11_line_70 ao ok_t_knots ok_t_lines ok_t_start ok_t_goal ok_t_line ok_v1 ok_v2 ok_v3 ok_v4 ok_v5 hs
              · exact g_X11_line_70 ao ok_t_knots ok_t_lines ok_t_start ok_t_goal ok_t_line ok_v1 ok_v2 ok_v3 ok_v4 ok_v5 hs

noncomputable def m_X11_line (t_knots : Int) (t_lines : Int) (t_start : Nat → Int) (t_goal : Nat → Int) (t_line : Nat → Int) (v1 : Int) (v2 : Int) (v3 : Int) (v4 : Int) (v5 : Int) : Option (Int × Int × (Nat → Int) × (Nat → Int) × (Nat → Int)) := m_X11_line_0 t_knots t_lines t_start t_goal t_line v1 v2 v3 v4 v5

set_option maxRecDepth 10000 in
set_option maxHeartbeats 8000000 in
theorem ct_X11_line {l : Launch} {E : EE} {b0 n : Nat} {h : AH} {a_t : Nat} {t_thrown t_taped t_p t_fault t_baseLow t_baseHigh t_newBaseLow t_newBaseHigh t_from t_knots t_lines t_chosen t_undos t_redos t_aimedMany t_fits t_fitOf t_sights t_systems t_own t_cross t_curveLong t_wallFirst : Int} {t_start t_goal t_line : Nat → Int} {v1 v2 v3 v4 v5 : Int} (ao : AO b0 n [a_t, (a_t + 16), (a_t + 17), (a_t + 18)]) (hf : FA h [a_t, (a_t + 16), (a_t + 17), (a_t + 18)] [.inr (11, fsX11 a_t t_thrown t_taped t_p t_fault t_baseLow t_baseHigh t_newBaseLow t_newBaseHigh t_from t_knots t_lines t_chosen t_undos t_redos t_aimedMany t_fits t_fitOf t_sights t_systems t_own t_cross t_curveLong t_wallFirst), IA E 120 t_start, IA E 120 t_goal, IA E 360 t_line]) (ok_t_knots : inI t_knots) (ok_t_lines : inI t_lines) (ok_t_start : okA t_start) (ok_t_goal : okA t_goal) (ok_t_line : okA t_line) (ok_v1 : inI v1) (ok_v2 : inI v2) (ok_v3 : inI v3) (ok_v4 : inI v4) (ok_v5 : inI v5) {r : Int × Int × (Nat → Int) × (Nat → Int) × (Nat → Int)} (hm : m_X11_line t_knots t_lines t_start t_goal t_line v1 v2 v3 v4 v5 = some r) : Ct l E b0 M_X11_line 0 0 [.ref a_t, vI v1, vI v2, vI v3, vI v4, vI v5] h n (some (vI r.1)) (ov [a_t, (a_t + 16), (a_t + 17), (a_t + 18)] [.inr (11, fsX11 a_t t_thrown t_taped t_p t_fault t_baseLow t_baseHigh t_newBaseLow t_newBaseHigh t_from t_knots r.2.1 t_chosen t_undos t_redos t_aimedMany t_fits t_fitOf t_sights t_systems t_own t_cross t_curveLong t_wallFirst), IA E 120 r.2.2.1, IA E 120 r.2.2.2.1, IA E 360 r.2.2.2.2] h) n (inI r.1 ∧ inI r.2.1 ∧ okA r.2.2.1 ∧ okA r.2.2.2.1 ∧ okA r.2.2.2.2) := by
  rw [m_X11_line] at hm
  have hg : G l E b0 M_X11_line (fun _ => True) (ZM E b0 (some (vI r.1)) (ov [a_t, (a_t + 16), (a_t + 17), (a_t + 18)] [.inr (11, fsX11 a_t t_thrown t_taped t_p t_fault t_baseLow t_baseHigh t_newBaseLow t_newBaseHigh t_from t_knots r.2.1 t_chosen t_undos t_redos t_aimedMany t_fits t_fitOf t_sights t_systems t_own t_cross t_curveLong t_wallFirst), IA E 120 r.2.2.1, IA E 120 r.2.2.2.1, IA E 360 r.2.2.2.2] h) n (inI r.1 ∧ inI r.2.1 ∧ okA r.2.2.1 ∧ okA r.2.2.2.1 ∧ okA r.2.2.2.2) 0 0) 0 0 n (ov [a_t, (a_t + 16), (a_t + 17), (a_t + 18)] [.inr (11, fsX11 a_t t_thrown t_taped t_p t_fault t_baseLow t_baseHigh t_newBaseLow t_newBaseHigh t_from t_knots t_lines t_chosen t_undos t_redos t_aimedMany t_fits t_fitOf t_sights t_systems t_own t_cross t_curveLong t_wallFirst), IA E 120 t_start, IA E 120 t_goal, IA E 360 t_line] h) 0 [some (.ref a_t), some (vI v1), some (vI v2), some (vI v3), some (vI v4), some (vI v5), none] [] := by
    have hs := hm
    exact g_X11_line_0 ao ok_t_knots ok_t_lines ok_t_start ok_t_goal ok_t_line ok_v1 ok_v2 ok_v3 ok_v4 ok_v5 hs
  rw [FA_id hf] at hg
  exact Ct_of [some (.ref a_t), some (vI v1), some (vI v2), some (vI v3), some (vI v4), some (vI v5), none] ⟨by decide +kernel, rfl⟩ rfl (Nat.le_of_ble_eq_true rfl) hg

/-! ===== X11_least ===== -/
theorem e_X11_least_0 : DC cX11_least 0 (.aload_n 0) 1 1 := ⟨by decide +kernel, rfl⟩
theorem e_X11_least_1 : DC cX11_least 1 (.iload_n 1) 1 2 := ⟨by decide +kernel, rfl⟩
theorem e_X11_least_2 : DC cX11_least 2 (.invokevirtual 274) 3 5 := ⟨by decide +kernel, rfl⟩
theorem e_X11_least_5 : DB cX11_least 5 (.ifCond .eq 12) (12) 3 8 17 := ⟨by decide +kernel, rfl, rfl⟩
theorem e_X11_least_8 : DC cX11_least 8 (.lload_n 2) 1 9 := ⟨by decide +kernel, rfl⟩
theorem e_X11_least_9 : DC cX11_least 9 (.bipush 60) 2 11 := ⟨by decide +kernel, rfl⟩
theorem e_X11_least_11 : DC cX11_least 11 (.lshr) 1 12 := ⟨by decide +kernel, rfl⟩
theorem e_X11_least_12 : DC cX11_least 12 (.lconst 0) 1 13 := ⟨by decide +kernel, rfl⟩
theorem e_X11_least_13 : DC cX11_least 13 (.lcmp) 1 14 := ⟨by decide +kernel, rfl⟩
theorem e_X11_least_14 : DB cX11_least 14 (.ifCond .eq 5) (5) 3 17 19 := ⟨by decide +kernel, rfl, rfl⟩
theorem e_X11_least_17 : DC cX11_least 17 (.iconst (-1)) 1 18 := ⟨by decide +kernel, rfl⟩
theorem e_X11_least_18 : DC cX11_least 18 (.ireturn) 1 19 := ⟨by decide +kernel, rfl⟩
theorem e_X11_least_19 : DC cX11_least 19 (.iconst 0) 1 20 := ⟨by decide +kernel, rfl⟩
theorem e_X11_least_20 : DC cX11_least 20 (.istore 4) 2 22 := ⟨by decide +kernel, rfl⟩
theorem e_X11_least_22 : DC cX11_least 22 (.iconst 0) 1 23 := ⟨by decide +kernel, rfl⟩
theorem e_X11_least_23 : DC cX11_least 23 (.istore 5) 2 25 := ⟨by decide +kernel, rfl⟩
theorem e_X11_least_25 : DC cX11_least 25 (.iload 5) 2 27 := ⟨by decide +kernel, rfl⟩
theorem e_X11_least_27 : DC cX11_least 27 (.bipush 60) 2 29 := ⟨by decide +kernel, rfl⟩
theorem e_X11_least_29 : DB cX11_least 29 (.if_icmp .ge 72) (72) 3 32 101 := ⟨by decide +kernel, rfl, rfl⟩
theorem e_X11_least_32 : DC cX11_least 32 (.lload_n 2) 1 33 := ⟨by decide +kernel, rfl⟩
theorem e_X11_least_33 : DC cX11_least 33 (.iload 5) 2 35 := ⟨by decide +kernel, rfl⟩
theorem e_X11_least_35 : DC cX11_least 35 (.lshr) 1 36 := ⟨by decide +kernel, rfl⟩
theorem e_X11_least_36 : DC cX11_least 36 (.lconst 1) 1 37 := ⟨by decide +kernel, rfl⟩
theorem e_X11_least_37 : DC cX11_least 37 (.land) 1 38 := ⟨by decide +kernel, rfl⟩
theorem e_X11_least_38 : DC cX11_least 38 (.lconst 1) 1 39 := ⟨by decide +kernel, rfl⟩
theorem e_X11_least_39 : DC cX11_least 39 (.lcmp) 1 40 := ⟨by decide +kernel, rfl⟩
theorem e_X11_least_40 : DB cX11_least 40 (.ifCond .ne 55) (55) 3 43 95 := ⟨by decide +kernel, rfl, rfl⟩
theorem e_X11_least_43 : DC cX11_least 43 (.iload 4) 2 45 := ⟨by decide +kernel, rfl⟩
theorem e_X11_least_45 : DC cX11_least 45 (.bipush 8) 2 47 := ⟨by decide +kernel, rfl⟩
theorem e_X11_least_47 : DB cX11_least 47 (.if_icmp .eq 34) (34) 3 50 81 := ⟨by decide +kernel, rfl, rfl⟩
theorem e_X11_least_50 : DC cX11_least 50 (.aload_n 0) 1 51 := ⟨by decide +kernel, rfl⟩
theorem e_X11_least_51 : DC cX11_least 51 (.iload 5) 2 53 := ⟨by decide +kernel, rfl⟩
theorem e_X11_least_53 : DC cX11_least 53 (.invokevirtual 285) 3 56 := ⟨by decide +kernel, rfl⟩
theorem e_X11_least_56 : DB cX11_least 56 (.ifCond .eq 25) (25) 3 59 81 := ⟨by decide +kernel, rfl, rfl⟩
theorem e_X11_least_59 : DC cX11_least 59 (.aload_n 0) 1 60 := ⟨by decide +kernel, rfl⟩
theorem e_X11_least_60 : DC cX11_least 60 (.getfield 57) 3 63 := ⟨by decide +kernel, rfl⟩
theorem e_X11_least_63 : DC cX11_least 63 (.iload 5) 2 65 := ⟨by decide +kernel, rfl⟩
theorem e_X11_least_65 : DC cX11_least 65 (.iaload) 1 66 := ⟨by decide +kernel, rfl⟩
theorem e_X11_least_66 : DC cX11_least 66 (.iload_n 1) 1 67 := ⟨by decide +kernel, rfl⟩
theorem e_X11_least_67 : DB cX11_least 67 (.if_icmp .eq 16) (16) 3 70 83 := ⟨by decide +kernel, rfl, rfl⟩
theorem e_X11_least_70 : DC cX11_least 70 (.aload_n 0) 1 71 := ⟨by decide +kernel, rfl⟩
theorem e_X11_least_71 : DC cX11_least 71 (.getfield 60) 3 74 := ⟨by decide +kernel, rfl⟩
theorem e_X11_least_74 : DC cX11_least 74 (.iload 5) 2 76 := ⟨by decide +kernel, rfl⟩
theorem e_X11_least_76 : DC cX11_least 76 (.iaload) 1 77 := ⟨by decide +kernel, rfl⟩
theorem e_X11_least_77 : DC cX11_least 77 (.iload_n 1) 1 78 := ⟨by decide +kernel, rfl⟩
theorem e_X11_least_78 : DB cX11_least 78 (.if_icmp .eq 5) (5) 3 81 83 := ⟨by decide +kernel, rfl, rfl⟩
theorem e_X11_least_81 : DC cX11_least 81 (.iconst (-1)) 1 82 := ⟨by decide +kernel, rfl⟩
theorem e_X11_least_82 : DC cX11_least 82 (.ireturn) 1 83 := ⟨by decide +kernel, rfl⟩
theorem e_X11_least_83 : DC cX11_least 83 (.aload_n 0) 1 84 := ⟨by decide +kernel, rfl⟩
theorem e_X11_least_84 : DC cX11_least 84 (.getfield 69) 3 87 := ⟨by decide +kernel, rfl⟩
theorem e_X11_least_87 : DC cX11_least 87 (.iload 4) 2 89 := ⟨by decide +kernel, rfl⟩
theorem e_X11_least_89 : DC cX11_least 89 (.iload 5) 2 91 := ⟨by decide +kernel, rfl⟩
theorem e_X11_least_91 : DC cX11_least 91 (.iastore) 1 92 := ⟨by decide +kernel, rfl⟩
theorem e_X11_least_92 : DC cX11_least 92 (.iinc 4 1) 3 95 := ⟨by decide +kernel, rfl⟩
theorem e_X11_least_95 : DC cX11_least 95 (.iinc 5 1) 3 98 := ⟨by decide +kernel, rfl⟩
theorem e_X11_least_98 : DB cX11_least 98 (.goto (-73)) (-73) 3 101 25 := ⟨by decide +kernel, rfl, rfl⟩
theorem e_X11_least_101 : DC cX11_least 101 (.iload 4) 2 103 := ⟨by decide +kernel, rfl⟩
theorem e_X11_least_103 : DC cX11_least 103 (.iconst 2) 1 104 := ⟨by decide +kernel, rfl⟩
theorem e_X11_least_104 : DB cX11_least 104 (.if_icmp .ge 5) (5) 3 107 109 := ⟨by decide +kernel, rfl, rfl⟩
theorem e_X11_least_107 : DC cX11_least 107 (.iconst (-1)) 1 108 := ⟨by decide +kernel, rfl⟩
theorem e_X11_least_108 : DC cX11_least 108 (.ireturn) 1 109 := ⟨by decide +kernel, rfl⟩
theorem e_X11_least_109 : DC cX11_least 109 (.iconst 1) 1 110 := ⟨by decide +kernel, rfl⟩
theorem e_X11_least_110 : DC cX11_least 110 (.istore 5) 2 112 := ⟨by decide +kernel, rfl⟩
theorem e_X11_least_112 : DC cX11_least 112 (.iload 5) 2 114 := ⟨by decide +kernel, rfl⟩
theorem e_X11_least_114 : DC cX11_least 114 (.iconst 1) 1 115 := ⟨by decide +kernel, rfl⟩
theorem e_X11_least_115 : DC cX11_least 115 (.iload 4) 2 117 := ⟨by decide +kernel, rfl⟩
theorem e_X11_least_117 : DC cX11_least 117 (.ishl) 1 118 := ⟨by decide +kernel, rfl⟩
theorem e_X11_least_118 : DB cX11_least 118 (.if_icmp .ge 25) (25) 3 121 143 := ⟨by decide +kernel, rfl, rfl⟩
theorem e_X11_least_121 : DC cX11_least 121 (.aload_n 0) 1 122 := ⟨by decide +kernel, rfl⟩
theorem e_X11_least_122 : DC cX11_least 122 (.getfield 72) 3 125 := ⟨by decide +kernel, rfl⟩
theorem e_X11_least_125 : DC cX11_least 125 (.iload 5) 2 127 := ⟨by decide +kernel, rfl⟩
theorem e_X11_least_127 : DC cX11_least 127 (.aload_n 0) 1 128 := ⟨by decide +kernel, rfl⟩
theorem e_X11_least_128 : DC cX11_least 128 (.iload_n 1) 1 129 := ⟨by decide +kernel, rfl⟩
theorem e_X11_least_129 : DC cX11_least 129 (.iload 4) 2 131 := ⟨by decide +kernel, rfl⟩
theorem e_X11_least_131 : DC cX11_least 131 (.iload 5) 2 133 := ⟨by decide +kernel, rfl⟩
theorem e_X11_least_133 : DC cX11_least 133 (.invokevirtual 298) 3 136 := ⟨by decide +kernel, rfl⟩
theorem e_X11_least_136 : DC cX11_least 136 (.iastore) 1 137 := ⟨by decide +kernel, rfl⟩
theorem e_X11_least_137 : DC cX11_least 137 (.iinc 5 1) 3 140 := ⟨by decide +kernel, rfl⟩
theorem e_X11_least_140 : DB cX11_least 140 (.goto (-28)) (-28) 3 143 112 := ⟨by decide +kernel, rfl, rfl⟩
theorem e_X11_least_143 : DC cX11_least 143 (.aload_n 0) 1 144 := ⟨by decide +kernel, rfl⟩
theorem e_X11_least_144 : DC cX11_least 144 (.getfield 75) 3 147 := ⟨by decide +kernel, rfl⟩
theorem e_X11_least_147 : DC cX11_least 147 (.iconst 0) 1 148 := ⟨by decide +kernel, rfl⟩
theorem e_X11_least_148 : DC cX11_least 148 (.iconst 0) 1 149 := ⟨by decide +kernel, rfl⟩
theorem e_X11_least_149 : DC cX11_least 149 (.iastore) 1 150 := ⟨by decide +kernel, rfl⟩
theorem e_X11_least_150 : DC cX11_least 150 (.iconst 1) 1 151 := ⟨by decide +kernel, rfl⟩
theorem e_X11_least_151 : DC cX11_least 151 (.istore 5) 2 153 := ⟨by decide +kernel, rfl⟩
theorem e_X11_least_153 : DC cX11_least 153 (.iload 5) 2 155 := ⟨by decide +kernel, rfl⟩
theorem e_X11_least_155 : DC cX11_least 155 (.iconst 1) 1 156 := ⟨by decide +kernel, rfl⟩
theorem e_X11_least_156 : DC cX11_least 156 (.iload 4) 2 158 := ⟨by decide +kernel, rfl⟩
theorem e_X11_least_158 : DC cX11_least 158 (.ishl) 1 159 := ⟨by decide +kernel, rfl⟩
theorem e_X11_least_159 : DB cX11_least 159 (.if_icmp .ge 138) (138) 3 162 297 := ⟨by decide +kernel, rfl, rfl⟩
theorem e_X11_least_162 : DC cX11_least 162 (.aload_n 0) 1 163 := ⟨by decide +kernel, rfl⟩
theorem e_X11_least_163 : DC cX11_least 163 (.getfield 75) 3 166 := ⟨by decide +kernel, rfl⟩
theorem e_X11_least_166 : DC cX11_least 166 (.iload 5) 2 168 := ⟨by decide +kernel, rfl⟩
theorem e_X11_least_168 : DC cX11_least 168 (.ldc_w 301) 3 171 := ⟨by decide +kernel, rfl⟩
theorem e_X11_least_171 : DC cX11_least 171 (.iastore) 1 172 := ⟨by decide +kernel, rfl⟩
theorem e_X11_least_172 : DC cX11_least 172 (.iload 5) 2 174 := ⟨by decide +kernel, rfl⟩
theorem e_X11_least_174 : DC cX11_least 174 (.iload 5) 2 176 := ⟨by decide +kernel, rfl⟩
theorem e_X11_least_176 : DC cX11_least 176 (.ineg) 1 177 := ⟨by decide +kernel, rfl⟩
theorem e_X11_least_177 : DC cX11_least 177 (.iand) 1 178 := ⟨by decide +kernel, rfl⟩
theorem e_X11_least_178 : DC cX11_least 178 (.istore 6) 2 180 := ⟨by decide +kernel, rfl⟩
theorem e_X11_least_180 : DC cX11_least 180 (.iconst 1) 1 181 := ⟨by decide +kernel, rfl⟩
theorem e_X11_least_181 : DC cX11_least 181 (.istore 7) 2 183 := ⟨by decide +kernel, rfl⟩
theorem e_X11_least_183 : DC cX11_least 183 (.iload 7) 2 185 := ⟨by decide +kernel, rfl⟩
theorem e_X11_least_185 : DC cX11_least 185 (.iload 5) 2 187 := ⟨by decide +kernel, rfl⟩
theorem e_X11_least_187 : DB cX11_least 187 (.if_icmp .gt 104) (104) 3 190 291 := ⟨by decide +kernel, rfl, rfl⟩
theorem e_X11_least_190 : DC cX11_least 190 (.iload 7) 2 192 := ⟨by decide +kernel, rfl⟩
theorem e_X11_least_192 : DC cX11_least 192 (.iload 5) 2 194 := ⟨by decide +kernel, rfl⟩
theorem e_X11_least_194 : DC cX11_least 194 (.iconst (-1)) 1 195 := ⟨by decide +kernel, rfl⟩
theorem e_X11_least_195 : DC cX11_least 195 (.ixor) 1 196 := ⟨by decide +kernel, rfl⟩
theorem e_X11_least_196 : DC cX11_least 196 (.iand) 1 197 := ⟨by decide +kernel, rfl⟩
theorem e_X11_least_197 : DB cX11_least 197 (.ifCond .ne 88) (88) 3 200 285 := ⟨by decide +kernel, rfl, rfl⟩
theorem e_X11_least_200 : DC cX11_least 200 (.iload 7) 2 202 := ⟨by decide +kernel, rfl⟩
theorem e_X11_least_202 : DC cX11_least 202 (.iload 6) 2 204 := ⟨by decide +kernel, rfl⟩
theorem e_X11_least_204 : DC cX11_least 204 (.iand) 1 205 := ⟨by decide +kernel, rfl⟩
theorem e_X11_least_205 : DB cX11_least 205 (.ifCond .eq 80) (80) 3 208 285 := ⟨by decide +kernel, rfl, rfl⟩
theorem e_X11_least_208 : DC cX11_least 208 (.aload_n 0) 1 209 := ⟨by decide +kernel, rfl⟩
theorem e_X11_least_209 : DC cX11_least 209 (.getfield 72) 3 212 := ⟨by decide +kernel, rfl⟩
theorem e_X11_least_212 : DC cX11_least 212 (.iload 7) 2 214 := ⟨by decide +kernel, rfl⟩
theorem e_X11_least_214 : DC cX11_least 214 (.iaload) 1 215 := ⟨by decide +kernel, rfl⟩
theorem e_X11_least_215 : DC cX11_least 215 (.iconst (-1)) 1 216 := ⟨by decide +kernel, rfl⟩
theorem e_X11_least_216 : DB cX11_least 216 (.if_icmp .eq 69) (69) 3 219 285 := ⟨by decide +kernel, rfl, rfl⟩
theorem e_X11_least_219 : DC cX11_least 219 (.aload_n 0) 1 220 := ⟨by decide +kernel, rfl⟩
theorem e_X11_least_220 : DC cX11_least 220 (.getfield 72) 3 223 := ⟨by decide +kernel, rfl⟩
theorem e_X11_least_223 : DC cX11_least 223 (.iload 7) 2 225 := ⟨by decide +kernel, rfl⟩
theorem e_X11_least_225 : DC cX11_least 225 (.iaload) 1 226 := ⟨by decide +kernel, rfl⟩
theorem e_X11_least_226 : DC cX11_least 226 (.aload_n 0) 1 227 := ⟨by decide +kernel, rfl⟩
theorem e_X11_least_227 : DC cX11_least 227 (.getfield 75) 3 230 := ⟨by decide +kernel, rfl⟩
theorem e_X11_least_230 : DC cX11_least 230 (.iload 5) 2 232 := ⟨by decide +kernel, rfl⟩
theorem e_X11_least_232 : DC cX11_least 232 (.iload 7) 2 234 := ⟨by decide +kernel, rfl⟩
theorem e_X11_least_234 : DC cX11_least 234 (.iconst (-1)) 1 235 := ⟨by decide +kernel, rfl⟩
theorem e_X11_least_235 : DC cX11_least 235 (.ixor) 1 236 := ⟨by decide +kernel, rfl⟩
theorem e_X11_least_236 : DC cX11_least 236 (.iand) 1 237 := ⟨by decide +kernel, rfl⟩
theorem e_X11_least_237 : DC cX11_least 237 (.iaload) 1 238 := ⟨by decide +kernel, rfl⟩
theorem e_X11_least_238 : DC cX11_least 238 (.iadd) 1 239 := ⟨by decide +kernel, rfl⟩
theorem e_X11_least_239 : DC cX11_least 239 (.istore 8) 2 241 := ⟨by decide +kernel, rfl⟩
theorem e_X11_least_241 : DC cX11_least 241 (.aload_n 0) 1 242 := ⟨by decide +kernel, rfl⟩
theorem e_X11_least_242 : DC cX11_least 242 (.getfield 75) 3 245 := ⟨by decide +kernel, rfl⟩
theorem e_X11_least_245 : DC cX11_least 245 (.iload 5) 2 247 := ⟨by decide +kernel, rfl⟩
theorem e_X11_least_247 : DC cX11_least 247 (.aload_n 0) 1 248 := ⟨by decide +kernel, rfl⟩
theorem e_X11_least_248 : DC cX11_least 248 (.getfield 75) 3 251 := ⟨by decide +kernel, rfl⟩
theorem e_X11_least_251 : DC cX11_least 251 (.iload 5) 2 253 := ⟨by decide +kernel, rfl⟩
theorem e_X11_least_253 : DC cX11_least 253 (.iaload) 1 254 := ⟨by decide +kernel, rfl⟩
theorem e_X11_least_254 : DC cX11_least 254 (.ldc_w 301) 3 257 := ⟨by decide +kernel, rfl⟩
theorem e_X11_least_257 : DB cX11_least 257 (.if_icmp .eq 15) (15) 3 260 272 := ⟨by decide +kernel, rfl, rfl⟩
theorem e_X11_least_260 : DC cX11_least 260 (.iload 8) 2 262 := ⟨by decide +kernel, rfl⟩
theorem e_X11_least_262 : DC cX11_least 262 (.aload_n 0) 1 263 := ⟨by decide +kernel, rfl⟩
theorem e_X11_least_263 : DC cX11_least 263 (.getfield 75) 3 266 := ⟨by decide +kernel, rfl⟩
theorem e_X11_least_266 : DC cX11_least 266 (.iload 5) 2 268 := ⟨by decide +kernel, rfl⟩
theorem e_X11_least_268 : DC cX11_least 268 (.iaload) 1 269 := ⟨by decide +kernel, rfl⟩
theorem e_X11_least_269 : DB cX11_least 269 (.if_icmp .ge 8) (8) 3 272 277 := ⟨by decide +kernel, rfl, rfl⟩
theorem e_X11_least_272 : DC cX11_least 272 (.iload 8) 2 274 := ⟨by decide +kernel, rfl⟩
theorem e_X11_least_274 : DB cX11_least 274 (.goto 10) (10) 3 277 284 := ⟨by decide +kernel, rfl, rfl⟩
theorem e_X11_least_277 : DC cX11_least 277 (.aload_n 0) 1 278 := ⟨by decide +kernel, rfl⟩
theorem e_X11_least_278 : DC cX11_least 278 (.getfield 75) 3 281 := ⟨by decide +kernel, rfl⟩
theorem e_X11_least_281 : DC cX11_least 281 (.iload 5) 2 283 := ⟨by decide +kernel, rfl⟩
theorem e_X11_least_283 : DC cX11_least 283 (.iaload) 1 284 := ⟨by decide +kernel, rfl⟩
theorem e_X11_least_284 : DC cX11_least 284 (.iastore) 1 285 := ⟨by decide +kernel, rfl⟩
theorem e_X11_least_285 : DC cX11_least 285 (.iinc 7 1) 3 288 := ⟨by decide +kernel, rfl⟩
theorem e_X11_least_288 : DB cX11_least 288 (.goto (-105)) (-105) 3 291 183 := ⟨by decide +kernel, rfl, rfl⟩
theorem e_X11_least_291 : DC cX11_least 291 (.iinc 5 1) 3 294 := ⟨by decide +kernel, rfl⟩
theorem e_X11_least_294 : DB cX11_least 294 (.goto (-141)) (-141) 3 297 153 := ⟨by decide +kernel, rfl, rfl⟩
theorem e_X11_least_297 : DC cX11_least 297 (.iconst 1) 1 298 := ⟨by decide +kernel, rfl⟩
theorem e_X11_least_298 : DC cX11_least 298 (.iload 4) 2 300 := ⟨by decide +kernel, rfl⟩
theorem e_X11_least_300 : DC cX11_least 300 (.ishl) 1 301 := ⟨by decide +kernel, rfl⟩
theorem e_X11_least_301 : DC cX11_least 301 (.iconst 1) 1 302 := ⟨by decide +kernel, rfl⟩
theorem e_X11_least_302 : DC cX11_least 302 (.isub) 1 303 := ⟨by decide +kernel, rfl⟩
theorem e_X11_least_303 : DC cX11_least 303 (.istore 5) 2 305 := ⟨by decide +kernel, rfl⟩
theorem e_X11_least_305 : DC cX11_least 305 (.iconst 0) 1 306 := ⟨by decide +kernel, rfl⟩
theorem e_X11_least_306 : DC cX11_least 306 (.istore 6) 2 308 := ⟨by decide +kernel, rfl⟩
theorem e_X11_least_308 : DC cX11_least 308 (.iload 5) 2 310 := ⟨by decide +kernel, rfl⟩
theorem e_X11_least_310 : DB cX11_least 310 (.ifCond .eq 141) (141) 3 313 451 := ⟨by decide +kernel, rfl, rfl⟩
theorem e_X11_least_313 : DC cX11_least 313 (.iload 5) 2 315 := ⟨by decide +kernel, rfl⟩
theorem e_X11_least_315 : DC cX11_least 315 (.iload 5) 2 317 := ⟨by decide +kernel, rfl⟩
theorem e_X11_least_317 : DC cX11_least 317 (.ineg) 1 318 := ⟨by decide +kernel, rfl⟩
theorem e_X11_least_318 : DC cX11_least 318 (.iand) 1 319 := ⟨by decide +kernel, rfl⟩
theorem e_X11_least_319 : DC cX11_least 319 (.istore 7) 2 321 := ⟨by decide +kernel, rfl⟩
theorem e_X11_least_321 : DC cX11_least 321 (.iload 7) 2 323 := ⟨by decide +kernel, rfl⟩
theorem e_X11_least_323 : DC cX11_least 323 (.istore 8) 2 325 := ⟨by decide +kernel, rfl⟩
theorem e_X11_least_325 : DC cX11_least 325 (.iload 8) 2 327 := ⟨by decide +kernel, rfl⟩
theorem e_X11_least_327 : DC cX11_least 327 (.iload 5) 2 329 := ⟨by decide +kernel, rfl⟩
theorem e_X11_least_329 : DC cX11_least 329 (.iconst (-1)) 1 330 := ⟨by decide +kernel, rfl⟩
theorem e_X11_least_330 : DC cX11_least 330 (.ixor) 1 331 := ⟨by decide +kernel, rfl⟩
theorem e_X11_least_331 : DC cX11_least 331 (.iand) 1 332 := ⟨by decide +kernel, rfl⟩
theorem e_X11_least_332 : DB cX11_least 332 (.ifCond .ne 52) (52) 3 335 384 := ⟨by decide +kernel, rfl, rfl⟩
theorem e_X11_least_335 : DC cX11_least 335 (.iload 8) 2 337 := ⟨by decide +kernel, rfl⟩
theorem e_X11_least_337 : DC cX11_least 337 (.iload 7) 2 339 := ⟨by decide +kernel, rfl⟩
theorem e_X11_least_339 : DC cX11_least 339 (.iand) 1 340 := ⟨by decide +kernel, rfl⟩
theorem e_X11_least_340 : DB cX11_least 340 (.ifCond .eq 44) (44) 3 343 384 := ⟨by decide +kernel, rfl, rfl⟩
theorem e_X11_least_343 : DC cX11_least 343 (.aload_n 0) 1 344 := ⟨by decide +kernel, rfl⟩
theorem e_X11_least_344 : DC cX11_least 344 (.getfield 72) 3 347 := ⟨by decide +kernel, rfl⟩
theorem e_X11_least_347 : DC cX11_least 347 (.iload 8) 2 349 := ⟨by decide +kernel, rfl⟩
theorem e_X11_least_349 : DC cX11_least 349 (.iaload) 1 350 := ⟨by decide +kernel, rfl⟩
theorem e_X11_least_350 : DC cX11_least 350 (.iconst (-1)) 1 351 := ⟨by decide +kernel, rfl⟩
theorem e_X11_least_351 : DB cX11_least 351 (.if_icmp .eq 33) (33) 3 354 384 := ⟨by decide +kernel, rfl, rfl⟩
theorem e_X11_least_354 : DC cX11_least 354 (.aload_n 0) 1 355 := ⟨by decide +kernel, rfl⟩
theorem e_X11_least_355 : DC cX11_least 355 (.getfield 72) 3 358 := ⟨by decide +kernel, rfl⟩
theorem e_X11_least_358 : DC cX11_least 358 (.iload 8) 2 360 := ⟨by decide +kernel, rfl⟩
theorem e_X11_least_360 : DC cX11_least 360 (.iaload) 1 361 := ⟨by decide +kernel, rfl⟩
theorem e_X11_least_361 : DC cX11_least 361 (.aload_n 0) 1 362 := ⟨by decide +kernel, rfl⟩
theorem e_X11_least_362 : DC cX11_least 362 (.getfield 75) 3 365 := ⟨by decide +kernel, rfl⟩
theorem e_X11_least_365 : DC cX11_least 365 (.iload 5) 2 367 := ⟨by decide +kernel, rfl⟩
theorem e_X11_least_367 : DC cX11_least 367 (.iload 8) 2 369 := ⟨by decide +kernel, rfl⟩
theorem e_X11_least_369 : DC cX11_least 369 (.iconst (-1)) 1 370 := ⟨by decide +kernel, rfl⟩
theorem e_X11_least_370 : DC cX11_least 370 (.ixor) 1 371 := ⟨by decide +kernel, rfl⟩
theorem e_X11_least_371 : DC cX11_least 371 (.iand) 1 372 := ⟨by decide +kernel, rfl⟩
theorem e_X11_least_372 : DC cX11_least 372 (.iaload) 1 373 := ⟨by decide +kernel, rfl⟩
theorem e_X11_least_373 : DC cX11_least 373 (.iadd) 1 374 := ⟨by decide +kernel, rfl⟩
theorem e_X11_least_374 : DC cX11_least 374 (.aload_n 0) 1 375 := ⟨by decide +kernel, rfl⟩
theorem e_X11_least_375 : DC cX11_least 375 (.getfield 75) 3 378 := ⟨by decide +kernel, rfl⟩
theorem e_X11_least_378 : DC cX11_least 378 (.iload 5) 2 380 := ⟨by decide +kernel, rfl⟩
theorem e_X11_least_380 : DC cX11_least 380 (.iaload) 1 381 := ⟨by decide +kernel, rfl⟩
theorem e_X11_least_381 : DB cX11_least 381 (.if_icmp .eq 9) (9) 3 384 390 := ⟨by decide +kernel, rfl, rfl⟩
theorem e_X11_least_384 : DC cX11_least 384 (.iinc 8 1) 3 387 := ⟨by decide +kernel, rfl⟩
theorem e_X11_least_387 : DB cX11_least 387 (.goto (-62)) (-62) 3 390 325 := ⟨by decide +kernel, rfl, rfl⟩
theorem e_X11_least_390 : DC cX11_least 390 (.iconst 0) 1 391 := ⟨by decide +kernel, rfl⟩
theorem e_X11_least_391 : DC cX11_least 391 (.istore 9) 2 393 := ⟨by decide +kernel, rfl⟩
theorem e_X11_least_393 : DC cX11_least 393 (.iload 9) 2 395 := ⟨by decide +kernel, rfl⟩
theorem e_X11_least_395 : DC cX11_least 395 (.iload 4) 2 397 := ⟨by decide +kernel, rfl⟩
theorem e_X11_least_397 : DB cX11_least 397 (.if_icmp .ge 39) (39) 3 400 436 := ⟨by decide +kernel, rfl, rfl⟩
theorem e_X11_least_400 : DC cX11_least 400 (.aload_n 0) 1 401 := ⟨by decide +kernel, rfl⟩
theorem e_X11_least_401 : DC cX11_least 401 (.getfield 78) 3 404 := ⟨by decide +kernel, rfl⟩
theorem e_X11_least_404 : DC cX11_least 404 (.iload 9) 2 406 := ⟨by decide +kernel, rfl⟩
theorem e_X11_least_406 : DC cX11_least 406 (.iload 8) 2 408 := ⟨by decide +kernel, rfl⟩
theorem e_X11_least_408 : DC cX11_least 408 (.iload 9) 2 410 := ⟨by decide +kernel, rfl⟩
theorem e_X11_least_410 : DC cX11_least 410 (.ishr) 1 411 := ⟨by decide +kernel, rfl⟩
theorem e_X11_least_411 : DC cX11_least 411 (.iconst 1) 1 412 := ⟨by decide +kernel, rfl⟩
theorem e_X11_least_412 : DC cX11_least 412 (.iand) 1 413 := ⟨by decide +kernel, rfl⟩
theorem e_X11_least_413 : DC cX11_least 413 (.iconst 1) 1 414 := ⟨by decide +kernel, rfl⟩
theorem e_X11_least_414 : DB cX11_least 414 (.if_icmp .ne 8) (8) 3 417 422 := ⟨by decide +kernel, rfl, rfl⟩
theorem e_X11_least_417 : DC cX11_least 417 (.iload 6) 2 419 := ⟨by decide +kernel, rfl⟩
theorem e_X11_least_419 : DB cX11_least 419 (.goto 10) (10) 3 422 429 := ⟨by decide +kernel, rfl, rfl⟩
theorem e_X11_least_422 : DC cX11_least 422 (.aload_n 0) 1 423 := ⟨by decide +kernel, rfl⟩
theorem e_X11_least_423 : DC cX11_least 423 (.getfield 78) 3 426 := ⟨by decide +kernel, rfl⟩
theorem e_X11_least_426 : DC cX11_least 426 (.iload 9) 2 428 := ⟨by decide +kernel, rfl⟩
theorem e_X11_least_428 : DC cX11_least 428 (.iaload) 1 429 := ⟨by decide +kernel, rfl⟩
theorem e_X11_least_429 : DC cX11_least 429 (.iastore) 1 430 := ⟨by decide +kernel, rfl⟩
theorem e_X11_least_430 : DC cX11_least 430 (.iinc 9 1) 3 433 := ⟨by decide +kernel, rfl⟩
theorem e_X11_least_433 : DB cX11_least 433 (.goto (-40)) (-40) 3 436 393 := ⟨by decide +kernel, rfl, rfl⟩
theorem e_X11_least_436 : DC cX11_least 436 (.iload 5) 2 438 := ⟨by decide +kernel, rfl⟩
theorem e_X11_least_438 : DC cX11_least 438 (.iload 8) 2 440 := ⟨by decide +kernel, rfl⟩
theorem e_X11_least_440 : DC cX11_least 440 (.iconst (-1)) 1 441 := ⟨by decide +kernel, rfl⟩
theorem e_X11_least_441 : DC cX11_least 441 (.ixor) 1 442 := ⟨by decide +kernel, rfl⟩
theorem e_X11_least_442 : DC cX11_least 442 (.iand) 1 443 := ⟨by decide +kernel, rfl⟩
theorem e_X11_least_443 : DC cX11_least 443 (.istore 5) 2 445 := ⟨by decide +kernel, rfl⟩
theorem e_X11_least_445 : DC cX11_least 445 (.iinc 6 1) 3 448 := ⟨by decide +kernel, rfl⟩
theorem e_X11_least_448 : DB cX11_least 448 (.goto (-140)) (-140) 3 451 308 := ⟨by decide +kernel, rfl, rfl⟩
theorem e_X11_least_451 : DC cX11_least 451 (.aload_n 0) 1 452 := ⟨by decide +kernel, rfl⟩
theorem e_X11_least_452 : DC cX11_least 452 (.iload 4) 2 454 := ⟨by decide +kernel, rfl⟩
theorem e_X11_least_454 : DC cX11_least 454 (.putfield 302) 3 457 := ⟨by decide +kernel, rfl⟩
theorem e_X11_least_457 : DC cX11_least 457 (.aload_n 0) 1 458 := ⟨by decide +kernel, rfl⟩
theorem e_X11_least_458 : DC cX11_least 458 (.getfield 75) 3 461 := ⟨by decide +kernel, rfl⟩
theorem e_X11_least_461 : DC cX11_least 461 (.iconst 1) 1 462 := ⟨by decide +kernel, rfl⟩
theorem e_X11_least_462 : DC cX11_least 462 (.iload 4) 2 464 := ⟨by decide +kernel, rfl⟩
theorem e_X11_least_464 : DC cX11_least 464 (.ishl) 1 465 := ⟨by decide +kernel, rfl⟩
theorem e_X11_least_465 : DC cX11_least 465 (.iconst 1) 1 466 := ⟨by decide +kernel, rfl⟩
theorem e_X11_least_466 : DC cX11_least 466 (.isub) 1 467 := ⟨by decide +kernel, rfl⟩
theorem e_X11_least_467 : DC cX11_least 467 (.iaload) 1 468 := ⟨by decide +kernel, rfl⟩
theorem e_X11_least_468 : DC cX11_least 468 (.ireturn) 1 469 := ⟨by decide +kernel, rfl⟩
noncomputable def m_X11_least_95 (t_lines : Int) (t_isGone : Nat → Int) (t_start : Nat → Int) (t_goal : Nat → Int) (t_choice : Nat → Int) (v1 : Int) (v2 : Int) (v4 : Int) (v5 : Int) (ag : (Nat → Int) → Int → Int → Option (Int × Int × (Nat → Int) × (Nat → Int) × (Nat → Int) × (Nat → Int))) (k_101 : (Nat → Int) → Int → Int → Option (Int × Int × (Nat → Int) × (Nat → Int) × (Nat → Int) × (Nat → Int))) (k_81 : (Nat → Int) → Int → Int → Option (Int × Int × (Nat → Int) × (Nat → Int) × (Nat → Int) × (Nat → Int))) : Option (Int × Int × (Nat → Int) × (Nat → Int) × (Nat → Int) × (Nat → Int)) :=
  chk (inI (v5 + 1)) (ag t_choice v4 (v5 + 1))

set_option maxRecDepth 10000 in
set_option maxHeartbeats 8000000 in
theorem g_X11_least_95 {l : Launch} {E : EE} {b0 n : Nat} {h : AH} {a_t : Nat} {t_thrown t_taped t_p t_fault t_baseLow t_baseHigh t_newBaseLow t_newBaseHigh t_from t_knots t_lines t_chosen t_undos t_redos t_aimedMany t_fits t_fitOf t_sights t_systems t_own t_cross t_curveLong t_wallFirst v1 v2 v4 v5 : Int} {t_many t_way t_isGone t_start t_goal t_line t_choice t_cost t_best t_groupOf : Nat → Int} {r : Int × Int × (Nat → Int) × (Nat → Int) × (Nat → Int) × (Nat → Int)} {ag : (Nat → Int) → Int → Int → Option (Int × Int × (Nat → Int) × (Nat → Int) × (Nat → Int) × (Nat → Int))} {k_101 : (Nat → Int) → Int → Int → Option (Int × Int × (Nat → Int) × (Nat → Int) × (Nat → Int) × (Nat → Int))} {k_81 : (Nat → Int) → Int → Int → Option (Int × Int × (Nat → Int) × (Nat → Int) × (Nat → Int) × (Nat → Int))} (ao : AO b0 n [a_t, (a_t + 2), (a_t + 4), (a_t + 15), (a_t + 16), (a_t + 17), (a_t + 18), (a_t + 20), (a_t + 21), (a_t + 22), (a_t + 23)]) (ok_t_knots : inI t_knots) (ok_t_lines : inI t_lines) (ok_t_chosen : inI t_chosen) (ok_t_many : okA t_many) (ok_t_way : okA t_way) (ok_t_isGone : okZ t_isGone) (ok_t_start : okA t_start) (ok_t_goal : okA t_goal) (ok_t_line : okA t_line) (ok_t_choice : okA t_choice) (ok_t_cost : okA t_cost) (ok_t_best : okA t_best) (ok_t_groupOf : okA t_groupOf) (ok_v1 : inI v1) (ok_v2 : inJ v2) (ok_v4 : inI v4) (ok_v5 : inI v5) (hag : ∀ (t_choice_ : Nat → Int) (v4_ : Int) (v5_ : Int), okA t_choice_ → inI v4_ → inI v5_ → ag t_choice_ v4_ v5_ = some r → G l E b0 M_X11_least (fun _ => True) (ZM E b0 (some (vI r.1)) (ov [a_t, (a_t + 2), (a_t + 4), (a_t + 15), (a_t + 16), (a_t + 17), (a_t + 18), (a_t + 20), (a_t + 21), (a_t + 22), (a_t + 23)] [.inr (11, fsX11 a_t t_thrown t_taped t_p t_fault t_baseLow t_baseHigh t_newBaseLow t_newBaseHigh t_from t_knots t_lines r.2.1 t_undos t_redos t_aimedMany t_fits t_fitOf t_sights t_systems t_own t_cross t_curveLong t_wallFirst), IA E 7 t_many, IA E 144 t_way, ZA E 120 t_isGone, IA E 120 t_start, IA E 120 t_goal, IA E 360 t_line, IA E 8 r.2.2.1, IA E 256 r.2.2.2.1, IA E 256 r.2.2.2.2.1, IA E 8 r.2.2.2.2.2] h) n (inI r.1 ∧ inI r.2.1 ∧ okA r.2.2.1 ∧ okA r.2.2.2.1 ∧ okA r.2.2.2.2.1 ∧ okA r.2.2.2.2.2) 0 0) 0 0 n (ov [a_t, (a_t + 2), (a_t + 4), (a_t + 15), (a_t + 16), (a_t + 17), (a_t + 18), (a_t + 20), (a_t + 21), (a_t + 22), (a_t + 23)] [.inr (11, fsX11 a_t t_thrown t_taped t_p t_fault t_baseLow t_baseHigh t_newBaseLow t_newBaseHigh t_from t_knots t_lines t_chosen t_undos t_redos t_aimedMany t_fits t_fitOf t_sights t_systems t_own t_cross t_curveLong t_wallFirst), IA E 7 t_many, IA E 144 t_way, ZA E 120 t_isGone, IA E 120 t_start, IA E 120 t_goal, IA E 360 t_line, IA E 8 t_choice_, IA E 256 t_cost, IA E 256 t_best, IA E 8 t_groupOf] h) 25 [some (.ref a_t), some (vI v1), some (vJ v2), none, some (vI v4_), some (vI v5_), none, none, none, none] []) (hk_101 : ∀ (t_choice_ : Nat → Int) (v4_ : Int) (v5_ : Int), okA t_choice_ → inI v4_ → inI v5_ → k_101 t_choice_ v4_ v5_ = some r → G l E b0 M_X11_least (fun _ => True) (ZM E b0 (some (vI r.1)) (ov [a_t, (a_t + 2), (a_t + 4), (a_t + 15), (a_t + 16), (a_t + 17), (a_t + 18), (a_t + 20), (a_t + 21), (a_t + 22), (a_t + 23)] [.inr (11, fsX11 a_t t_thrown t_taped t_p t_fault t_baseLow t_baseHigh t_newBaseLow t_newBaseHigh t_from t_knots t_lines r.2.1 t_undos t_redos t_aimedMany t_fits t_fitOf t_sights t_systems t_own t_cross t_curveLong t_wallFirst), IA E 7 t_many, IA E 144 t_way, ZA E 120 t_isGone, IA E 120 t_start, IA E 120 t_goal, IA E 360 t_line, IA E 8 r.2.2.1, IA E 256 r.2.2.2.1, IA E 256 r.2.2.2.2.1, IA E 8 r.2.2.2.2.2] h) n (inI r.1 ∧ inI r.2.1 ∧ okA r.2.2.1 ∧ okA r.2.2.2.1 ∧ okA r.2.2.2.2.1 ∧ okA r.2.2.2.2.2) 0 0) 0 0 n (ov [a_t, (a_t + 2), (a_t + 4), (a_t + 15), (a_t + 16), (a_t + 17), (a_t + 18), (a_t + 20), (a_t + 21), (a_t + 22), (a_t + 23)] [.inr (11, fsX11 a_t t_thrown t_taped t_p t_fault t_baseLow t_baseHigh t_newBaseLow t_newBaseHigh t_from t_knots t_lines t_chosen t_undos t_redos t_aimedMany t_fits t_fitOf t_sights t_systems t_own t_cross t_curveLong t_wallFirst), IA E 7 t_many, IA E 144 t_way, ZA E 120 t_isGone, IA E 120 t_start, IA E 120 t_goal, IA E 360 t_line, IA E 8 t_choice_, IA E 256 t_cost, IA E 256 t_best, IA E 8 t_groupOf] h) 101 [some (.ref a_t), some (vI v1), none, none, some (vI v4_), none, none, none, none, none] []) (hk_81 : ∀ (t_choice_ : Nat → Int) (v4_ : Int) (v5_ : Int), okA t_choice_ → inI v4_ → inI v5_ → k_81 t_choice_ v4_ v5_ = some r → G l E b0 M_X11_least (fun _ => True) (ZM E b0 (some (vI r.1)) (ov [a_t, (a_t + 2), (a_t + 4), (a_t + 15), (a_t + 16), (a_t + 17), (a_t + 18), (a_t + 20), (a_t + 21), (a_t + 22), (a_t + 23)] [.inr (11, fsX11 a_t t_thrown t_taped t_p t_fault t_baseLow t_baseHigh t_newBaseLow t_newBaseHigh t_from t_knots t_lines r.2.1 t_undos t_redos t_aimedMany t_fits t_fitOf t_sights t_systems t_own t_cross t_curveLong t_wallFirst), IA E 7 t_many, IA E 144 t_way, ZA E 120 t_isGone, IA E 120 t_start, IA E 120 t_goal, IA E 360 t_line, IA E 8 r.2.2.1, IA E 256 r.2.2.2.1, IA E 256 r.2.2.2.2.1, IA E 8 r.2.2.2.2.2] h) n (inI r.1 ∧ inI r.2.1 ∧ okA r.2.2.1 ∧ okA r.2.2.2.1 ∧ okA r.2.2.2.2.1 ∧ okA r.2.2.2.2.2) 0 0) 0 0 n (ov [a_t, (a_t + 2), (a_t + 4), (a_t + 15), (a_t + 16), (a_t + 17), (a_t + 18), (a_t + 20), (a_t + 21), (a_t + 22), (a_t + 23)] [.inr (11, fsX11 a_t t_thrown t_taped t_p t_fault t_baseLow t_baseHigh t_newBaseLow t_newBaseHigh t_from t_knots t_lines t_chosen t_undos t_redos t_aimedMany t_fits t_fitOf t_sights t_systems t_own t_cross t_curveLong t_wallFirst), IA E 7 t_many, IA E 144 t_way, ZA E 120 t_isGone, IA E 120 t_start, IA E 120 t_goal, IA E 360 t_line, IA E 8 t_choice_, IA E 256 t_cost, IA E 256 t_best, IA E 8 t_groupOf] h) 81 [none, none, none, none, none, none, none, none, none, none] []) (hs : m_X11_least_95 t_lines t_isGone t_start t_goal t_choice v1 v2 v4 v5 ag k_101 k_81 = some r) : G l E b0 M_X11_least (fun _ => True) (ZM E b0 (some (vI r.1)) (ov [a_t, (a_t + 2), (a_t + 4), (a_t + 15), (a_t + 16), (a_t + 17), (a_t + 18), (a_t + 20), (a_t + 21), (a_t + 22), (a_t + 23)] [.inr (11, fsX11 a_t t_thrown t_taped t_p t_fault t_baseLow t_baseHigh t_newBaseLow t_newBaseHigh t_from t_knots t_lines r.2.1 t_undos t_redos t_aimedMany t_fits t_fitOf t_sights t_systems t_own t_cross t_curveLong t_wallFirst), IA E 7 t_many, IA E 144 t_way, ZA E 120 t_isGone, IA E 120 t_start, IA E 120 t_goal, IA E 360 t_line, IA E 8 r.2.2.1, IA E 256 r.2.2.2.1, IA E 256 r.2.2.2.2.1, IA E 8 r.2.2.2.2.2] h) n (inI r.1 ∧ inI r.2.1 ∧ okA r.2.2.1 ∧ okA r.2.2.2.1 ∧ okA r.2.2.2.2.1 ∧ okA r.2.2.2.2.2) 0 0) 0 0 n (ov [a_t, (a_t + 2), (a_t + 4), (a_t + 15), (a_t + 16), (a_t + 17), (a_t + 18), (a_t + 20), (a_t + 21), (a_t + 22), (a_t + 23)] [.inr (11, fsX11 a_t t_thrown t_taped t_p t_fault t_baseLow t_baseHigh t_newBaseLow t_newBaseHigh t_from t_knots t_lines t_chosen t_undos t_redos t_aimedMany t_fits t_fitOf t_sights t_systems t_own t_cross t_curveLong t_wallFirst), IA E 7 t_many, IA E 144 t_way, ZA E 120 t_isGone, IA E 120 t_start, IA E 120 t_goal, IA E 360 t_line, IA E 8 t_choice, IA E 256 t_cost, IA E 256 t_best, IA E 8 t_groupOf] h) 95 [some (.ref a_t), some (vI v1), some (vJ v2), none, some (vI v4), some (vI v5), none, none, none, none] [] := by
  rw [m_X11_least_95] at hs
  refine g_iinc e_X11_least_95 rfl st1_5 rfl ?_
  refine g_goto e_X11_least_98 ?_
  obtain ⟨hc5, hs⟩ := chk_elim hs
  exact hag _ _ _ ok_t_choice ok_v4 hc5 hs

noncomputable def m_X11_least_83 (t_lines : Int) (t_isGone : Nat → Int) (t_start : Nat → Int) (t_goal : Nat → Int) (t_choice : Nat → Int) (v1 : Int) (v2 : Int) (v4 : Int) (v5 : Int) (ag : (Nat → Int) → Int → Int → Option (Int × Int × (Nat → Int) × (Nat → Int) × (Nat → Int) × (Nat → Int))) (k_101 : (Nat → Int) → Int → Int → Option (Int × Int × (Nat → Int) × (Nat → Int) × (Nat → Int) × (Nat → Int))) (k_81 : (Nat → Int) → Int → Int → Option (Int × Int × (Nat → Int) × (Nat → Int) × (Nat → Int) × (Nat → Int))) : Option (Int × Int × (Nat → Int) × (Nat → Int) × (Nat → Int) × (Nat → Int)) :=
  chk (inB v4 8) (chk (inI (v4 + 1)) (m_X11_least_95 t_lines t_isGone t_start t_goal (up t_choice (Int.toNat v4) v5) v1 v2 (v4 + 1) v5 ag k_101 k_81))

set_option maxRecDepth 10000 in
set_option maxHeartbeats 8000000 in
theorem g_X11_least_83 {l : Launch} {E : EE} {b0 n : Nat} {h : AH} {a_t : Nat} {t_thrown t_taped t_p t_fault t_baseLow t_baseHigh t_newBaseLow t_newBaseHigh t_from t_knots t_lines t_chosen t_undos t_redos t_aimedMany t_fits t_fitOf t_sights t_systems t_own t_cross t_curveLong t_wallFirst v1 v2 v4 v5 : Int} {t_many t_way t_isGone t_start t_goal t_line t_choice t_cost t_best t_groupOf : Nat → Int} {r : Int × Int × (Nat → Int) × (Nat → Int) × (Nat → Int) × (Nat → Int)} {ag : (Nat → Int) → Int → Int → Option (Int × Int × (Nat → Int) × (Nat → Int) × (Nat → Int) × (Nat → Int))} {k_101 : (Nat → Int) → Int → Int → Option (Int × Int × (Nat → Int) × (Nat → Int) × (Nat → Int) × (Nat → Int))} {k_81 : (Nat → Int) → Int → Int → Option (Int × Int × (Nat → Int) × (Nat → Int) × (Nat → Int) × (Nat → Int))} (ao : AO b0 n [a_t, (a_t + 2), (a_t + 4), (a_t + 15), (a_t + 16), (a_t + 17), (a_t + 18), (a_t + 20), (a_t + 21), (a_t + 22), (a_t + 23)]) (ok_t_knots : inI t_knots) (ok_t_lines : inI t_lines) (ok_t_chosen : inI t_chosen) (ok_t_many : okA t_many) (ok_t_way : okA t_way) (ok_t_isGone : okZ t_isGone) (ok_t_start : okA t_start) (ok_t_goal : okA t_goal) (ok_t_line : okA t_line) (ok_t_choice : okA t_choice) (ok_t_cost : okA t_cost) (ok_t_best : okA t_best) (ok_t_groupOf : okA t_groupOf) (ok_v1 : inI v1) (ok_v2 : inJ v2) (ok_v4 : inI v4) (ok_v5 : inI v5) (hag : ∀ (t_choice_ : Nat → Int) (v4_ : Int) (v5_ : Int), okA t_choice_ → inI v4_ → inI v5_ → ag t_choice_ v4_ v5_ = some r → G l E b0 M_X11_least (fun _ => True) (ZM E b0 (some (vI r.1)) (ov [a_t, (a_t + 2), (a_t + 4), (a_t + 15), (a_t + 16), (a_t + 17), (a_t + 18), (a_t + 20), (a_t + 21), (a_t + 22), (a_t + 23)] [.inr (11, fsX11 a_t t_thrown t_taped t_p t_fault t_baseLow t_baseHigh t_newBaseLow t_newBaseHigh t_from t_knots t_lines r.2.1 t_undos t_redos t_aimedMany t_fits t_fitOf t_sights t_systems t_own t_cross t_curveLong t_wallFirst), IA E 7 t_many, IA E 144 t_way, ZA E 120 t_isGone, IA E 120 t_start, IA E 120 t_goal, IA E 360 t_line, IA E 8 r.2.2.1, IA E 256 r.2.2.2.1, IA E 256 r.2.2.2.2.1, IA E 8 r.2.2.2.2.2] h) n (inI r.1 ∧ inI r.2.1 ∧ okA r.2.2.1 ∧ okA r.2.2.2.1 ∧ okA r.2.2.2.2.1 ∧ okA r.2.2.2.2.2) 0 0) 0 0 n (ov [a_t, (a_t + 2), (a_t + 4), (a_t + 15), (a_t + 16), (a_t + 17), (a_t + 18), (a_t + 20), (a_t + 21), (a_t + 22), (a_t + 23)] [.inr (11, fsX11 a_t t_thrown t_taped t_p t_fault t_baseLow t_baseHigh t_newBaseLow t_newBaseHigh t_from t_knots t_lines t_chosen t_undos t_redos t_aimedMany t_fits t_fitOf t_sights t_systems t_own t_cross t_curveLong t_wallFirst), IA E 7 t_many, IA E 144 t_way, ZA E 120 t_isGone, IA E 120 t_start, IA E 120 t_goal, IA E 360 t_line, IA E 8 t_choice_, IA E 256 t_cost, IA E 256 t_best, IA E 8 t_groupOf] h) 25 [some (.ref a_t), some (vI v1), some (vJ v2), none, some (vI v4_), some (vI v5_), none, none, none, none] []) (hk_101 : ∀ (t_choice_ : Nat → Int) (v4_ : Int) (v5_ : Int), okA t_choice_ → inI v4_ → inI v5_ → k_101 t_choice_ v4_ v5_ = some r → G l E b0 M_X11_least (fun _ => True) (ZM E b0 (some (vI r.1)) (ov [a_t, (a_t + 2), (a_t + 4), (a_t + 15), (a_t + 16), (a_t + 17), (a_t + 18), (a_t + 20), (a_t + 21), (a_t + 22), (a_t + 23)] [.inr (11, fsX11 a_t t_thrown t_taped t_p t_fault t_baseLow t_baseHigh t_newBaseLow t_newBaseHigh t_from t_knots t_lines r.2.1 t_undos t_redos t_aimedMany t_fits t_fitOf t_sights t_systems t_own t_cross t_curveLong t_wallFirst), IA E 7 t_many, IA E 144 t_way, ZA E 120 t_isGone, IA E 120 t_start, IA E 120 t_goal, IA E 360 t_line, IA E 8 r.2.2.1, IA E 256 r.2.2.2.1, IA E 256 r.2.2.2.2.1, IA E 8 r.2.2.2.2.2] h) n (inI r.1 ∧ inI r.2.1 ∧ okA r.2.2.1 ∧ okA r.2.2.2.1 ∧ okA r.2.2.2.2.1 ∧ okA r.2.2.2.2.2) 0 0) 0 0 n (ov [a_t, (a_t + 2), (a_t + 4), (a_t + 15), (a_t + 16), (a_t + 17), (a_t + 18), (a_t + 20), (a_t + 21), (a_t + 22), (a_t + 23)] [.inr (11, fsX11 a_t t_thrown t_taped t_p t_fault t_baseLow t_baseHigh t_newBaseLow t_newBaseHigh t_from t_knots t_lines t_chosen t_undos t_redos t_aimedMany t_fits t_fitOf t_sights t_systems t_own t_cross t_curveLong t_wallFirst), IA E 7 t_many, IA E 144 t_way, ZA E 120 t_isGone, IA E 120 t_start, IA E 120 t_goal, IA E 360 t_line, IA E 8 t_choice_, IA E 256 t_cost, IA E 256 t_best, IA E 8 t_groupOf] h) 101 [some (.ref a_t), some (vI v1), none, none, some (vI v4_), none, none, none, none, none] []) (hk_81 : ∀ (t_choice_ : Nat → Int) (v4_ : Int) (v5_ : Int), okA t_choice_ → inI v4_ → inI v5_ → k_81 t_choice_ v4_ v5_ = some r → G l E b0 M_X11_least (fun _ => True) (ZM E b0 (some (vI r.1)) (ov [a_t, (a_t + 2), (a_t + 4), (a_t + 15), (a_t + 16), (a_t + 17), (a_t + 18), (a_t + 20), (a_t + 21), (a_t + 22), (a_t + 23)] [.inr (11, fsX11 a_t t_thrown t_taped t_p t_fault t_baseLow t_baseHigh t_newBaseLow t_newBaseHigh t_from t_knots t_lines r.2.1 t_undos t_redos t_aimedMany t_fits t_fitOf t_sights t_systems t_own t_cross t_curveLong t_wallFirst), IA E 7 t_many, IA E 144 t_way, ZA E 120 t_isGone, IA E 120 t_start, IA E 120 t_goal, IA E 360 t_line, IA E 8 r.2.2.1, IA E 256 r.2.2.2.1, IA E 256 r.2.2.2.2.1, IA E 8 r.2.2.2.2.2] h) n (inI r.1 ∧ inI r.2.1 ∧ okA r.2.2.1 ∧ okA r.2.2.2.1 ∧ okA r.2.2.2.2.1 ∧ okA r.2.2.2.2.2) 0 0) 0 0 n (ov [a_t, (a_t + 2), (a_t + 4), (a_t + 15), (a_t + 16), (a_t + 17), (a_t + 18), (a_t + 20), (a_t + 21), (a_t + 22), (a_t + 23)] [.inr (11, fsX11 a_t t_thrown t_taped t_p t_fault t_baseLow t_baseHigh t_newBaseLow t_newBaseHigh t_from t_knots t_lines t_chosen t_undos t_redos t_aimedMany t_fits t_fitOf t_sights t_systems t_own t_cross t_curveLong t_wallFirst), IA E 7 t_many, IA E 144 t_way, ZA E 120 t_isGone, IA E 120 t_start, IA E 120 t_goal, IA E 360 t_line, IA E 8 t_choice_, IA E 256 t_cost, IA E 256 t_best, IA E 8 t_groupOf] h) 81 [none, none, none, none, none, none, none, none, none, none] []) (hs : m_X11_least_83 t_lines t_isGone t_start t_goal t_choice v1 v2 v4 v5 ag k_101 k_81 = some r) : G l E b0 M_X11_least (fun _ => True) (ZM E b0 (some (vI r.1)) (ov [a_t, (a_t + 2), (a_t + 4), (a_t + 15), (a_t + 16), (a_t + 17), (a_t + 18), (a_t + 20), (a_t + 21), (a_t + 22), (a_t + 23)] [.inr (11, fsX11 a_t t_thrown t_taped t_p t_fault t_baseLow t_baseHigh t_newBaseLow t_newBaseHigh t_from t_knots t_lines r.2.1 t_undos t_redos t_aimedMany t_fits t_fitOf t_sights t_systems t_own t_cross t_curveLong t_wallFirst), IA E 7 t_many, IA E 144 t_way, ZA E 120 t_isGone, IA E 120 t_start, IA E 120 t_goal, IA E 360 t_line, IA E 8 r.2.2.1, IA E 256 r.2.2.2.1, IA E 256 r.2.2.2.2.1, IA E 8 r.2.2.2.2.2] h) n (inI r.1 ∧ inI r.2.1 ∧ okA r.2.2.1 ∧ okA r.2.2.2.1 ∧ okA r.2.2.2.2.1 ∧ okA r.2.2.2.2.2) 0 0) 0 0 n (ov [a_t, (a_t + 2), (a_t + 4), (a_t + 15), (a_t + 16), (a_t + 17), (a_t + 18), (a_t + 20), (a_t + 21), (a_t + 22), (a_t + 23)] [.inr (11, fsX11 a_t t_thrown t_taped t_p t_fault t_baseLow t_baseHigh t_newBaseLow t_newBaseHigh t_from t_knots t_lines t_chosen t_undos t_redos t_aimedMany t_fits t_fitOf t_sights t_systems t_own t_cross t_curveLong t_wallFirst), IA E 7 t_many, IA E 144 t_way, ZA E 120 t_isGone, IA E 120 t_start, IA E 120 t_goal, IA E 360 t_line, IA E 8 t_choice, IA E 256 t_cost, IA E 256 t_best, IA E 8 t_groupOf] h) 83 [some (.ref a_t), some (vI v1), some (vJ v2), none, some (vI v4), some (vI v5), none, none, none, none] [] := by
  rw [m_X11_least_83] at hs
  refine g_aload_n e_X11_least_83 rfl ?_
  refine g_get 0 31 ao rfl rfl fsX11_g31 fl_X11_69 e_X11_least_84 ?_
  refine g_iload e_X11_least_87 rfl ?_
  refine g_iload e_X11_least_89 rfl ?_
  refine g_iast 7 ao rfl rfl ls_7 (Nat.le_of_ble_eq_true rfl) e_X11_least_91 hs (fun hi4 hs => ?_)
  refine g_iinc e_X11_least_92 rfl st1_4 rfl ?_
  obtain ⟨hc6, hs⟩ := chk_elim hs
  exact g_X11_least_95 ao ok_t_knots ok_t_lines ok_t_chosen ok_t_many ok_t_way ok_t_isGone ok_t_start ok_t_goal ok_t_line (okA_up ok_t_choice ok_v5) ok_t_cost ok_t_best ok_t_groupOf ok_v1 ok_v2 hc6 ok_v5 hag hk_101 hk_81 hs

noncomputable def m_X11_least_25 (t_lines : Int) (t_isGone : Nat → Int) (t_start : Nat → Int) (t_goal : Nat → Int) (v1 : Int) (v2 : Int) (k_101 : (Nat → Int) → Int → Int → Option (Int × Int × (Nat → Int) × (Nat → Int) × (Nat → Int) × (Nat → Int))) (k_81 : (Nat → Int) → Int → Int → Option (Int × Int × (Nat → Int) × (Nat → Int) × (Nat → Int) × (Nat → Int))) : Nat → (Nat → Int) → Int → Int → Option (Int × Int × (Nat → Int) × (Nat → Int) × (Nat → Int) × (Nat → Int))
  | 0, _, _, _ => none
  | F + 1, t_choice, v4, v5 => if 60 ≤ v5 then (k_101 t_choice v4 v5) else (if (jAnd (jShr v2 v5) 1) = 1 then (if v4 = 8 then (k_81 t_choice v4 v5) else ((m_X11_isLine t_lines t_isGone v5).bind (fun y2 => if y2 = 0 then (k_81 t_choice v4 v5) else (chk (inB v5 120) (if (t_start (Int.toNat v5)) = v1 then (m_X11_least_83 t_lines t_isGone t_start t_goal t_choice v1 v2 v4 v5 (m_X11_least_25 t_lines t_isGone t_start t_goal v1 v2 k_101 k_81 F) k_101 k_81) else (chk (inB v5 120) (if (t_goal (Int.toNat v5)) = v1 then (m_X11_least_83 t_lines t_isGone t_start t_goal t_choice v1 v2 v4 v5 (m_X11_least_25 t_lines t_isGone t_start t_goal v1 v2 k_101 k_81 F) k_101 k_81) else (k_81 t_choice v4 v5)))))))) else (m_X11_least_95 t_lines t_isGone t_start t_goal t_choice v1 v2 v4 v5 (m_X11_least_25 t_lines t_isGone t_start t_goal v1 v2 k_101 k_81 F) k_101 k_81))

set_option maxRecDepth 10000 in
set_option maxHeartbeats 8000000 in
theorem g_X11_least_25 {l : Launch} {E : EE} {b0 n : Nat} {h : AH} {a_t : Nat} {t_thrown t_taped t_p t_fault t_baseLow t_baseHigh t_newBaseLow t_newBaseHigh t_from t_knots t_lines t_chosen t_undos t_redos t_aimedMany t_fits t_fitOf t_sights t_systems t_own t_cross t_curveLong t_wallFirst v1 v2 : Int} {t_many t_way t_isGone t_start t_goal t_line t_cost t_best t_groupOf : Nat → Int} {r : Int × Int × (Nat → Int) × (Nat → Int) × (Nat → Int) × (Nat → Int)} {k_101 : (Nat → Int) → Int → Int → Option (Int × Int × (Nat → Int) × (Nat → Int) × (Nat → Int) × (Nat → Int))} {k_81 : (Nat → Int) → Int → Int → Option (Int × Int × (Nat → Int) × (Nat → Int) × (Nat → Int) × (Nat → Int))} (ao : AO b0 n [a_t, (a_t + 2), (a_t + 4), (a_t + 15), (a_t + 16), (a_t + 17), (a_t + 18), (a_t + 20), (a_t + 21), (a_t + 22), (a_t + 23)]) (ok_t_knots : inI t_knots) (ok_t_lines : inI t_lines) (ok_t_chosen : inI t_chosen) (ok_t_many : okA t_many) (ok_t_way : okA t_way) (ok_t_isGone : okZ t_isGone) (ok_t_start : okA t_start) (ok_t_goal : okA t_goal) (ok_t_line : okA t_line) (ok_t_cost : okA t_cost) (ok_t_best : okA t_best) (ok_t_groupOf : okA t_groupOf) (ok_v1 : inI v1) (ok_v2 : inJ v2) (hk_101 : ∀ (t_choice_ : Nat → Int) (v4_ : Int) (v5_ : Int), okA t_choice_ → inI v4_ → inI v5_ → k_101 t_choice_ v4_ v5_ = some r → G l E b0 M_X11_least (fun _ => True) (ZM E b0 (some (vI r.1)) (ov [a_t, (a_t + 2), (a_t + 4), (a_t + 15), (a_t + 16), (a_t + 17), (a_t + 18), (a_t + 20), (a_t + 21), (a_t + 22), (a_t + 23)] [.inr (11, fsX11 a_t t_thrown t_taped t_p t_fault t_baseLow t_baseHigh t_newBaseLow t_newBaseHigh t_from t_knots t_lines r.2.1 t_undos t_redos t_aimedMany t_fits t_fitOf t_sights t_systems t_own t_cross t_curveLong t_wallFirst), IA E 7 t_many, IA E 144 t_way, ZA E 120 t_isGone, IA E 120 t_start, IA E 120 t_goal, IA E 360 t_line, IA E 8 r.2.2.1, IA E 256 r.2.2.2.1, IA E 256 r.2.2.2.2.1, IA E 8 r.2.2.2.2.2] h) n (inI r.1 ∧ inI r.2.1 ∧ okA r.2.2.1 ∧ okA r.2.2.2.1 ∧ okA r.2.2.2.2.1 ∧ okA r.2.2.2.2.2) 0 0) 0 0 n (ov [a_t, (a_t + 2), (a_t + 4), (a_t + 15), (a_t + 16), (a_t + 17), (a_t + 18), (a_t + 20), (a_t + 21), (a_t + 22), (a_t + 23)] [.inr (11, fsX11 a_t t_thrown t_taped t_p t_fault t_baseLow t_baseHigh t_newBaseLow t_newBaseHigh t_from t_knots t_lines t_chosen t_undos t_redos t_aimedMany t_fits t_fitOf t_sights t_systems t_own t_cross t_curveLong t_wallFirst), IA E 7 t_many, IA E 144 t_way, ZA E 120 t_isGone, IA E 120 t_start, IA E 120 t_goal, IA E 360 t_line, IA E 8 t_choice_, IA E 256 t_cost, IA E 256 t_best, IA E 8 t_groupOf] h) 101 [some (.ref a_t), some (vI v1), none, none, some (vI v4_), none, none, none, none, none] []) (hk_81 : ∀ (t_choice_ : Nat → Int) (v4_ : Int) (v5_ : Int), okA t_choice_ → inI v4_ → inI v5_ → k_81 t_choice_ v4_ v5_ = some r → G l E b0 M_X11_least (fun _ => True) (ZM E b0 (some (vI r.1)) (ov [a_t, (a_t + 2), (a_t + 4), (a_t + 15), (a_t + 16), (a_t + 17), (a_t + 18), (a_t + 20), (a_t + 21), (a_t + 22), (a_t + 23)] [.inr (11, fsX11 a_t t_thrown t_taped t_p t_fault t_baseLow t_baseHigh t_newBaseLow t_newBaseHigh t_from t_knots t_lines r.2.1 t_undos t_redos t_aimedMany t_fits t_fitOf t_sights t_systems t_own t_cross t_curveLong t_wallFirst), IA E 7 t_many, IA E 144 t_way, ZA E 120 t_isGone, IA E 120 t_start, IA E 120 t_goal, IA E 360 t_line, IA E 8 r.2.2.1, IA E 256 r.2.2.2.1, IA E 256 r.2.2.2.2.1, IA E 8 r.2.2.2.2.2] h) n (inI r.1 ∧ inI r.2.1 ∧ okA r.2.2.1 ∧ okA r.2.2.2.1 ∧ okA r.2.2.2.2.1 ∧ okA r.2.2.2.2.2) 0 0) 0 0 n (ov [a_t, (a_t + 2), (a_t + 4), (a_t + 15), (a_t + 16), (a_t + 17), (a_t + 18), (a_t + 20), (a_t + 21), (a_t + 22), (a_t + 23)] [.inr (11, fsX11 a_t t_thrown t_taped t_p t_fault t_baseLow t_baseHigh t_newBaseLow t_newBaseHigh t_from t_knots t_lines t_chosen t_undos t_redos t_aimedMany t_fits t_fitOf t_sights t_systems t_own t_cross t_curveLong t_wallFirst), IA E 7 t_many, IA E 144 t_way, ZA E 120 t_isGone, IA E 120 t_start, IA E 120 t_goal, IA E 360 t_line, IA E 8 t_choice_, IA E 256 t_cost, IA E 256 t_best, IA E 8 t_groupOf] h) 81 [none, none, none, none, none, none, none, none, none, none] []) :
    ∀ (F : Nat) (t_choice : Nat → Int) (v4 : Int) (v5 : Int), okA t_choice → inI v4 → inI v5 → m_X11_least_25 t_lines t_isGone t_start t_goal v1 v2 k_101 k_81 F t_choice v4 v5 = some r → G l E b0 M_X11_least (fun _ => True) (ZM E b0 (some (vI r.1)) (ov [a_t, (a_t + 2), (a_t + 4), (a_t + 15), (a_t + 16), (a_t + 17), (a_t + 18), (a_t + 20), (a_t + 21), (a_t + 22), (a_t + 23)] [.inr (11, fsX11 a_t t_thrown t_taped t_p t_fault t_baseLow t_baseHigh t_newBaseLow t_newBaseHigh t_from t_knots t_lines r.2.1 t_undos t_redos t_aimedMany t_fits t_fitOf t_sights t_systems t_own t_cross t_curveLong t_wallFirst), IA E 7 t_many, IA E 144 t_way, ZA E 120 t_isGone, IA E 120 t_start, IA E 120 t_goal, IA E 360 t_line, IA E 8 r.2.2.1, IA E 256 r.2.2.2.1, IA E 256 r.2.2.2.2.1, IA E 8 r.2.2.2.2.2] h) n (inI r.1 ∧ inI r.2.1 ∧ okA r.2.2.1 ∧ okA r.2.2.2.1 ∧ okA r.2.2.2.2.1 ∧ okA r.2.2.2.2.2) 0 0) 0 0 n (ov [a_t, (a_t + 2), (a_t + 4), (a_t + 15), (a_t + 16), (a_t + 17), (a_t + 18), (a_t + 20), (a_t + 21), (a_t + 22), (a_t + 23)] [.inr (11, fsX11 a_t t_thrown t_taped t_p t_fault t_baseLow t_baseHigh t_newBaseLow t_newBaseHigh t_from t_knots t_lines t_chosen t_undos t_redos t_aimedMany t_fits t_fitOf t_sights t_systems t_own t_cross t_curveLong t_wallFirst), IA E 7 t_many, IA E 144 t_way, ZA E 120 t_isGone, IA E 120 t_start, IA E 120 t_goal, IA E 360 t_line, IA E 8 t_choice, IA E 256 t_cost, IA E 256 t_best, IA E 8 t_groupOf] h) 25 [some (.ref a_t), some (vI v1), some (vJ v2), none, some (vI v4), some (vI v5), none, none, none, none] [] := by
  intro F
  induction F with
  | zero =>
    intro t_choice v4 v5 ok_t_choice ok_v4 ok_v5 hs
    rw [m_X11_least_25] at hs
    cases hs
  | succ F ih =>
    intro t_choice v4 v5 ok_t_choice ok_v4 ok_v5 hs
    rw [m_X11_least_25] at hs
    refine g_iload e_X11_least_25 rfl ?_
    refine g_bipush e_X11_least_27 bp_60 ?_
    refine g_icmp_ge e_X11_least_29 ok_v5 (by decide : inI 60) hs (fun c29 hs => ?_) (fun c29 hs => ?_)
    · exact g_mask [true, true, false, true, true, false, true, true, true, true] (hk_101 _ _ _ ok_t_choice ok_v4 ok_v5 hs)
    · refine g_lload_n e_X11_least_32 rfl ?_
      refine g_iload e_X11_least_33 rfl ?_
      refine g_lshr e_X11_least_35 ?_
      refine g_lconst (a := 1) e_X11_least_36 rfl ?_
      refine g_land e_X11_least_37 ?_
      refine g_lconst (a := 1) e_X11_least_38 rfl ?_
      refine g_lcmp_ne e_X11_least_39 e_X11_least_40 (jAnd_J _ _) (by decide : inJ 1) hs (fun c39 hs => ?_) (fun c39 hs => ?_)
      · refine g_iload e_X11_least_43 rfl ?_
        refine g_bipush e_X11_least_45 bp_8 ?_
        refine g_icmp_eq e_X11_least_47 ok_v4 (by decide : inI 8) hs (fun c47 hs => ?_) (fun c47 hs => ?_)
        · exact g_mask [false, false, false, true, false, false, true, true, true, true] (hk_81 _ _ _ ok_t_choice ok_v4 ok_v5 hs)
        · refine g_aload_n e_X11_least_50 rfl ?_
          refine g_iload e_X11_least_51 rfl ?_
          obtain ⟨y2, hy2, hs⟩ := bind_elim hs
          refine g_callVr [vI v5] cv_X11_285 ⟨rfl, rfl, Nat.le_of_ble_eq_true rfl, Nat.le_of_ble_eq_true rfl⟩ (ct_X11_isLine (a_t := a_t) (AO_call [0, 3] ao (by decide) rfl) (FA_call [0, 3] ao.1 rfl rfl) ok_t_lines ok_t_isGone ok_v5 hy2) e_X11_least_53 (ao.2 0 _ rfl) (ov_get 0 ao.1 rfl rfl) rfl rfl rfl (Nat.le_of_ble_eq_true rfl) ⟨Nat.le_refl _, Nat.le_refl _⟩ (fun Py2 => ?_)
          refine g_if_eq e_X11_least_56 (inZ_I Py2) hs (fun c56 hs => ?_) (fun c56 hs => ?_)
          · exact g_mask [false, false, false, true, false, false, true, true, true, true] (hk_81 _ _ _ ok_t_choice ok_v4 ok_v5 hs)
          · refine g_aload_n e_X11_least_59 rfl ?_
            refine g_get 0 26 ao rfl rfl fsX11_g26 fl_X11_57 e_X11_least_60 ?_
            refine g_iload e_X11_least_63 rfl ?_
            refine g_iald 4 ao rfl rfl (Nat.le_of_ble_eq_true rfl) e_X11_least_65 hs (fun hi3 hs => ?_)
            refine g_iload_n e_X11_least_66 rfl ?_
            refine g_icmp_eq e_X11_least_67 (ok_t_start _) ok_v1 hs (fun c67 hs => ?_) (fun c67 hs => ?_)
            · exact g_X11_least_83 ao ok_t_knots ok_t_lines ok_t_chosen ok_t_many ok_t_way ok_t_isGone ok_t_start ok_t_goal ok_t_line ok_t_choice ok_t_cost ok_t_best ok_t_groupOf ok_v1 ok_v2 ok_v4 ok_v5 ih hk_101 hk_81 hs
            · refine g_aload_n e_X11_least_70 rfl ?_
              refine g_get 0 27 ao rfl rfl fsX11_g27 fl_X11_60 e_X11_least_71 ?_
              refine g_iload e_X11_least_74 rfl ?_
              refine g_iald 5 ao rfl rfl (Nat.le_of_ble_eq_true rfl) e_X11_least_76 hs (fun hi7 hs => ?_)
              refine g_iload_n e_X11_least_77 rfl ?_
              refine g_icmp_eq e_X11_least_78 (ok_t_goal _) ok_v1 hs (fun c78 hs => ?_) (fun c78 hs => ?_)
              · exact g_X11_least_83 ao ok_t_knots ok_t_lines ok_t_chosen ok_t_many ok_t_way ok_t_isGone ok_t_start ok_t_goal ok_t_line ok_t_choice ok_t_cost ok_t_best ok_t_groupOf ok_v1 ok_v2 ok_v4 ok_v5 ih hk_101 hk_81 hs
              · exact g_mask [false, false, false, true, false, false, true, true, true, true] (hk_81 _ _ _ ok_t_choice ok_v4 ok_v5 hs)
      · exact g_X11_least_95 ao ok_t_knots ok_t_lines ok_t_chosen ok_t_many ok_t_way ok_t_isGone ok_t_start ok_t_goal ok_t_line ok_t_choice ok_t_cost ok_t_best ok_t_groupOf ok_v1 ok_v2 ok_v4 ok_v5 ih hk_101 hk_81 hs

noncomputable def m_X11_least_112 (t_many : Nat → Int) (t_way : Nat → Int) (t_start : Nat → Int) (t_line : Nat → Int) (t_choice : Nat → Int) (v1 : Int) (v4 : Int) (k_143 : (Nat → Int) → Int → Option (Int × Int × (Nat → Int) × (Nat → Int) × (Nat → Int) × (Nat → Int))) : Nat → (Nat → Int) → Int → Option (Int × Int × (Nat → Int) × (Nat → Int) × (Nat → Int) × (Nat → Int))
  | 0, _, _ => none
  | F + 1, t_cost, v5 => if (bShl 1 v4) ≤ v5 then (k_143 t_cost v5) else ((m_X11_costOf t_many t_way t_start t_line t_choice v1 v4 v5).bind (fun y8 => chk (inB v5 256) (chk (inI (v5 + 1)) (m_X11_least_112 t_many t_way t_start t_line t_choice v1 v4 k_143 F (up t_cost (Int.toNat v5) y8) (v5 + 1)))))

set_option maxRecDepth 10000 in
set_option maxHeartbeats 8000000 in
theorem g_X11_least_112 {l : Launch} {E : EE} {b0 n : Nat} {h : AH} {a_t : Nat} {t_thrown t_taped t_p t_fault t_baseLow t_baseHigh t_newBaseLow t_newBaseHigh t_from t_knots t_lines t_chosen t_undos t_redos t_aimedMany t_fits t_fitOf t_sights t_systems t_own t_cross t_curveLong t_wallFirst v1 v4 : Int} {t_many t_way t_isGone t_start t_goal t_line t_choice t_best t_groupOf : Nat → Int} {r : Int × Int × (Nat → Int) × (Nat → Int) × (Nat → Int) × (Nat → Int)} {k_143 : (Nat → Int) → Int → Option (Int × Int × (Nat → Int) × (Nat → Int) × (Nat → Int) × (Nat → Int))} (ao : AO b0 n [a_t, (a_t + 2), (a_t + 4), (a_t + 15), (a_t + 16), (a_t + 17), (a_t + 18), (a_t + 20), (a_t + 21), (a_t + 22), (a_t + 23)]) (ok_t_knots : inI t_knots) (ok_t_lines : inI t_lines) (ok_t_chosen : inI t_chosen) (ok_t_many : okA t_many) (ok_t_way : okA t_way) (ok_t_isGone : okZ t_isGone) (ok_t_start : okA t_start) (ok_t_goal : okA t_goal) (ok_t_line : okA t_line) (ok_t_choice : okA t_choice) (ok_t_best : okA t_best) (ok_t_groupOf : okA t_groupOf) (ok_v1 : inI v1) (ok_v4 : inI v4) (hk_143 : ∀ (t_cost_ : Nat → Int) (v5_ : Int), okA t_cost_ → inI v5_ → k_143 t_cost_ v5_ = some r → G l E b0 M_X11_least (fun _ => True) (ZM E b0 (some (vI r.1)) (ov [a_t, (a_t + 2), (a_t + 4), (a_t + 15), (a_t + 16), (a_t + 17), (a_t + 18), (a_t + 20), (a_t + 21), (a_t + 22), (a_t + 23)] [.inr (11, fsX11 a_t t_thrown t_taped t_p t_fault t_baseLow t_baseHigh t_newBaseLow t_newBaseHigh t_from t_knots t_lines r.2.1 t_undos t_redos t_aimedMany t_fits t_fitOf t_sights t_systems t_own t_cross t_curveLong t_wallFirst), IA E 7 t_many, IA E 144 t_way, ZA E 120 t_isGone, IA E 120 t_start, IA E 120 t_goal, IA E 360 t_line, IA E 8 r.2.2.1, IA E 256 r.2.2.2.1, IA E 256 r.2.2.2.2.1, IA E 8 r.2.2.2.2.2] h) n (inI r.1 ∧ inI r.2.1 ∧ okA r.2.2.1 ∧ okA r.2.2.2.1 ∧ okA r.2.2.2.2.1 ∧ okA r.2.2.2.2.2) 0 0) 0 0 n (ov [a_t, (a_t + 2), (a_t + 4), (a_t + 15), (a_t + 16), (a_t + 17), (a_t + 18), (a_t + 20), (a_t + 21), (a_t + 22), (a_t + 23)] [.inr (11, fsX11 a_t t_thrown t_taped t_p t_fault t_baseLow t_baseHigh t_newBaseLow t_newBaseHigh t_from t_knots t_lines t_chosen t_undos t_redos t_aimedMany t_fits t_fitOf t_sights t_systems t_own t_cross t_curveLong t_wallFirst), IA E 7 t_many, IA E 144 t_way, ZA E 120 t_isGone, IA E 120 t_start, IA E 120 t_goal, IA E 360 t_line, IA E 8 t_choice, IA E 256 t_cost_, IA E 256 t_best, IA E 8 t_groupOf] h) 143 [some (.ref a_t), none, none, none, some (vI v4), none, none, none, none, none] []) :
    ∀ (F : Nat) (t_cost : Nat → Int) (v5 : Int), okA t_cost → inI v5 → m_X11_least_112 t_many t_way t_start t_line t_choice v1 v4 k_143 F t_cost v5 = some r → G l E b0 M_X11_least (fun _ => True) (ZM E b0 (some (vI r.1)) (ov [a_t, (a_t + 2), (a_t + 4), (a_t + 15), (a_t + 16), (a_t + 17), (a_t + 18), (a_t + 20), (a_t + 21), (a_t + 22), (a_t + 23)] [.inr (11, fsX11 a_t t_thrown t_taped t_p t_fault t_baseLow t_baseHigh t_newBaseLow t_newBaseHigh t_from t_knots t_lines r.2.1 t_undos t_redos t_aimedMany t_fits t_fitOf t_sights t_systems t_own t_cross t_curveLong t_wallFirst), IA E 7 t_many, IA E 144 t_way, ZA E 120 t_isGone, IA E 120 t_start, IA E 120 t_goal, IA E 360 t_line, IA E 8 r.2.2.1, IA E 256 r.2.2.2.1, IA E 256 r.2.2.2.2.1, IA E 8 r.2.2.2.2.2] h) n (inI r.1 ∧ inI r.2.1 ∧ okA r.2.2.1 ∧ okA r.2.2.2.1 ∧ okA r.2.2.2.2.1 ∧ okA r.2.2.2.2.2) 0 0) 0 0 n (ov [a_t, (a_t + 2), (a_t + 4), (a_t + 15), (a_t + 16), (a_t + 17), (a_t + 18), (a_t + 20), (a_t + 21), (a_t + 22), (a_t + 23)] [.inr (11, fsX11 a_t t_thrown t_taped t_p t_fault t_baseLow t_baseHigh t_newBaseLow t_newBaseHigh t_from t_knots t_lines t_chosen t_undos t_redos t_aimedMany t_fits t_fitOf t_sights t_systems t_own t_cross t_curveLong t_wallFirst), IA E 7 t_many, IA E 144 t_way, ZA E 120 t_isGone, IA E 120 t_start, IA E 120 t_goal, IA E 360 t_line, IA E 8 t_choice, IA E 256 t_cost, IA E 256 t_best, IA E 8 t_groupOf] h) 112 [some (.ref a_t), some (vI v1), none, none, some (vI v4), some (vI v5), none, none, none, none] [] := by
  intro F
  induction F with
  | zero =>
    intro t_cost v5 ok_t_cost ok_v5 hs
    rw [m_X11_least_112] at hs
    cases hs
  | succ F ih =>
    intro t_cost v5 ok_t_cost ok_v5 hs
    rw [m_X11_least_112] at hs
    refine g_iload e_X11_least_112 rfl ?_
    refine g_iconst e_X11_least_114 ?_
    refine g_iload e_X11_least_115 rfl ?_
    refine g_ishl e_X11_least_117 ?_
    refine g_icmp_ge e_X11_least_118 ok_v5 (bShl_I _ _) hs (fun c118 hs => ?_) (fun c118 hs => ?_)
    · exact g_mask [true, false, true, true, true, false, true, true, true, true] (hk_143 _ _ ok_t_cost ok_v5 hs)
    · refine g_aload_n e_X11_least_121 rfl ?_
      refine g_get 0 32 ao rfl rfl fsX11_g32 fl_X11_72 e_X11_least_122 ?_
      refine g_iload e_X11_least_125 rfl ?_
      refine g_aload_n e_X11_least_127 rfl ?_
      refine g_iload_n e_X11_least_128 rfl ?_
      refine g_iload e_X11_least_129 rfl ?_
      refine g_iload e_X11_least_131 rfl ?_
      obtain ⟨y8, hy8, hs⟩ := bind_elim hs
      refine g_callVr [vI v1, vI v4, vI v5] cv_X11_298 ⟨rfl, rfl, Nat.le_of_ble_eq_true rfl, Nat.le_of_ble_eq_true rfl⟩ (ct_X11_costOf (a_t := a_t) (AO_call [0, 1, 2, 4, 6, 7] ao (by decide) rfl) (FA_call [0, 1, 2, 4, 6, 7] ao.1 rfl rfl) ok_t_many ok_t_way ok_t_start ok_t_line ok_t_choice ok_v1 ok_v4 ok_v5 hy8) e_X11_least_133 (ao.2 0 _ rfl) (ov_get 0 ao.1 rfl rfl) rfl rfl rfl (Nat.le_of_ble_eq_true rfl) ⟨Nat.le_refl _, Nat.le_refl _⟩ (fun Py8 => ?_)
      refine g_iast 8 ao rfl rfl ls_8 (Nat.le_of_ble_eq_true rfl) e_X11_least_136 hs (fun hi9 hs => ?_)
      refine g_iinc e_X11_least_137 rfl st1_5 rfl ?_
      refine g_goto e_X11_least_140 ?_
      obtain ⟨hc10, hs⟩ := chk_elim hs
      exact ih _ _ (okA_up ok_t_cost Py8) hc10 hs

noncomputable def m_X11_least_285 (t_cost : Nat → Int) (t_best : Nat → Int) (v5 : Int) (v6 : Int) (v7 : Int) (ag : (Nat → Int) → Int → Option (Int × Int × (Nat → Int) × (Nat → Int) × (Nat → Int) × (Nat → Int))) (k_291 : (Nat → Int) → Int → Option (Int × Int × (Nat → Int) × (Nat → Int) × (Nat → Int) × (Nat → Int))) : Option (Int × Int × (Nat → Int) × (Nat → Int) × (Nat → Int) × (Nat → Int)) :=
  chk (inI (v7 + 1)) (ag t_best (v7 + 1))

set_option maxRecDepth 10000 in
set_option maxHeartbeats 8000000 in
theorem g_X11_least_285 {l : Launch} {E : EE} {b0 n : Nat} {h : AH} {a_t : Nat} {t_thrown t_taped t_p t_fault t_baseLow t_baseHigh t_newBaseLow t_newBaseHigh t_from t_knots t_lines t_chosen t_undos t_redos t_aimedMany t_fits t_fitOf t_sights t_systems t_own t_cross t_curveLong t_wallFirst v4 v5 v6 v7 : Int} {t_many t_way t_isGone t_start t_goal t_line t_choice t_cost t_best t_groupOf : Nat → Int} {r : Int × Int × (Nat → Int) × (Nat → Int) × (Nat → Int) × (Nat → Int)} {ag : (Nat → Int) → Int → Option (Int × Int × (Nat → Int) × (Nat → Int) × (Nat → Int) × (Nat → Int))} {k_291 : (Nat → Int) → Int → Option (Int × Int × (Nat → Int) × (Nat → Int) × (Nat → Int) × (Nat → Int))} (ao : AO b0 n [a_t, (a_t + 2), (a_t + 4), (a_t + 15), (a_t + 16), (a_t + 17), (a_t + 18), (a_t + 20), (a_t + 21), (a_t + 22), (a_t + 23)]) (ok_t_knots : inI t_knots) (ok_t_lines : inI t_lines) (ok_t_chosen : inI t_chosen) (ok_t_many : okA t_many) (ok_t_way : okA t_way) (ok_t_isGone : okZ t_isGone) (ok_t_start : okA t_start) (ok_t_goal : okA t_goal) (ok_t_line : okA t_line) (ok_t_choice : okA t_choice) (ok_t_cost : okA t_cost) (ok_t_best : okA t_best) (ok_t_groupOf : okA t_groupOf) (ok_v4 : inI v4) (ok_v5 : inI v5) (ok_v6 : inI v6) (ok_v7 : inI v7) (hag : ∀ (t_best_ : Nat → Int) (v7_ : Int), okA t_best_ → inI v7_ → ag t_best_ v7_ = some r → G l E b0 M_X11_least (fun _ => True) (ZM E b0 (some (vI r.1)) (ov [a_t, (a_t + 2), (a_t + 4), (a_t + 15), (a_t + 16), (a_t + 17), (a_t + 18), (a_t + 20), (a_t + 21), (a_t + 22), (a_t + 23)] [.inr (11, fsX11 a_t t_thrown t_taped t_p t_fault t_baseLow t_baseHigh t_newBaseLow t_newBaseHigh t_from t_knots t_lines r.2.1 t_undos t_redos t_aimedMany t_fits t_fitOf t_sights t_systems t_own t_cross t_curveLong t_wallFirst), IA E 7 t_many, IA E 144 t_way, ZA E 120 t_isGone, IA E 120 t_start, IA E 120 t_goal, IA E 360 t_line, IA E 8 r.2.2.1, IA E 256 r.2.2.2.1, IA E 256 r.2.2.2.2.1, IA E 8 r.2.2.2.2.2] h) n (inI r.1 ∧ inI r.2.1 ∧ okA r.2.2.1 ∧ okA r.2.2.2.1 ∧ okA r.2.2.2.2.1 ∧ okA r.2.2.2.2.2) 0 0) 0 0 n (ov [a_t, (a_t + 2), (a_t + 4), (a_t + 15), (a_t + 16), (a_t + 17), (a_t + 18), (a_t + 20), (a_t + 21), (a_t + 22), (a_t + 23)] [.inr (11, fsX11 a_t t_thrown t_taped t_p t_fault t_baseLow t_baseHigh t_newBaseLow t_newBaseHigh t_from t_knots t_lines t_chosen t_undos t_redos t_aimedMany t_fits t_fitOf t_sights t_systems t_own t_cross t_curveLong t_wallFirst), IA E 7 t_many, IA E 144 t_way, ZA E 120 t_isGone, IA E 120 t_start, IA E 120 t_goal, IA E 360 t_line, IA E 8 t_choice, IA E 256 t_cost, IA E 256 t_best_, IA E 8 t_groupOf] h) 183 [some (.ref a_t), none, none, none, some (vI v4), some (vI v5), some (vI v6), some (vI v7_), none, none] []) (hk_291 : ∀ (t_best_ : Nat → Int) (v7_ : Int), okA t_best_ → inI v7_ → k_291 t_best_ v7_ = some r → G l E b0 M_X11_least (fun _ => True) (ZM E b0 (some (vI r.1)) (ov [a_t, (a_t + 2), (a_t + 4), (a_t + 15), (a_t + 16), (a_t + 17), (a_t + 18), (a_t + 20), (a_t + 21), (a_t + 22), (a_t + 23)] [.inr (11, fsX11 a_t t_thrown t_taped t_p t_fault t_baseLow t_baseHigh t_newBaseLow t_newBaseHigh t_from t_knots t_lines r.2.1 t_undos t_redos t_aimedMany t_fits t_fitOf t_sights t_systems t_own t_cross t_curveLong t_wallFirst), IA E 7 t_many, IA E 144 t_way, ZA E 120 t_isGone, IA E 120 t_start, IA E 120 t_goal, IA E 360 t_line, IA E 8 r.2.2.1, IA E 256 r.2.2.2.1, IA E 256 r.2.2.2.2.1, IA E 8 r.2.2.2.2.2] h) n (inI r.1 ∧ inI r.2.1 ∧ okA r.2.2.1 ∧ okA r.2.2.2.1 ∧ okA r.2.2.2.2.1 ∧ okA r.2.2.2.2.2) 0 0) 0 0 n (ov [a_t, (a_t + 2), (a_t + 4), (a_t + 15), (a_t + 16), (a_t + 17), (a_t + 18), (a_t + 20), (a_t + 21), (a_t + 22), (a_t + 23)] [.inr (11, fsX11 a_t t_thrown t_taped t_p t_fault t_baseLow t_baseHigh t_newBaseLow t_newBaseHigh t_from t_knots t_lines t_chosen t_undos t_redos t_aimedMany t_fits t_fitOf t_sights t_systems t_own t_cross t_curveLong t_wallFirst), IA E 7 t_many, IA E 144 t_way, ZA E 120 t_isGone, IA E 120 t_start, IA E 120 t_goal, IA E 360 t_line, IA E 8 t_choice, IA E 256 t_cost, IA E 256 t_best_, IA E 8 t_groupOf] h) 291 [some (.ref a_t), none, none, none, some (vI v4), some (vI v5), none, none, none, none] []) (hs : m_X11_least_285 t_cost t_best v5 v6 v7 ag k_291 = some r) : G l E b0 M_X11_least (fun _ => True) (ZM E b0 (some (vI r.1)) (ov [a_t, (a_t + 2), (a_t + 4), (a_t + 15), (a_t + 16), (a_t + 17), (a_t + 18), (a_t + 20), (a_t + 21), (a_t + 22), (a_t + 23)] [.inr (11, fsX11 a_t t_thrown t_taped t_p t_fault t_baseLow t_baseHigh t_newBaseLow t_newBaseHigh t_from t_knots t_lines r.2.1 t_undos t_redos t_aimedMany t_fits t_fitOf t_sights t_systems t_own t_cross t_curveLong t_wallFirst), IA E 7 t_many, IA E 144 t_way, ZA E 120 t_isGone, IA E 120 t_start, IA E 120 t_goal, IA E 360 t_line, IA E 8 r.2.2.1, IA E 256 r.2.2.2.1, IA E 256 r.2.2.2.2.1, IA E 8 r.2.2.2.2.2] h) n (inI r.1 ∧ inI r.2.1 ∧ okA r.2.2.1 ∧ okA r.2.2.2.1 ∧ okA r.2.2.2.2.1 ∧ okA r.2.2.2.2.2) 0 0) 0 0 n (ov [a_t, (a_t + 2), (a_t + 4), (a_t + 15), (a_t + 16), (a_t + 17), (a_t + 18), (a_t + 20), (a_t + 21), (a_t + 22), (a_t + 23)] [.inr (11, fsX11 a_t t_thrown t_taped t_p t_fault t_baseLow t_baseHigh t_newBaseLow t_newBaseHigh t_from t_knots t_lines t_chosen t_undos t_redos t_aimedMany t_fits t_fitOf t_sights t_systems t_own t_cross t_curveLong t_wallFirst), IA E 7 t_many, IA E 144 t_way, ZA E 120 t_isGone, IA E 120 t_start, IA E 120 t_goal, IA E 360 t_line, IA E 8 t_choice, IA E 256 t_cost, IA E 256 t_best, IA E 8 t_groupOf] h) 285 [some (.ref a_t), none, none, none, some (vI v4), some (vI v5), some (vI v6), some (vI v7), none, none] [] := by
  rw [m_X11_least_285] at hs
  refine g_iinc e_X11_least_285 rfl st1_7 rfl ?_
  refine g_goto e_X11_least_288 ?_
  obtain ⟨hc13, hs⟩ := chk_elim hs
  exact hag _ _ ok_t_best hc13 hs

noncomputable def m_X11_least_284 (t_cost : Nat → Int) (t_best : Nat → Int) (v5 : Int) (v6 : Int) (v7 : Int) (s1 : Int) (s2 : Int) (ag : (Nat → Int) → Int → Option (Int × Int × (Nat → Int) × (Nat → Int) × (Nat → Int) × (Nat → Int))) (k_291 : (Nat → Int) → Int → Option (Int × Int × (Nat → Int) × (Nat → Int) × (Nat → Int) × (Nat → Int))) : Option (Int × Int × (Nat → Int) × (Nat → Int) × (Nat → Int) × (Nat → Int)) :=
  chk (inB s1 256) (m_X11_least_285 t_cost (up t_best (Int.toNat s1) s2) v5 v6 v7 ag k_291)

set_option maxRecDepth 10000 in
set_option maxHeartbeats 8000000 in
theorem g_X11_least_284 {l : Launch} {E : EE} {b0 n : Nat} {h : AH} {a_t : Nat} {t_thrown t_taped t_p t_fault t_baseLow t_baseHigh t_newBaseLow t_newBaseHigh t_from t_knots t_lines t_chosen t_undos t_redos t_aimedMany t_fits t_fitOf t_sights t_systems t_own t_cross t_curveLong t_wallFirst v4 v5 v6 v7 s1 s2 : Int} {t_many t_way t_isGone t_start t_goal t_line t_choice t_cost t_best t_groupOf : Nat → Int} {r : Int × Int × (Nat → Int) × (Nat → Int) × (Nat → Int) × (Nat → Int)} {ag : (Nat → Int) → Int → Option (Int × Int × (Nat → Int) × (Nat → Int) × (Nat → Int) × (Nat → Int))} {k_291 : (Nat → Int) → Int → Option (Int × Int × (Nat → Int) × (Nat → Int) × (Nat → Int) × (Nat → Int))} (ao : AO b0 n [a_t, (a_t + 2), (a_t + 4), (a_t + 15), (a_t + 16), (a_t + 17), (a_t + 18), (a_t + 20), (a_t + 21), (a_t + 22), (a_t + 23)]) (ok_t_knots : inI t_knots) (ok_t_lines : inI t_lines) (ok_t_chosen : inI t_chosen) (ok_t_many : okA t_many) (ok_t_way : okA t_way) (ok_t_isGone : okZ t_isGone) (ok_t_start : okA t_start) (ok_t_goal : okA t_goal) (ok_t_line : okA t_line) (ok_t_choice : okA t_choice) (ok_t_cost : okA t_cost) (ok_t_best : okA t_best) (ok_t_groupOf : okA t_groupOf) (ok_v4 : inI v4) (ok_v5 : inI v5) (ok_v6 : inI v6) (ok_v7 : inI v7) (ok_s1 : inI s1) (ok_s2 : inI s2) (hag : ∀ (t_best_ : Nat → Int) (v7_ : Int), okA t_best_ → inI v7_ → ag t_best_ v7_ = some r → G l E b0 M_X11_least (fun _ => True) (ZM E b0 (some (vI r.1)) (ov [a_t, (a_t + 2), (a_t + 4), (a_t + 15), (a_t + 16), (a_t + 17), (a_t + 18), (a_t + 20), (a_t + 21), (a_t + 22), (a_t + 23)] [.inr (11, fsX11 a_t t_thrown t_taped t_p t_fault t_baseLow t_baseHigh t_newBaseLow t_newBaseHigh t_from t_knots t_lines r.2.1 t_undos t_redos t_aimedMany t_fits t_fitOf t_sights t_systems t_own t_cross t_curveLong t_wallFirst), IA E 7 t_many, IA E 144 t_way, ZA E 120 t_isGone, IA E 120 t_start, IA E 120 t_goal, IA E 360 t_line, IA E 8 r.2.2.1, IA E 256 r.2.2.2.1, IA E 256 r.2.2.2.2.1, IA E 8 r.2.2.2.2.2] h) n (inI r.1 ∧ inI r.2.1 ∧ okA r.2.2.1 ∧ okA r.2.2.2.1 ∧ okA r.2.2.2.2.1 ∧ okA r.2.2.2.2.2) 0 0) 0 0 n (ov [a_t, (a_t + 2), (a_t + 4), (a_t + 15), (a_t + 16), (a_t + 17), (a_t + 18), (a_t + 20), (a_t + 21), (a_t + 22), (a_t + 23)] [.inr (11, fsX11 a_t t_thrown t_taped t_p t_fault t_baseLow t_baseHigh t_newBaseLow t_newBaseHigh t_from t_knots t_lines t_chosen t_undos t_redos t_aimedMany t_fits t_fitOf t_sights t_systems t_own t_cross t_curveLong t_wallFirst), IA E 7 t_many, IA E 144 t_way, ZA E 120 t_isGone, IA E 120 t_start, IA E 120 t_goal, IA E 360 t_line, IA E 8 t_choice, IA E 256 t_cost, IA E 256 t_best_, IA E 8 t_groupOf] h) 183 [some (.ref a_t), none, none, none, some (vI v4), some (vI v5), some (vI v6), some (vI v7_), none, none] []) (hk_291 : ∀ (t_best_ : Nat → Int) (v7_ : Int), okA t_best_ → inI v7_ → k_291 t_best_ v7_ = some r → G l E b0 M_X11_least (fun _ => True) (ZM E b0 (some (vI r.1)) (ov [a_t, (a_t + 2), (a_t + 4), (a_t + 15), (a_t + 16), (a_t + 17), (a_t + 18), (a_t + 20), (a_t + 21), (a_t + 22), (a_t + 23)] [.inr (11, fsX11 a_t t_thrown t_taped t_p t_fault t_baseLow t_baseHigh t_newBaseLow t_newBaseHigh t_from t_knots t_lines r.2.1 t_undos t_redos t_aimedMany t_fits t_fitOf t_sights t_systems t_own t_cross t_curveLong t_wallFirst), IA E 7 t_many, IA E 144 t_way, ZA E 120 t_isGone, IA E 120 t_start, IA E 120 t_goal, IA E 360 t_line, IA E 8 r.2.2.1, IA E 256 r.2.2.2.1, IA E 256 r.2.2.2.2.1, IA E 8 r.2.2.2.2.2] h) n (inI r.1 ∧ inI r.2.1 ∧ okA r.2.2.1 ∧ okA r.2.2.2.1 ∧ okA r.2.2.2.2.1 ∧ okA r.2.2.2.2.2) 0 0) 0 0 n (ov [a_t, (a_t + 2), (a_t + 4), (a_t + 15), (a_t + 16), (a_t + 17), (a_t + 18), (a_t + 20), (a_t + 21), (a_t + 22), (a_t + 23)] [.inr (11, fsX11 a_t t_thrown t_taped t_p t_fault t_baseLow t_baseHigh t_newBaseLow t_newBaseHigh t_from t_knots t_lines t_chosen t_undos t_redos t_aimedMany t_fits t_fitOf t_sights t_systems t_own t_cross t_curveLong t_wallFirst), IA E 7 t_many, IA E 144 t_way, ZA E 120 t_isGone, IA E 120 t_start, IA E 120 t_goal, IA E 360 t_line, IA E 8 t_choice, IA E 256 t_cost, IA E 256 t_best_, IA E 8 t_groupOf] h) 291 [some (.ref a_t), none, none, none, some (vI v4), some (vI v5), none, none, none, none] []) (hs : m_X11_least_284 t_cost t_best v5 v6 v7 s1 s2 ag k_291 = some r) : G l E b0 M_X11_least (fun _ => True) (ZM E b0 (some (vI r.1)) (ov [a_t, (a_t + 2), (a_t + 4), (a_t + 15), (a_t + 16), (a_t + 17), (a_t + 18), (a_t + 20), (a_t + 21), (a_t + 22), (a_t + 23)] [.inr (11, fsX11 a_t t_thrown t_taped t_p t_fault t_baseLow t_baseHigh t_newBaseLow t_newBaseHigh t_from t_knots t_lines r.2.1 t_undos t_redos t_aimedMany t_fits t_fitOf t_sights t_systems t_own t_cross t_curveLong t_wallFirst), IA E 7 t_many, IA E 144 t_way, ZA E 120 t_isGone, IA E 120 t_start, IA E 120 t_goal, IA E 360 t_line, IA E 8 r.2.2.1, IA E 256 r.2.2.2.1, IA E 256 r.2.2.2.2.1, IA E 8 r.2.2.2.2.2] h) n (inI r.1 ∧ inI r.2.1 ∧ okA r.2.2.1 ∧ okA r.2.2.2.1 ∧ okA r.2.2.2.2.1 ∧ okA r.2.2.2.2.2) 0 0) 0 0 n (ov [a_t, (a_t + 2), (a_t + 4), (a_t + 15), (a_t + 16), (a_t + 17), (a_t + 18), (a_t + 20), (a_t + 21), (a_t + 22), (a_t + 23)] [.inr (11, fsX11 a_t t_thrown t_taped t_p t_fault t_baseLow t_baseHigh t_newBaseLow t_newBaseHigh t_from t_knots t_lines t_chosen t_undos t_redos t_aimedMany t_fits t_fitOf t_sights t_systems t_own t_cross t_curveLong t_wallFirst), IA E 7 t_many, IA E 144 t_way, ZA E 120 t_isGone, IA E 120 t_start, IA E 120 t_goal, IA E 360 t_line, IA E 8 t_choice, IA E 256 t_cost, IA E 256 t_best, IA E 8 t_groupOf] h) 284 [some (.ref a_t), none, none, none, some (vI v4), some (vI v5), some (vI v6), some (vI v7), none, none] [vI s2, vI s1, .ref (a_t + 22)] := by
  rw [m_X11_least_284] at hs
  refine g_iast 9 ao rfl rfl ls_9 (Nat.le_of_ble_eq_true rfl) e_X11_least_284 hs (fun hi18 hs => ?_)
  exact g_X11_least_285 ao ok_t_knots ok_t_lines ok_t_chosen ok_t_many ok_t_way ok_t_isGone ok_t_start ok_t_goal ok_t_line ok_t_choice ok_t_cost (okA_up ok_t_best ok_s2) ok_t_groupOf ok_v4 ok_v5 ok_v6 ok_v7 hag hk_291 hs

noncomputable def m_X11_least_272 (t_cost : Nat → Int) (t_best : Nat → Int) (v5 : Int) (v6 : Int) (v7 : Int) (v8 : Int) (s1 : Int) (ag : (Nat → Int) → Int → Option (Int × Int × (Nat → Int) × (Nat → Int) × (Nat → Int) × (Nat → Int))) (k_291 : (Nat → Int) → Int → Option (Int × Int × (Nat → Int) × (Nat → Int) × (Nat → Int) × (Nat → Int))) : Option (Int × Int × (Nat → Int) × (Nat → Int) × (Nat → Int) × (Nat → Int)) :=
  m_X11_least_284 t_cost t_best v5 v6 v7 s1 v8 ag k_291

set_option maxRecDepth 10000 in
set_option maxHeartbeats 8000000 in
theorem g_X11_least_272 {l : Launch} {E : EE} {b0 n : Nat} {h : AH} {a_t : Nat} {t_thrown t_taped t_p t_fault t_baseLow t_baseHigh t_newBaseLow t_newBaseHigh t_from t_knots t_lines t_chosen t_undos t_redos t_aimedMany t_fits t_fitOf t_sights t_systems t_own t_cross t_curveLong t_wallFirst v4 v5 v6 v7 v8 s1 : Int} {t_many t_way t_isGone t_start t_goal t_line t_choice t_cost t_best t_groupOf : Nat → Int} {r : Int × Int × (Nat → Int) × (Nat → Int) × (Nat → Int) × (Nat → Int)} {ag : (Nat → Int) → Int → Option (Int × Int × (Nat → Int) × (Nat → Int) × (Nat → Int) × (Nat → Int))} {k_291 : (Nat → Int) → Int → Option (Int × Int × (Nat → Int) × (Nat → Int) × (Nat → Int) × (Nat → Int))} (ao : AO b0 n [a_t, (a_t + 2), (a_t + 4), (a_t + 15), (a_t + 16), (a_t + 17), (a_t + 18), (a_t + 20), (a_t + 21), (a_t + 22), (a_t + 23)]) (ok_t_knots : inI t_knots) (ok_t_lines : inI t_lines) (ok_t_chosen : inI t_chosen) (ok_t_many : okA t_many) (ok_t_way : okA t_way) (ok_t_isGone : okZ t_isGone) (ok_t_start : okA t_start) (ok_t_goal : okA t_goal) (ok_t_line : okA t_line) (ok_t_choice : okA t_choice) (ok_t_cost : okA t_cost) (ok_t_best : okA t_best) (ok_t_groupOf : okA t_groupOf) (ok_v4 : inI v4) (ok_v5 : inI v5) (ok_v6 : inI v6) (ok_v7 : inI v7) (ok_v8 : inI v8) (ok_s1 : inI s1) (hag : ∀ (t_best_ : Nat → Int) (v7_ : Int), okA t_best_ → inI v7_ → ag t_best_ v7_ = some r → G l E b0 M_X11_least (fun _ => True) (ZM E b0 (some (vI r.1)) (ov [a_t, (a_t + 2), (a_t + 4), (a_t + 15), (a_t + 16), (a_t + 17), (a_t + 18), (a_t + 20), (a_t + 21), (a_t + 22), (a_t + 23)] [.inr (11, fsX11 a_t t_thrown t_taped t_p t_fault t_baseLow t_baseHigh t_newBaseLow t_newBaseHigh t_from t_knots t_lines r.2.1 t_undos t_redos t_aimedMany t_fits t_fitOf t_sights t_systems t_own t_cross t_curveLong t_wallFirst), IA E 7 t_many, IA E 144 t_way, ZA E 120 t_isGone, IA E 120 t_start, IA E 120 t_goal, IA E 360 t_line, IA E 8 r.2.2.1, IA E 256 r.2.2.2.1, IA E 256 r.2.2.2.2.1, IA E 8 r.2.2.2.2.2] h) n (inI r.1 ∧ inI r.2.1 ∧ okA r.2.2.1 ∧ okA r.2.2.2.1 ∧ okA r.2.2.2.2.1 ∧ okA r.2.2.2.2.2) 0 0) 0 0 n (ov [a_t, (a_t + 2), (a_t + 4), (a_t + 15), (a_t + 16), (a_t + 17), (a_t + 18), (a_t + 20), (a_t + 21), (a_t + 22), (a_t + 23)] [.inr (11, fsX11 a_t t_thrown t_taped t_p t_fault t_baseLow t_baseHigh t_newBaseLow t_newBaseHigh t_from t_knots t_lines t_chosen t_undos t_redos t_aimedMany t_fits t_fitOf t_sights t_systems t_own t_cross t_curveLong t_wallFirst), IA E 7 t_many, IA E 144 t_way, ZA E 120 t_isGone, IA E 120 t_start, IA E 120 t_goal, IA E 360 t_line, IA E 8 t_choice, IA E 256 t_cost, IA E 256 t_best_, IA E 8 t_groupOf] h) 183 [some (.ref a_t), none, none, none, some (vI v4), some (vI v5), some (vI v6), some (vI v7_), none, none] []) (hk_291 : ∀ (t_best_ : Nat → Int) (v7_ : Int), okA t_best_ → inI v7_ → k_291 t_best_ v7_ = some r → G l E b0 M_X11_least (fun _ => True) (ZM E b0 (some (vI r.1)) (ov [a_t, (a_t + 2), (a_t + 4), (a_t + 15), (a_t + 16), (a_t + 17), (a_t + 18), (a_t + 20), (a_t + 21), (a_t + 22), (a_t + 23)] [.inr (11, fsX11 a_t t_thrown t_taped t_p t_fault t_baseLow t_baseHigh t_newBaseLow t_newBaseHigh t_from t_knots t_lines r.2.1 t_undos t_redos t_aimedMany t_fits t_fitOf t_sights t_systems t_own t_cross t_curveLong t_wallFirst), IA E 7 t_many, IA E 144 t_way, ZA E 120 t_isGone, IA E 120 t_start, IA E 120 t_goal, IA E 360 t_line, IA E 8 r.2.2.1, IA E 256 r.2.2.2.1, IA E 256 r.2.2.2.2.1, IA E 8 r.2.2.2.2.2] h) n (inI r.1 ∧ inI r.2.1 ∧ okA r.2.2.1 ∧ okA r.2.2.2.1 ∧ okA r.2.2.2.2.1 ∧ okA r.2.2.2.2.2) 0 0) 0 0 n (ov [a_t, (a_t + 2), (a_t + 4), (a_t + 15), (a_t + 16), (a_t + 17), (a_t + 18), (a_t + 20), (a_t + 21), (a_t + 22), (a_t + 23)] [.inr (11, fsX11 a_t t_thrown t_taped t_p t_fault t_baseLow t_baseHigh t_newBaseLow t_newBaseHigh t_from t_knots t_lines t_chosen t_undos t_redos t_aimedMany t_fits t_fitOf t_sights t_systems t_own t_cross t_curveLong t_wallFirst), IA E 7 t_many, IA E 144 t_way, ZA E 120 t_isGone, IA E 120 t_start, IA E 120 t_goal, IA E 360 t_line, IA E 8 t_choice, IA E 256 t_cost, IA E 256 t_best_, IA E 8 t_groupOf] h) 291 [some (.ref a_t), none, none, none, some (vI v4), some (vI v5), none, none, none, none] []) (hs : m_X11_least_272 t_cost t_best v5 v6 v7 v8 s1 ag k_291 = some r) : G l E b0 M_X11_least (fun _ => True) (ZM E b0 (some (vI r.1)) (ov [a_t, (a_t + 2), (a_t + 4), (a_t + 15), (a_t + 16), (a_t + 17), (a_t + 18), (a_t + 20), (a_t + 21), (a_t + 22), (a_t + 23)] [.inr (11, fsX11 a_t t_thrown t_taped t_p t_fault t_baseLow t_baseHigh t_newBaseLow t_newBaseHigh t_from t_knots t_lines r.2.1 t_undos t_redos t_aimedMany t_fits t_fitOf t_sights t_systems t_own t_cross t_curveLong t_wallFirst), IA E 7 t_many, IA E 144 t_way, ZA E 120 t_isGone, IA E 120 t_start, IA E 120 t_goal, IA E 360 t_line, IA E 8 r.2.2.1, IA E 256 r.2.2.2.1, IA E 256 r.2.2.2.2.1, IA E 8 r.2.2.2.2.2] h) n (inI r.1 ∧ inI r.2.1 ∧ okA r.2.2.1 ∧ okA r.2.2.2.1 ∧ okA r.2.2.2.2.1 ∧ okA r.2.2.2.2.2) 0 0) 0 0 n (ov [a_t, (a_t + 2), (a_t + 4), (a_t + 15), (a_t + 16), (a_t + 17), (a_t + 18), (a_t + 20), (a_t + 21), (a_t + 22), (a_t + 23)] [.inr (11, fsX11 a_t t_thrown t_taped t_p t_fault t_baseLow t_baseHigh t_newBaseLow t_newBaseHigh t_from t_knots t_lines t_chosen t_undos t_redos t_aimedMany t_fits t_fitOf t_sights t_systems t_own t_cross t_curveLong t_wallFirst), IA E 7 t_many, IA E 144 t_way, ZA E 120 t_isGone, IA E 120 t_start, IA E 120 t_goal, IA E 360 t_line, IA E 8 t_choice, IA E 256 t_cost, IA E 256 t_best, IA E 8 t_groupOf] h) 272 [some (.ref a_t), none, none, none, some (vI v4), some (vI v5), some (vI v6), some (vI v7), some (vI v8), none] [vI s1, .ref (a_t + 22)] := by
  rw [m_X11_least_272] at hs
  refine g_iload e_X11_least_272 rfl ?_
  refine g_goto e_X11_least_274 ?_
  exact g_mask [true, true, true, true, true, true, true, true, false, true] (g_X11_least_284 ao ok_t_knots ok_t_lines ok_t_chosen ok_t_many ok_t_way ok_t_isGone ok_t_start ok_t_goal ok_t_line ok_t_choice ok_t_cost ok_t_best ok_t_groupOf ok_v4 ok_v5 ok_v6 ok_v7 ok_s1 ok_v8 hag hk_291 hs)

noncomputable def m_X11_least_183 (t_cost : Nat → Int) (v5 : Int) (v6 : Int) (k_291 : (Nat → Int) → Int → Option (Int × Int × (Nat → Int) × (Nat → Int) × (Nat → Int) × (Nat → Int))) : Nat → (Nat → Int) → Int → Option (Int × Int × (Nat → Int) × (Nat → Int) × (Nat → Int) × (Nat → Int))
  | 0, _, _ => none
  | F + 1, t_best, v7 => if v5 < v7 then (k_291 t_best v7) else (if (bAnd v7 (bXor v5 (-1))) = 0 then (if (bAnd v7 v6) = 0 then (m_X11_least_285 t_cost t_best v5 v6 v7 (m_X11_least_183 t_cost v5 v6 k_291 F) k_291) else (chk (inB v7 256) (if (t_cost (Int.toNat v7)) = (-1) then (m_X11_least_285 t_cost t_best v5 v6 v7 (m_X11_least_183 t_cost v5 v6 k_291 F) k_291) else (chk (inB v7 256) (chk (inB (bAnd v5 (bXor v7 (-1))) 256) (chk (inB v5 256) (if (t_best (Int.toNat v5)) = (-1000000000) then (chk (inI ((t_cost (Int.toNat v7)) + (t_best (Int.toNat (bAnd v5 (bXor v7 (-1))))))) (m_X11_least_272 t_cost t_best v5 v6 v7 ((t_cost (Int.toNat v7)) + (t_best (Int.toNat (bAnd v5 (bXor v7 (-1)))))) v5 (m_X11_least_183 t_cost v5 v6 k_291 F) k_291)) else (chk (inB v5 256) (chk (inI ((t_cost (Int.toNat v7)) + (t_best (Int.toNat (bAnd v5 (bXor v7 (-1))))))) (if (t_best (Int.toNat v5)) ≤ ((t_cost (Int.toNat v7)) + (t_best (Int.toNat (bAnd v5 (bXor v7 (-1)))))) then (chk (inB v5 256) (m_X11_least_284 t_cost t_best v5 v6 v7 v5 (t_best (Int.toNat v5)) (m_X11_least_183 t_cost v5 v6 k_291 F) k_291)) else (m_X11_least_272 t_cost t_best v5 v6 v7 ((t_cost (Int.toNat v7)) + (t_best (Int.toNat (bAnd v5 (bXor v7 (-1)))))) v5 (m_X11_least_183 t_cost v5 v6 k_291 F) k_291))))))))))) else (m_X11_least_285 t_cost t_best v5 v6 v7 (m_X11_least_183 t_cost v5 v6 k_291 F) k_291))

set_option maxRecDepth 10000 in
set_option maxHeartbeats 8000000 in
theorem g_X11_least_183 {l : Launch} {E : EE} {b0 n : Nat} {h : AH} {a_t : Nat} {t_thrown t_taped t_p t_fault t_baseLow t_baseHigh t_newBaseLow t_newBaseHigh t_from t_knots t_lines t_chosen t_undos t_redos t_aimedMany t_fits t_fitOf t_sights t_systems t_own t_cross t_curveLong t_wallFirst v4 v5 v6 : Int} {t_many t_way t_isGone t_start t_goal t_line t_choice t_cost t_groupOf : Nat → Int} {r : Int × Int × (Nat → Int) × (Nat → Int) × (Nat → Int) × (Nat → Int)} {k_291 : (Nat → Int) → Int → Option (Int × Int × (Nat → Int) × (Nat → Int) × (Nat → Int) × (Nat → Int))} (ao : AO b0 n [a_t, (a_t + 2), (a_t + 4), (a_t + 15), (a_t + 16), (a_t + 17), (a_t + 18), (a_t + 20), (a_t + 21), (a_t + 22), (a_t + 23)]) (ok_t_knots : inI t_knots) (ok_t_lines : inI t_lines) (ok_t_chosen : inI t_chosen) (ok_t_many : okA t_many) (ok_t_way : okA t_way) (ok_t_isGone : okZ t_isGone) (ok_t_start : okA t_start) (ok_t_goal : okA t_goal) (ok_t_line : okA t_line) (ok_t_choice : okA t_choice) (ok_t_cost : okA t_cost) (ok_t_groupOf : okA t_groupOf) (ok_v4 : inI v4) (ok_v5 : inI v5) (ok_v6 : inI v6) (hk_291 : ∀ (t_best_ : Nat → Int) (v7_ : Int), okA t_best_ → inI v7_ → k_291 t_best_ v7_ = some r → G l E b0 M_X11_least (fun _ => True) (ZM E b0 (some (vI r.1)) (ov [a_t, (a_t + 2), (a_t + 4), (a_t + 15), (a_t + 16), (a_t + 17), (a_t + 18), (a_t + 20), (a_t + 21), (a_t + 22), (a_t + 23)] [.inr (11, fsX11 a_t t_thrown t_taped t_p t_fault t_baseLow t_baseHigh t_newBaseLow t_newBaseHigh t_from t_knots t_lines r.2.1 t_undos t_redos t_aimedMany t_fits t_fitOf t_sights t_systems t_own t_cross t_curveLong t_wallFirst), IA E 7 t_many, IA E 144 t_way, ZA E 120 t_isGone, IA E 120 t_start, IA E 120 t_goal, IA E 360 t_line, IA E 8 r.2.2.1, IA E 256 r.2.2.2.1, IA E 256 r.2.2.2.2.1, IA E 8 r.2.2.2.2.2] h) n (inI r.1 ∧ inI r.2.1 ∧ okA r.2.2.1 ∧ okA r.2.2.2.1 ∧ okA r.2.2.2.2.1 ∧ okA r.2.2.2.2.2) 0 0) 0 0 n (ov [a_t, (a_t + 2), (a_t + 4), (a_t + 15), (a_t + 16), (a_t + 17), (a_t + 18), (a_t + 20), (a_t + 21), (a_t + 22), (a_t + 23)] [.inr (11, fsX11 a_t t_thrown t_taped t_p t_fault t_baseLow t_baseHigh t_newBaseLow t_newBaseHigh t_from t_knots t_lines t_chosen t_undos t_redos t_aimedMany t_fits t_fitOf t_sights t_systems t_own t_cross t_curveLong t_wallFirst), IA E 7 t_many, IA E 144 t_way, ZA E 120 t_isGone, IA E 120 t_start, IA E 120 t_goal, IA E 360 t_line, IA E 8 t_choice, IA E 256 t_cost, IA E 256 t_best_, IA E 8 t_groupOf] h) 291 [some (.ref a_t), none, none, none, some (vI v4), some (vI v5), none, none, none, none] []) :
    ∀ (F : Nat) (t_best : Nat → Int) (v7 : Int), okA t_best → inI v7 → m_X11_least_183 t_cost v5 v6 k_291 F t_best v7 = some r → G l E b0 M_X11_least (fun _ => True) (ZM E b0 (some (vI r.1)) (ov [a_t, (a_t + 2), (a_t + 4), (a_t + 15), (a_t + 16), (a_t + 17), (a_t + 18), (a_t + 20), (a_t + 21), (a_t + 22), (a_t + 23)] [.inr (11, fsX11 a_t t_thrown t_taped t_p t_fault t_baseLow t_baseHigh t_newBaseLow t_newBaseHigh t_from t_knots t_lines r.2.1 t_undos t_redos t_aimedMany t_fits t_fitOf t_sights t_systems t_own t_cross t_curveLong t_wallFirst), IA E 7 t_many, IA E 144 t_way, ZA E 120 t_isGone, IA E 120 t_start, IA E 120 t_goal, IA E 360 t_line, IA E 8 r.2.2.1, IA E 256 r.2.2.2.1, IA E 256 r.2.2.2.2.1, IA E 8 r.2.2.2.2.2] h) n (inI r.1 ∧ inI r.2.1 ∧ okA r.2.2.1 ∧ okA r.2.2.2.1 ∧ okA r.2.2.2.2.1 ∧ okA r.2.2.2.2.2) 0 0) 0 0 n (ov [a_t, (a_t + 2), (a_t + 4), (a_t + 15), (a_t + 16), (a_t + 17), (a_t + 18), (a_t + 20), (a_t + 21), (a_t + 22), (a_t + 23)] [.inr (11, fsX11 a_t t_thrown t_taped t_p t_fault t_baseLow t_baseHigh t_newBaseLow t_newBaseHigh t_from t_knots t_lines t_chosen t_undos t_redos t_aimedMany t_fits t_fitOf t_sights t_systems t_own t_cross t_curveLong t_wallFirst), IA E 7 t_many, IA E 144 t_way, ZA E 120 t_isGone, IA E 120 t_start, IA E 120 t_goal, IA E 360 t_line, IA E 8 t_choice, IA E 256 t_cost, IA E 256 t_best, IA E 8 t_groupOf] h) 183 [some (.ref a_t), none, none, none, some (vI v4), some (vI v5), some (vI v6), some (vI v7), none, none] [] := by
  intro F
  induction F with
  | zero =>
    intro t_best v7 ok_t_best ok_v7 hs
    rw [m_X11_least_183] at hs
    cases hs
  | succ F ih =>
    intro t_best v7 ok_t_best ok_v7 hs
    rw [m_X11_least_183] at hs
    refine g_iload e_X11_least_183 rfl ?_
    refine g_iload e_X11_least_185 rfl ?_
    refine g_icmp_gt e_X11_least_187 ok_v7 ok_v5 hs (fun c187 hs => ?_) (fun c187 hs => ?_)
    · exact g_mask [true, true, true, true, true, true, false, false, true, true] (hk_291 _ _ ok_t_best ok_v7 hs)
    · refine g_iload e_X11_least_190 rfl ?_
      refine g_iload e_X11_least_192 rfl ?_
      refine g_iconst e_X11_least_194 ?_
      refine g_ixor e_X11_least_195 ?_
      refine g_iand e_X11_least_196 ?_
      refine g_if_ne e_X11_least_197 (bAnd_I _ _) hs (fun c197 hs => ?_) (fun c197 hs => ?_)
      · refine g_iload e_X11_least_200 rfl ?_
        refine g_iload e_X11_least_202 rfl ?_
        refine g_iand e_X11_least_204 ?_
        refine g_if_eq e_X11_least_205 (bAnd_I _ _) hs (fun c205 hs => ?_) (fun c205 hs => ?_)
        · exact g_X11_least_285 ao ok_t_knots ok_t_lines ok_t_chosen ok_t_many ok_t_way ok_t_isGone ok_t_start ok_t_goal ok_t_line ok_t_choice ok_t_cost ok_t_best ok_t_groupOf ok_v4 ok_v5 ok_v6 ok_v7 ih hk_291 hs
        · refine g_aload_n e_X11_least_208 rfl ?_
          refine g_get 0 32 ao rfl rfl fsX11_g32 fl_X11_72 e_X11_least_209 ?_
          refine g_iload e_X11_least_212 rfl ?_
          refine g_iald 8 ao rfl rfl (Nat.le_of_ble_eq_true rfl) e_X11_least_214 hs (fun hi14 hs => ?_)
          refine g_iconst e_X11_least_215 ?_
          refine g_icmp_eq e_X11_least_216 (ok_t_cost _) (by decide : inI (-1)) hs (fun c216 hs => ?_) (fun c216 hs => ?_)
          · exact g_X11_least_285 ao ok_t_knots ok_t_lines ok_t_chosen ok_t_many ok_t_way ok_t_isGone ok_t_start ok_t_goal ok_t_line ok_t_choice ok_t_cost ok_t_best ok_t_groupOf ok_v4 ok_v5 ok_v6 ok_v7 ih hk_291 hs
          · refine g_aload_n e_X11_least_219 rfl ?_
            refine g_get 0 32 ao rfl rfl fsX11_g32 fl_X11_72 e_X11_least_220 ?_
            refine g_iload e_X11_least_223 rfl ?_
            refine g_iald 8 ao rfl rfl (Nat.le_of_ble_eq_true rfl) e_X11_least_225 hs (fun hi15 hs => ?_)
            refine g_aload_n e_X11_least_226 rfl ?_
            refine g_get 0 33 ao rfl rfl fsX11_g33 fl_X11_75 e_X11_least_227 ?_
            refine g_iload e_X11_least_230 rfl ?_
            refine g_iload e_X11_least_232 rfl ?_
            refine g_iconst e_X11_least_234 ?_
            refine g_ixor e_X11_least_235 ?_
            refine g_iand e_X11_least_236 ?_
            refine g_iald 9 ao rfl rfl (Nat.le_of_ble_eq_true rfl) e_X11_least_237 hs (fun hi16 hs => ?_)
            refine g_iadd e_X11_least_238 ?_
            refine g_istore e_X11_least_239 st1_8 rfl ?_
            refine g_aload_n e_X11_least_241 rfl ?_
            refine g_get 0 33 ao rfl rfl fsX11_g33 fl_X11_75 e_X11_least_242 ?_
            refine g_iload e_X11_least_245 rfl ?_
            refine g_aload_n e_X11_least_247 rfl ?_
            refine g_get 0 33 ao rfl rfl fsX11_g33 fl_X11_75 e_X11_least_248 ?_
            refine g_iload e_X11_least_251 rfl ?_
            refine g_iald 9 ao rfl rfl (Nat.le_of_ble_eq_true rfl) e_X11_least_253 hs (fun hi17 hs => ?_)
            refine g_ldcw (a := -1000000000) e_X11_least_254 k_X11_301 ?_
            refine g_icmp_eq e_X11_least_257 (ok_t_best _) (by decide : inI (-1000000000)) hs (fun c257 hs => ?_) (fun c257 hs => ?_)
            · obtain ⟨hc19, hs⟩ := chk_elim hs
              exact g_X11_least_272 ao ok_t_knots ok_t_lines ok_t_chosen ok_t_many ok_t_way ok_t_isGone ok_t_start ok_t_goal ok_t_line ok_t_choice ok_t_cost ok_t_best ok_t_groupOf ok_v4 ok_v5 ok_v6 ok_v7 hc19 ok_v5 ih hk_291 hs
            · refine g_iload e_X11_least_260 rfl ?_
              refine g_aload_n e_X11_least_262 rfl ?_
              refine g_get 0 33 ao rfl rfl fsX11_g33 fl_X11_75 e_X11_least_263 ?_
              refine g_iload e_X11_least_266 rfl ?_
              refine g_iald 9 ao rfl rfl (Nat.le_of_ble_eq_true rfl) e_X11_least_268 hs (fun hi20 hs => ?_)
              obtain ⟨hc21, hs⟩ := chk_elim hs
              refine g_icmp_ge e_X11_least_269 hc21 (ok_t_best _) hs (fun c269 hs => ?_) (fun c269 hs => ?_)
              · refine g_aload_n e_X11_least_277 rfl ?_
                refine g_get 0 33 ao rfl rfl fsX11_g33 fl_X11_75 e_X11_least_278 ?_
                refine g_iload e_X11_least_281 rfl ?_
                refine g_iald 9 ao rfl rfl (Nat.le_of_ble_eq_true rfl) e_X11_least_283 hs (fun hi22 hs => ?_)
                exact g_mask [true, true, true, true, true, true, true, true, false, true] (g_X11_least_284 ao ok_t_knots ok_t_lines ok_t_chosen ok_t_many ok_t_way ok_t_isGone ok_t_start ok_t_goal ok_t_line ok_t_choice ok_t_cost ok_t_best ok_t_groupOf ok_v4 ok_v5 ok_v6 ok_v7 ok_v5 (ok_t_best _) ih hk_291 hs)
              · exact g_X11_least_272 ao ok_t_knots ok_t_lines ok_t_chosen ok_t_many ok_t_way ok_t_isGone ok_t_start ok_t_goal ok_t_line ok_t_choice ok_t_cost ok_t_best ok_t_groupOf ok_v4 ok_v5 ok_v6 ok_v7 hc21 ok_v5 ih hk_291 hs
      · exact g_X11_least_285 ao ok_t_knots ok_t_lines ok_t_chosen ok_t_many ok_t_way ok_t_isGone ok_t_start ok_t_goal ok_t_line ok_t_choice ok_t_cost ok_t_best ok_t_groupOf ok_v4 ok_v5 ok_v6 ok_v7 ih hk_291 hs

noncomputable def m_X11_least_291 (t_cost : Nat → Int) (t_best : Nat → Int) (v4 : Int) (v5 : Int) (ag : (Nat → Int) → Int → Option (Int × Int × (Nat → Int) × (Nat → Int) × (Nat → Int) × (Nat → Int))) (k_297 : (Nat → Int) → Int → Option (Int × Int × (Nat → Int) × (Nat → Int) × (Nat → Int) × (Nat → Int))) : Option (Int × Int × (Nat → Int) × (Nat → Int) × (Nat → Int) × (Nat → Int)) :=
  chk (inI (v5 + 1)) (ag t_best (v5 + 1))

set_option maxRecDepth 10000 in
set_option maxHeartbeats 8000000 in
theorem g_X11_least_291 {l : Launch} {E : EE} {b0 n : Nat} {h : AH} {a_t : Nat} {t_thrown t_taped t_p t_fault t_baseLow t_baseHigh t_newBaseLow t_newBaseHigh t_from t_knots t_lines t_chosen t_undos t_redos t_aimedMany t_fits t_fitOf t_sights t_systems t_own t_cross t_curveLong t_wallFirst v4 v5 : Int} {t_many t_way t_isGone t_start t_goal t_line t_choice t_cost t_best t_groupOf : Nat → Int} {r : Int × Int × (Nat → Int) × (Nat → Int) × (Nat → Int) × (Nat → Int)} {ag : (Nat → Int) → Int → Option (Int × Int × (Nat → Int) × (Nat → Int) × (Nat → Int) × (Nat → Int))} {k_297 : (Nat → Int) → Int → Option (Int × Int × (Nat → Int) × (Nat → Int) × (Nat → Int) × (Nat → Int))} (ao : AO b0 n [a_t, (a_t + 2), (a_t + 4), (a_t + 15), (a_t + 16), (a_t + 17), (a_t + 18), (a_t + 20), (a_t + 21), (a_t + 22), (a_t + 23)]) (ok_t_knots : inI t_knots) (ok_t_lines : inI t_lines) (ok_t_chosen : inI t_chosen) (ok_t_many : okA t_many) (ok_t_way : okA t_way) (ok_t_isGone : okZ t_isGone) (ok_t_start : okA t_start) (ok_t_goal : okA t_goal) (ok_t_line : okA t_line) (ok_t_choice : okA t_choice) (ok_t_cost : okA t_cost) (ok_t_best : okA t_best) (ok_t_groupOf : okA t_groupOf) (ok_v4 : inI v4) (ok_v5 : inI v5) (hag : ∀ (t_best_ : Nat → Int) (v5_ : Int), okA t_best_ → inI v5_ → ag t_best_ v5_ = some r → G l E b0 M_X11_least (fun _ => True) (ZM E b0 (some (vI r.1)) (ov [a_t, (a_t + 2), (a_t + 4), (a_t + 15), (a_t + 16), (a_t + 17), (a_t + 18), (a_t + 20), (a_t + 21), (a_t + 22), (a_t + 23)] [.inr (11, fsX11 a_t t_thrown t_taped t_p t_fault t_baseLow t_baseHigh t_newBaseLow t_newBaseHigh t_from t_knots t_lines r.2.1 t_undos t_redos t_aimedMany t_fits t_fitOf t_sights t_systems t_own t_cross t_curveLong t_wallFirst), IA E 7 t_many, IA E 144 t_way, ZA E 120 t_isGone, IA E 120 t_start, IA E 120 t_goal, IA E 360 t_line, IA E 8 r.2.2.1, IA E 256 r.2.2.2.1, IA E 256 r.2.2.2.2.1, IA E 8 r.2.2.2.2.2] h) n (inI r.1 ∧ inI r.2.1 ∧ okA r.2.2.1 ∧ okA r.2.2.2.1 ∧ okA r.2.2.2.2.1 ∧ okA r.2.2.2.2.2) 0 0) 0 0 n (ov [a_t, (a_t + 2), (a_t + 4), (a_t + 15), (a_t + 16), (a_t + 17), (a_t + 18), (a_t + 20), (a_t + 21), (a_t + 22), (a_t + 23)] [.inr (11, fsX11 a_t t_thrown t_taped t_p t_fault t_baseLow t_baseHigh t_newBaseLow t_newBaseHigh t_from t_knots t_lines t_chosen t_undos t_redos t_aimedMany t_fits t_fitOf t_sights t_systems t_own t_cross t_curveLong t_wallFirst), IA E 7 t_many, IA E 144 t_way, ZA E 120 t_isGone, IA E 120 t_start, IA E 120 t_goal, IA E 360 t_line, IA E 8 t_choice, IA E 256 t_cost, IA E 256 t_best_, IA E 8 t_groupOf] h) 153 [some (.ref a_t), none, none, none, some (vI v4), some (vI v5_), none, none, none, none] []) (hk_297 : ∀ (t_best_ : Nat → Int) (v5_ : Int), okA t_best_ → inI v5_ → k_297 t_best_ v5_ = some r → G l E b0 M_X11_least (fun _ => True) (ZM E b0 (some (vI r.1)) (ov [a_t, (a_t + 2), (a_t + 4), (a_t + 15), (a_t + 16), (a_t + 17), (a_t + 18), (a_t + 20), (a_t + 21), (a_t + 22), (a_t + 23)] [.inr (11, fsX11 a_t t_thrown t_taped t_p t_fault t_baseLow t_baseHigh t_newBaseLow t_newBaseHigh t_from t_knots t_lines r.2.1 t_undos t_redos t_aimedMany t_fits t_fitOf t_sights t_systems t_own t_cross t_curveLong t_wallFirst), IA E 7 t_many, IA E 144 t_way, ZA E 120 t_isGone, IA E 120 t_start, IA E 120 t_goal, IA E 360 t_line, IA E 8 r.2.2.1, IA E 256 r.2.2.2.1, IA E 256 r.2.2.2.2.1, IA E 8 r.2.2.2.2.2] h) n (inI r.1 ∧ inI r.2.1 ∧ okA r.2.2.1 ∧ okA r.2.2.2.1 ∧ okA r.2.2.2.2.1 ∧ okA r.2.2.2.2.2) 0 0) 0 0 n (ov [a_t, (a_t + 2), (a_t + 4), (a_t + 15), (a_t + 16), (a_t + 17), (a_t + 18), (a_t + 20), (a_t + 21), (a_t + 22), (a_t + 23)] [.inr (11, fsX11 a_t t_thrown t_taped t_p t_fault t_baseLow t_baseHigh t_newBaseLow t_newBaseHigh t_from t_knots t_lines t_chosen t_undos t_redos t_aimedMany t_fits t_fitOf t_sights t_systems t_own t_cross t_curveLong t_wallFirst), IA E 7 t_many, IA E 144 t_way, ZA E 120 t_isGone, IA E 120 t_start, IA E 120 t_goal, IA E 360 t_line, IA E 8 t_choice, IA E 256 t_cost, IA E 256 t_best_, IA E 8 t_groupOf] h) 297 [some (.ref a_t), none, none, none, some (vI v4), none, none, none, none, none] []) (hs : m_X11_least_291 t_cost t_best v4 v5 ag k_297 = some r) : G l E b0 M_X11_least (fun _ => True) (ZM E b0 (some (vI r.1)) (ov [a_t, (a_t + 2), (a_t + 4), (a_t + 15), (a_t + 16), (a_t + 17), (a_t + 18), (a_t + 20), (a_t + 21), (a_t + 22), (a_t + 23)] [.inr (11, fsX11 a_t t_thrown t_taped t_p t_fault t_baseLow t_baseHigh t_newBaseLow t_newBaseHigh t_from t_knots t_lines r.2.1 t_undos t_redos t_aimedMany t_fits t_fitOf t_sights t_systems t_own t_cross t_curveLong t_wallFirst), IA E 7 t_many, IA E 144 t_way, ZA E 120 t_isGone, IA E 120 t_start, IA E 120 t_goal, IA E 360 t_line, IA E 8 r.2.2.1, IA E 256 r.2.2.2.1, IA E 256 r.2.2.2.2.1, IA E 8 r.2.2.2.2.2] h) n (inI r.1 ∧ inI r.2.1 ∧ okA r.2.2.1 ∧ okA r.2.2.2.1 ∧ okA r.2.2.2.2.1 ∧ okA r.2.2.2.2.2) 0 0) 0 0 n (ov [a_t, (a_t + 2), (a_t + 4), (a_t + 15), (a_t + 16), (a_t + 17), (a_t + 18), (a_t + 20), (a_t + 21), (a_t + 22), (a_t + 23)] [.inr (11, fsX11 a_t t_thrown t_taped t_p t_fault t_baseLow t_baseHigh t_newBaseLow t_newBaseHigh t_from t_knots t_lines t_chosen t_undos t_redos t_aimedMany t_fits t_fitOf t_sights t_systems t_own t_cross t_curveLong t_wallFirst), IA E 7 t_many, IA E 144 t_way, ZA E 120 t_isGone, IA E 120 t_start, IA E 120 t_goal, IA E 360 t_line, IA E 8 t_choice, IA E 256 t_cost, IA E 256 t_best, IA E 8 t_groupOf] h) 291 [some (.ref a_t), none, none, none, some (vI v4), some (vI v5), none, none, none, none] [] := by
  rw [m_X11_least_291] at hs
  refine g_iinc e_X11_least_291 rfl st1_5 rfl ?_
  refine g_goto e_X11_least_294 ?_
  obtain ⟨hc23, hs⟩ := chk_elim hs
  exact hag _ _ ok_t_best hc23 hs

noncomputable def m_X11_least_153 (t_cost : Nat → Int) (v4 : Int) (k_297 : (Nat → Int) → Int → Option (Int × Int × (Nat → Int) × (Nat → Int) × (Nat → Int) × (Nat → Int))) : Nat → (Nat → Int) → Int → Option (Int × Int × (Nat → Int) × (Nat → Int) × (Nat → Int) × (Nat → Int))
  | 0, _, _ => none
  | F + 1, t_best, v5 => if (bShl 1 v4) ≤ v5 then (k_297 t_best v5) else (chk (inB v5 256) (m_X11_least_183 t_cost v5 (bAnd v5 (-v5)) (fun t_best' v7' => m_X11_least_291 t_cost t_best' v4 v5 (m_X11_least_153 t_cost v4 k_297 F) k_297) FU (up t_best (Int.toNat v5) (-1000000000)) 1))

set_option maxRecDepth 10000 in
set_option maxHeartbeats 8000000 in
theorem g_X11_least_153 {l : Launch} {E : EE} {b0 n : Nat} {h : AH} {a_t : Nat} {t_thrown t_taped t_p t_fault t_baseLow t_baseHigh t_newBaseLow t_newBaseHigh t_from t_knots t_lines t_chosen t_undos t_redos t_aimedMany t_fits t_fitOf t_sights t_systems t_own t_cross t_curveLong t_wallFirst v4 : Int} {t_many t_way t_isGone t_start t_goal t_line t_choice t_cost t_groupOf : Nat → Int} {r : Int × Int × (Nat → Int) × (Nat → Int) × (Nat → Int) × (Nat → Int)} {k_297 : (Nat → Int) → Int → Option (Int × Int × (Nat → Int) × (Nat → Int) × (Nat → Int) × (Nat → Int))} (ao : AO b0 n [a_t, (a_t + 2), (a_t + 4), (a_t + 15), (a_t + 16), (a_t + 17), (a_t + 18), (a_t + 20), (a_t + 21), (a_t + 22), (a_t + 23)]) (ok_t_knots : inI t_knots) (ok_t_lines : inI t_lines) (ok_t_chosen : inI t_chosen) (ok_t_many : okA t_many) (ok_t_way : okA t_way) (ok_t_isGone : okZ t_isGone) (ok_t_start : okA t_start) (ok_t_goal : okA t_goal) (ok_t_line : okA t_line) (ok_t_choice : okA t_choice) (ok_t_cost : okA t_cost) (ok_t_groupOf : okA t_groupOf) (ok_v4 : inI v4) (hk_297 : ∀ (t_best_ : Nat → Int) (v5_ : Int), okA t_best_ → inI v5_ → k_297 t_best_ v5_ = some r → G l E b0 M_X11_least (fun _ => True) (ZM E b0 (some (vI r.1)) (ov [a_t, (a_t + 2), (a_t + 4), (a_t + 15), (a_t + 16), (a_t + 17), (a_t + 18), (a_t + 20), (a_t + 21), (a_t + 22), (a_t + 23)] [.inr (11, fsX11 a_t t_thrown t_taped t_p t_fault t_baseLow t_baseHigh t_newBaseLow t_newBaseHigh t_from t_knots t_lines r.2.1 t_undos t_redos t_aimedMany t_fits t_fitOf t_sights t_systems t_own t_cross t_curveLong t_wallFirst), IA E 7 t_many, IA E 144 t_way, ZA E 120 t_isGone, IA E 120 t_start, IA E 120 t_goal, IA E 360 t_line, IA E 8 r.2.2.1, IA E 256 r.2.2.2.1, IA E 256 r.2.2.2.2.1, IA E 8 r.2.2.2.2.2] h) n (inI r.1 ∧ inI r.2.1 ∧ okA r.2.2.1 ∧ okA r.2.2.2.1 ∧ okA r.2.2.2.2.1 ∧ okA r.2.2.2.2.2) 0 0) 0 0 n (ov [a_t, (a_t + 2), (a_t + 4), (a_t + 15), (a_t + 16), (a_t + 17), (a_t + 18), (a_t + 20), (a_t + 21), (a_t + 22), (a_t + 23)] [.inr (11, fsX11 a_t t_thrown t_taped t_p t_fault t_baseLow t_baseHigh t_newBaseLow t_newBaseHigh t_from t_knots t_lines t_chosen t_undos t_redos t_aimedMany t_fits t_fitOf t_sights t_systems t_own t_cross t_curveLong t_wallFirst), IA E 7 t_many, IA E 144 t_way, ZA E 120 t_isGone, IA E 120 t_start, IA E 120 t_goal, IA E 360 t_line, IA E 8 t_choice, IA E 256 t_cost, IA E 256 t_best_, IA E 8 t_groupOf] h) 297 [some (.ref a_t), none, none, none, some (vI v4), none, none, none, none, none] []) :
    ∀ (F : Nat) (t_best : Nat → Int) (v5 : Int), okA t_best → inI v5 → m_X11_least_153 t_cost v4 k_297 F t_best v5 = some r → G l E b0 M_X11_least (fun _ => True) (ZM E b0 (some (vI r.1)) (ov [a_t, (a_t + 2), (a_t + 4), (a_t + 15), (a_t + 16), (a_t + 17), (a_t + 18), (a_t + 20), (a_t + 21), (a_t + 22), (a_t + 23)] [.inr (11, fsX11 a_t t_thrown t_taped t_p t_fault t_baseLow t_baseHigh t_newBaseLow t_newBaseHigh t_from t_knots t_lines r.2.1 t_undos t_redos t_aimedMany t_fits t_fitOf t_sights t_systems t_own t_cross t_curveLong t_wallFirst), IA E 7 t_many, IA E 144 t_way, ZA E 120 t_isGone, IA E 120 t_start, IA E 120 t_goal, IA E 360 t_line, IA E 8 r.2.2.1, IA E 256 r.2.2.2.1, IA E 256 r.2.2.2.2.1, IA E 8 r.2.2.2.2.2] h) n (inI r.1 ∧ inI r.2.1 ∧ okA r.2.2.1 ∧ okA r.2.2.2.1 ∧ okA r.2.2.2.2.1 ∧ okA r.2.2.2.2.2) 0 0) 0 0 n (ov [a_t, (a_t + 2), (a_t + 4), (a_t + 15), (a_t + 16), (a_t + 17), (a_t + 18), (a_t + 20), (a_t + 21), (a_t + 22), (a_t + 23)] [.inr (11, fsX11 a_t t_thrown t_taped t_p t_fault t_baseLow t_baseHigh t_newBaseLow t_newBaseHigh t_from t_knots t_lines t_chosen t_undos t_redos t_aimedMany t_fits t_fitOf t_sights t_systems t_own t_cross t_curveLong t_wallFirst), IA E 7 t_many, IA E 144 t_way, ZA E 120 t_isGone, IA E 120 t_start, IA E 120 t_goal, IA E 360 t_line, IA E 8 t_choice, IA E 256 t_cost, IA E 256 t_best, IA E 8 t_groupOf] h) 153 [some (.ref a_t), none, none, none, some (vI v4), some (vI v5), none, none, none, none] [] := by
  intro F
  induction F with
  | zero =>
    intro t_best v5 ok_t_best ok_v5 hs
    rw [m_X11_least_153] at hs
    cases hs
  | succ F ih =>
    intro t_best v5 ok_t_best ok_v5 hs
    rw [m_X11_least_153] at hs
    refine g_iload e_X11_least_153 rfl ?_
    refine g_iconst e_X11_least_155 ?_
    refine g_iload e_X11_least_156 rfl ?_
    refine g_ishl e_X11_least_158 ?_
    refine g_icmp_ge e_X11_least_159 ok_v5 (bShl_I _ _) hs (fun c159 hs => ?_) (fun c159 hs => ?_)
    · exact g_mask [true, true, true, true, true, false, true, true, true, true] (hk_297 _ _ ok_t_best ok_v5 hs)
    · refine g_aload_n e_X11_least_162 rfl ?_
      refine g_get 0 33 ao rfl rfl fsX11_g33 fl_X11_75 e_X11_least_163 ?_
      refine g_iload e_X11_least_166 rfl ?_
      refine g_ldcw (a := -1000000000) e_X11_least_168 k_X11_301 ?_
      refine g_iast 9 ao rfl rfl ls_9 (Nat.le_of_ble_eq_true rfl) e_X11_least_171 hs (fun hi12 hs => ?_)
      refine g_iload e_X11_least_172 rfl ?_
      refine g_iload e_X11_least_174 rfl ?_
      refine g_ineg e_X11_least_176 ?_
      refine g_iand e_X11_least_177 ?_
      refine g_istore e_X11_least_178 st1_6 rfl ?_
      refine g_iconst e_X11_least_180 ?_
      refine g_istore e_X11_least_181 st1_7 rfl ?_
      exact g_X11_least_183 ao ok_t_knots ok_t_lines ok_t_chosen ok_t_many ok_t_way ok_t_isGone ok_t_start ok_t_goal ok_t_line ok_t_choice ok_t_cost ok_t_groupOf ok_v4 ok_v5 (bAnd_I _ _) (hk_291 := by
      intro t_best' v7' ok_t_best' ok_v7' hs
      exact g_X11_least_291 ao ok_t_knots ok_t_lines ok_t_chosen ok_t_many ok_t_way ok_t_isGone ok_t_start ok_t_goal ok_t_line ok_t_choice ok_t_cost ok_t_best' ok_t_groupOf ok_v4 ok_v5 ih hk_297 hs) FU _ _ (okA_up ok_t_best (by decide : inI (-1000000000))) (by decide : inI 1) hs

noncomputable def m_X11_least_384 (t_cost : Nat → Int) (t_best : Nat → Int) (v5 : Int) (v7 : Int) (v8 : Int) (ag : Int → Option (Int × Int × (Nat → Int) × (Nat → Int) × (Nat → Int) × (Nat → Int))) (k_390 : Int → Option (Int × Int × (Nat → Int) × (Nat → Int) × (Nat → Int) × (Nat → Int))) : Option (Int × Int × (Nat → Int) × (Nat → Int) × (Nat → Int) × (Nat → Int)) :=
  chk (inI (v8 + 1)) (ag (v8 + 1))

set_option maxRecDepth 10000 in
set_option maxHeartbeats 8000000 in
theorem g_X11_least_384 {l : Launch} {E : EE} {b0 n : Nat} {h : AH} {a_t : Nat} {t_thrown t_taped t_p t_fault t_baseLow t_baseHigh t_newBaseLow t_newBaseHigh t_from t_knots t_lines t_chosen t_undos t_redos t_aimedMany t_fits t_fitOf t_sights t_systems t_own t_cross t_curveLong t_wallFirst v4 v5 v6 v7 v8 : Int} {t_many t_way t_isGone t_start t_goal t_line t_choice t_cost t_best t_groupOf : Nat → Int} {r : Int × Int × (Nat → Int) × (Nat → Int) × (Nat → Int) × (Nat → Int)} {ag : Int → Option (Int × Int × (Nat → Int) × (Nat → Int) × (Nat → Int) × (Nat → Int))} {k_390 : Int → Option (Int × Int × (Nat → Int) × (Nat → Int) × (Nat → Int) × (Nat → Int))} (ao : AO b0 n [a_t, (a_t + 2), (a_t + 4), (a_t + 15), (a_t + 16), (a_t + 17), (a_t + 18), (a_t + 20), (a_t + 21), (a_t + 22), (a_t + 23)]) (ok_t_knots : inI t_knots) (ok_t_lines : inI t_lines) (ok_t_chosen : inI t_chosen) (ok_t_many : okA t_many) (ok_t_way : okA t_way) (ok_t_isGone : okZ t_isGone) (ok_t_start : okA t_start) (ok_t_goal : okA t_goal) (ok_t_line : okA t_line) (ok_t_choice : okA t_choice) (ok_t_cost : okA t_cost) (ok_t_best : okA t_best) (ok_t_groupOf : okA t_groupOf) (ok_v4 : inI v4) (ok_v5 : inI v5) (ok_v6 : inI v6) (ok_v7 : inI v7) (ok_v8 : inI v8) (hag : ∀ (v8_ : Int), inI v8_ → ag v8_ = some r → G l E b0 M_X11_least (fun _ => True) (ZM E b0 (some (vI r.1)) (ov [a_t, (a_t + 2), (a_t + 4), (a_t + 15), (a_t + 16), (a_t + 17), (a_t + 18), (a_t + 20), (a_t + 21), (a_t + 22), (a_t + 23)] [.inr (11, fsX11 a_t t_thrown t_taped t_p t_fault t_baseLow t_baseHigh t_newBaseLow t_newBaseHigh t_from t_knots t_lines r.2.1 t_undos t_redos t_aimedMany t_fits t_fitOf t_sights t_systems t_own t_cross t_curveLong t_wallFirst), IA E 7 t_many, IA E 144 t_way, ZA E 120 t_isGone, IA E 120 t_start, IA E 120 t_goal, IA E 360 t_line, IA E 8 r.2.2.1, IA E 256 r.2.2.2.1, IA E 256 r.2.2.2.2.1, IA E 8 r.2.2.2.2.2] h) n (inI r.1 ∧ inI r.2.1 ∧ okA r.2.2.1 ∧ okA r.2.2.2.1 ∧ okA r.2.2.2.2.1 ∧ okA r.2.2.2.2.2) 0 0) 0 0 n (ov [a_t, (a_t + 2), (a_t + 4), (a_t + 15), (a_t + 16), (a_t + 17), (a_t + 18), (a_t + 20), (a_t + 21), (a_t + 22), (a_t + 23)] [.inr (11, fsX11 a_t t_thrown t_taped t_p t_fault t_baseLow t_baseHigh t_newBaseLow t_newBaseHigh t_from t_knots t_lines t_chosen t_undos t_redos t_aimedMany t_fits t_fitOf t_sights t_systems t_own t_cross t_curveLong t_wallFirst), IA E 7 t_many, IA E 144 t_way, ZA E 120 t_isGone, IA E 120 t_start, IA E 120 t_goal, IA E 360 t_line, IA E 8 t_choice, IA E 256 t_cost, IA E 256 t_best, IA E 8 t_groupOf] h) 325 [some (.ref a_t), none, none, none, some (vI v4), some (vI v5), some (vI v6), some (vI v7), some (vI v8_), none] []) (hk_390 : ∀ (v8_ : Int), inI v8_ → k_390 v8_ = some r → G l E b0 M_X11_least (fun _ => True) (ZM E b0 (some (vI r.1)) (ov [a_t, (a_t + 2), (a_t + 4), (a_t + 15), (a_t + 16), (a_t + 17), (a_t + 18), (a_t + 20), (a_t + 21), (a_t + 22), (a_t + 23)] [.inr (11, fsX11 a_t t_thrown t_taped t_p t_fault t_baseLow t_baseHigh t_newBaseLow t_newBaseHigh t_from t_knots t_lines r.2.1 t_undos t_redos t_aimedMany t_fits t_fitOf t_sights t_systems t_own t_cross t_curveLong t_wallFirst), IA E 7 t_many, IA E 144 t_way, ZA E 120 t_isGone, IA E 120 t_start, IA E 120 t_goal, IA E 360 t_line, IA E 8 r.2.2.1, IA E 256 r.2.2.2.1, IA E 256 r.2.2.2.2.1, IA E 8 r.2.2.2.2.2] h) n (inI r.1 ∧ inI r.2.1 ∧ okA r.2.2.1 ∧ okA r.2.2.2.1 ∧ okA r.2.2.2.2.1 ∧ okA r.2.2.2.2.2) 0 0) 0 0 n (ov [a_t, (a_t + 2), (a_t + 4), (a_t + 15), (a_t + 16), (a_t + 17), (a_t + 18), (a_t + 20), (a_t + 21), (a_t + 22), (a_t + 23)] [.inr (11, fsX11 a_t t_thrown t_taped t_p t_fault t_baseLow t_baseHigh t_newBaseLow t_newBaseHigh t_from t_knots t_lines t_chosen t_undos t_redos t_aimedMany t_fits t_fitOf t_sights t_systems t_own t_cross t_curveLong t_wallFirst), IA E 7 t_many, IA E 144 t_way, ZA E 120 t_isGone, IA E 120 t_start, IA E 120 t_goal, IA E 360 t_line, IA E 8 t_choice, IA E 256 t_cost, IA E 256 t_best, IA E 8 t_groupOf] h) 390 [some (.ref a_t), none, none, none, some (vI v4), some (vI v5), some (vI v6), none, some (vI v8_), none] []) (hs : m_X11_least_384 t_cost t_best v5 v7 v8 ag k_390 = some r) : G l E b0 M_X11_least (fun _ => True) (ZM E b0 (some (vI r.1)) (ov [a_t, (a_t + 2), (a_t + 4), (a_t + 15), (a_t + 16), (a_t + 17), (a_t + 18), (a_t + 20), (a_t + 21), (a_t + 22), (a_t + 23)] [.inr (11, fsX11 a_t t_thrown t_taped t_p t_fault t_baseLow t_baseHigh t_newBaseLow t_newBaseHigh t_from t_knots t_lines r.2.1 t_undos t_redos t_aimedMany t_fits t_fitOf t_sights t_systems t_own t_cross t_curveLong t_wallFirst), IA E 7 t_many, IA E 144 t_way, ZA E 120 t_isGone, IA E 120 t_start, IA E 120 t_goal, IA E 360 t_line, IA E 8 r.2.2.1, IA E 256 r.2.2.2.1, IA E 256 r.2.2.2.2.1, IA E 8 r.2.2.2.2.2] h) n (inI r.1 ∧ inI r.2.1 ∧ okA r.2.2.1 ∧ okA r.2.2.2.1 ∧ okA r.2.2.2.2.1 ∧ okA r.2.2.2.2.2) 0 0) 0 0 n (ov [a_t, (a_t + 2), (a_t + 4), (a_t + 15), (a_t + 16), (a_t + 17), (a_t + 18), (a_t + 20), (a_t + 21), (a_t + 22), (a_t + 23)] [.inr (11, fsX11 a_t t_thrown t_taped t_p t_fault t_baseLow t_baseHigh t_newBaseLow t_newBaseHigh t_from t_knots t_lines t_chosen t_undos t_redos t_aimedMany t_fits t_fitOf t_sights t_systems t_own t_cross t_curveLong t_wallFirst), IA E 7 t_many, IA E 144 t_way, ZA E 120 t_isGone, IA E 120 t_start, IA E 120 t_goal, IA E 360 t_line, IA E 8 t_choice, IA E 256 t_cost, IA E 256 t_best, IA E 8 t_groupOf] h) 384 [some (.ref a_t), none, none, none, some (vI v4), some (vI v5), some (vI v6), some (vI v7), some (vI v8), none] [] := by
  rw [m_X11_least_384] at hs
  refine g_iinc e_X11_least_384 rfl st1_8 rfl ?_
  refine g_goto e_X11_least_387 ?_
  obtain ⟨hc24, hs⟩ := chk_elim hs
  exact hag _ hc24 hs

noncomputable def m_X11_least_325 (t_cost : Nat → Int) (t_best : Nat → Int) (v5 : Int) (v7 : Int) (k_390 : Int → Option (Int × Int × (Nat → Int) × (Nat → Int) × (Nat → Int) × (Nat → Int))) : Nat → Int → Option (Int × Int × (Nat → Int) × (Nat → Int) × (Nat → Int) × (Nat → Int))
  | 0, _ => none
  | F + 1, v8 => if (bAnd v8 (bXor v5 (-1))) = 0 then (if (bAnd v8 v7) = 0 then (m_X11_least_384 t_cost t_best v5 v7 v8 (m_X11_least_325 t_cost t_best v5 v7 k_390 F) k_390) else (chk (inB v8 256) (if (t_cost (Int.toNat v8)) = (-1) then (m_X11_least_384 t_cost t_best v5 v7 v8 (m_X11_least_325 t_cost t_best v5 v7 k_390 F) k_390) else (chk (inB v8 256) (chk (inB (bAnd v5 (bXor v8 (-1))) 256) (chk (inB v5 256) (chk (inI ((t_cost (Int.toNat v8)) + (t_best (Int.toNat (bAnd v5 (bXor v8 (-1))))))) (if ((t_cost (Int.toNat v8)) + (t_best (Int.toNat (bAnd v5 (bXor v8 (-1)))))) = (t_best (Int.toNat v5)) then (k_390 v8) else (m_X11_least_384 t_cost t_best v5 v7 v8 (m_X11_least_325 t_cost t_best v5 v7 k_390 F) k_390))))))))) else (m_X11_least_384 t_cost t_best v5 v7 v8 (m_X11_least_325 t_cost t_best v5 v7 k_390 F) k_390)

set_option maxRecDepth 10000 in
set_option maxHeartbeats 8000000 in
theorem g_X11_least_325 {l : Launch} {E : EE} {b0 n : Nat} {h : AH} {a_t : Nat} {t_thrown t_taped t_p t_fault t_baseLow t_baseHigh t_newBaseLow t_newBaseHigh t_from t_knots t_lines t_chosen t_undos t_redos t_aimedMany t_fits t_fitOf t_sights t_systems t_own t_cross t_curveLong t_wallFirst v4 v5 v6 v7 : Int} {t_many t_way t_isGone t_start t_goal t_line t_choice t_cost t_best t_groupOf : Nat → Int} {r : Int × Int × (Nat → Int) × (Nat → Int) × (Nat → Int) × (Nat → Int)} {k_390 : Int → Option (Int × Int × (Nat → Int) × (Nat → Int) × (Nat → Int) × (Nat → Int))} (ao : AO b0 n [a_t, (a_t + 2), (a_t + 4), (a_t + 15), (a_t + 16), (a_t + 17), (a_t + 18), (a_t + 20), (a_t + 21), (a_t + 22), (a_t + 23)]) (ok_t_knots : inI t_knots) (ok_t_lines : inI t_lines) (ok_t_chosen : inI t_chosen) (ok_t_many : okA t_many) (ok_t_way : okA t_way) (ok_t_isGone : okZ t_isGone) (ok_t_start : okA t_start) (ok_t_goal : okA t_goal) (ok_t_line : okA t_line) (ok_t_choice : okA t_choice) (ok_t_cost : okA t_cost) (ok_t_best : okA t_best) (ok_t_groupOf : okA t_groupOf) (ok_v4 : inI v4) (ok_v5 : inI v5) (ok_v6 : inI v6) (ok_v7 : inI v7) (hk_390 : ∀ (v8_ : Int), inI v8_ → k_390 v8_ = some r → G l E b0 M_X11_least (fun _ => True) (ZM E b0 (some (vI r.1)) (ov [a_t, (a_t + 2), (a_t + 4), (a_t + 15), (a_t + 16), (a_t + 17), (a_t + 18), (a_t + 20), (a_t + 21), (a_t + 22), (a_t + 23)] [.inr (11, fsX11 a_t t_thrown t_taped t_p t_fault t_baseLow t_baseHigh t_newBaseLow t_newBaseHigh t_from t_knots t_lines r.2.1 t_undos t_redos t_aimedMany t_fits t_fitOf t_sights t_systems t_own t_cross t_curveLong t_wallFirst), IA E 7 t_many, IA E 144 t_way, ZA E 120 t_isGone, IA E 120 t_start, IA E 120 t_goal, IA E 360 t_line, IA E 8 r.2.2.1, IA E 256 r.2.2.2.1, IA E 256 r.2.2.2.2.1, IA E 8 r.2.2.2.2.2] h) n (inI r.1 ∧ inI r.2.1 ∧ okA r.2.2.1 ∧ okA r.2.2.2.1 ∧ okA r.2.2.2.2.1 ∧ okA r.2.2.2.2.2) 0 0) 0 0 n (ov [a_t, (a_t + 2), (a_t + 4), (a_t + 15), (a_t + 16), (a_t + 17), (a_t + 18), (a_t + 20), (a_t + 21), (a_t + 22), (a_t + 23)] [.inr (11, fsX11 a_t t_thrown t_taped t_p t_fault t_baseLow t_baseHigh t_newBaseLow t_newBaseHigh t_from t_knots t_lines t_chosen t_undos t_redos t_aimedMany t_fits t_fitOf t_sights t_systems t_own t_cross t_curveLong t_wallFirst), IA E 7 t_many, IA E 144 t_way, ZA E 120 t_isGone, IA E 120 t_start, IA E 120 t_goal, IA E 360 t_line, IA E 8 t_choice, IA E 256 t_cost, IA E 256 t_best, IA E 8 t_groupOf] h) 390 [some (.ref a_t), none, none, none, some (vI v4), some (vI v5), some (vI v6), none, some (vI v8_), none] []) :
    ∀ (F : Nat) (v8 : Int), inI v8 → m_X11_least_325 t_cost t_best v5 v7 k_390 F v8 = some r → G l E b0 M_X11_least (fun _ => True) (ZM E b0 (some (vI r.1)) (ov [a_t, (a_t + 2), (a_t + 4), (a_t + 15), (a_t + 16), (a_t + 17), (a_t + 18), (a_t + 20), (a_t + 21), (a_t + 22), (a_t + 23)] [.inr (11, fsX11 a_t t_thrown t_taped t_p t_fault t_baseLow t_baseHigh t_newBaseLow t_newBaseHigh t_from t_knots t_lines r.2.1 t_undos t_redos t_aimedMany t_fits t_fitOf t_sights t_systems t_own t_cross t_curveLong t_wallFirst), IA E 7 t_many, IA E 144 t_way, ZA E 120 t_isGone, IA E 120 t_start, IA E 120 t_goal, IA E 360 t_line, IA E 8 r.2.2.1, IA E 256 r.2.2.2.1, IA E 256 r.2.2.2.2.1, IA E 8 r.2.2.2.2.2] h) n (inI r.1 ∧ inI r.2.1 ∧ okA r.2.2.1 ∧ okA r.2.2.2.1 ∧ okA r.2.2.2.2.1 ∧ okA r.2.2.2.2.2) 0 0) 0 0 n (ov [a_t, (a_t + 2), (a_t + 4), (a_t + 15), (a_t + 16), (a_t + 17), (a_t + 18), (a_t + 20), (a_t + 21), (a_t + 22), (a_t + 23)] [.inr (11, fsX11 a_t t_thrown t_taped t_p t_fault t_baseLow t_baseHigh t_newBaseLow t_newBaseHigh t_from t_knots t_lines t_chosen t_undos t_redos t_aimedMany t_fits t_fitOf t_sights t_systems t_own t_cross t_curveLong t_wallFirst), IA E 7 t_many, IA E 144 t_way, ZA E 120 t_isGone, IA E 120 t_start, IA E 120 t_goal, IA E 360 t_line, IA E 8 t_choice, IA E 256 t_cost, IA E 256 t_best, IA E 8 t_groupOf] h) 325 [some (.ref a_t), none, none, none, some (vI v4), some (vI v5), some (vI v6), some (vI v7), some (vI v8), none] [] := by
  intro F
  induction F with
  | zero =>
    intro v8 ok_v8 hs
    rw [m_X11_least_325] at hs
    cases hs
  | succ F ih =>
    intro v8 ok_v8 hs
    rw [m_X11_least_325] at hs
    refine g_iload e_X11_least_325 rfl ?_
    refine g_iload e_X11_least_327 rfl ?_
    refine g_iconst e_X11_least_329 ?_
    refine g_ixor e_X11_least_330 ?_
    refine g_iand e_X11_least_331 ?_
    refine g_if_ne e_X11_least_332 (bAnd_I _ _) hs (fun c332 hs => ?_) (fun c332 hs => ?_)
    · refine g_iload e_X11_least_335 rfl ?_
      refine g_iload e_X11_least_337 rfl ?_
      refine g_iand e_X11_least_339 ?_
      refine g_if_eq e_X11_least_340 (bAnd_I _ _) hs (fun c340 hs => ?_) (fun c340 hs => ?_)
      · exact g_X11_least_384 ao ok_t_knots ok_t_lines ok_t_chosen ok_t_many ok_t_way ok_t_isGone ok_t_start ok_t_goal ok_t_line ok_t_choice ok_t_cost ok_t_best ok_t_groupOf ok_v4 ok_v5 ok_v6 ok_v7 ok_v8 ih hk_390 hs
      · refine g_aload_n e_X11_least_343 rfl ?_
        refine g_get 0 32 ao rfl rfl fsX11_g32 fl_X11_72 e_X11_least_344 ?_
        refine g_iload e_X11_least_347 rfl ?_
        refine g_iald 8 ao rfl rfl (Nat.le_of_ble_eq_true rfl) e_X11_least_349 hs (fun hi25 hs => ?_)
        refine g_iconst e_X11_least_350 ?_
        refine g_icmp_eq e_X11_least_351 (ok_t_cost _) (by decide : inI (-1)) hs (fun c351 hs => ?_) (fun c351 hs => ?_)
        · exact g_X11_least_384 ao ok_t_knots ok_t_lines ok_t_chosen ok_t_many ok_t_way ok_t_isGone ok_t_start ok_t_goal ok_t_line ok_t_choice ok_t_cost ok_t_best ok_t_groupOf ok_v4 ok_v5 ok_v6 ok_v7 ok_v8 ih hk_390 hs
        · refine g_aload_n e_X11_least_354 rfl ?_
          refine g_get 0 32 ao rfl rfl fsX11_g32 fl_X11_72 e_X11_least_355 ?_
          refine g_iload e_X11_least_358 rfl ?_
          refine g_iald 8 ao rfl rfl (Nat.le_of_ble_eq_true rfl) e_X11_least_360 hs (fun hi26 hs => ?_)
          refine g_aload_n e_X11_least_361 rfl ?_
          refine g_get 0 33 ao rfl rfl fsX11_g33 fl_X11_75 e_X11_least_362 ?_
          refine g_iload e_X11_least_365 rfl ?_
          refine g_iload e_X11_least_367 rfl ?_
          refine g_iconst e_X11_least_369 ?_
          refine g_ixor e_X11_least_370 ?_
          refine g_iand e_X11_least_371 ?_
          refine g_iald 9 ao rfl rfl (Nat.le_of_ble_eq_true rfl) e_X11_least_372 hs (fun hi27 hs => ?_)
          refine g_iadd e_X11_least_373 ?_
          refine g_aload_n e_X11_least_374 rfl ?_
          refine g_get 0 33 ao rfl rfl fsX11_g33 fl_X11_75 e_X11_least_375 ?_
          refine g_iload e_X11_least_378 rfl ?_
          refine g_iald 9 ao rfl rfl (Nat.le_of_ble_eq_true rfl) e_X11_least_380 hs (fun hi28 hs => ?_)
          obtain ⟨hc29, hs⟩ := chk_elim hs
          refine g_icmp_eq e_X11_least_381 hc29 (ok_t_best _) hs (fun c381 hs => ?_) (fun c381 hs => ?_)
          · exact g_mask [true, true, true, true, true, true, true, false, true, true] (hk_390 _ ok_v8 hs)
          · exact g_X11_least_384 ao ok_t_knots ok_t_lines ok_t_chosen ok_t_many ok_t_way ok_t_isGone ok_t_start ok_t_goal ok_t_line ok_t_choice ok_t_cost ok_t_best ok_t_groupOf ok_v4 ok_v5 ok_v6 ok_v7 ok_v8 ih hk_390 hs
    · exact g_X11_least_384 ao ok_t_knots ok_t_lines ok_t_chosen ok_t_many ok_t_way ok_t_isGone ok_t_start ok_t_goal ok_t_line ok_t_choice ok_t_cost ok_t_best ok_t_groupOf ok_v4 ok_v5 ok_v6 ok_v7 ok_v8 ih hk_390 hs

noncomputable def m_X11_least_429 (t_groupOf : Nat → Int) (v4 : Int) (v6 : Int) (v8 : Int) (v9 : Int) (s1 : Int) (s2 : Int) (ag : (Nat → Int) → Int → Option (Int × Int × (Nat → Int) × (Nat → Int) × (Nat → Int) × (Nat → Int))) (k_436 : (Nat → Int) → Int → Option (Int × Int × (Nat → Int) × (Nat → Int) × (Nat → Int) × (Nat → Int))) : Option (Int × Int × (Nat → Int) × (Nat → Int) × (Nat → Int) × (Nat → Int)) :=
  chk (inB s1 8) (chk (inI (v9 + 1)) (ag (up t_groupOf (Int.toNat s1) s2) (v9 + 1)))

set_option maxRecDepth 10000 in
set_option maxHeartbeats 8000000 in
theorem g_X11_least_429 {l : Launch} {E : EE} {b0 n : Nat} {h : AH} {a_t : Nat} {t_thrown t_taped t_p t_fault t_baseLow t_baseHigh t_newBaseLow t_newBaseHigh t_from t_knots t_lines t_chosen t_undos t_redos t_aimedMany t_fits t_fitOf t_sights t_systems t_own t_cross t_curveLong t_wallFirst v4 v5 v6 v8 v9 s1 s2 : Int} {t_many t_way t_isGone t_start t_goal t_line t_choice t_cost t_best t_groupOf : Nat → Int} {r : Int × Int × (Nat → Int) × (Nat → Int) × (Nat → Int) × (Nat → Int)} {ag : (Nat → Int) → Int → Option (Int × Int × (Nat → Int) × (Nat → Int) × (Nat → Int) × (Nat → Int))} {k_436 : (Nat → Int) → Int → Option (Int × Int × (Nat → Int) × (Nat → Int) × (Nat → Int) × (Nat → Int))} (ao : AO b0 n [a_t, (a_t + 2), (a_t + 4), (a_t + 15), (a_t + 16), (a_t + 17), (a_t + 18), (a_t + 20), (a_t + 21), (a_t + 22), (a_t + 23)]) (ok_t_knots : inI t_knots) (ok_t_lines : inI t_lines) (ok_t_chosen : inI t_chosen) (ok_t_many : okA t_many) (ok_t_way : okA t_way) (ok_t_isGone : okZ t_isGone) (ok_t_start : okA t_start) (ok_t_goal : okA t_goal) (ok_t_line : okA t_line) (ok_t_choice : okA t_choice) (ok_t_cost : okA t_cost) (ok_t_best : okA t_best) (ok_t_groupOf : okA t_groupOf) (ok_v4 : inI v4) (ok_v5 : inI v5) (ok_v6 : inI v6) (ok_v8 : inI v8) (ok_v9 : inI v9) (ok_s1 : inI s1) (ok_s2 : inI s2) (hag : ∀ (t_groupOf_ : Nat → Int) (v9_ : Int), okA t_groupOf_ → inI v9_ → ag t_groupOf_ v9_ = some r → G l E b0 M_X11_least (fun _ => True) (ZM E b0 (some (vI r.1)) (ov [a_t, (a_t + 2), (a_t + 4), (a_t + 15), (a_t + 16), (a_t + 17), (a_t + 18), (a_t + 20), (a_t + 21), (a_t + 22), (a_t + 23)] [.inr (11, fsX11 a_t t_thrown t_taped t_p t_fault t_baseLow t_baseHigh t_newBaseLow t_newBaseHigh t_from t_knots t_lines r.2.1 t_undos t_redos t_aimedMany t_fits t_fitOf t_sights t_systems t_own t_cross t_curveLong t_wallFirst), IA E 7 t_many, IA E 144 t_way, ZA E 120 t_isGone, IA E 120 t_start, IA E 120 t_goal, IA E 360 t_line, IA E 8 r.2.2.1, IA E 256 r.2.2.2.1, IA E 256 r.2.2.2.2.1, IA E 8 r.2.2.2.2.2] h) n (inI r.1 ∧ inI r.2.1 ∧ okA r.2.2.1 ∧ okA r.2.2.2.1 ∧ okA r.2.2.2.2.1 ∧ okA r.2.2.2.2.2) 0 0) 0 0 n (ov [a_t, (a_t + 2), (a_t + 4), (a_t + 15), (a_t + 16), (a_t + 17), (a_t + 18), (a_t + 20), (a_t + 21), (a_t + 22), (a_t + 23)] [.inr (11, fsX11 a_t t_thrown t_taped t_p t_fault t_baseLow t_baseHigh t_newBaseLow t_newBaseHigh t_from t_knots t_lines t_chosen t_undos t_redos t_aimedMany t_fits t_fitOf t_sights t_systems t_own t_cross t_curveLong t_wallFirst), IA E 7 t_many, IA E 144 t_way, ZA E 120 t_isGone, IA E 120 t_start, IA E 120 t_goal, IA E 360 t_line, IA E 8 t_choice, IA E 256 t_cost, IA E 256 t_best, IA E 8 t_groupOf_] h) 393 [some (.ref a_t), none, none, none, some (vI v4), some (vI v5), some (vI v6), none, some (vI v8), some (vI v9_)] []) (hk_436 : ∀ (t_groupOf_ : Nat → Int) (v9_ : Int), okA t_groupOf_ → inI v9_ → k_436 t_groupOf_ v9_ = some r → G l E b0 M_X11_least (fun _ => True) (ZM E b0 (some (vI r.1)) (ov [a_t, (a_t + 2), (a_t + 4), (a_t + 15), (a_t + 16), (a_t + 17), (a_t + 18), (a_t + 20), (a_t + 21), (a_t + 22), (a_t + 23)] [.inr (11, fsX11 a_t t_thrown t_taped t_p t_fault t_baseLow t_baseHigh t_newBaseLow t_newBaseHigh t_from t_knots t_lines r.2.1 t_undos t_redos t_aimedMany t_fits t_fitOf t_sights t_systems t_own t_cross t_curveLong t_wallFirst), IA E 7 t_many, IA E 144 t_way, ZA E 120 t_isGone, IA E 120 t_start, IA E 120 t_goal, IA E 360 t_line, IA E 8 r.2.2.1, IA E 256 r.2.2.2.1, IA E 256 r.2.2.2.2.1, IA E 8 r.2.2.2.2.2] h) n (inI r.1 ∧ inI r.2.1 ∧ okA r.2.2.1 ∧ okA r.2.2.2.1 ∧ okA r.2.2.2.2.1 ∧ okA r.2.2.2.2.2) 0 0) 0 0 n (ov [a_t, (a_t + 2), (a_t + 4), (a_t + 15), (a_t + 16), (a_t + 17), (a_t + 18), (a_t + 20), (a_t + 21), (a_t + 22), (a_t + 23)] [.inr (11, fsX11 a_t t_thrown t_taped t_p t_fault t_baseLow t_baseHigh t_newBaseLow t_newBaseHigh t_from t_knots t_lines t_chosen t_undos t_redos t_aimedMany t_fits t_fitOf t_sights t_systems t_own t_cross t_curveLong t_wallFirst), IA E 7 t_many, IA E 144 t_way, ZA E 120 t_isGone, IA E 120 t_start, IA E 120 t_goal, IA E 360 t_line, IA E 8 t_choice, IA E 256 t_cost, IA E 256 t_best, IA E 8 t_groupOf_] h) 436 [some (.ref a_t), none, none, none, some (vI v4), some (vI v5), some (vI v6), none, some (vI v8), none] []) (hs : m_X11_least_429 t_groupOf v4 v6 v8 v9 s1 s2 ag k_436 = some r) : G l E b0 M_X11_least (fun _ => True) (ZM E b0 (some (vI r.1)) (ov [a_t, (a_t + 2), (a_t + 4), (a_t + 15), (a_t + 16), (a_t + 17), (a_t + 18), (a_t + 20), (a_t + 21), (a_t + 22), (a_t + 23)] [.inr (11, fsX11 a_t t_thrown t_taped t_p t_fault t_baseLow t_baseHigh t_newBaseLow t_newBaseHigh t_from t_knots t_lines r.2.1 t_undos t_redos t_aimedMany t_fits t_fitOf t_sights t_systems t_own t_cross t_curveLong t_wallFirst), IA E 7 t_many, IA E 144 t_way, ZA E 120 t_isGone, IA E 120 t_start, IA E 120 t_goal, IA E 360 t_line, IA E 8 r.2.2.1, IA E 256 r.2.2.2.1, IA E 256 r.2.2.2.2.1, IA E 8 r.2.2.2.2.2] h) n (inI r.1 ∧ inI r.2.1 ∧ okA r.2.2.1 ∧ okA r.2.2.2.1 ∧ okA r.2.2.2.2.1 ∧ okA r.2.2.2.2.2) 0 0) 0 0 n (ov [a_t, (a_t + 2), (a_t + 4), (a_t + 15), (a_t + 16), (a_t + 17), (a_t + 18), (a_t + 20), (a_t + 21), (a_t + 22), (a_t + 23)] [.inr (11, fsX11 a_t t_thrown t_taped t_p t_fault t_baseLow t_baseHigh t_newBaseLow t_newBaseHigh t_from t_knots t_lines t_chosen t_undos t_redos t_aimedMany t_fits t_fitOf t_sights t_systems t_own t_cross t_curveLong t_wallFirst), IA E 7 t_many, IA E 144 t_way, ZA E 120 t_isGone, IA E 120 t_start, IA E 120 t_goal, IA E 360 t_line, IA E 8 t_choice, IA E 256 t_cost, IA E 256 t_best, IA E 8 t_groupOf] h) 429 [some (.ref a_t), none, none, none, some (vI v4), some (vI v5), some (vI v6), none, some (vI v8), some (vI v9)] [vI s2, vI s1, .ref (a_t + 23)] := by
  rw [m_X11_least_429] at hs
  refine g_iast 10 ao rfl rfl ls_10 (Nat.le_of_ble_eq_true rfl) e_X11_least_429 hs (fun hi30 hs => ?_)
  refine g_iinc e_X11_least_430 rfl st1_9 rfl ?_
  refine g_goto e_X11_least_433 ?_
  obtain ⟨hc31, hs⟩ := chk_elim hs
  exact hag _ _ (okA_up ok_t_groupOf ok_s2) hc31 hs

noncomputable def m_X11_least_393 (v4 : Int) (v6 : Int) (v8 : Int) (k_436 : (Nat → Int) → Int → Option (Int × Int × (Nat → Int) × (Nat → Int) × (Nat → Int) × (Nat → Int))) : Nat → (Nat → Int) → Int → Option (Int × Int × (Nat → Int) × (Nat → Int) × (Nat → Int) × (Nat → Int))
  | 0, _, _ => none
  | F + 1, t_groupOf, v9 => if v4 ≤ v9 then (k_436 t_groupOf v9) else (if (bAnd (bShr v8 v9) 1) = 1 then (m_X11_least_429 t_groupOf v4 v6 v8 v9 v9 v6 (m_X11_least_393 v4 v6 v8 k_436 F) k_436) else (chk (inB v9 8) (m_X11_least_429 t_groupOf v4 v6 v8 v9 v9 (t_groupOf (Int.toNat v9)) (m_X11_least_393 v4 v6 v8 k_436 F) k_436)))

set_option maxRecDepth 10000 in
set_option maxHeartbeats 8000000 in
theorem g_X11_least_393 {l : Launch} {E : EE} {b0 n : Nat} {h : AH} {a_t : Nat} {t_thrown t_taped t_p t_fault t_baseLow t_baseHigh t_newBaseLow t_newBaseHigh t_from t_knots t_lines t_chosen t_undos t_redos t_aimedMany t_fits t_fitOf t_sights t_systems t_own t_cross t_curveLong t_wallFirst v4 v5 v6 v8 : Int} {t_many t_way t_isGone t_start t_goal t_line t_choice t_cost t_best : Nat → Int} {r : Int × Int × (Nat → Int) × (Nat → Int) × (Nat → Int) × (Nat → Int)} {k_436 : (Nat → Int) → Int → Option (Int × Int × (Nat → Int) × (Nat → Int) × (Nat → Int) × (Nat → Int))} (ao : AO b0 n [a_t, (a_t + 2), (a_t + 4), (a_t + 15), (a_t + 16), (a_t + 17), (a_t + 18), (a_t + 20), (a_t + 21), (a_t + 22), (a_t + 23)]) (ok_t_knots : inI t_knots) (ok_t_lines : inI t_lines) (ok_t_chosen : inI t_chosen) (ok_t_many : okA t_many) (ok_t_way : okA t_way) (ok_t_isGone : okZ t_isGone) (ok_t_start : okA t_start) (ok_t_goal : okA t_goal) (ok_t_line : okA t_line) (ok_t_choice : okA t_choice) (ok_t_cost : okA t_cost) (ok_t_best : okA t_best) (ok_v4 : inI v4) (ok_v5 : inI v5) (ok_v6 : inI v6) (ok_v8 : inI v8) (hk_436 : ∀ (t_groupOf_ : Nat → Int) (v9_ : Int), okA t_groupOf_ → inI v9_ → k_436 t_groupOf_ v9_ = some r → G l E b0 M_X11_least (fun _ => True) (ZM E b0 (some (vI r.1)) (ov [a_t, (a_t + 2), (a_t + 4), (a_t + 15), (a_t + 16), (a_t + 17), (a_t + 18), (a_t + 20), (a_t + 21), (a_t + 22), (a_t + 23)] [.inr (11, fsX11 a_t t_thrown t_taped t_p t_fault t_baseLow t_baseHigh t_newBaseLow t_newBaseHigh t_from t_knots t_lines r.2.1 t_undos t_redos t_aimedMany t_fits t_fitOf t_sights t_systems t_own t_cross t_curveLong t_wallFirst), IA E 7 t_many, IA E 144 t_way, ZA E 120 t_isGone, IA E 120 t_start, IA E 120 t_goal, IA E 360 t_line, IA E 8 r.2.2.1, IA E 256 r.2.2.2.1, IA E 256 r.2.2.2.2.1, IA E 8 r.2.2.2.2.2] h) n (inI r.1 ∧ inI r.2.1 ∧ okA r.2.2.1 ∧ okA r.2.2.2.1 ∧ okA r.2.2.2.2.1 ∧ okA r.2.2.2.2.2) 0 0) 0 0 n (ov [a_t, (a_t + 2), (a_t + 4), (a_t + 15), (a_t + 16), (a_t + 17), (a_t + 18), (a_t + 20), (a_t + 21), (a_t + 22), (a_t + 23)] [.inr (11, fsX11 a_t t_thrown t_taped t_p t_fault t_baseLow t_baseHigh t_newBaseLow t_newBaseHigh t_from t_knots t_lines t_chosen t_undos t_redos t_aimedMany t_fits t_fitOf t_sights t_systems t_own t_cross t_curveLong t_wallFirst), IA E 7 t_many, IA E 144 t_way, ZA E 120 t_isGone, IA E 120 t_start, IA E 120 t_goal, IA E 360 t_line, IA E 8 t_choice, IA E 256 t_cost, IA E 256 t_best, IA E 8 t_groupOf_] h) 436 [some (.ref a_t), none, none, none, some (vI v4), some (vI v5), some (vI v6), none, some (vI v8), none] []) :
    ∀ (F : Nat) (t_groupOf : Nat → Int) (v9 : Int), okA t_groupOf → inI v9 → m_X11_least_393 v4 v6 v8 k_436 F t_groupOf v9 = some r → G l E b0 M_X11_least (fun _ => True) (ZM E b0 (some (vI r.1)) (ov [a_t, (a_t + 2), (a_t + 4), (a_t + 15), (a_t + 16), (a_t + 17), (a_t + 18), (a_t + 20), (a_t + 21), (a_t + 22), (a_t + 23)] [.inr (11, fsX11 a_t t_thrown t_taped t_p t_fault t_baseLow t_baseHigh t_newBaseLow t_newBaseHigh t_from t_knots t_lines r.2.1 t_undos t_redos t_aimedMany t_fits t_fitOf t_sights t_systems t_own t_cross t_curveLong t_wallFirst), IA E 7 t_many, IA E 144 t_way, ZA E 120 t_isGone, IA E 120 t_start, IA E 120 t_goal, IA E 360 t_line, IA E 8 r.2.2.1, IA E 256 r.2.2.2.1, IA E 256 r.2.2.2.2.1, IA E 8 r.2.2.2.2.2] h) n (inI r.1 ∧ inI r.2.1 ∧ okA r.2.2.1 ∧ okA r.2.2.2.1 ∧ okA r.2.2.2.2.1 ∧ okA r.2.2.2.2.2) 0 0) 0 0 n (ov [a_t, (a_t + 2), (a_t + 4), (a_t + 15), (a_t + 16), (a_t + 17), (a_t + 18), (a_t + 20), (a_t + 21), (a_t + 22), (a_t + 23)] [.inr (11, fsX11 a_t t_thrown t_taped t_p t_fault t_baseLow t_baseHigh t_newBaseLow t_newBaseHigh t_from t_knots t_lines t_chosen t_undos t_redos t_aimedMany t_fits t_fitOf t_sights t_systems t_own t_cross t_curveLong t_wallFirst), IA E 7 t_many, IA E 144 t_way, ZA E 120 t_isGone, IA E 120 t_start, IA E 120 t_goal, IA E 360 t_line, IA E 8 t_choice, IA E 256 t_cost, IA E 256 t_best, IA E 8 t_groupOf] h) 393 [some (.ref a_t), none, none, none, some (vI v4), some (vI v5), some (vI v6), none, some (vI v8), some (vI v9)] [] := by
  intro F
  induction F with
  | zero =>
    intro t_groupOf v9 ok_t_groupOf ok_v9 hs
    rw [m_X11_least_393] at hs
    cases hs
  | succ F ih =>
    intro t_groupOf v9 ok_t_groupOf ok_v9 hs
    rw [m_X11_least_393] at hs
    refine g_iload e_X11_least_393 rfl ?_
    refine g_iload e_X11_least_395 rfl ?_
    refine g_icmp_ge e_X11_least_397 ok_v9 ok_v4 hs (fun c397 hs => ?_) (fun c397 hs => ?_)
    · exact g_mask [true, true, true, true, true, true, true, true, true, false] (hk_436 _ _ ok_t_groupOf ok_v9 hs)
    · refine g_aload_n e_X11_least_400 rfl ?_
      refine g_get 0 34 ao rfl rfl fsX11_g34 fl_X11_78 e_X11_least_401 ?_
      refine g_iload e_X11_least_404 rfl ?_
      refine g_iload e_X11_least_406 rfl ?_
      refine g_iload e_X11_least_408 rfl ?_
      refine g_ishr e_X11_least_410 ?_
      refine g_iconst e_X11_least_411 ?_
      refine g_iand e_X11_least_412 ?_
      refine g_iconst e_X11_least_413 ?_
      refine g_icmp_ne e_X11_least_414 (bAnd_I _ _) (by decide : inI 1) hs (fun c414 hs => ?_) (fun c414 hs => ?_)
      · refine g_iload e_X11_least_417 rfl ?_
        refine g_goto e_X11_least_419 ?_
        exact g_X11_least_429 ao ok_t_knots ok_t_lines ok_t_chosen ok_t_many ok_t_way ok_t_isGone ok_t_start ok_t_goal ok_t_line ok_t_choice ok_t_cost ok_t_best ok_t_groupOf ok_v4 ok_v5 ok_v6 ok_v8 ok_v9 ok_v9 ok_v6 ih hk_436 hs
      · refine g_aload_n e_X11_least_422 rfl ?_
        refine g_get 0 34 ao rfl rfl fsX11_g34 fl_X11_78 e_X11_least_423 ?_
        refine g_iload e_X11_least_426 rfl ?_
        refine g_iald 10 ao rfl rfl (Nat.le_of_ble_eq_true rfl) e_X11_least_428 hs (fun hi32 hs => ?_)
        exact g_X11_least_429 ao ok_t_knots ok_t_lines ok_t_chosen ok_t_many ok_t_way ok_t_isGone ok_t_start ok_t_goal ok_t_line ok_t_choice ok_t_cost ok_t_best ok_t_groupOf ok_v4 ok_v5 ok_v6 ok_v8 ok_v9 ok_v9 (ok_t_groupOf _) ih hk_436 hs

noncomputable def m_X11_least_436 (t_cost : Nat → Int) (t_best : Nat → Int) (t_groupOf : Nat → Int) (v4 : Int) (v5 : Int) (v6 : Int) (v8 : Int) (ag : (Nat → Int) → Int → Int → Option (Int × Int × (Nat → Int) × (Nat → Int) × (Nat → Int) × (Nat → Int))) (k_451 : (Nat → Int) → Int → Int → Option (Int × Int × (Nat → Int) × (Nat → Int) × (Nat → Int) × (Nat → Int))) : Option (Int × Int × (Nat → Int) × (Nat → Int) × (Nat → Int) × (Nat → Int)) :=
  chk (inI (v6 + 1)) (ag t_groupOf (bAnd v5 (bXor v8 (-1))) (v6 + 1))

set_option maxRecDepth 10000 in
set_option maxHeartbeats 8000000 in
theorem g_X11_least_436 {l : Launch} {E : EE} {b0 n : Nat} {h : AH} {a_t : Nat} {t_thrown t_taped t_p t_fault t_baseLow t_baseHigh t_newBaseLow t_newBaseHigh t_from t_knots t_lines t_chosen t_undos t_redos t_aimedMany t_fits t_fitOf t_sights t_systems t_own t_cross t_curveLong t_wallFirst v4 v5 v6 v8 : Int} {t_many t_way t_isGone t_start t_goal t_line t_choice t_cost t_best t_groupOf : Nat → Int} {r : Int × Int × (Nat → Int) × (Nat → Int) × (Nat → Int) × (Nat → Int)} {ag : (Nat → Int) → Int → Int → Option (Int × Int × (Nat → Int) × (Nat → Int) × (Nat → Int) × (Nat → Int))} {k_451 : (Nat → Int) → Int → Int → Option (Int × Int × (Nat → Int) × (Nat → Int) × (Nat → Int) × (Nat → Int))} (ao : AO b0 n [a_t, (a_t + 2), (a_t + 4), (a_t + 15), (a_t + 16), (a_t + 17), (a_t + 18), (a_t + 20), (a_t + 21), (a_t + 22), (a_t + 23)]) (ok_t_knots : inI t_knots) (ok_t_lines : inI t_lines) (ok_t_chosen : inI t_chosen) (ok_t_many : okA t_many) (ok_t_way : okA t_way) (ok_t_isGone : okZ t_isGone) (ok_t_start : okA t_start) (ok_t_goal : okA t_goal) (ok_t_line : okA t_line) (ok_t_choice : okA t_choice) (ok_t_cost : okA t_cost) (ok_t_best : okA t_best) (ok_t_groupOf : okA t_groupOf) (ok_v4 : inI v4) (ok_v5 : inI v5) (ok_v6 : inI v6) (ok_v8 : inI v8) (hag : ∀ (t_groupOf_ : Nat → Int) (v5_ : Int) (v6_ : Int), okA t_groupOf_ → inI v5_ → inI v6_ → ag t_groupOf_ v5_ v6_ = some r → G l E b0 M_X11_least (fun _ => True) (ZM E b0 (some (vI r.1)) (ov [a_t, (a_t + 2), (a_t + 4), (a_t + 15), (a_t + 16), (a_t + 17), (a_t + 18), (a_t + 20), (a_t + 21), (a_t + 22), (a_t + 23)] [.inr (11, fsX11 a_t t_thrown t_taped t_p t_fault t_baseLow t_baseHigh t_newBaseLow t_newBaseHigh t_from t_knots t_lines r.2.1 t_undos t_redos t_aimedMany t_fits t_fitOf t_sights t_systems t_own t_cross t_curveLong t_wallFirst), IA E 7 t_many, IA E 144 t_way, ZA E 120 t_isGone, IA E 120 t_start, IA E 120 t_goal, IA E 360 t_line, IA E 8 r.2.2.1, IA E 256 r.2.2.2.1, IA E 256 r.2.2.2.2.1, IA E 8 r.2.2.2.2.2] h) n (inI r.1 ∧ inI r.2.1 ∧ okA r.2.2.1 ∧ okA r.2.2.2.1 ∧ okA r.2.2.2.2.1 ∧ okA r.2.2.2.2.2) 0 0) 0 0 n (ov [a_t, (a_t + 2), (a_t + 4), (a_t + 15), (a_t + 16), (a_t + 17), (a_t + 18), (a_t + 20), (a_t + 21), (a_t + 22), (a_t + 23)] [.inr (11, fsX11 a_t t_thrown t_taped t_p t_fault t_baseLow t_baseHigh t_newBaseLow t_newBaseHigh t_from t_knots t_lines t_chosen t_undos t_redos t_aimedMany t_fits t_fitOf t_sights t_systems t_own t_cross t_curveLong t_wallFirst), IA E 7 t_many, IA E 144 t_way, ZA E 120 t_isGone, IA E 120 t_start, IA E 120 t_goal, IA E 360 t_line, IA E 8 t_choice, IA E 256 t_cost, IA E 256 t_best, IA E 8 t_groupOf_] h) 308 [some (.ref a_t), none, none, none, some (vI v4), some (vI v5_), some (vI v6_), none, none, none] []) (hk_451 : ∀ (t_groupOf_ : Nat → Int) (v5_ : Int) (v6_ : Int), okA t_groupOf_ → inI v5_ → inI v6_ → k_451 t_groupOf_ v5_ v6_ = some r → G l E b0 M_X11_least (fun _ => True) (ZM E b0 (some (vI r.1)) (ov [a_t, (a_t + 2), (a_t + 4), (a_t + 15), (a_t + 16), (a_t + 17), (a_t + 18), (a_t + 20), (a_t + 21), (a_t + 22), (a_t + 23)] [.inr (11, fsX11 a_t t_thrown t_taped t_p t_fault t_baseLow t_baseHigh t_newBaseLow t_newBaseHigh t_from t_knots t_lines r.2.1 t_undos t_redos t_aimedMany t_fits t_fitOf t_sights t_systems t_own t_cross t_curveLong t_wallFirst), IA E 7 t_many, IA E 144 t_way, ZA E 120 t_isGone, IA E 120 t_start, IA E 120 t_goal, IA E 360 t_line, IA E 8 r.2.2.1, IA E 256 r.2.2.2.1, IA E 256 r.2.2.2.2.1, IA E 8 r.2.2.2.2.2] h) n (inI r.1 ∧ inI r.2.1 ∧ okA r.2.2.1 ∧ okA r.2.2.2.1 ∧ okA r.2.2.2.2.1 ∧ okA r.2.2.2.2.2) 0 0) 0 0 n (ov [a_t, (a_t + 2), (a_t + 4), (a_t + 15), (a_t + 16), (a_t + 17), (a_t + 18), (a_t + 20), (a_t + 21), (a_t + 22), (a_t + 23)] [.inr (11, fsX11 a_t t_thrown t_taped t_p t_fault t_baseLow t_baseHigh t_newBaseLow t_newBaseHigh t_from t_knots t_lines t_chosen t_undos t_redos t_aimedMany t_fits t_fitOf t_sights t_systems t_own t_cross t_curveLong t_wallFirst), IA E 7 t_many, IA E 144 t_way, ZA E 120 t_isGone, IA E 120 t_start, IA E 120 t_goal, IA E 360 t_line, IA E 8 t_choice, IA E 256 t_cost, IA E 256 t_best, IA E 8 t_groupOf_] h) 451 [some (.ref a_t), none, none, none, some (vI v4), none, none, none, none, none] []) (hs : m_X11_least_436 t_cost t_best t_groupOf v4 v5 v6 v8 ag k_451 = some r) : G l E b0 M_X11_least (fun _ => True) (ZM E b0 (some (vI r.1)) (ov [a_t, (a_t + 2), (a_t + 4), (a_t + 15), (a_t + 16), (a_t + 17), (a_t + 18), (a_t + 20), (a_t + 21), (a_t + 22), (a_t + 23)] [.inr (11, fsX11 a_t t_thrown t_taped t_p t_fault t_baseLow t_baseHigh t_newBaseLow t_newBaseHigh t_from t_knots t_lines r.2.1 t_undos t_redos t_aimedMany t_fits t_fitOf t_sights t_systems t_own t_cross t_curveLong t_wallFirst), IA E 7 t_many, IA E 144 t_way, ZA E 120 t_isGone, IA E 120 t_start, IA E 120 t_goal, IA E 360 t_line, IA E 8 r.2.2.1, IA E 256 r.2.2.2.1, IA E 256 r.2.2.2.2.1, IA E 8 r.2.2.2.2.2] h) n (inI r.1 ∧ inI r.2.1 ∧ okA r.2.2.1 ∧ okA r.2.2.2.1 ∧ okA r.2.2.2.2.1 ∧ okA r.2.2.2.2.2) 0 0) 0 0 n (ov [a_t, (a_t + 2), (a_t + 4), (a_t + 15), (a_t + 16), (a_t + 17), (a_t + 18), (a_t + 20), (a_t + 21), (a_t + 22), (a_t + 23)] [.inr (11, fsX11 a_t t_thrown t_taped t_p t_fault t_baseLow t_baseHigh t_newBaseLow t_newBaseHigh t_from t_knots t_lines t_chosen t_undos t_redos t_aimedMany t_fits t_fitOf t_sights t_systems t_own t_cross t_curveLong t_wallFirst), IA E 7 t_many, IA E 144 t_way, ZA E 120 t_isGone, IA E 120 t_start, IA E 120 t_goal, IA E 360 t_line, IA E 8 t_choice, IA E 256 t_cost, IA E 256 t_best, IA E 8 t_groupOf] h) 436 [some (.ref a_t), none, none, none, some (vI v4), some (vI v5), some (vI v6), none, some (vI v8), none] [] := by
  rw [m_X11_least_436] at hs
  refine g_iload e_X11_least_436 rfl ?_
  refine g_iload e_X11_least_438 rfl ?_
  refine g_iconst e_X11_least_440 ?_
  refine g_ixor e_X11_least_441 ?_
  refine g_iand e_X11_least_442 ?_
  refine g_istore e_X11_least_443 st1_5 rfl ?_
  refine g_iinc e_X11_least_445 rfl st1_6 rfl ?_
  refine g_goto e_X11_least_448 ?_
  obtain ⟨hc33, hs⟩ := chk_elim hs
  exact g_mask [true, true, true, true, true, true, true, true, false, true] (hag _ _ _ ok_t_groupOf (bAnd_I _ _) hc33 hs)

noncomputable def m_X11_least_390 (t_cost : Nat → Int) (t_best : Nat → Int) (t_groupOf : Nat → Int) (v4 : Int) (v5 : Int) (v6 : Int) (v8 : Int) (ag : (Nat → Int) → Int → Int → Option (Int × Int × (Nat → Int) × (Nat → Int) × (Nat → Int) × (Nat → Int))) (k_451 : (Nat → Int) → Int → Int → Option (Int × Int × (Nat → Int) × (Nat → Int) × (Nat → Int) × (Nat → Int))) : Option (Int × Int × (Nat → Int) × (Nat → Int) × (Nat → Int) × (Nat → Int)) :=
  m_X11_least_393 v4 v6 v8 (fun t_groupOf' v9' => m_X11_least_436 t_cost t_best t_groupOf' v4 v5 v6 v8 ag k_451) FU t_groupOf 0

set_option maxRecDepth 10000 in
set_option maxHeartbeats 8000000 in
theorem g_X11_least_390 {l : Launch} {E : EE} {b0 n : Nat} {h : AH} {a_t : Nat} {t_thrown t_taped t_p t_fault t_baseLow t_baseHigh t_newBaseLow t_newBaseHigh t_from t_knots t_lines t_chosen t_undos t_redos t_aimedMany t_fits t_fitOf t_sights t_systems t_own t_cross t_curveLong t_wallFirst v4 v5 v6 v8 : Int} {t_many t_way t_isGone t_start t_goal t_line t_choice t_cost t_best t_groupOf : Nat → Int} {r : Int × Int × (Nat → Int) × (Nat → Int) × (Nat → Int) × (Nat → Int)} {ag : (Nat → Int) → Int → Int → Option (Int × Int × (Nat → Int) × (Nat → Int) × (Nat → Int) × (Nat → Int))} {k_451 : (Nat → Int) → Int → Int → Option (Int × Int × (Nat → Int) × (Nat → Int) × (Nat → Int) × (Nat → Int))} (ao : AO b0 n [a_t, (a_t + 2), (a_t + 4), (a_t + 15), (a_t + 16), (a_t + 17), (a_t + 18), (a_t + 20), (a_t + 21), (a_t + 22), (a_t + 23)]) (ok_t_knots : inI t_knots) (ok_t_lines : inI t_lines) (ok_t_chosen : inI t_chosen) (ok_t_many : okA t_many) (ok_t_way : okA t_way) (ok_t_isGone : okZ t_isGone) (ok_t_start : okA t_start) (ok_t_goal : okA t_goal) (ok_t_line : okA t_line) (ok_t_choice : okA t_choice) (ok_t_cost : okA t_cost) (ok_t_best : okA t_best) (ok_t_groupOf : okA t_groupOf) (ok_v4 : inI v4) (ok_v5 : inI v5) (ok_v6 : inI v6) (ok_v8 : inI v8) (hag : ∀ (t_groupOf_ : Nat → Int) (v5_ : Int) (v6_ : Int), okA t_groupOf_ → inI v5_ → inI v6_ → ag t_groupOf_ v5_ v6_ = some r → G l E b0 M_X11_least (fun _ => True) (ZM E b0 (some (vI r.1)) (ov [a_t, (a_t + 2), (a_t + 4), (a_t + 15), (a_t + 16), (a_t + 17), (a_t + 18), (a_t + 20), (a_t + 21), (a_t + 22), (a_t + 23)] [.inr (11, fsX11 a_t t_thrown t_taped t_p t_fault t_baseLow t_baseHigh t_newBaseLow t_newBaseHigh t_from t_knots t_lines r.2.1 t_undos t_redos t_aimedMany t_fits t_fitOf t_sights t_systems t_own t_cross t_curveLong t_wallFirst), IA E 7 t_many, IA E 144 t_way, ZA E 120 t_isGone, IA E 120 t_start, IA E 120 t_goal, IA E 360 t_line, IA E 8 r.2.2.1, IA E 256 r.2.2.2.1, IA E 256 r.2.2.2.2.1, IA E 8 r.2.2.2.2.2] h) n (inI r.1 ∧ inI r.2.1 ∧ okA r.2.2.1 ∧ okA r.2.2.2.1 ∧ okA r.2.2.2.2.1 ∧ okA r.2.2.2.2.2) 0 0) 0 0 n (ov [a_t, (a_t + 2), (a_t + 4), (a_t + 15), (a_t + 16), (a_t + 17), (a_t + 18), (a_t + 20), (a_t + 21), (a_t + 22), (a_t + 23)] [.inr (11, fsX11 a_t t_thrown t_taped t_p t_fault t_baseLow t_baseHigh t_newBaseLow t_newBaseHigh t_from t_knots t_lines t_chosen t_undos t_redos t_aimedMany t_fits t_fitOf t_sights t_systems t_own t_cross t_curveLong t_wallFirst), IA E 7 t_many, IA E 144 t_way, ZA E 120 t_isGone, IA E 120 t_start, IA E 120 t_goal, IA E 360 t_line, IA E 8 t_choice, IA E 256 t_cost, IA E 256 t_best, IA E 8 t_groupOf_] h) 308 [some (.ref a_t), none, none, none, some (vI v4), some (vI v5_), some (vI v6_), none, none, none] []) (hk_451 : ∀ (t_groupOf_ : Nat → Int) (v5_ : Int) (v6_ : Int), okA t_groupOf_ → inI v5_ → inI v6_ → k_451 t_groupOf_ v5_ v6_ = some r → G l E b0 M_X11_least (fun _ => True) (ZM E b0 (some (vI r.1)) (ov [a_t, (a_t + 2), (a_t + 4), (a_t + 15), (a_t + 16), (a_t + 17), (a_t + 18), (a_t + 20), (a_t + 21), (a_t + 22), (a_t + 23)] [.inr (11, fsX11 a_t t_thrown t_taped t_p t_fault t_baseLow t_baseHigh t_newBaseLow t_newBaseHigh t_from t_knots t_lines r.2.1 t_undos t_redos t_aimedMany t_fits t_fitOf t_sights t_systems t_own t_cross t_curveLong t_wallFirst), IA E 7 t_many, IA E 144 t_way, ZA E 120 t_isGone, IA E 120 t_start, IA E 120 t_goal, IA E 360 t_line, IA E 8 r.2.2.1, IA E 256 r.2.2.2.1, IA E 256 r.2.2.2.2.1, IA E 8 r.2.2.2.2.2] h) n (inI r.1 ∧ inI r.2.1 ∧ okA r.2.2.1 ∧ okA r.2.2.2.1 ∧ okA r.2.2.2.2.1 ∧ okA r.2.2.2.2.2) 0 0) 0 0 n (ov [a_t, (a_t + 2), (a_t + 4), (a_t + 15), (a_t + 16), (a_t + 17), (a_t + 18), (a_t + 20), (a_t + 21), (a_t + 22), (a_t + 23)] [.inr (11, fsX11 a_t t_thrown t_taped t_p t_fault t_baseLow t_baseHigh t_newBaseLow t_newBaseHigh t_from t_knots t_lines t_chosen t_undos t_redos t_aimedMany t_fits t_fitOf t_sights t_systems t_own t_cross t_curveLong t_wallFirst), IA E 7 t_many, IA E 144 t_way, ZA E 120 t_isGone, IA E 120 t_start, IA E 120 t_goal, IA E 360 t_line, IA E 8 t_choice, IA E 256 t_cost, IA E 256 t_best, IA E 8 t_groupOf_] h) 451 [some (.ref a_t), none, none, none, some (vI v4), none, none, none, none, none] []) (hs : m_X11_least_390 t_cost t_best t_groupOf v4 v5 v6 v8 ag k_451 = some r) : G l E b0 M_X11_least (fun _ => True) (ZM E b0 (some (vI r.1)) (ov [a_t, (a_t + 2), (a_t + 4), (a_t + 15), (a_t + 16), (a_t + 17), (a_t + 18), (a_t + 20), (a_t + 21), (a_t + 22), (a_t + 23)] [.inr (11, fsX11 a_t t_thrown t_taped t_p t_fault t_baseLow t_baseHigh t_newBaseLow t_newBaseHigh t_from t_knots t_lines r.2.1 t_undos t_redos t_aimedMany t_fits t_fitOf t_sights t_systems t_own t_cross t_curveLong t_wallFirst), IA E 7 t_many, IA E 144 t_way, ZA E 120 t_isGone, IA E 120 t_start, IA E 120 t_goal, IA E 360 t_line, IA E 8 r.2.2.1, IA E 256 r.2.2.2.1, IA E 256 r.2.2.2.2.1, IA E 8 r.2.2.2.2.2] h) n (inI r.1 ∧ inI r.2.1 ∧ okA r.2.2.1 ∧ okA r.2.2.2.1 ∧ okA r.2.2.2.2.1 ∧ okA r.2.2.2.2.2) 0 0) 0 0 n (ov [a_t, (a_t + 2), (a_t + 4), (a_t + 15), (a_t + 16), (a_t + 17), (a_t + 18), (a_t + 20), (a_t + 21), (a_t + 22), (a_t + 23)] [.inr (11, fsX11 a_t t_thrown t_taped t_p t_fault t_baseLow t_baseHigh t_newBaseLow t_newBaseHigh t_from t_knots t_lines t_chosen t_undos t_redos t_aimedMany t_fits t_fitOf t_sights t_systems t_own t_cross t_curveLong t_wallFirst), IA E 7 t_many, IA E 144 t_way, ZA E 120 t_isGone, IA E 120 t_start, IA E 120 t_goal, IA E 360 t_line, IA E 8 t_choice, IA E 256 t_cost, IA E 256 t_best, IA E 8 t_groupOf] h) 390 [some (.ref a_t), none, none, none, some (vI v4), some (vI v5), some (vI v6), none, some (vI v8), none] [] := by
  rw [m_X11_least_390] at hs
  refine g_iconst e_X11_least_390 ?_
  refine g_istore e_X11_least_391 st1_9 rfl ?_
  exact g_X11_least_393 ao ok_t_knots ok_t_lines ok_t_chosen ok_t_many ok_t_way ok_t_isGone ok_t_start ok_t_goal ok_t_line ok_t_choice ok_t_cost ok_t_best ok_v4 ok_v5 ok_v6 ok_v8 (hk_436 := by
      intro t_groupOf' v9' ok_t_groupOf' ok_v9' hs
      exact g_X11_least_436 ao ok_t_knots ok_t_lines ok_t_chosen ok_t_many ok_t_way ok_t_isGone ok_t_start ok_t_goal ok_t_line ok_t_choice ok_t_cost ok_t_best ok_t_groupOf' ok_v4 ok_v5 ok_v6 ok_v8 hag hk_451 hs) FU _ _ ok_t_groupOf (by decide : inI 0) hs

noncomputable def m_X11_least_308 (t_cost : Nat → Int) (t_best : Nat → Int) (v4 : Int) (k_451 : (Nat → Int) → Int → Int → Option (Int × Int × (Nat → Int) × (Nat → Int) × (Nat → Int) × (Nat → Int))) : Nat → (Nat → Int) → Int → Int → Option (Int × Int × (Nat → Int) × (Nat → Int) × (Nat → Int) × (Nat → Int))
  | 0, _, _, _ => none
  | F + 1, t_groupOf, v5, v6 => if v5 = 0 then (k_451 t_groupOf v5 v6) else (m_X11_least_325 t_cost t_best v5 (bAnd v5 (-v5)) (fun v8' => m_X11_least_390 t_cost t_best t_groupOf v4 v5 v6 v8' (m_X11_least_308 t_cost t_best v4 k_451 F) k_451) FU (bAnd v5 (-v5)))

set_option maxRecDepth 10000 in
set_option maxHeartbeats 8000000 in
theorem g_X11_least_308 {l : Launch} {E : EE} {b0 n : Nat} {h : AH} {a_t : Nat} {t_thrown t_taped t_p t_fault t_baseLow t_baseHigh t_newBaseLow t_newBaseHigh t_from t_knots t_lines t_chosen t_undos t_redos t_aimedMany t_fits t_fitOf t_sights t_systems t_own t_cross t_curveLong t_wallFirst v4 : Int} {t_many t_way t_isGone t_start t_goal t_line t_choice t_cost t_best : Nat → Int} {r : Int × Int × (Nat → Int) × (Nat → Int) × (Nat → Int) × (Nat → Int)} {k_451 : (Nat → Int) → Int → Int → Option (Int × Int × (Nat → Int) × (Nat → Int) × (Nat → Int) × (Nat → Int))} (ao : AO b0 n [a_t, (a_t + 2), (a_t + 4), (a_t + 15), (a_t + 16), (a_t + 17), (a_t + 18), (a_t + 20), (a_t + 21), (a_t + 22), (a_t + 23)]) (ok_t_knots : inI t_knots) (ok_t_lines : inI t_lines) (ok_t_chosen : inI t_chosen) (ok_t_many : okA t_many) (ok_t_way : okA t_way) (ok_t_isGone : okZ t_isGone) (ok_t_start : okA t_start) (ok_t_goal : okA t_goal) (ok_t_line : okA t_line) (ok_t_choice : okA t_choice) (ok_t_cost : okA t_cost) (ok_t_best : okA t_best) (ok_v4 : inI v4) (hk_451 : ∀ (t_groupOf_ : Nat → Int) (v5_ : Int) (v6_ : Int), okA t_groupOf_ → inI v5_ → inI v6_ → k_451 t_groupOf_ v5_ v6_ = some r → G l E b0 M_X11_least (fun _ => True) (ZM E b0 (some (vI r.1)) (ov [a_t, (a_t + 2), (a_t + 4), (a_t + 15), (a_t + 16), (a_t + 17), (a_t + 18), (a_t + 20), (a_t + 21), (a_t + 22), (a_t + 23)] [.inr (11, fsX11 a_t t_thrown t_taped t_p t_fault t_baseLow t_baseHigh t_newBaseLow t_newBaseHigh t_from t_knots t_lines r.2.1 t_undos t_redos t_aimedMany t_fits t_fitOf t_sights t_systems t_own t_cross t_curveLong t_wallFirst), IA E 7 t_many, IA E 144 t_way, ZA E 120 t_isGone, IA E 120 t_start, IA E 120 t_goal, IA E 360 t_line, IA E 8 r.2.2.1, IA E 256 r.2.2.2.1, IA E 256 r.2.2.2.2.1, IA E 8 r.2.2.2.2.2] h) n (inI r.1 ∧ inI r.2.1 ∧ okA r.2.2.1 ∧ okA r.2.2.2.1 ∧ okA r.2.2.2.2.1 ∧ okA r.2.2.2.2.2) 0 0) 0 0 n (ov [a_t, (a_t + 2), (a_t + 4), (a_t + 15), (a_t + 16), (a_t + 17), (a_t + 18), (a_t + 20), (a_t + 21), (a_t + 22), (a_t + 23)] [.inr (11, fsX11 a_t t_thrown t_taped t_p t_fault t_baseLow t_baseHigh t_newBaseLow t_newBaseHigh t_from t_knots t_lines t_chosen t_undos t_redos t_aimedMany t_fits t_fitOf t_sights t_systems t_own t_cross t_curveLong t_wallFirst), IA E 7 t_many, IA E 144 t_way, ZA E 120 t_isGone, IA E 120 t_start, IA E 120 t_goal, IA E 360 t_line, IA E 8 t_choice, IA E 256 t_cost, IA E 256 t_best, IA E 8 t_groupOf_] h) 451 [some (.ref a_t), none, none, none, some (vI v4), none, none, none, none, none] []) :
    ∀ (F : Nat) (t_groupOf : Nat → Int) (v5 : Int) (v6 : Int), okA t_groupOf → inI v5 → inI v6 → m_X11_least_308 t_cost t_best v4 k_451 F t_groupOf v5 v6 = some r → G l E b0 M_X11_least (fun _ => True) (ZM E b0 (some (vI r.1)) (ov [a_t, (a_t + 2), (a_t + 4), (a_t + 15), (a_t + 16), (a_t + 17), (a_t + 18), (a_t + 20), (a_t + 21), (a_t + 22), (a_t + 23)] [.inr (11, fsX11 a_t t_thrown t_taped t_p t_fault t_baseLow t_baseHigh t_newBaseLow t_newBaseHigh t_from t_knots t_lines r.2.1 t_undos t_redos t_aimedMany t_fits t_fitOf t_sights t_systems t_own t_cross t_curveLong t_wallFirst), IA E 7 t_many, IA E 144 t_way, ZA E 120 t_isGone, IA E 120 t_start, IA E 120 t_goal, IA E 360 t_line, IA E 8 r.2.2.1, IA E 256 r.2.2.2.1, IA E 256 r.2.2.2.2.1, IA E 8 r.2.2.2.2.2] h) n (inI r.1 ∧ inI r.2.1 ∧ okA r.2.2.1 ∧ okA r.2.2.2.1 ∧ okA r.2.2.2.2.1 ∧ okA r.2.2.2.2.2) 0 0) 0 0 n (ov [a_t, (a_t + 2), (a_t + 4), (a_t + 15), (a_t + 16), (a_t + 17), (a_t + 18), (a_t + 20), (a_t + 21), (a_t + 22), (a_t + 23)] [.inr (11, fsX11 a_t t_thrown t_taped t_p t_fault t_baseLow t_baseHigh t_newBaseLow t_newBaseHigh t_from t_knots t_lines t_chosen t_undos t_redos t_aimedMany t_fits t_fitOf t_sights t_systems t_own t_cross t_curveLong t_wallFirst), IA E 7 t_many, IA E 144 t_way, ZA E 120 t_isGone, IA E 120 t_start, IA E 120 t_goal, IA E 360 t_line, IA E 8 t_choice, IA E 256 t_cost, IA E 256 t_best, IA E 8 t_groupOf] h) 308 [some (.ref a_t), none, none, none, some (vI v4), some (vI v5), some (vI v6), none, none, none] [] := by
  intro F
  induction F with
  | zero =>
    intro t_groupOf v5 v6 ok_t_groupOf ok_v5 ok_v6 hs
    rw [m_X11_least_308] at hs
    cases hs
  | succ F ih =>
    intro t_groupOf v5 v6 ok_t_groupOf ok_v5 ok_v6 hs
    rw [m_X11_least_308] at hs
    refine g_iload e_X11_least_308 rfl ?_
    refine g_if_eq e_X11_least_310 ok_v5 hs (fun c310 hs => ?_) (fun c310 hs => ?_)
    · exact g_mask [true, true, true, true, true, false, false, true, true, true] (hk_451 _ _ _ ok_t_groupOf ok_v5 ok_v6 hs)
    · refine g_iload e_X11_least_313 rfl ?_
      refine g_iload e_X11_least_315 rfl ?_
      refine g_ineg e_X11_least_317 ?_
      refine g_iand e_X11_least_318 ?_
      refine g_istore e_X11_least_319 st1_7 rfl ?_
      refine g_iload e_X11_least_321 rfl ?_
      refine g_istore e_X11_least_323 st1_8 rfl ?_
      exact g_X11_least_325 ao ok_t_knots ok_t_lines ok_t_chosen ok_t_many ok_t_way ok_t_isGone ok_t_start ok_t_goal ok_t_line ok_t_choice ok_t_cost ok_t_best ok_t_groupOf ok_v4 ok_v5 ok_v6 (bAnd_I _ _) (hk_390 := by
      intro v8' ok_v8' hs
      exact g_X11_least_390 ao ok_t_knots ok_t_lines ok_t_chosen ok_t_many ok_t_way ok_t_isGone ok_t_start ok_t_goal ok_t_line ok_t_choice ok_t_cost ok_t_best ok_t_groupOf ok_v4 ok_v5 ok_v6 ok_v8' ih hk_451 hs) FU _ (bAnd_I _ _) hs

noncomputable def m_X11_least_451 (t_chosen : Int) (t_choice : Nat → Int) (t_cost : Nat → Int) (t_best : Nat → Int) (t_groupOf : Nat → Int) (v4 : Int) : Option (Int × Int × (Nat → Int) × (Nat → Int) × (Nat → Int) × (Nat → Int)) :=
  chk (inB ((bShl 1 v4) - 1) 256) (some (t_best (Int.toNat ((bShl 1 v4) - 1)), v4, t_choice, t_cost, t_best, t_groupOf))

set_option maxRecDepth 10000 in
set_option maxHeartbeats 8000000 in
theorem g_X11_least_451 {l : Launch} {E : EE} {b0 n : Nat} {h : AH} {a_t : Nat} {t_thrown t_taped t_p t_fault t_baseLow t_baseHigh t_newBaseLow t_newBaseHigh t_from t_knots t_lines t_chosen t_undos t_redos t_aimedMany t_fits t_fitOf t_sights t_systems t_own t_cross t_curveLong t_wallFirst v4 : Int} {t_many t_way t_isGone t_start t_goal t_line t_choice t_cost t_best t_groupOf : Nat → Int} {r : Int × Int × (Nat → Int) × (Nat → Int) × (Nat → Int) × (Nat → Int)} (ao : AO b0 n [a_t, (a_t + 2), (a_t + 4), (a_t + 15), (a_t + 16), (a_t + 17), (a_t + 18), (a_t + 20), (a_t + 21), (a_t + 22), (a_t + 23)]) (ok_t_knots : inI t_knots) (ok_t_lines : inI t_lines) (ok_t_chosen : inI t_chosen) (ok_t_many : okA t_many) (ok_t_way : okA t_way) (ok_t_isGone : okZ t_isGone) (ok_t_start : okA t_start) (ok_t_goal : okA t_goal) (ok_t_line : okA t_line) (ok_t_choice : okA t_choice) (ok_t_cost : okA t_cost) (ok_t_best : okA t_best) (ok_t_groupOf : okA t_groupOf) (ok_v4 : inI v4) (hs : m_X11_least_451 t_chosen t_choice t_cost t_best t_groupOf v4 = some r) : G l E b0 M_X11_least (fun _ => True) (ZM E b0 (some (vI r.1)) (ov [a_t, (a_t + 2), (a_t + 4), (a_t + 15), (a_t + 16), (a_t + 17), (a_t + 18), (a_t + 20), (a_t + 21), (a_t + 22), (a_t + 23)] [.inr (11, fsX11 a_t t_thrown t_taped t_p t_fault t_baseLow t_baseHigh t_newBaseLow t_newBaseHigh t_from t_knots t_lines r.2.1 t_undos t_redos t_aimedMany t_fits t_fitOf t_sights t_systems t_own t_cross t_curveLong t_wallFirst), IA E 7 t_many, IA E 144 t_way, ZA E 120 t_isGone, IA E 120 t_start, IA E 120 t_goal, IA E 360 t_line, IA E 8 r.2.2.1, IA E 256 r.2.2.2.1, IA E 256 r.2.2.2.2.1, IA E 8 r.2.2.2.2.2] h) n (inI r.1 ∧ inI r.2.1 ∧ okA r.2.2.1 ∧ okA r.2.2.2.1 ∧ okA r.2.2.2.2.1 ∧ okA r.2.2.2.2.2) 0 0) 0 0 n (ov [a_t, (a_t + 2), (a_t + 4), (a_t + 15), (a_t + 16), (a_t + 17), (a_t + 18), (a_t + 20), (a_t + 21), (a_t + 22), (a_t + 23)] [.inr (11, fsX11 a_t t_thrown t_taped t_p t_fault t_baseLow t_baseHigh t_newBaseLow t_newBaseHigh t_from t_knots t_lines t_chosen t_undos t_redos t_aimedMany t_fits t_fitOf t_sights t_systems t_own t_cross t_curveLong t_wallFirst), IA E 7 t_many, IA E 144 t_way, ZA E 120 t_isGone, IA E 120 t_start, IA E 120 t_goal, IA E 360 t_line, IA E 8 t_choice, IA E 256 t_cost, IA E 256 t_best, IA E 8 t_groupOf] h) 451 [some (.ref a_t), none, none, none, some (vI v4), none, none, none, none, none] [] := by
  rw [m_X11_least_451] at hs
  refine g_aload_n e_X11_least_451 rfl ?_
  refine g_iload e_X11_least_452 rfl ?_
  refine g_put 0 30 ao rfl rfl fsX11_k30 fsX11_s30 ls_0 fw_X11_302 (fun h => by cases h) ⟨rfl, rfl⟩ e_X11_least_454 ?_
  refine g_aload_n e_X11_least_457 rfl ?_
  refine g_get 0 33 ao rfl rfl fsX11_g33 fl_X11_75 e_X11_least_458 ?_
  refine g_iconst e_X11_least_461 ?_
  refine g_iload e_X11_least_462 rfl ?_
  refine g_ishl e_X11_least_464 ?_
  refine g_iconst e_X11_least_465 ?_
  refine g_isub e_X11_least_466 ?_
  refine g_iald 9 ao rfl rfl (Nat.le_of_ble_eq_true rfl) e_X11_least_467 hs (fun hi35 hs => ?_)
  obtain rfl := Option.some.inj hs
  exact g_iret rfl ⟨(ok_t_best _), ok_v4, ok_t_choice, ok_t_cost, ok_t_best, ok_t_groupOf⟩ e_X11_least_468

noncomputable def m_X11_least_297 (t_chosen : Int) (t_choice : Nat → Int) (t_cost : Nat → Int) (t_best : Nat → Int) (t_groupOf : Nat → Int) (v4 : Int) : Option (Int × Int × (Nat → Int) × (Nat → Int) × (Nat → Int) × (Nat → Int)) :=
  chk (inI ((bShl 1 v4) - 1)) (m_X11_least_308 t_cost t_best v4 (fun t_groupOf' v5' v6' => m_X11_least_451 t_chosen t_choice t_cost t_best t_groupOf' v4) FU t_groupOf ((bShl 1 v4) - 1) 0)

set_option maxRecDepth 10000 in
set_option maxHeartbeats 8000000 in
theorem g_X11_least_297 {l : Launch} {E : EE} {b0 n : Nat} {h : AH} {a_t : Nat} {t_thrown t_taped t_p t_fault t_baseLow t_baseHigh t_newBaseLow t_newBaseHigh t_from t_knots t_lines t_chosen t_undos t_redos t_aimedMany t_fits t_fitOf t_sights t_systems t_own t_cross t_curveLong t_wallFirst v4 : Int} {t_many t_way t_isGone t_start t_goal t_line t_choice t_cost t_best t_groupOf : Nat → Int} {r : Int × Int × (Nat → Int) × (Nat → Int) × (Nat → Int) × (Nat → Int)} (ao : AO b0 n [a_t, (a_t + 2), (a_t + 4), (a_t + 15), (a_t + 16), (a_t + 17), (a_t + 18), (a_t + 20), (a_t + 21), (a_t + 22), (a_t + 23)]) (ok_t_knots : inI t_knots) (ok_t_lines : inI t_lines) (ok_t_chosen : inI t_chosen) (ok_t_many : okA t_many) (ok_t_way : okA t_way) (ok_t_isGone : okZ t_isGone) (ok_t_start : okA t_start) (ok_t_goal : okA t_goal) (ok_t_line : okA t_line) (ok_t_choice : okA t_choice) (ok_t_cost : okA t_cost) (ok_t_best : okA t_best) (ok_t_groupOf : okA t_groupOf) (ok_v4 : inI v4) (hs : m_X11_least_297 t_chosen t_choice t_cost t_best t_groupOf v4 = some r) : G l E b0 M_X11_least (fun _ => True) (ZM E b0 (some (vI r.1)) (ov [a_t, (a_t + 2), (a_t + 4), (a_t + 15), (a_t + 16), (a_t + 17), (a_t + 18), (a_t + 20), (a_t + 21), (a_t + 22), (a_t + 23)] [.inr (11, fsX11 a_t t_thrown t_taped t_p t_fault t_baseLow t_baseHigh t_newBaseLow t_newBaseHigh t_from t_knots t_lines r.2.1 t_undos t_redos t_aimedMany t_fits t_fitOf t_sights t_systems t_own t_cross t_curveLong t_wallFirst), IA E 7 t_many, IA E 144 t_way, ZA E 120 t_isGone, IA E 120 t_start, IA E 120 t_goal, IA E 360 t_line, IA E 8 r.2.2.1, IA E 256 r.2.2.2.1, IA E 256 r.2.2.2.2.1, IA E 8 r.2.2.2.2.2] h) n (inI r.1 ∧ inI r.2.1 ∧ okA r.2.2.1 ∧ okA r.2.2.2.1 ∧ okA r.2.2.2.2.1 ∧ okA r.2.2.2.2.2) 0 0) 0 0 n (ov [a_t, (a_t + 2), (a_t + 4), (a_t + 15), (a_t + 16), (a_t + 17), (a_t + 18), (a_t + 20), (a_t + 21), (a_t + 22), (a_t + 23)] [.inr (11, fsX11 a_t t_thrown t_taped t_p t_fault t_baseLow t_baseHigh t_newBaseLow t_newBaseHigh t_from t_knots t_lines t_chosen t_undos t_redos t_aimedMany t_fits t_fitOf t_sights t_systems t_own t_cross t_curveLong t_wallFirst), IA E 7 t_many, IA E 144 t_way, ZA E 120 t_isGone, IA E 120 t_start, IA E 120 t_goal, IA E 360 t_line, IA E 8 t_choice, IA E 256 t_cost, IA E 256 t_best, IA E 8 t_groupOf] h) 297 [some (.ref a_t), none, none, none, some (vI v4), none, none, none, none, none] [] := by
  rw [m_X11_least_297] at hs
  refine g_iconst e_X11_least_297 ?_
  refine g_iload e_X11_least_298 rfl ?_
  refine g_ishl e_X11_least_300 ?_
  refine g_iconst e_X11_least_301 ?_
  refine g_isub e_X11_least_302 ?_
  refine g_istore e_X11_least_303 st1_5 rfl ?_
  refine g_iconst e_X11_least_305 ?_
  refine g_istore e_X11_least_306 st1_6 rfl ?_
  obtain ⟨hc34, hs⟩ := chk_elim hs
  exact g_X11_least_308 ao ok_t_knots ok_t_lines ok_t_chosen ok_t_many ok_t_way ok_t_isGone ok_t_start ok_t_goal ok_t_line ok_t_choice ok_t_cost ok_t_best ok_v4 (hk_451 := by
      intro t_groupOf' v5' v6' ok_t_groupOf' ok_v5' ok_v6' hs
      exact g_X11_least_451 ao ok_t_knots ok_t_lines ok_t_chosen ok_t_many ok_t_way ok_t_isGone ok_t_start ok_t_goal ok_t_line ok_t_choice ok_t_cost ok_t_best ok_t_groupOf' ok_v4 hs) FU _ _ _ ok_t_groupOf hc34 (by decide : inI 0) hs

noncomputable def m_X11_least_143 (t_chosen : Int) (t_choice : Nat → Int) (t_cost : Nat → Int) (t_best : Nat → Int) (t_groupOf : Nat → Int) (v4 : Int) : Option (Int × Int × (Nat → Int) × (Nat → Int) × (Nat → Int) × (Nat → Int)) :=
  chk (inB 0 256) (m_X11_least_153 t_cost v4 (fun t_best' v5' => m_X11_least_297 t_chosen t_choice t_cost t_best' t_groupOf v4) FU (up t_best (Int.toNat 0) 0) 1)

set_option maxRecDepth 10000 in
set_option maxHeartbeats 8000000 in
theorem g_X11_least_143 {l : Launch} {E : EE} {b0 n : Nat} {h : AH} {a_t : Nat} {t_thrown t_taped t_p t_fault t_baseLow t_baseHigh t_newBaseLow t_newBaseHigh t_from t_knots t_lines t_chosen t_undos t_redos t_aimedMany t_fits t_fitOf t_sights t_systems t_own t_cross t_curveLong t_wallFirst v4 : Int} {t_many t_way t_isGone t_start t_goal t_line t_choice t_cost t_best t_groupOf : Nat → Int} {r : Int × Int × (Nat → Int) × (Nat → Int) × (Nat → Int) × (Nat → Int)} (ao : AO b0 n [a_t, (a_t + 2), (a_t + 4), (a_t + 15), (a_t + 16), (a_t + 17), (a_t + 18), (a_t + 20), (a_t + 21), (a_t + 22), (a_t + 23)]) (ok_t_knots : inI t_knots) (ok_t_lines : inI t_lines) (ok_t_chosen : inI t_chosen) (ok_t_many : okA t_many) (ok_t_way : okA t_way) (ok_t_isGone : okZ t_isGone) (ok_t_start : okA t_start) (ok_t_goal : okA t_goal) (ok_t_line : okA t_line) (ok_t_choice : okA t_choice) (ok_t_cost : okA t_cost) (ok_t_best : okA t_best) (ok_t_groupOf : okA t_groupOf) (ok_v4 : inI v4) (hs : m_X11_least_143 t_chosen t_choice t_cost t_best t_groupOf v4 = some r) : G l E b0 M_X11_least (fun _ => True) (ZM E b0 (some (vI r.1)) (ov [a_t, (a_t + 2), (a_t + 4), (a_t + 15), (a_t + 16), (a_t + 17), (a_t + 18), (a_t + 20), (a_t + 21), (a_t + 22), (a_t + 23)] [.inr (11, fsX11 a_t t_thrown t_taped t_p t_fault t_baseLow t_baseHigh t_newBaseLow t_newBaseHigh t_from t_knots t_lines r.2.1 t_undos t_redos t_aimedMany t_fits t_fitOf t_sights t_systems t_own t_cross t_curveLong t_wallFirst), IA E 7 t_many, IA E 144 t_way, ZA E 120 t_isGone, IA E 120 t_start, IA E 120 t_goal, IA E 360 t_line, IA E 8 r.2.2.1, IA E 256 r.2.2.2.1, IA E 256 r.2.2.2.2.1, IA E 8 r.2.2.2.2.2] h) n (inI r.1 ∧ inI r.2.1 ∧ okA r.2.2.1 ∧ okA r.2.2.2.1 ∧ okA r.2.2.2.2.1 ∧ okA r.2.2.2.2.2) 0 0) 0 0 n (ov [a_t, (a_t + 2), (a_t + 4), (a_t + 15), (a_t + 16), (a_t + 17), (a_t + 18), (a_t + 20), (a_t + 21), (a_t + 22), (a_t + 23)] [.inr (11, fsX11 a_t t_thrown t_taped t_p t_fault t_baseLow t_baseHigh t_newBaseLow t_newBaseHigh t_from t_knots t_lines t_chosen t_undos t_redos t_aimedMany t_fits t_fitOf t_sights t_systems t_own t_cross t_curveLong t_wallFirst), IA E 7 t_many, IA E 144 t_way, ZA E 120 t_isGone, IA E 120 t_start, IA E 120 t_goal, IA E 360 t_line, IA E 8 t_choice, IA E 256 t_cost, IA E 256 t_best, IA E 8 t_groupOf] h) 143 [some (.ref a_t), none, none, none, some (vI v4), none, none, none, none, none] [] := by
  rw [m_X11_least_143] at hs
  refine g_aload_n e_X11_least_143 rfl ?_
  refine g_get 0 33 ao rfl rfl fsX11_g33 fl_X11_75 e_X11_least_144 ?_
  refine g_iconst e_X11_least_147 ?_
  refine g_iconst e_X11_least_148 ?_
  refine g_iast 9 ao rfl rfl ls_9 (Nat.le_of_ble_eq_true rfl) e_X11_least_149 hs (fun hi11 hs => ?_)
  refine g_iconst e_X11_least_150 ?_
  refine g_istore e_X11_least_151 st1_5 rfl ?_
  exact g_X11_least_153 ao ok_t_knots ok_t_lines ok_t_chosen ok_t_many ok_t_way ok_t_isGone ok_t_start ok_t_goal ok_t_line ok_t_choice ok_t_cost ok_t_groupOf ok_v4 (hk_297 := by
      intro t_best' v5' ok_t_best' ok_v5' hs
      exact g_X11_least_297 ao ok_t_knots ok_t_lines ok_t_chosen ok_t_many ok_t_way ok_t_isGone ok_t_start ok_t_goal ok_t_line ok_t_choice ok_t_cost ok_t_best' ok_t_groupOf ok_v4 hs) FU _ _ (okA_up ok_t_best (by decide : inI 0)) (by decide : inI 1) hs

noncomputable def m_X11_least_101 (t_chosen : Int) (t_many : Nat → Int) (t_way : Nat → Int) (t_start : Nat → Int) (t_line : Nat → Int) (t_choice : Nat → Int) (t_cost : Nat → Int) (t_best : Nat → Int) (t_groupOf : Nat → Int) (v1 : Int) (v4 : Int) : Option (Int × Int × (Nat → Int) × (Nat → Int) × (Nat → Int) × (Nat → Int)) :=
  if 2 ≤ v4 then (m_X11_least_112 t_many t_way t_start t_line t_choice v1 v4 (fun t_cost' v5' => m_X11_least_143 t_chosen t_choice t_cost' t_best t_groupOf v4) FU t_cost 1) else (some ((-1), t_chosen, t_choice, t_cost, t_best, t_groupOf))

set_option maxRecDepth 10000 in
set_option maxHeartbeats 8000000 in
theorem g_X11_least_101 {l : Launch} {E : EE} {b0 n : Nat} {h : AH} {a_t : Nat} {t_thrown t_taped t_p t_fault t_baseLow t_baseHigh t_newBaseLow t_newBaseHigh t_from t_knots t_lines t_chosen t_undos t_redos t_aimedMany t_fits t_fitOf t_sights t_systems t_own t_cross t_curveLong t_wallFirst v1 v4 : Int} {t_many t_way t_isGone t_start t_goal t_line t_choice t_cost t_best t_groupOf : Nat → Int} {r : Int × Int × (Nat → Int) × (Nat → Int) × (Nat → Int) × (Nat → Int)} (ao : AO b0 n [a_t, (a_t + 2), (a_t + 4), (a_t + 15), (a_t + 16), (a_t + 17), (a_t + 18), (a_t + 20), (a_t + 21), (a_t + 22), (a_t + 23)]) (ok_t_knots : inI t_knots) (ok_t_lines : inI t_lines) (ok_t_chosen : inI t_chosen) (ok_t_many : okA t_many) (ok_t_way : okA t_way) (ok_t_isGone : okZ t_isGone) (ok_t_start : okA t_start) (ok_t_goal : okA t_goal) (ok_t_line : okA t_line) (ok_t_choice : okA t_choice) (ok_t_cost : okA t_cost) (ok_t_best : okA t_best) (ok_t_groupOf : okA t_groupOf) (ok_v1 : inI v1) (ok_v4 : inI v4) (hs : m_X11_least_101 t_chosen t_many t_way t_start t_line t_choice t_cost t_best t_groupOf v1 v4 = some r) : G l E b0 M_X11_least (fun _ => True) (ZM E b0 (some (vI r.1)) (ov [a_t, (a_t + 2), (a_t + 4), (a_t + 15), (a_t + 16), (a_t + 17), (a_t + 18), (a_t + 20), (a_t + 21), (a_t + 22), (a_t + 23)] [.inr (11, fsX11 a_t t_thrown t_taped t_p t_fault t_baseLow t_baseHigh t_newBaseLow t_newBaseHigh t_from t_knots t_lines r.2.1 t_undos t_redos t_aimedMany t_fits t_fitOf t_sights t_systems t_own t_cross t_curveLong t_wallFirst), IA E 7 t_many, IA E 144 t_way, ZA E 120 t_isGone, IA E 120 t_start, IA E 120 t_goal, IA E 360 t_line, IA E 8 r.2.2.1, IA E 256 r.2.2.2.1, IA E 256 r.2.2.2.2.1, IA E 8 r.2.2.2.2.2] h) n (inI r.1 ∧ inI r.2.1 ∧ okA r.2.2.1 ∧ okA r.2.2.2.1 ∧ okA r.2.2.2.2.1 ∧ okA r.2.2.2.2.2) 0 0) 0 0 n (ov [a_t, (a_t + 2), (a_t + 4), (a_t + 15), (a_t + 16), (a_t + 17), (a_t + 18), (a_t + 20), (a_t + 21), (a_t + 22), (a_t + 23)] [.inr (11, fsX11 a_t t_thrown t_taped t_p t_fault t_baseLow t_baseHigh t_newBaseLow t_newBaseHigh t_from t_knots t_lines t_chosen t_undos t_redos t_aimedMany t_fits t_fitOf t_sights t_systems t_own t_cross t_curveLong t_wallFirst), IA E 7 t_many, IA E 144 t_way, ZA E 120 t_isGone, IA E 120 t_start, IA E 120 t_goal, IA E 360 t_line, IA E 8 t_choice, IA E 256 t_cost, IA E 256 t_best, IA E 8 t_groupOf] h) 101 [some (.ref a_t), some (vI v1), none, none, some (vI v4), none, none, none, none, none] [] := by
  rw [m_X11_least_101] at hs
  refine g_iload e_X11_least_101 rfl ?_
  refine g_iconst e_X11_least_103 ?_
  refine g_icmp_ge e_X11_least_104 ok_v4 (by decide : inI 2) hs (fun c104 hs => ?_) (fun c104 hs => ?_)
  · refine g_iconst e_X11_least_109 ?_
    refine g_istore e_X11_least_110 st1_5 rfl ?_
    exact g_X11_least_112 ao ok_t_knots ok_t_lines ok_t_chosen ok_t_many ok_t_way ok_t_isGone ok_t_start ok_t_goal ok_t_line ok_t_choice ok_t_best ok_t_groupOf ok_v1 ok_v4 (hk_143 := by
      intro t_cost' v5' ok_t_cost' ok_v5' hs
      exact g_X11_least_143 ao ok_t_knots ok_t_lines ok_t_chosen ok_t_many ok_t_way ok_t_isGone ok_t_start ok_t_goal ok_t_line ok_t_choice ok_t_cost' ok_t_best ok_t_groupOf ok_v4 hs) FU _ _ ok_t_cost (by decide : inI 1) hs
  · refine g_iconst e_X11_least_107 ?_
    obtain rfl := Option.some.inj hs
    exact g_iret rfl ⟨(by decide : inI (-1)), ok_t_chosen, ok_t_choice, ok_t_cost, ok_t_best, ok_t_groupOf⟩ e_X11_least_108

noncomputable def m_X11_least_81 (t_chosen : Int) (t_choice : Nat → Int) (t_cost : Nat → Int) (t_best : Nat → Int) (t_groupOf : Nat → Int) : Option (Int × Int × (Nat → Int) × (Nat → Int) × (Nat → Int) × (Nat → Int)) :=
  some ((-1), t_chosen, t_choice, t_cost, t_best, t_groupOf)

set_option maxRecDepth 10000 in
set_option maxHeartbeats 8000000 in
theorem g_X11_least_81 {l : Launch} {E : EE} {b0 n : Nat} {h : AH} {a_t : Nat} {t_thrown t_taped t_p t_fault t_baseLow t_baseHigh t_newBaseLow t_newBaseHigh t_from t_knots t_lines t_chosen t_undos t_redos t_aimedMany t_fits t_fitOf t_sights t_systems t_own t_cross t_curveLong t_wallFirst : Int} {t_many t_way t_isGone t_start t_goal t_line t_choice t_cost t_best t_groupOf : Nat → Int} {r : Int × Int × (Nat → Int) × (Nat → Int) × (Nat → Int) × (Nat → Int)} (ao : AO b0 n [a_t, (a_t + 2), (a_t + 4), (a_t + 15), (a_t + 16), (a_t + 17), (a_t + 18), (a_t + 20), (a_t + 21), (a_t + 22), (a_t + 23)]) (ok_t_knots : inI t_knots) (ok_t_lines : inI t_lines) (ok_t_chosen : inI t_chosen) (ok_t_many : okA t_many) (ok_t_way : okA t_way) (ok_t_isGone : okZ t_isGone) (ok_t_start : okA t_start) (ok_t_goal : okA t_goal) (ok_t_line : okA t_line) (ok_t_choice : okA t_choice) (ok_t_cost : okA t_cost) (ok_t_best : okA t_best) (ok_t_groupOf : okA t_groupOf) (hs : m_X11_least_81 t_chosen t_choice t_cost t_best t_groupOf = some r) : G l E b0 M_X11_least (fun _ => True) (ZM E b0 (some (vI r.1)) (ov [a_t, (a_t + 2), (a_t + 4), (a_t + 15), (a_t + 16), (a_t + 17), (a_t + 18), (a_t + 20), (a_t + 21), (a_t + 22), (a_t + 23)] [.inr (11, fsX11 a_t t_thrown t_taped t_p t_fault t_baseLow t_baseHigh t_newBaseLow t_newBaseHigh t_from t_knots t_lines r.2.1 t_undos t_redos t_aimedMany t_fits t_fitOf t_sights t_systems t_own t_cross t_curveLong t_wallFirst), IA E 7 t_many, IA E 144 t_way, ZA E 120 t_isGone, IA E 120 t_start, IA E 120 t_goal, IA E 360 t_line, IA E 8 r.2.2.1, IA E 256 r.2.2.2.1, IA E 256 r.2.2.2.2.1, IA E 8 r.2.2.2.2.2] h) n (inI r.1 ∧ inI r.2.1 ∧ okA r.2.2.1 ∧ okA r.2.2.2.1 ∧ okA r.2.2.2.2.1 ∧ okA r.2.2.2.2.2) 0 0) 0 0 n (ov [a_t, (a_t + 2), (a_t + 4), (a_t + 15), (a_t + 16), (a_t + 17), (a_t + 18), (a_t + 20), (a_t + 21), (a_t + 22), (a_t + 23)] [.inr (11, fsX11 a_t t_thrown t_taped t_p t_fault t_baseLow t_baseHigh t_newBaseLow t_newBaseHigh t_from t_knots t_lines t_chosen t_undos t_redos t_aimedMany t_fits t_fitOf t_sights t_systems t_own t_cross t_curveLong t_wallFirst), IA E 7 t_many, IA E 144 t_way, ZA E 120 t_isGone, IA E 120 t_start, IA E 120 t_goal, IA E 360 t_line, IA E 8 t_choice, IA E 256 t_cost, IA E 256 t_best, IA E 8 t_groupOf] h) 81 [none, none, none, none, none, none, none, none, none, none] [] := by
  rw [m_X11_least_81] at hs
  refine g_iconst e_X11_least_81 ?_
  obtain rfl := Option.some.inj hs
  exact g_iret rfl ⟨(by decide : inI (-1)), ok_t_chosen, ok_t_choice, ok_t_cost, ok_t_best, ok_t_groupOf⟩ e_X11_least_82

noncomputable def m_X11_least_0 (t_knots : Int) (t_lines : Int) (t_chosen : Int) (t_many : Nat → Int) (t_way : Nat → Int) (t_isGone : Nat → Int) (t_start : Nat → Int) (t_goal : Nat → Int) (t_line : Nat → Int) (t_choice : Nat → Int) (t_cost : Nat → Int) (t_best : Nat → Int) (t_groupOf : Nat → Int) (v1 : Int) (v2 : Int) : Option (Int × Int × (Nat → Int) × (Nat → Int) × (Nat → Int) × (Nat → Int)) :=
  (m_X11_isKnot t_knots v1).bind (fun y1 => if y1 = 0 then (some ((-1), t_chosen, t_choice, t_cost, t_best, t_groupOf)) else (if (jShr v2 60) = 0 then (m_X11_least_25 t_lines t_isGone t_start t_goal v1 v2 (fun t_choice' v4' v5' => m_X11_least_101 t_chosen t_many t_way t_start t_line t_choice' t_cost t_best t_groupOf v1 v4') (fun t_choice' v4' v5' => m_X11_least_81 t_chosen t_choice' t_cost t_best t_groupOf) FU t_choice 0 0) else (some ((-1), t_chosen, t_choice, t_cost, t_best, t_groupOf))))

set_option maxRecDepth 10000 in
set_option maxHeartbeats 8000000 in
theorem g_X11_least_0 {l : Launch} {E : EE} {b0 n : Nat} {h : AH} {a_t : Nat} {t_thrown t_taped t_p t_fault t_baseLow t_baseHigh t_newBaseLow t_newBaseHigh t_from t_knots t_lines t_chosen t_undos t_redos t_aimedMany t_fits t_fitOf t_sights t_systems t_own t_cross t_curveLong t_wallFirst v1 v2 : Int} {t_many t_way t_isGone t_start t_goal t_line t_choice t_cost t_best t_groupOf : Nat → Int} {r : Int × Int × (Nat → Int) × (Nat → Int) × (Nat → Int) × (Nat → Int)} (ao : AO b0 n [a_t, (a_t + 2), (a_t + 4), (a_t + 15), (a_t + 16), (a_t + 17), (a_t + 18), (a_t + 20), (a_t + 21), (a_t + 22), (a_t + 23)]) (ok_t_knots : inI t_knots) (ok_t_lines : inI t_lines) (ok_t_chosen : inI t_chosen) (ok_t_many : okA t_many) (ok_t_way : okA t_way) (ok_t_isGone : okZ t_isGone) (ok_t_start : okA t_start) (ok_t_goal : okA t_goal) (ok_t_line : okA t_line) (ok_t_choice : okA t_choice) (ok_t_cost : okA t_cost) (ok_t_best : okA t_best) (ok_t_groupOf : okA t_groupOf) (ok_v1 : inI v1) (ok_v2 : inJ v2) (hs : m_X11_least_0 t_knots t_lines t_chosen t_many t_way t_isGone t_start t_goal t_line t_choice t_cost t_best t_groupOf v1 v2 = some r) : G l E b0 M_X11_least (fun _ => True) (ZM E b0 (some (vI r.1)) (ov [a_t, (a_t + 2), (a_t + 4), (a_t + 15), (a_t + 16), (a_t + 17), (a_t + 18), (a_t + 20), (a_t + 21), (a_t + 22), (a_t + 23)] [.inr (11, fsX11 a_t t_thrown t_taped t_p t_fault t_baseLow t_baseHigh t_newBaseLow t_newBaseHigh t_from t_knots t_lines r.2.1 t_undos t_redos t_aimedMany t_fits t_fitOf t_sights t_systems t_own t_cross t_curveLong t_wallFirst), IA E 7 t_many, IA E 144 t_way, ZA E 120 t_isGone, IA E 120 t_start, IA E 120 t_goal, IA E 360 t_line, IA E 8 r.2.2.1, IA E 256 r.2.2.2.1, IA E 256 r.2.2.2.2.1, IA E 8 r.2.2.2.2.2] h) n (inI r.1 ∧ inI r.2.1 ∧ okA r.2.2.1 ∧ okA r.2.2.2.1 ∧ okA r.2.2.2.2.1 ∧ okA r.2.2.2.2.2) 0 0) 0 0 n (ov [a_t, (a_t + 2), (a_t + 4), (a_t + 15), (a_t + 16), (a_t + 17), (a_t + 18), (a_t + 20), (a_t + 21), (a_t + 22), (a_t + 23)] [.inr (11, fsX11 a_t t_thrown t_taped t_p t_fault t_baseLow t_baseHigh t_newBaseLow t_newBaseHigh t_from t_knots t_lines t_chosen t_undos t_redos t_aimedMany t_fits t_fitOf t_sights t_systems t_own t_cross t_curveLong t_wallFirst), IA E 7 t_many, IA E 144 t_way, ZA E 120 t_isGone, IA E 120 t_start, IA E 120 t_goal, IA E 360 t_line, IA E 8 t_choice, IA E 256 t_cost, IA E 256 t_best, IA E 8 t_groupOf] h) 0 [some (.ref a_t), some (vI v1), some (vJ v2), none, none, none, none, none, none, none] [] := by
  rw [m_X11_least_0] at hs
  refine g_aload_n e_X11_least_0 rfl ?_
  refine g_iload_n e_X11_least_1 rfl ?_
  obtain ⟨y1, hy1, hs⟩ := bind_elim hs
  refine g_callVr [vI v1] cv_X11_274 ⟨rfl, rfl, Nat.le_of_ble_eq_true rfl, Nat.le_of_ble_eq_true rfl⟩ (ct_X11_isKnot (a_t := a_t) (AO_call [0] ao (by decide) rfl) (FA_call [0] ao.1 rfl rfl) ok_t_knots ok_v1 hy1) e_X11_least_2 (ao.2 0 _ rfl) (ov_get 0 ao.1 rfl rfl) rfl rfl rfl (Nat.le_of_ble_eq_true rfl) ⟨Nat.le_refl _, Nat.le_refl _⟩ (fun Py1 => ?_)
  refine g_if_eq e_X11_least_5 (inZ_I Py1) hs (fun c5 hs => ?_) (fun c5 hs => ?_)
  · refine g_iconst e_X11_least_17 ?_
    obtain rfl := Option.some.inj hs
    exact g_iret rfl ⟨(by decide : inI (-1)), ok_t_chosen, ok_t_choice, ok_t_cost, ok_t_best, ok_t_groupOf⟩ e_X11_least_18
  · refine g_lload_n e_X11_least_8 rfl ?_
    refine g_bipush e_X11_least_9 bp_60 ?_
    refine g_lshr e_X11_least_11 ?_
    refine g_lconst (a := 0) e_X11_least_12 rfl ?_
    refine g_lcmp_eq e_X11_least_13 e_X11_least_14 (jShr_J _ _) (by decide : inJ 0) hs (fun c13 hs => ?_) (fun c13 hs => ?_)
    · refine g_iconst e_X11_least_19 ?_
      refine g_istore e_X11_least_20 st1_4 rfl ?_
      refine g_iconst e_X11_least_22 ?_
      refine g_istore e_X11_least_23 st1_5 rfl ?_
      exact g_X11_least_25 ao ok_t_knots ok_t_lines ok_t_chosen ok_t_many ok_t_way ok_t_isGone ok_t_start ok_t_goal ok_t_line ok_t_cost ok_t_best ok_t_groupOf ok_v1 ok_v2 (hk_101 := by
      intro t_choice' v4' v5' ok_t_choice' ok_v4' ok_v5' hs
      exact g_X11_least_101 ao ok_t_knots ok_t_lines ok_t_chosen ok_t_many ok_t_way ok_t_isGone ok_t_start ok_t_goal ok_t_line ok_t_choice' ok_t_cost ok_t_best ok_t_groupOf ok_v1 ok_v4' hs) (hk_81 := by
      intro t_choice' v4' v5' ok_t_choice' ok_v4' ok_v5' hs
      exact g_X11_least_81 ao ok_t_knots ok_t_lines ok_t_chosen ok_t_many ok_t_way ok_t_isGone ok_t_start ok_t_goal ok_t_line ok_t_choice' ok_t_cost ok_t_best ok_t_groupOf hs) FU _ _ _ ok_t_choice (by decide : inI 0) (by decide : inI 0) hs
    · refine g_iconst e_X11_least_17 ?_
      obtain rfl := Option.some.inj hs
      exact g_iret rfl ⟨(by decide : inI (-1)), ok_t_chosen, ok_t_choice, ok_t_cost, ok_t_best, ok_t_groupOf⟩ e_X11_least_18

noncomputable def m_X11_least (t_knots : Int) (t_lines : Int) (t_chosen : Int) (t_many : Nat → Int) (t_way : Nat → Int) (t_isGone : Nat → Int) (t_start : Nat → Int) (t_goal : Nat → Int) (t_line : Nat → Int) (t_choice : Nat → Int) (t_cost : Nat → Int) (t_best : Nat → Int) (t_groupOf : Nat → Int) (v1 : Int) (v2 : Int) : Option (Int × Int × (Nat → Int) × (Nat → Int) × (Nat → Int) × (Nat → Int)) := m_X11_least_0 t_knots t_lines t_chosen t_many t_way t_isGone t_start t_goal t_line t_choice t_cost t_best t_groupOf v1 v2

set_option maxRecDepth 10000 in
set_option maxHeartbeats 8000000 in
theorem ct_X11_least {l : Launch} {E : EE} {b0 n : Nat} {h : AH} {a_t : Nat} {t_thrown t_taped t_p t_fault t_baseLow t_baseHigh t_newBaseLow t_newBaseHigh t_from t_knots t_lines t_chosen t_undos t_redos t_aimedMany t_fits t_fitOf t_sights t_systems t_own t_cross t_curveLong t_wallFirst : Int} {t_many t_way t_isGone t_start t_goal t_line t_choice t_cost t_best t_groupOf : Nat → Int} {v1 v2 : Int} (ao : AO b0 n [a_t, (a_t + 2), (a_t + 4), (a_t + 15), (a_t + 16), (a_t + 17), (a_t + 18), (a_t + 20), (a_t + 21), (a_t + 22), (a_t + 23)]) (hf : FA h [a_t, (a_t + 2), (a_t + 4), (a_t + 15), (a_t + 16), (a_t + 17), (a_t + 18), (a_t + 20), (a_t + 21), (a_t + 22), (a_t + 23)] [.inr (11, fsX11 a_t t_thrown t_taped t_p t_fault t_baseLow t_baseHigh t_newBaseLow t_newBaseHigh t_from t_knots t_lines t_chosen t_undos t_redos t_aimedMany t_fits t_fitOf t_sights t_systems t_own t_cross t_curveLong t_wallFirst), IA E 7 t_many, IA E 144 t_way, ZA E 120 t_isGone, IA E 120 t_start, IA E 120 t_goal, IA E 360 t_line, IA E 8 t_choice, IA E 256 t_cost, IA E 256 t_best, IA E 8 t_groupOf]) (ok_t_knots : inI t_knots) (ok_t_lines : inI t_lines) (ok_t_chosen : inI t_chosen) (ok_t_many : okA t_many) (ok_t_way : okA t_way) (ok_t_isGone : okZ t_isGone) (ok_t_start : okA t_start) (ok_t_goal : okA t_goal) (ok_t_line : okA t_line) (ok_t_choice : okA t_choice) (ok_t_cost : okA t_cost) (ok_t_best : okA t_best) (ok_t_groupOf : okA t_groupOf) (ok_v1 : inI v1) (ok_v2 : inJ v2) {r : Int × Int × (Nat → Int) × (Nat → Int) × (Nat → Int) × (Nat → Int)} (hm : m_X11_least t_knots t_lines t_chosen t_many t_way t_isGone t_start t_goal t_line t_choice t_cost t_best t_groupOf v1 v2 = some r) : Ct l E b0 M_X11_least 0 0 [.ref a_t, vI v1, vJ v2] h n (some (vI r.1)) (ov [a_t, (a_t + 2), (a_t + 4), (a_t + 15), (a_t + 16), (a_t + 17), (a_t + 18), (a_t + 20), (a_t + 21), (a_t + 22), (a_t + 23)] [.inr (11, fsX11 a_t t_thrown t_taped t_p t_fault t_baseLow t_baseHigh t_newBaseLow t_newBaseHigh t_from t_knots t_lines r.2.1 t_undos t_redos t_aimedMany t_fits t_fitOf t_sights t_systems t_own t_cross t_curveLong t_wallFirst), IA E 7 t_many, IA E 144 t_way, ZA E 120 t_isGone, IA E 120 t_start, IA E 120 t_goal, IA E 360 t_line, IA E 8 r.2.2.1, IA E 256 r.2.2.2.1, IA E 256 r.2.2.2.2.1, IA E 8 r.2.2.2.2.2] h) n (inI r.1 ∧ inI r.2.1 ∧ okA r.2.2.1 ∧ okA r.2.2.2.1 ∧ okA r.2.2.2.2.1 ∧ okA r.2.2.2.2.2) := by
  rw [m_X11_least] at hm
  have hg : G l E b0 M_X11_least (fun _ => True) (ZM E b0 (some (vI r.1)) (ov [a_t, (a_t + 2), (a_t + 4), (a_t + 15), (a_t + 16), (a_t + 17), (a_t + 18), (a_t + 20), (a_t + 21), (a_t + 22), (a_t + 23)] [.inr (11, fsX11 a_t t_thrown t_taped t_p t_fault t_baseLow t_baseHigh t_newBaseLow t_newBaseHigh t_from t_knots t_lines r.2.1 t_undos t_redos t_aimedMany t_fits t_fitOf t_sights t_systems t_own t_cross t_curveLong t_wallFirst), IA E 7 t_many, IA E 144 t_way, ZA E 120 t_isGone, IA E 120 t_start, IA E 120 t_goal, IA E 360 t_line, IA E 8 r.2.2.1, IA E 256 r.2.2.2.1, IA E 256 r.2.2.2.2.1, IA E 8 r.2.2.2.2.2] h) n (inI r.1 ∧ inI r.2.1 ∧ okA r.2.2.1 ∧ okA r.2.2.2.1 ∧ okA r.2.2.2.2.1 ∧ okA r.2.2.2.2.2) 0 0) 0 0 n (ov [a_t, (a_t + 2), (a_t + 4), (a_t + 15), (a_t + 16), (a_t + 17), (a_t + 18), (a_t + 20), (a_t + 21), (a_t + 22), (a_t + 23)] [.inr (11, fsX11 a_t t_thrown t_taped t_p t_fault t_baseLow t_baseHigh t_newBaseLow t_newBaseHigh t_from t_knots t_lines t_chosen t_undos t_redos t_aimedMany t_fits t_fitOf t_sights t_systems t_own t_cross t_curveLong t_wallFirst), IA E 7 t_many, IA E 144 t_way, ZA E 120 t_isGone, IA E 120 t_start, IA E 120 t_goal, IA E 360 t_line, IA E 8 t_choice, IA E 256 t_cost, IA E 256 t_best, IA E 8 t_groupOf] h) 0 [some (.ref a_t), some (vI v1), some (vJ v2), none, none, none, none, none, none, none] [] := by
    have hs := hm
    exact g_X11_least_0 ao ok_t_knots ok_t_lines ok_t_chosen ok_t_many ok_t_way ok_t_isGone ok_t_start ok_t_goal ok_t_line ok_t_choice ok_t_cost ok_t_best ok_t_groupOf ok_v1 ok_v2 hs
  rw [FA_id hf] at hg
  exact Ct_of [some (.ref a_t), some (vI v1), some (vJ v2), none, none, none, none, none, none, none] ⟨by decide +kernel, rfl⟩ rfl (Nat.le_of_ble_eq_true rfl) hg


def M_X11_runs : MB := (yX11_runs, cX11_runs, 5, (some .int), ({ frames := 3, cells := 0, slots := 0, locals := 94 } : Room), RX11)
def M_X11_isAs : MB := (yX11_isAs, cX11_isAs, 4, (some .boolean), ({ frames := 1, cells := 0, slots := 0, locals := 40 } : Room), RX11)
def M_X11_atHand : MB := (yX11_atHand, cX11_atHand, 1, none, ({ frames := 2, cells := 0, slots := 0, locals := 65 } : Room), RX11)
def M_X11_remembers : MB := (yX11_remembers, cX11_remembers, 2, none, ({ frames := 2, cells := 0, slots := 0, locals := 65 } : Room), RX11)
def M_X11_act : MB := (yX11_act, cX11_act, 1, none, ({ frames := 3, cells := 0, slots := 0, locals := 86 } : Room), RX11)
def M_X11_undo : MB := (yX11_undo, cX11_undo, 1, (some .boolean), ({ frames := 2, cells := 0, slots := 0, locals := 65 } : Room), RX11)
def M_X11_redo : MB := (yX11_redo, cX11_redo, 1, (some .boolean), ({ frames := 3, cells := 0, slots := 0, locals := 86 } : Room), RX11)
def M_X11_put_ : MB := (yX11_put_, cX11_put_, 3, (some .boolean), ({ frames := 4, cells := 0, slots := 0, locals := 106 } : Room), RX11)
def M_X11_at : MB := (yX11_at, cX11_at, 2, (some .int), ({ frames := 2, cells := 0, slots := 0, locals := 62 } : Room), RX11)
def M_X11_feels_ : MB := (yX11_feels_, cX11_feels_, 3, (some .int), ({ frames := 3, cells := 0, slots := 0, locals := 85 } : Room), RX11)
def M_X11_clear : MB := (yX11_clear, cX11_clear, 3, (some .int), ({ frames := 4, cells := 0, slots := 0, locals := 106 } : Room), RX11)
def M_X11_mark : MB := (yX11_mark, cX11_mark, 2, none, ({ frames := 1, cells := 0, slots := 0, locals := 40 } : Room), RX11)
def M_X11_back : MB := (yX11_back, cX11_back, 2, (some .int), ({ frames := 4, cells := 0, slots := 0, locals := 106 } : Room), RX11)
def M_X11_run : MB := (yX11_run, cX11_run, 5, (some .int), ({ frames := 4, cells := 0, slots := 0, locals := 118 } : Room), RX11)
def M_X11_sure : MB := (yX11_sure, cX11_sure, 5, (some .int), ({ frames := 4, cells := 0, slots := 0, locals := 118 } : Room), RX11)
def M_X11_shape : MB := (yX11_shape, cX11_shape, 5, (some .long), ({ frames := 3, cells := 0, slots := 0, locals := 84 } : Room), RX11)
def M_X11_size : MB := (yX11_size, cX11_size, 1, (some .int), ({ frames := 1, cells := 0, slots := 0, locals := 40 } : Room), RX11)
def M_X11_aim : MB := (yX11_aim, cX11_aim, 20, (some .int), ({ frames := 4, cells := 0, slots := 0, locals := 118 } : Room), RX11)
theorem cb_X11_act : CB M_X11_act 0 := ⟨GW_of 1897 (by decide +kernel) (by decide +kernel), GW_of 96 (by decide +kernel) (by decide +kernel), by decide +kernel, by decide +kernel, by decide +kernel⟩
theorem cb_X11_atHand : CB M_X11_atHand 0 := ⟨GW_of 1885 (by decide +kernel) (by decide +kernel), GW_of 96 (by decide +kernel) (by decide +kernel), by decide +kernel, by decide +kernel, by decide +kernel⟩
theorem cb_X11_isAs : CB M_X11_isAs 1 := ⟨GW_of 1946 (by decide +kernel) (by decide +kernel), GW_of 96 (by decide +kernel) (by decide +kernel), by decide +kernel, by decide +kernel, by decide +kernel⟩
theorem cb_X11_keeps : CB M_X11_keeps 4 := ⟨GW_of 1869 (by decide +kernel) (by decide +kernel), GW_of 96 (by decide +kernel) (by decide +kernel), by decide +kernel, by decide +kernel, by decide +kernel⟩
theorem cb_X11_pushesAsRead : CB M_X11_pushesAsRead 0 := ⟨GW_of 1889 (by decide +kernel) (by decide +kernel), GW_of 96 (by decide +kernel) (by decide +kernel), by decide +kernel, by decide +kernel, by decide +kernel⟩
theorem cb_X11_remembers : CB M_X11_remembers 0 := ⟨GW_of 1877 (by decide +kernel) (by decide +kernel), GW_of 96 (by decide +kernel) (by decide +kernel), by decide +kernel, by decide +kernel, by decide +kernel⟩
theorem cb_X11_runs : CB M_X11_runs 3 := ⟨GW_of 1929 (by decide +kernel) (by decide +kernel), GW_of 96 (by decide +kernel) (by decide +kernel), by decide +kernel, by decide +kernel, by decide +kernel⟩
theorem cb_X11_size : CB M_X11_size 1 := ⟨GW_of 1958 (by decide +kernel) (by decide +kernel), GW_of 96 (by decide +kernel) (by decide +kernel), by decide +kernel, by decide +kernel, by decide +kernel⟩
theorem cb_X11_takes : CB M_X11_takes 4 := ⟨GW_of 1865 (by decide +kernel) (by decide +kernel), GW_of 96 (by decide +kernel) (by decide +kernel), by decide +kernel, by decide +kernel, by decide +kernel⟩
theorem cb_X11_tick : CB M_X11_tick 3 := ⟨GW_of 1933 (by decide +kernel) (by decide +kernel), GW_of 96 (by decide +kernel) (by decide +kernel), by decide +kernel, by decide +kernel, by decide +kernel⟩
theorem k_X11_301 : Cond.constant RX11 301 (Int32.ofInt (-1000000000)) ∈ GW := GW_of 1813 (by decide +kernel) (by decide +kernel)
theorem k_X11_375 : Cond.constantLong RX11 375 (Int64.ofInt (-1000000000000)) ∈ GW := GW_of 1951 (by decide +kernel) (by decide +kernel)
theorem fl_X11_97 : FL RX11 97 11 40 := ⟨RX11, TX11, 71, rfl, by decide, rfl, Or.inl (GW_of 1482 (by decide +kernel) (by decide +kernel))⟩
theorem fl_X11_103 : FL RX11 103 11 42 := ⟨RX11, TX11, 71, rfl, by decide, rfl, Or.inl (GW_of 1484 (by decide +kernel) (by decide +kernel))⟩
theorem fl_X11_350 : FL RX11 350 11 47 := ⟨RX11, TX11, 71, rfl, by decide, rfl, Or.inl (GW_of 1489 (by decide +kernel) (by decide +kernel))⟩
theorem fl_X11_106 : FL RX11 106 11 43 := ⟨RX11, TX11, 71, rfl, by decide, rfl, Or.inl (GW_of 1485 (by decide +kernel) (by decide +kernel))⟩
theorem fl_X11_112 : FL RX11 112 11 45 := ⟨RX11, TX11, 71, rfl, by decide, rfl, Or.inl (GW_of 1487 (by decide +kernel) (by decide +kernel))⟩
theorem fw_X11_350 : FW RX11 350 11 47 false .int := ⟨RX11, TX11, 71, rfl, by decide, rfl, rfl, by decide +kernel, Or.inl (GW_of 1489 (by decide +kernel) (by decide +kernel)), fun h => by cases h⟩
theorem fw_X11_359 : FW RX11 359 11 48 false .int := ⟨RX11, TX11, 71, rfl, by decide, rfl, rfl, by decide +kernel, Or.inl (GW_of 1490 (by decide +kernel) (by decide +kernel)), fun h => by cases h⟩
theorem fl_X11_109 : FL RX11 109 11 44 := ⟨RX11, TX11, 71, rfl, by decide, rfl, Or.inl (GW_of 1486 (by decide +kernel) (by decide +kernel))⟩
theorem fl_X11_359 : FL RX11 359 11 48 := ⟨RX11, TX11, 71, rfl, by decide, rfl, Or.inl (GW_of 1490 (by decide +kernel) (by decide +kernel))⟩
theorem fl_X11_115 : FL RX11 115 11 46 := ⟨RX11, TX11, 71, rfl, by decide, rfl, Or.inl (GW_of 1488 (by decide +kernel) (by decide +kernel))⟩
theorem fl_X11_100 : FL RX11 100 11 41 := ⟨RX11, TX11, 71, rfl, by decide, rfl, Or.inl (GW_of 1483 (by decide +kernel) (by decide +kernel))⟩
theorem fl_X11_118 : FL RX11 118 11 49 := ⟨RX11, TX11, 71, rfl, by decide, rfl, Or.inl (GW_of 1491 (by decide +kernel) (by decide +kernel))⟩
theorem fl_X11_121 : FL RX11 121 11 50 := ⟨RX11, TX11, 71, rfl, by decide, rfl, Or.inl (GW_of 1492 (by decide +kernel) (by decide +kernel))⟩
theorem fl_X11_124 : FL RX11 124 11 52 := ⟨RX11, TX11, 71, rfl, by decide, rfl, Or.inl (GW_of 1494 (by decide +kernel) (by decide +kernel))⟩
theorem fw_X11_380 : FW RX11 380 11 51 false .int := ⟨RX11, TX11, 71, rfl, by decide, rfl, rfl, by decide +kernel, Or.inl (GW_of 1493 (by decide +kernel) (by decide +kernel)), fun h => by cases h⟩
theorem fl_X11_127 : FL RX11 127 11 53 := ⟨RX11, TX11, 71, rfl, by decide, rfl, Or.inl (GW_of 1495 (by decide +kernel) (by decide +kernel))⟩
theorem cv_X11_340 : CV RX11 340 M_X11_tick 3 := ⟨cb_X11_tick, Or.inl (GW_of 1930 (by decide +kernel) (by decide +kernel)), GW_of 1932 (by decide +kernel) (by decide +kernel), GW_of 69 (by decide +kernel) (by decide +kernel)⟩
theorem cv_X11_343 : CV RX11 343 M_X11_pushesAsRead 0 := ⟨cb_X11_pushesAsRead, Or.inl (GW_of 1886 (by decide +kernel) (by decide +kernel)), GW_of 1888 (by decide +kernel) (by decide +kernel), GW_of 64 (by decide +kernel) (by decide +kernel)⟩
theorem cv_X11_346 : CV RX11 346 M_X11_takes 4 := ⟨cb_X11_takes, Or.inl (GW_of 1862 (by decide +kernel) (by decide +kernel)), GW_of 1864 (by decide +kernel) (by decide +kernel), GW_of 60 (by decide +kernel) (by decide +kernel)⟩
theorem cv_X11_353 : CV RX11 353 M_X11_keeps 4 := ⟨cb_X11_keeps, Or.inl (GW_of 1866 (by decide +kernel) (by decide +kernel)), GW_of 1868 (by decide +kernel) (by decide +kernel), GW_of 61 (by decide +kernel) (by decide +kernel)⟩
theorem cv_X11_356 : CV RX11 356 M_X11_remembers 0 := ⟨cb_X11_remembers, Or.inl (GW_of 1874 (by decide +kernel) (by decide +kernel)), GW_of 1876 (by decide +kernel) (by decide +kernel), GW_of 62 (by decide +kernel) (by decide +kernel)⟩
theorem cv_X11_362 : CV RX11 362 M_X11_atHand 0 := ⟨cb_X11_atHand, Or.inl (GW_of 1882 (by decide +kernel) (by decide +kernel)), GW_of 1884 (by decide +kernel) (by decide +kernel), GW_of 63 (by decide +kernel) (by decide +kernel)⟩
theorem cv_X11_365 : CV RX11 365 M_X11_act 0 := ⟨cb_X11_act, Or.inl (GW_of 1894 (by decide +kernel) (by decide +kernel)), GW_of 1896 (by decide +kernel) (by decide +kernel), GW_of 66 (by decide +kernel) (by decide +kernel)⟩
theorem cv_X11_368 : CV RX11 368 M_X11_runs 3 := ⟨cb_X11_runs, Or.inl (GW_of 1926 (by decide +kernel) (by decide +kernel)), GW_of 1928 (by decide +kernel) (by decide +kernel), GW_of 68 (by decide +kernel) (by decide +kernel)⟩
theorem cv_X11_371 : CV RX11 371 M_X11_isAs 1 := ⟨cb_X11_isAs, Or.inl (GW_of 1943 (by decide +kernel) (by decide +kernel)), GW_of 1945 (by decide +kernel) (by decide +kernel), GW_of 71 (by decide +kernel) (by decide +kernel)⟩
theorem cs_X11_377 : CS RX11 377 M_X11_size 1 := ⟨cb_X11_size, Or.inl (GW_of 1956 (by decide +kernel) (by decide +kernel)), GW_of 1957 (by decide +kernel) (by decide +kernel)⟩
/-! ===== X11_runs ===== -/
theorem e_X11_runs_0 : DC cX11_runs 0 (.iconst 0) 1 1 := ⟨by decide +kernel, rfl⟩
theorem e_X11_runs_1 : DC cX11_runs 1 (.istore 4) 2 3 := ⟨by decide +kernel, rfl⟩
theorem e_X11_runs_3 : DC cX11_runs 3 (.iload 4) 2 5 := ⟨by decide +kernel, rfl⟩
theorem e_X11_runs_5 : DC cX11_runs 5 (.iload_n 2) 1 6 := ⟨by decide +kernel, rfl⟩
theorem e_X11_runs_6 : DB cX11_runs 6 (.if_icmp .ge 19) (19) 3 9 25 := ⟨by decide +kernel, rfl, rfl⟩
theorem e_X11_runs_9 : DC cX11_runs 9 (.aload_n 0) 1 10 := ⟨by decide +kernel, rfl⟩
theorem e_X11_runs_10 : DC cX11_runs 10 (.iload_n 1) 1 11 := ⟨by decide +kernel, rfl⟩
theorem e_X11_runs_11 : DC cX11_runs 11 (.iload_n 3) 1 12 := ⟨by decide +kernel, rfl⟩
theorem e_X11_runs_12 : DC cX11_runs 12 (.iconst 0) 1 13 := ⟨by decide +kernel, rfl⟩
theorem e_X11_runs_13 : DC cX11_runs 13 (.invokevirtual 340) 3 16 := ⟨by decide +kernel, rfl⟩
theorem e_X11_runs_16 : DB cX11_runs 16 (.ifCond .eq 9) (9) 3 19 25 := ⟨by decide +kernel, rfl, rfl⟩
theorem e_X11_runs_19 : DC cX11_runs 19 (.iinc 4 1) 3 22 := ⟨by decide +kernel, rfl⟩
theorem e_X11_runs_22 : DB cX11_runs 22 (.goto (-19)) (-19) 3 25 3 := ⟨by decide +kernel, rfl, rfl⟩
theorem e_X11_runs_25 : DC cX11_runs 25 (.iload 4) 2 27 := ⟨by decide +kernel, rfl⟩
theorem e_X11_runs_27 : DC cX11_runs 27 (.ireturn) 1 28 := ⟨by decide +kernel, rfl⟩
noncomputable def m_X11_runs_3 (t_baseLow : Int) (t_baseHigh : Int) (t_speckLow : Nat → Int) (t_speckHigh : Nat → Int) (t_sourceHold : Nat → Int) (t_pushAt : Nat → Int) (v1 : Int) (v2 : Int) (v3 : Int) (k_25 : (Nat → Int) → (Nat → Int) → (Nat → Int) → (Nat → Int) → Int → Option (Int × (Nat → Int) × (Nat → Int) × (Nat → Int) × (Nat → Int))) : Nat → (Nat → Int) → (Nat → Int) → (Nat → Int) → (Nat → Int) → Int → Option (Int × (Nat → Int) × (Nat → Int) × (Nat → Int) × (Nat → Int))
  | 0, _, _, _, _, _ => none
  | F + 1, t_cur, t_was, t_feel, t_curSum, v4 => if v2 ≤ v4 then (some (v4, t_cur, t_was, t_feel, t_curSum)) else ((m_X11_tick t_baseLow t_baseHigh t_speckLow t_speckHigh t_sourceHold t_cur t_was t_feel t_pushAt t_curSum v1 v3 0).bind (fun y1 => if y1.1 = 0 then (some (v4, y1.2.1, y1.2.2.1, y1.2.2.2.1, y1.2.2.2.2)) else (chk (inI (v4 + 1)) (m_X11_runs_3 t_baseLow t_baseHigh t_speckLow t_speckHigh t_sourceHold t_pushAt v1 v2 v3 k_25 F y1.2.1 y1.2.2.1 y1.2.2.2.1 y1.2.2.2.2 (v4 + 1)))))

set_option maxRecDepth 10000 in
set_option maxHeartbeats 8000000 in
theorem g_X11_runs_3 {l : Launch} {E : EE} {b0 n : Nat} {h : AH} {a_t : Nat} {t_thrown t_taped t_p t_fault t_baseLow t_baseHigh t_newBaseLow t_newBaseHigh t_from t_knots t_lines t_chosen t_undos t_redos t_aimedMany t_fits t_fitOf t_sights t_systems t_own t_cross t_curveLong t_wallFirst v1 v2 v3 : Int} {t_speckLow t_speckHigh t_sourceHold t_pushAt : Nat → Int} {r : Int × (Nat → Int) × (Nat → Int) × (Nat → Int) × (Nat → Int)} {k_25 : (Nat → Int) → (Nat → Int) → (Nat → Int) → (Nat → Int) → Int → Option (Int × (Nat → Int) × (Nat → Int) × (Nat → Int) × (Nat → Int))} (ao : AO b0 n [a_t, (a_t + 8), (a_t + 9), (a_t + 10), (a_t + 24), (a_t + 25), (a_t + 26), (a_t + 27), (a_t + 28)]) (ok_t_baseLow : inI t_baseLow) (ok_t_baseHigh : inI t_baseHigh) (ok_t_speckLow : okA t_speckLow) (ok_t_speckHigh : okA t_speckHigh) (ok_t_sourceHold : okA t_sourceHold) (ok_t_pushAt : okA t_pushAt) (ok_v1 : inI v1) (ok_v2 : inI v2) (ok_v3 : inI v3) (hk_25 : ∀ (t_cur_ : Nat → Int) (t_was_ : Nat → Int) (t_feel_ : Nat → Int) (t_curSum_ : Nat → Int) (v4_ : Int), okA t_cur_ → okA t_was_ → okA t_feel_ → okJ t_curSum_ → inI v4_ → k_25 t_cur_ t_was_ t_feel_ t_curSum_ v4_ = some r → G l E b0 M_X11_runs (fun _ => True) (ZM E b0 (some (vI r.1)) (ov [a_t, (a_t + 8), (a_t + 9), (a_t + 10), (a_t + 24), (a_t + 25), (a_t + 26), (a_t + 27), (a_t + 28)] [.inr (11, fsX11 a_t t_thrown t_taped t_p t_fault t_baseLow t_baseHigh t_newBaseLow t_newBaseHigh t_from t_knots t_lines t_chosen t_undos t_redos t_aimedMany t_fits t_fitOf t_sights t_systems t_own t_cross t_curveLong t_wallFirst), IA E 100 t_speckLow, IA E 100 t_speckHigh, IA E 100 t_sourceHold, IA E 100 r.2.1, IA E 100 r.2.2.1, IA E 100 r.2.2.2.1, IA E 21 t_pushAt, JA E 6 r.2.2.2.2] h) n (inI r.1 ∧ okA r.2.1 ∧ okA r.2.2.1 ∧ okA r.2.2.2.1 ∧ okJ r.2.2.2.2) 0 0) 0 0 n (ov [a_t, (a_t + 8), (a_t + 9), (a_t + 10), (a_t + 24), (a_t + 25), (a_t + 26), (a_t + 27), (a_t + 28)] [.inr (11, fsX11 a_t t_thrown t_taped t_p t_fault t_baseLow t_baseHigh t_newBaseLow t_newBaseHigh t_from t_knots t_lines t_chosen t_undos t_redos t_aimedMany t_fits t_fitOf t_sights t_systems t_own t_cross t_curveLong t_wallFirst), IA E 100 t_speckLow, IA E 100 t_speckHigh, IA E 100 t_sourceHold, IA E 100 t_cur_, IA E 100 t_was_, IA E 100 t_feel_, IA E 21 t_pushAt, JA E 6 t_curSum_] h) 25 [none, none, none, none, some (vI v4_)] []) :
    ∀ (F : Nat) (t_cur : Nat → Int) (t_was : Nat → Int) (t_feel : Nat → Int) (t_curSum : Nat → Int) (v4 : Int), okA t_cur → okA t_was → okA t_feel → okJ t_curSum → inI v4 → m_X11_runs_3 t_baseLow t_baseHigh t_speckLow t_speckHigh t_sourceHold t_pushAt v1 v2 v3 k_25 F t_cur t_was t_feel t_curSum v4 = some r → G l E b0 M_X11_runs (fun _ => True) (ZM E b0 (some (vI r.1)) (ov [a_t, (a_t + 8), (a_t + 9), (a_t + 10), (a_t + 24), (a_t + 25), (a_t + 26), (a_t + 27), (a_t + 28)] [.inr (11, fsX11 a_t t_thrown t_taped t_p t_fault t_baseLow t_baseHigh t_newBaseLow t_newBaseHigh t_from t_knots t_lines t_chosen t_undos t_redos t_aimedMany t_fits t_fitOf t_sights t_systems t_own t_cross t_curveLong t_wallFirst), IA E 100 t_speckLow, IA E 100 t_speckHigh, IA E 100 t_sourceHold, IA E 100 r.2.1, IA E 100 r.2.2.1, IA E 100 r.2.2.2.1, IA E 21 t_pushAt, JA E 6 r.2.2.2.2] h) n (inI r.1 ∧ okA r.2.1 ∧ okA r.2.2.1 ∧ okA r.2.2.2.1 ∧ okJ r.2.2.2.2) 0 0) 0 0 n (ov [a_t, (a_t + 8), (a_t + 9), (a_t + 10), (a_t + 24), (a_t + 25), (a_t + 26), (a_t + 27), (a_t + 28)] [.inr (11, fsX11 a_t t_thrown t_taped t_p t_fault t_baseLow t_baseHigh t_newBaseLow t_newBaseHigh t_from t_knots t_lines t_chosen t_undos t_redos t_aimedMany t_fits t_fitOf t_sights t_systems t_own t_cross t_curveLong t_wallFirst), IA E 100 t_speckLow, IA E 100 t_speckHigh, IA E 100 t_sourceHold, IA E 100 t_cur, IA E 100 t_was, IA E 100 t_feel, IA E 21 t_pushAt, JA E 6 t_curSum] h) 3 [some (.ref a_t), some (vI v1), some (vI v2), some (vI v3), some (vI v4)] [] := by
  intro F
  induction F with
  | zero =>
    intro t_cur t_was t_feel t_curSum v4 ok_t_cur ok_t_was ok_t_feel ok_t_curSum ok_v4 hs
    rw [m_X11_runs_3] at hs
    cases hs
  | succ F ih =>
    intro t_cur t_was t_feel t_curSum v4 ok_t_cur ok_t_was ok_t_feel ok_t_curSum ok_v4 hs
    rw [m_X11_runs_3] at hs
    refine g_iload e_X11_runs_3 rfl ?_
    refine g_iload_n e_X11_runs_5 rfl ?_
    refine g_icmp_ge e_X11_runs_6 ok_v4 ok_v2 hs (fun c6 hs => ?_) (fun c6 hs => ?_)
    · refine g_iload e_X11_runs_25 rfl ?_
      obtain rfl := Option.some.inj hs
      exact g_iret rfl ⟨ok_v4, ok_t_cur, ok_t_was, ok_t_feel, ok_t_curSum⟩ e_X11_runs_27
    · refine g_aload_n e_X11_runs_9 rfl ?_
      refine g_iload_n e_X11_runs_10 rfl ?_
      refine g_iload_n e_X11_runs_11 rfl ?_
      refine g_iconst e_X11_runs_12 ?_
      obtain ⟨y1, hy1, hs⟩ := bind_elim hs
      refine g_callVr [vI v1, vI v3, vI 0] cv_X11_340 ⟨rfl, rfl, Nat.le_of_ble_eq_true rfl, Nat.le_of_ble_eq_true rfl⟩ (Ct_heap (ct_X11_tick (a_t := a_t) (AO_call [0, 1, 2, 3, 4, 5, 6, 7, 8] ao (by decide) rfl) (FA_call [0, 1, 2, 3, 4, 5, 6, 7, 8] ao.1 rfl rfl) ok_t_baseLow ok_t_baseHigh ok_t_speckLow ok_t_speckHigh ok_t_sourceHold ok_t_cur ok_t_was ok_t_feel ok_t_pushAt ok_t_curSum ok_v1 ok_v3 (by decide : inI 0) hy1) (ov_call (esn := [.inr (11, fsX11 a_t t_thrown t_taped t_p t_fault t_baseLow t_baseHigh t_newBaseLow t_newBaseHigh t_from t_knots t_lines t_chosen t_undos t_redos t_aimedMany t_fits t_fitOf t_sights t_systems t_own t_cross t_curveLong t_wallFirst), IA E 100 t_speckLow, IA E 100 t_speckHigh, IA E 100 t_sourceHold, IA E 100 y1.2.1, IA E 100 y1.2.2.1, IA E 100 y1.2.2.2.1, IA E 21 t_pushAt, JA E 6 y1.2.2.2.2]) [0, 1, 2, 3, 4, 5, 6, 7, 8] ao.1 rfl rfl rfl rfl)) e_X11_runs_13 (ao.2 0 _ rfl) (ov_get 0 ao.1 rfl rfl) rfl rfl rfl (Nat.le_of_ble_eq_true rfl) ⟨Nat.le_refl _, Nat.le_refl _⟩ (fun Py1 => ?_)
      refine g_if_eq e_X11_runs_16 (inZ_I Py1.1) hs (fun c16 hs => ?_) (fun c16 hs => ?_)
      · refine g_iload e_X11_runs_25 rfl ?_
        obtain rfl := Option.some.inj hs
        exact g_iret rfl ⟨ok_v4, Py1.2.1, Py1.2.2.1, Py1.2.2.2.1, Py1.2.2.2.2⟩ e_X11_runs_27
      · refine g_iinc e_X11_runs_19 rfl st1_4 rfl ?_
        refine g_goto e_X11_runs_22 ?_
        obtain ⟨hc2, hs⟩ := chk_elim hs
        exact ih _ _ _ _ _ Py1.2.1 Py1.2.2.1 Py1.2.2.2.1 Py1.2.2.2.2 hc2 hs

noncomputable def m_X11_runs_25 (t_cur : Nat → Int) (t_was : Nat → Int) (t_feel : Nat → Int) (t_curSum : Nat → Int) (v4 : Int) : Option (Int × (Nat → Int) × (Nat → Int) × (Nat → Int) × (Nat → Int)) :=
  some (v4, t_cur, t_was, t_feel, t_curSum)

set_option maxRecDepth 10000 in
set_option maxHeartbeats 8000000 in
theorem g_X11_runs_25 {l : Launch} {E : EE} {b0 n : Nat} {h : AH} {a_t : Nat} {t_thrown t_taped t_p t_fault t_baseLow t_baseHigh t_newBaseLow t_newBaseHigh t_from t_knots t_lines t_chosen t_undos t_redos t_aimedMany t_fits t_fitOf t_sights t_systems t_own t_cross t_curveLong t_wallFirst v4 : Int} {t_speckLow t_speckHigh t_sourceHold t_cur t_was t_feel t_pushAt t_curSum : Nat → Int} {r : Int × (Nat → Int) × (Nat → Int) × (Nat → Int) × (Nat → Int)} (ao : AO b0 n [a_t, (a_t + 8), (a_t + 9), (a_t + 10), (a_t + 24), (a_t + 25), (a_t + 26), (a_t + 27), (a_t + 28)]) (ok_t_baseLow : inI t_baseLow) (ok_t_baseHigh : inI t_baseHigh) (ok_t_speckLow : okA t_speckLow) (ok_t_speckHigh : okA t_speckHigh) (ok_t_sourceHold : okA t_sourceHold) (ok_t_cur : okA t_cur) (ok_t_was : okA t_was) (ok_t_feel : okA t_feel) (ok_t_pushAt : okA t_pushAt) (ok_t_curSum : okJ t_curSum) (ok_v4 : inI v4) (hs : m_X11_runs_25 t_cur t_was t_feel t_curSum v4 = some r) : G l E b0 M_X11_runs (fun _ => True) (ZM E b0 (some (vI r.1)) (ov [a_t, (a_t + 8), (a_t + 9), (a_t + 10), (a_t + 24), (a_t + 25), (a_t + 26), (a_t + 27), (a_t + 28)] [.inr (11, fsX11 a_t t_thrown t_taped t_p t_fault t_baseLow t_baseHigh t_newBaseLow t_newBaseHigh t_from t_knots t_lines t_chosen t_undos t_redos t_aimedMany t_fits t_fitOf t_sights t_systems t_own t_cross t_curveLong t_wallFirst), IA E 100 t_speckLow, IA E 100 t_speckHigh, IA E 100 t_sourceHold, IA E 100 r.2.1, IA E 100 r.2.2.1, IA E 100 r.2.2.2.1, IA E 21 t_pushAt, JA E 6 r.2.2.2.2] h) n (inI r.1 ∧ okA r.2.1 ∧ okA r.2.2.1 ∧ okA r.2.2.2.1 ∧ okJ r.2.2.2.2) 0 0) 0 0 n (ov [a_t, (a_t + 8), (a_t + 9), (a_t + 10), (a_t + 24), (a_t + 25), (a_t + 26), (a_t + 27), (a_t + 28)] [.inr (11, fsX11 a_t t_thrown t_taped t_p t_fault t_baseLow t_baseHigh t_newBaseLow t_newBaseHigh t_from t_knots t_lines t_chosen t_undos t_redos t_aimedMany t_fits t_fitOf t_sights t_systems t_own t_cross t_curveLong t_wallFirst), IA E 100 t_speckLow, IA E 100 t_speckHigh, IA E 100 t_sourceHold, IA E 100 t_cur, IA E 100 t_was, IA E 100 t_feel, IA E 21 t_pushAt, JA E 6 t_curSum] h) 25 [none, none, none, none, some (vI v4)] [] := by
  rw [m_X11_runs_25] at hs
  refine g_iload e_X11_runs_25 rfl ?_
  obtain rfl := Option.some.inj hs
  exact g_iret rfl ⟨ok_v4, ok_t_cur, ok_t_was, ok_t_feel, ok_t_curSum⟩ e_X11_runs_27

noncomputable def m_X11_runs_0 (t_baseLow : Int) (t_baseHigh : Int) (t_speckLow : Nat → Int) (t_speckHigh : Nat → Int) (t_sourceHold : Nat → Int) (t_cur : Nat → Int) (t_was : Nat → Int) (t_feel : Nat → Int) (t_pushAt : Nat → Int) (t_curSum : Nat → Int) (v1 : Int) (v2 : Int) (v3 : Int) : Option (Int × (Nat → Int) × (Nat → Int) × (Nat → Int) × (Nat → Int)) :=
  m_X11_runs_3 t_baseLow t_baseHigh t_speckLow t_speckHigh t_sourceHold t_pushAt v1 v2 v3 (fun t_cur' t_was' t_feel' t_curSum' v4' => m_X11_runs_25 t_cur' t_was' t_feel' t_curSum' v4') FU t_cur t_was t_feel t_curSum 0

set_option maxRecDepth 10000 in
set_option maxHeartbeats 8000000 in
theorem g_X11_runs_0 {l : Launch} {E : EE} {b0 n : Nat} {h : AH} {a_t : Nat} {t_thrown t_taped t_p t_fault t_baseLow t_baseHigh t_newBaseLow t_newBaseHigh t_from t_knots t_lines t_chosen t_undos t_redos t_aimedMany t_fits t_fitOf t_sights t_systems t_own t_cross t_curveLong t_wallFirst v1 v2 v3 : Int} {t_speckLow t_speckHigh t_sourceHold t_cur t_was t_feel t_pushAt t_curSum : Nat → Int} {r : Int × (Nat → Int) × (Nat → Int) × (Nat → Int) × (Nat → Int)} (ao : AO b0 n [a_t, (a_t + 8), (a_t + 9), (a_t + 10), (a_t + 24), (a_t + 25), (a_t + 26), (a_t + 27), (a_t + 28)]) (ok_t_baseLow : inI t_baseLow) (ok_t_baseHigh : inI t_baseHigh) (ok_t_speckLow : okA t_speckLow) (ok_t_speckHigh : okA t_speckHigh) (ok_t_sourceHold : okA t_sourceHold) (ok_t_cur : okA t_cur) (ok_t_was : okA t_was) (ok_t_feel : okA t_feel) (ok_t_pushAt : okA t_pushAt) (ok_t_curSum : okJ t_curSum) (ok_v1 : inI v1) (ok_v2 : inI v2) (ok_v3 : inI v3) (hs : m_X11_runs_0 t_baseLow t_baseHigh t_speckLow t_speckHigh t_sourceHold t_cur t_was t_feel t_pushAt t_curSum v1 v2 v3 = some r) : G l E b0 M_X11_runs (fun _ => True) (ZM E b0 (some (vI r.1)) (ov [a_t, (a_t + 8), (a_t + 9), (a_t + 10), (a_t + 24), (a_t + 25), (a_t + 26), (a_t + 27), (a_t + 28)] [.inr (11, fsX11 a_t t_thrown t_taped t_p t_fault t_baseLow t_baseHigh t_newBaseLow t_newBaseHigh t_from t_knots t_lines t_chosen t_undos t_redos t_aimedMany t_fits t_fitOf t_sights t_systems t_own t_cross t_curveLong t_wallFirst), IA E 100 t_speckLow, IA E 100 t_speckHigh, IA E 100 t_sourceHold, IA E 100 r.2.1, IA E 100 r.2.2.1, IA E 100 r.2.2.2.1, IA E 21 t_pushAt, JA E 6 r.2.2.2.2] h) n (inI r.1 ∧ okA r.2.1 ∧ okA r.2.2.1 ∧ okA r.2.2.2.1 ∧ okJ r.2.2.2.2) 0 0) 0 0 n (ov [a_t, (a_t + 8), (a_t + 9), (a_t + 10), (a_t + 24), (a_t + 25), (a_t + 26), (a_t + 27), (a_t + 28)] [.inr (11, fsX11 a_t t_thrown t_taped t_p t_fault t_baseLow t_baseHigh t_newBaseLow t_newBaseHigh t_from t_knots t_lines t_chosen t_undos t_redos t_aimedMany t_fits t_fitOf t_sights t_systems t_own t_cross t_curveLong t_wallFirst), IA E 100 t_speckLow, IA E 100 t_speckHigh, IA E 100 t_sourceHold, IA E 100 t_cur, IA E 100 t_was, IA E 100 t_feel, IA E 21 t_pushAt, JA E 6 t_curSum] h) 0 [some (.ref a_t), some (vI v1), some (vI v2), some (vI v3), none] [] := by
  rw [m_X11_runs_0] at hs
  refine g_iconst e_X11_runs_0 ?_
  refine g_istore e_X11_runs_1 st1_4 rfl ?_
  exact g_X11_runs_3 ao ok_t_baseLow ok_t_baseHigh ok_t_speckLow ok_t_speckHigh ok_t_sourceHold ok_t_pushAt ok_v1 ok_v2 ok_v3 (hk_25 := by
      intro t_cur' t_was' t_feel' t_curSum' v4' ok_t_cur' ok_t_was' ok_t_feel' ok_t_curSum' ok_v4' hs
      exact g_X11_runs_25 ao ok_t_baseLow ok_t_baseHigh ok_t_speckLow ok_t_speckHigh ok_t_sourceHold ok_t_cur' ok_t_was' ok_t_feel' ok_t_pushAt ok_t_curSum' ok_v4' hs) FU _ _ _ _ _ ok_t_cur ok_t_was ok_t_feel ok_t_curSum (by decide : inI 0) hs

noncomputable def m_X11_runs (t_baseLow : Int) (t_baseHigh : Int) (t_speckLow : Nat → Int) (t_speckHigh : Nat → Int) (t_sourceHold : Nat → Int) (t_cur : Nat → Int) (t_was : Nat → Int) (t_feel : Nat → Int) (t_pushAt : Nat → Int) (t_curSum : Nat → Int) (v1 : Int) (v2 : Int) (v3 : Int) : Option (Int × (Nat → Int) × (Nat → Int) × (Nat → Int) × (Nat → Int)) := m_X11_runs_0 t_baseLow t_baseHigh t_speckLow t_speckHigh t_sourceHold t_cur t_was t_feel t_pushAt t_curSum v1 v2 v3

set_option maxRecDepth 10000 in
set_option maxHeartbeats 8000000 in
theorem ct_X11_runs {l : Launch} {E : EE} {b0 n : Nat} {h : AH} {a_t : Nat} {t_thrown t_taped t_p t_fault t_baseLow t_baseHigh t_newBaseLow t_newBaseHigh t_from t_knots t_lines t_chosen t_undos t_redos t_aimedMany t_fits t_fitOf t_sights t_systems t_own t_cross t_curveLong t_wallFirst : Int} {t_speckLow t_speckHigh t_sourceHold t_cur t_was t_feel t_pushAt t_curSum : Nat → Int} {v1 v2 v3 : Int} (ao : AO b0 n [a_t, (a_t + 8), (a_t + 9), (a_t + 10), (a_t + 24), (a_t + 25), (a_t + 26), (a_t + 27), (a_t + 28)]) (hf : FA h [a_t, (a_t + 8), (a_t + 9), (a_t + 10), (a_t + 24), (a_t + 25), (a_t + 26), (a_t + 27), (a_t + 28)] [.inr (11, fsX11 a_t t_thrown t_taped t_p t_fault t_baseLow t_baseHigh t_newBaseLow t_newBaseHigh t_from t_knots t_lines t_chosen t_undos t_redos t_aimedMany t_fits t_fitOf t_sights t_systems t_own t_cross t_curveLong t_wallFirst), IA E 100 t_speckLow, IA E 100 t_speckHigh, IA E 100 t_sourceHold, IA E 100 t_cur, IA E 100 t_was, IA E 100 t_feel, IA E 21 t_pushAt, JA E 6 t_curSum]) (ok_t_baseLow : inI t_baseLow) (ok_t_baseHigh : inI t_baseHigh) (ok_t_speckLow : okA t_speckLow) (ok_t_speckHigh : okA t_speckHigh) (ok_t_sourceHold : okA t_sourceHold) (ok_t_cur : okA t_cur) (ok_t_was : okA t_was) (ok_t_feel : okA t_feel) (ok_t_pushAt : okA t_pushAt) (ok_t_curSum : okJ t_curSum) (ok_v1 : inI v1) (ok_v2 : inI v2) (ok_v3 : inI v3) {r : Int × (Nat → Int) × (Nat → Int) × (Nat → Int) × (Nat → Int)} (hm : m_X11_runs t_baseLow t_baseHigh t_speckLow t_speckHigh t_sourceHold t_cur t_was t_feel t_pushAt t_curSum v1 v2 v3 = some r) : Ct l E b0 M_X11_runs 0 0 [.ref a_t, vI v1, vI v2, vI v3] h n (some (vI r.1)) (ov [a_t, (a_t + 8), (a_t + 9), (a_t + 10), (a_t + 24), (a_t + 25), (a_t + 26), (a_t + 27), (a_t + 28)] [.inr (11, fsX11 a_t t_thrown t_taped t_p t_fault t_baseLow t_baseHigh t_newBaseLow t_newBaseHigh t_from t_knots t_lines t_chosen t_undos t_redos t_aimedMany t_fits t_fitOf t_sights t_systems t_own t_cross t_curveLong t_wallFirst), IA E 100 t_speckLow, IA E 100 t_speckHigh, IA E 100 t_sourceHold, IA E 100 r.2.1, IA E 100 r.2.2.1, IA E 100 r.2.2.2.1, IA E 21 t_pushAt, JA E 6 r.2.2.2.2] h) n (inI r.1 ∧ okA r.2.1 ∧ okA r.2.2.1 ∧ okA r.2.2.2.1 ∧ okJ r.2.2.2.2) := by
  rw [m_X11_runs] at hm
  have hg : G l E b0 M_X11_runs (fun _ => True) (ZM E b0 (some (vI r.1)) (ov [a_t, (a_t + 8), (a_t + 9), (a_t + 10), (a_t + 24), (a_t + 25), (a_t + 26), (a_t + 27), (a_t + 28)] [.inr (11, fsX11 a_t t_thrown t_taped t_p t_fault t_baseLow t_baseHigh t_newBaseLow t_newBaseHigh t_from t_knots t_lines t_chosen t_undos t_redos t_aimedMany t_fits t_fitOf t_sights t_systems t_own t_cross t_curveLong t_wallFirst), IA E 100 t_speckLow, IA E 100 t_speckHigh, IA E 100 t_sourceHold, IA E 100 r.2.1, IA E 100 r.2.2.1, IA E 100 r.2.2.2.1, IA E 21 t_pushAt, JA E 6 r.2.2.2.2] h) n (inI r.1 ∧ okA r.2.1 ∧ okA r.2.2.1 ∧ okA r.2.2.2.1 ∧ okJ r.2.2.2.2) 0 0) 0 0 n (ov [a_t, (a_t + 8), (a_t + 9), (a_t + 10), (a_t + 24), (a_t + 25), (a_t + 26), (a_t + 27), (a_t + 28)] [.inr (11, fsX11 a_t t_thrown t_taped t_p t_fault t_baseLow t_baseHigh t_newBaseLow t_newBaseHigh t_from t_knots t_lines t_chosen t_undos t_redos t_aimedMany t_fits t_fitOf t_sights t_systems t_own t_cross t_curveLong t_wallFirst), IA E 100 t_speckLow, IA E 100 t_speckHigh, IA E 100 t_sourceHold, IA E 100 t_cur, IA E 100 t_was, IA E 100 t_feel, IA E 21 t_pushAt, JA E 6 t_curSum] h) 0 [some (.ref a_t), some (vI v1), some (vI v2), some (vI v3), none] [] := by
    have hs := hm
    exact g_X11_runs_0 ao ok_t_baseLow ok_t_baseHigh ok_t_speckLow ok_t_speckHigh ok_t_sourceHold ok_t_cur ok_t_was ok_t_feel ok_t_pushAt ok_t_curSum ok_v1 ok_v2 ok_v3 hs
  rw [FA_id hf] at hg
  exact Ct_of [some (.ref a_t), some (vI v1), some (vI v2), some (vI v3), none] ⟨by decide +kernel, rfl⟩ rfl (Nat.le_of_ble_eq_true rfl) hg

/-! ===== X11_isAs ===== -/
theorem e_X11_isAs_0 : DC cX11_isAs 0 (.iconst 1) 1 1 := ⟨by decide +kernel, rfl⟩
theorem e_X11_isAs_1 : DC cX11_isAs 1 (.istore_n 2) 1 2 := ⟨by decide +kernel, rfl⟩
theorem e_X11_isAs_2 : DC cX11_isAs 2 (.iconst 0) 1 3 := ⟨by decide +kernel, rfl⟩
theorem e_X11_isAs_3 : DC cX11_isAs 3 (.istore_n 3) 1 4 := ⟨by decide +kernel, rfl⟩
theorem e_X11_isAs_4 : DC cX11_isAs 4 (.iload_n 3) 1 5 := ⟨by decide +kernel, rfl⟩
theorem e_X11_isAs_5 : DC cX11_isAs 5 (.bipush 100) 2 7 := ⟨by decide +kernel, rfl⟩
theorem e_X11_isAs_7 : DB cX11_isAs 7 (.if_icmp .ge 31) (31) 3 10 38 := ⟨by decide +kernel, rfl, rfl⟩
theorem e_X11_isAs_10 : DC cX11_isAs 10 (.iload_n 2) 1 11 := ⟨by decide +kernel, rfl⟩
theorem e_X11_isAs_11 : DB cX11_isAs 11 (.ifCond .eq 19) (19) 3 14 30 := ⟨by decide +kernel, rfl, rfl⟩
theorem e_X11_isAs_14 : DC cX11_isAs 14 (.aload_n 0) 1 15 := ⟨by decide +kernel, rfl⟩
theorem e_X11_isAs_15 : DC cX11_isAs 15 (.getfield 81) 3 18 := ⟨by decide +kernel, rfl⟩
theorem e_X11_isAs_18 : DC cX11_isAs 18 (.iload_n 3) 1 19 := ⟨by decide +kernel, rfl⟩
theorem e_X11_isAs_19 : DC cX11_isAs 19 (.iaload) 1 20 := ⟨by decide +kernel, rfl⟩
theorem e_X11_isAs_20 : DC cX11_isAs 20 (.aload_n 1) 1 21 := ⟨by decide +kernel, rfl⟩
theorem e_X11_isAs_21 : DC cX11_isAs 21 (.iload_n 3) 1 22 := ⟨by decide +kernel, rfl⟩
theorem e_X11_isAs_22 : DC cX11_isAs 22 (.iaload) 1 23 := ⟨by decide +kernel, rfl⟩
theorem e_X11_isAs_23 : DB cX11_isAs 23 (.if_icmp .ne 7) (7) 3 26 30 := ⟨by decide +kernel, rfl, rfl⟩
theorem e_X11_isAs_26 : DC cX11_isAs 26 (.iconst 1) 1 27 := ⟨by decide +kernel, rfl⟩
theorem e_X11_isAs_27 : DB cX11_isAs 27 (.goto 4) (4) 3 30 31 := ⟨by decide +kernel, rfl, rfl⟩
theorem e_X11_isAs_30 : DC cX11_isAs 30 (.iconst 0) 1 31 := ⟨by decide +kernel, rfl⟩
theorem e_X11_isAs_31 : DC cX11_isAs 31 (.istore_n 2) 1 32 := ⟨by decide +kernel, rfl⟩
theorem e_X11_isAs_32 : DC cX11_isAs 32 (.iinc 3 1) 3 35 := ⟨by decide +kernel, rfl⟩
theorem e_X11_isAs_35 : DB cX11_isAs 35 (.goto (-31)) (-31) 3 38 4 := ⟨by decide +kernel, rfl, rfl⟩
theorem e_X11_isAs_38 : DC cX11_isAs 38 (.iload_n 2) 1 39 := ⟨by decide +kernel, rfl⟩
theorem e_X11_isAs_39 : DC cX11_isAs 39 (.ireturn) 1 40 := ⟨by decide +kernel, rfl⟩
noncomputable def m_X11_isAs_31 (N_p1 : Nat) (t_cur : Nat → Int) (p1_a : Nat → Int) (v3 : Int) (s0 : Int) (ag : Int → Int → Option (Int)) (k_38 : Int → Int → Option (Int)) : Option (Int) :=
  chk (inI (v3 + 1)) (ag s0 (v3 + 1))

set_option maxRecDepth 10000 in
set_option maxHeartbeats 8000000 in
theorem g_X11_isAs_31 {l : Launch} {E : EE} {b0 n : Nat} {h : AH} {a_t a_p1 : Nat} {N_p1 : Nat} {t_thrown t_taped t_p t_fault t_baseLow t_baseHigh t_newBaseLow t_newBaseHigh t_from t_knots t_lines t_chosen t_undos t_redos t_aimedMany t_fits t_fitOf t_sights t_systems t_own t_cross t_curveLong t_wallFirst v3 s0 : Int} {t_cur p1_a : Nat → Int} {r : Int} {ag : Int → Int → Option (Int)} {k_38 : Int → Int → Option (Int)} (ao : AO b0 n [a_t, (a_t + 24), a_p1]) (hN_p1 : N_p1 ≤ 100000) (ok_t_cur : okA t_cur) (ok_p1_a : okA p1_a) (ok_v3 : inI v3) (ok_s0 : inZ s0) (hag : ∀ (v2_ : Int) (v3_ : Int), inZ v2_ → inI v3_ → ag v2_ v3_ = some r → G l E b0 M_X11_isAs (fun _ => True) (ZM E b0 (some (vI r)) (ov [a_t, (a_t + 24), a_p1] [.inr (11, fsX11 a_t t_thrown t_taped t_p t_fault t_baseLow t_baseHigh t_newBaseLow t_newBaseHigh t_from t_knots t_lines t_chosen t_undos t_redos t_aimedMany t_fits t_fitOf t_sights t_systems t_own t_cross t_curveLong t_wallFirst), IA E 100 t_cur, IA E N_p1 p1_a] h) n (inZ r) 0 0) 0 0 n (ov [a_t, (a_t + 24), a_p1] [.inr (11, fsX11 a_t t_thrown t_taped t_p t_fault t_baseLow t_baseHigh t_newBaseLow t_newBaseHigh t_from t_knots t_lines t_chosen t_undos t_redos t_aimedMany t_fits t_fitOf t_sights t_systems t_own t_cross t_curveLong t_wallFirst), IA E 100 t_cur, IA E N_p1 p1_a] h) 4 [some (.ref a_t), some (.ref a_p1), some (vI v2_), some (vI v3_)] []) (hk_38 : ∀ (v2_ : Int) (v3_ : Int), inZ v2_ → inI v3_ → k_38 v2_ v3_ = some r → G l E b0 M_X11_isAs (fun _ => True) (ZM E b0 (some (vI r)) (ov [a_t, (a_t + 24), a_p1] [.inr (11, fsX11 a_t t_thrown t_taped t_p t_fault t_baseLow t_baseHigh t_newBaseLow t_newBaseHigh t_from t_knots t_lines t_chosen t_undos t_redos t_aimedMany t_fits t_fitOf t_sights t_systems t_own t_cross t_curveLong t_wallFirst), IA E 100 t_cur, IA E N_p1 p1_a] h) n (inZ r) 0 0) 0 0 n (ov [a_t, (a_t + 24), a_p1] [.inr (11, fsX11 a_t t_thrown t_taped t_p t_fault t_baseLow t_baseHigh t_newBaseLow t_newBaseHigh t_from t_knots t_lines t_chosen t_undos t_redos t_aimedMany t_fits t_fitOf t_sights t_systems t_own t_cross t_curveLong t_wallFirst), IA E 100 t_cur, IA E N_p1 p1_a] h) 38 [none, none, some (vI v2_), none] []) (hs : m_X11_isAs_31 N_p1 t_cur p1_a v3 s0 ag k_38 = some r) : G l E b0 M_X11_isAs (fun _ => True) (ZM E b0 (some (vI r)) (ov [a_t, (a_t + 24), a_p1] [.inr (11, fsX11 a_t t_thrown t_taped t_p t_fault t_baseLow t_baseHigh t_newBaseLow t_newBaseHigh t_from t_knots t_lines t_chosen t_undos t_redos t_aimedMany t_fits t_fitOf t_sights t_systems t_own t_cross t_curveLong t_wallFirst), IA E 100 t_cur, IA E N_p1 p1_a] h) n (inZ r) 0 0) 0 0 n (ov [a_t, (a_t + 24), a_p1] [.inr (11, fsX11 a_t t_thrown t_taped t_p t_fault t_baseLow t_baseHigh t_newBaseLow t_newBaseHigh t_from t_knots t_lines t_chosen t_undos t_redos t_aimedMany t_fits t_fitOf t_sights t_systems t_own t_cross t_curveLong t_wallFirst), IA E 100 t_cur, IA E N_p1 p1_a] h) 31 [some (.ref a_t), some (.ref a_p1), none, some (vI v3)] [vI s0] := by
  rw [m_X11_isAs_31] at hs
  refine g_istore_n e_X11_isAs_31 st1_2 rfl ?_
  refine g_iinc e_X11_isAs_32 rfl st1_3 rfl ?_
  refine g_goto e_X11_isAs_35 ?_
  obtain ⟨hc1, hs⟩ := chk_elim hs
  exact hag _ _ ok_s0 hc1 hs

noncomputable def m_X11_isAs_30 (N_p1 : Nat) (t_cur : Nat → Int) (p1_a : Nat → Int) (v3 : Int) (ag : Int → Int → Option (Int)) (k_38 : Int → Int → Option (Int)) : Option (Int) :=
  m_X11_isAs_31 N_p1 t_cur p1_a v3 0 ag k_38

set_option maxRecDepth 10000 in
set_option maxHeartbeats 8000000 in
theorem g_X11_isAs_30 {l : Launch} {E : EE} {b0 n : Nat} {h : AH} {a_t a_p1 : Nat} {N_p1 : Nat} {t_thrown t_taped t_p t_fault t_baseLow t_baseHigh t_newBaseLow t_newBaseHigh t_from t_knots t_lines t_chosen t_undos t_redos t_aimedMany t_fits t_fitOf t_sights t_systems t_own t_cross t_curveLong t_wallFirst v3 : Int} {t_cur p1_a : Nat → Int} {r : Int} {ag : Int → Int → Option (Int)} {k_38 : Int → Int → Option (Int)} (ao : AO b0 n [a_t, (a_t + 24), a_p1]) (hN_p1 : N_p1 ≤ 100000) (ok_t_cur : okA t_cur) (ok_p1_a : okA p1_a) (ok_v3 : inI v3) (hag : ∀ (v2_ : Int) (v3_ : Int), inZ v2_ → inI v3_ → ag v2_ v3_ = some r → G l E b0 M_X11_isAs (fun _ => True) (ZM E b0 (some (vI r)) (ov [a_t, (a_t + 24), a_p1] [.inr (11, fsX11 a_t t_thrown t_taped t_p t_fault t_baseLow t_baseHigh t_newBaseLow t_newBaseHigh t_from t_knots t_lines t_chosen t_undos t_redos t_aimedMany t_fits t_fitOf t_sights t_systems t_own t_cross t_curveLong t_wallFirst), IA E 100 t_cur, IA E N_p1 p1_a] h) n (inZ r) 0 0) 0 0 n (ov [a_t, (a_t + 24), a_p1] [.inr (11, fsX11 a_t t_thrown t_taped t_p t_fault t_baseLow t_baseHigh t_newBaseLow t_newBaseHigh t_from t_knots t_lines t_chosen t_undos t_redos t_aimedMany t_fits t_fitOf t_sights t_systems t_own t_cross t_curveLong t_wallFirst), IA E 100 t_cur, IA E N_p1 p1_a] h) 4 [some (.ref a_t), some (.ref a_p1), some (vI v2_), some (vI v3_)] []) (hk_38 : ∀ (v2_ : Int) (v3_ : Int), inZ v2_ → inI v3_ → k_38 v2_ v3_ = some r → G l E b0 M_X11_isAs (fun _ => True) (ZM E b0 (some (vI r)) (ov [a_t, (a_t + 24), a_p1] [.inr (11, fsX11 a_t t_thrown t_taped t_p t_fault t_baseLow t_baseHigh t_newBaseLow t_newBaseHigh t_from t_knots t_lines t_chosen t_undos t_redos t_aimedMany t_fits t_fitOf t_sights t_systems t_own t_cross t_curveLong t_wallFirst), IA E 100 t_cur, IA E N_p1 p1_a] h) n (inZ r) 0 0) 0 0 n (ov [a_t, (a_t + 24), a_p1] [.inr (11, fsX11 a_t t_thrown t_taped t_p t_fault t_baseLow t_baseHigh t_newBaseLow t_newBaseHigh t_from t_knots t_lines t_chosen t_undos t_redos t_aimedMany t_fits t_fitOf t_sights t_systems t_own t_cross t_curveLong t_wallFirst), IA E 100 t_cur, IA E N_p1 p1_a] h) 38 [none, none, some (vI v2_), none] []) (hs : m_X11_isAs_30 N_p1 t_cur p1_a v3 ag k_38 = some r) : G l E b0 M_X11_isAs (fun _ => True) (ZM E b0 (some (vI r)) (ov [a_t, (a_t + 24), a_p1] [.inr (11, fsX11 a_t t_thrown t_taped t_p t_fault t_baseLow t_baseHigh t_newBaseLow t_newBaseHigh t_from t_knots t_lines t_chosen t_undos t_redos t_aimedMany t_fits t_fitOf t_sights t_systems t_own t_cross t_curveLong t_wallFirst), IA E 100 t_cur, IA E N_p1 p1_a] h) n (inZ r) 0 0) 0 0 n (ov [a_t, (a_t + 24), a_p1] [.inr (11, fsX11 a_t t_thrown t_taped t_p t_fault t_baseLow t_baseHigh t_newBaseLow t_newBaseHigh t_from t_knots t_lines t_chosen t_undos t_redos t_aimedMany t_fits t_fitOf t_sights t_systems t_own t_cross t_curveLong t_wallFirst), IA E 100 t_cur, IA E N_p1 p1_a] h) 30 [some (.ref a_t), some (.ref a_p1), none, some (vI v3)] [] := by
  rw [m_X11_isAs_30] at hs
  refine g_iconst e_X11_isAs_30 ?_
  exact g_X11_isAs_31 ao hN_p1 ok_t_cur ok_p1_a ok_v3 (by decide : inZ 0) hag hk_38 hs

noncomputable def m_X11_isAs_4 (N_p1 : Nat) (t_cur : Nat → Int) (p1_a : Nat → Int) (k_38 : Int → Int → Option (Int)) : Nat → Int → Int → Option (Int)
  | 0, _, _ => none
  | F + 1, v2, v3 => if 100 ≤ v3 then (some (v2)) else (if v2 = 0 then (m_X11_isAs_30 N_p1 t_cur p1_a v3 (m_X11_isAs_4 N_p1 t_cur p1_a k_38 F) k_38) else (chk (inB v3 100) (chk (inB v3 N_p1) (if (t_cur (Int.toNat v3)) = (p1_a (Int.toNat v3)) then (m_X11_isAs_31 N_p1 t_cur p1_a v3 1 (m_X11_isAs_4 N_p1 t_cur p1_a k_38 F) k_38) else (m_X11_isAs_30 N_p1 t_cur p1_a v3 (m_X11_isAs_4 N_p1 t_cur p1_a k_38 F) k_38)))))

set_option maxRecDepth 10000 in
set_option maxHeartbeats 8000000 in
theorem g_X11_isAs_4 {l : Launch} {E : EE} {b0 n : Nat} {h : AH} {a_t a_p1 : Nat} {N_p1 : Nat} {t_thrown t_taped t_p t_fault t_baseLow t_baseHigh t_newBaseLow t_newBaseHigh t_from t_knots t_lines t_chosen t_undos t_redos t_aimedMany t_fits t_fitOf t_sights t_systems t_own t_cross t_curveLong t_wallFirst : Int} {t_cur p1_a : Nat → Int} {r : Int} {k_38 : Int → Int → Option (Int)} (ao : AO b0 n [a_t, (a_t + 24), a_p1]) (hN_p1 : N_p1 ≤ 100000) (ok_t_cur : okA t_cur) (ok_p1_a : okA p1_a) (hk_38 : ∀ (v2_ : Int) (v3_ : Int), inZ v2_ → inI v3_ → k_38 v2_ v3_ = some r → G l E b0 M_X11_isAs (fun _ => True) (ZM E b0 (some (vI r)) (ov [a_t, (a_t + 24), a_p1] [.inr (11, fsX11 a_t t_thrown t_taped t_p t_fault t_baseLow t_baseHigh t_newBaseLow t_newBaseHigh t_from t_knots t_lines t_chosen t_undos t_redos t_aimedMany t_fits t_fitOf t_sights t_systems t_own t_cross t_curveLong t_wallFirst), IA E 100 t_cur, IA E N_p1 p1_a] h) n (inZ r) 0 0) 0 0 n (ov [a_t, (a_t + 24), a_p1] [.inr (11, fsX11 a_t t_thrown t_taped t_p t_fault t_baseLow t_baseHigh t_newBaseLow t_newBaseHigh t_from t_knots t_lines t_chosen t_undos t_redos t_aimedMany t_fits t_fitOf t_sights t_systems t_own t_cross t_curveLong t_wallFirst), IA E 100 t_cur, IA E N_p1 p1_a] h) 38 [none, none, some (vI v2_), none] []) :
    ∀ (F : Nat) (v2 : Int) (v3 : Int), inZ v2 → inI v3 → m_X11_isAs_4 N_p1 t_cur p1_a k_38 F v2 v3 = some r → G l E b0 M_X11_isAs (fun _ => True) (ZM E b0 (some (vI r)) (ov [a_t, (a_t + 24), a_p1] [.inr (11, fsX11 a_t t_thrown t_taped t_p t_fault t_baseLow t_baseHigh t_newBaseLow t_newBaseHigh t_from t_knots t_lines t_chosen t_undos t_redos t_aimedMany t_fits t_fitOf t_sights t_systems t_own t_cross t_curveLong t_wallFirst), IA E 100 t_cur, IA E N_p1 p1_a] h) n (inZ r) 0 0) 0 0 n (ov [a_t, (a_t + 24), a_p1] [.inr (11, fsX11 a_t t_thrown t_taped t_p t_fault t_baseLow t_baseHigh t_newBaseLow t_newBaseHigh t_from t_knots t_lines t_chosen t_undos t_redos t_aimedMany t_fits t_fitOf t_sights t_systems t_own t_cross t_curveLong t_wallFirst), IA E 100 t_cur, IA E N_p1 p1_a] h) 4 [some (.ref a_t), some (.ref a_p1), some (vI v2), some (vI v3)] [] := by
  intro F
  induction F with
  | zero =>
    intro v2 v3 ok_v2 ok_v3 hs
    rw [m_X11_isAs_4] at hs
    cases hs
  | succ F ih =>
    intro v2 v3 ok_v2 ok_v3 hs
    rw [m_X11_isAs_4] at hs
    refine g_iload_n e_X11_isAs_4 rfl ?_
    refine g_bipush e_X11_isAs_5 bp_100 ?_
    refine g_icmp_ge e_X11_isAs_7 ok_v3 (by decide : inI 100) hs (fun c7 hs => ?_) (fun c7 hs => ?_)
    · refine g_iload_n e_X11_isAs_38 rfl ?_
      obtain rfl := Option.some.inj hs
      exact g_zret rfl ok_v2 ok_v2 e_X11_isAs_39
    · refine g_iload_n e_X11_isAs_10 rfl ?_
      refine g_if_eq e_X11_isAs_11 (inZ_I ok_v2) hs (fun c11 hs => ?_) (fun c11 hs => ?_)
      · exact g_mask [true, true, false, true] (g_X11_isAs_30 ao hN_p1 ok_t_cur ok_p1_a ok_v3 ih hk_38 hs)
      · refine g_aload_n e_X11_isAs_14 rfl ?_
        refine g_get 0 35 ao rfl rfl fsX11_g35 fl_X11_81 e_X11_isAs_15 ?_
        refine g_iload_n e_X11_isAs_18 rfl ?_
        refine g_iald 1 ao rfl rfl (Nat.le_of_ble_eq_true rfl) e_X11_isAs_19 hs (fun hi2 hs => ?_)
        refine g_aload_n e_X11_isAs_20 rfl ?_
        refine g_iload_n e_X11_isAs_21 rfl ?_
        refine g_iald 2 ao rfl rfl (Nat.le_trans hN_p1 (Nat.le_of_ble_eq_true rfl)) e_X11_isAs_22 hs (fun hi3 hs => ?_)
        refine g_icmp_ne e_X11_isAs_23 (ok_t_cur _) (ok_p1_a _) hs (fun c23 hs => ?_) (fun c23 hs => ?_)
        · refine g_iconst e_X11_isAs_26 ?_
          refine g_goto e_X11_isAs_27 ?_
          exact g_mask [true, true, false, true] (g_X11_isAs_31 ao hN_p1 ok_t_cur ok_p1_a ok_v3 (by decide : inZ 1) ih hk_38 hs)
        · exact g_mask [true, true, false, true] (g_X11_isAs_30 ao hN_p1 ok_t_cur ok_p1_a ok_v3 ih hk_38 hs)

noncomputable def m_X11_isAs_38 (N_p1 : Nat) (v2 : Int) : Option (Int) :=
  some (v2)

set_option maxRecDepth 10000 in
set_option maxHeartbeats 8000000 in
theorem g_X11_isAs_38 {l : Launch} {E : EE} {b0 n : Nat} {h : AH} {a_t a_p1 : Nat} {N_p1 : Nat} {t_thrown t_taped t_p t_fault t_baseLow t_baseHigh t_newBaseLow t_newBaseHigh t_from t_knots t_lines t_chosen t_undos t_redos t_aimedMany t_fits t_fitOf t_sights t_systems t_own t_cross t_curveLong t_wallFirst v2 : Int} {t_cur p1_a : Nat → Int} {r : Int} (ao : AO b0 n [a_t, (a_t + 24), a_p1]) (hN_p1 : N_p1 ≤ 100000) (ok_t_cur : okA t_cur) (ok_p1_a : okA p1_a) (ok_v2 : inZ v2) (hs : m_X11_isAs_38 N_p1 v2 = some r) : G l E b0 M_X11_isAs (fun _ => True) (ZM E b0 (some (vI r)) (ov [a_t, (a_t + 24), a_p1] [.inr (11, fsX11 a_t t_thrown t_taped t_p t_fault t_baseLow t_baseHigh t_newBaseLow t_newBaseHigh t_from t_knots t_lines t_chosen t_undos t_redos t_aimedMany t_fits t_fitOf t_sights t_systems t_own t_cross t_curveLong t_wallFirst), IA E 100 t_cur, IA E N_p1 p1_a] h) n (inZ r) 0 0) 0 0 n (ov [a_t, (a_t + 24), a_p1] [.inr (11, fsX11 a_t t_thrown t_taped t_p t_fault t_baseLow t_baseHigh t_newBaseLow t_newBaseHigh t_from t_knots t_lines t_chosen t_undos t_redos t_aimedMany t_fits t_fitOf t_sights t_systems t_own t_cross t_curveLong t_wallFirst), IA E 100 t_cur, IA E N_p1 p1_a] h) 38 [none, none, some (vI v2), none] [] := by
  rw [m_X11_isAs_38] at hs
  refine g_iload_n e_X11_isAs_38 rfl ?_
  obtain rfl := Option.some.inj hs
  exact g_zret rfl ok_v2 ok_v2 e_X11_isAs_39

noncomputable def m_X11_isAs_0 (N_p1 : Nat) (t_cur : Nat → Int) (p1_a : Nat → Int) : Option (Int) :=
  m_X11_isAs_4 N_p1 t_cur p1_a (fun v2' v3' => m_X11_isAs_38 N_p1 v2') FU 1 0

set_option maxRecDepth 10000 in
set_option maxHeartbeats 8000000 in
theorem g_X11_isAs_0 {l : Launch} {E : EE} {b0 n : Nat} {h : AH} {a_t a_p1 : Nat} {N_p1 : Nat} {t_thrown t_taped t_p t_fault t_baseLow t_baseHigh t_newBaseLow t_newBaseHigh t_from t_knots t_lines t_chosen t_undos t_redos t_aimedMany t_fits t_fitOf t_sights t_systems t_own t_cross t_curveLong t_wallFirst : Int} {t_cur p1_a : Nat → Int} {r : Int} (ao : AO b0 n [a_t, (a_t + 24), a_p1]) (hN_p1 : N_p1 ≤ 100000) (ok_t_cur : okA t_cur) (ok_p1_a : okA p1_a) (hs : m_X11_isAs_0 N_p1 t_cur p1_a = some r) : G l E b0 M_X11_isAs (fun _ => True) (ZM E b0 (some (vI r)) (ov [a_t, (a_t + 24), a_p1] [.inr (11, fsX11 a_t t_thrown t_taped t_p t_fault t_baseLow t_baseHigh t_newBaseLow t_newBaseHigh t_from t_knots t_lines t_chosen t_undos t_redos t_aimedMany t_fits t_fitOf t_sights t_systems t_own t_cross t_curveLong t_wallFirst), IA E 100 t_cur, IA E N_p1 p1_a] h) n (inZ r) 0 0) 0 0 n (ov [a_t, (a_t + 24), a_p1] [.inr (11, fsX11 a_t t_thrown t_taped t_p t_fault t_baseLow t_baseHigh t_newBaseLow t_newBaseHigh t_from t_knots t_lines t_chosen t_undos t_redos t_aimedMany t_fits t_fitOf t_sights t_systems t_own t_cross t_curveLong t_wallFirst), IA E 100 t_cur, IA E N_p1 p1_a] h) 0 [some (.ref a_t), some (.ref a_p1), none, none] [] := by
  rw [m_X11_isAs_0] at hs
  refine g_iconst e_X11_isAs_0 ?_
  refine g_istore_n e_X11_isAs_1 st1_2 rfl ?_
  refine g_iconst e_X11_isAs_2 ?_
  refine g_istore_n e_X11_isAs_3 st1_3 rfl ?_
  exact g_X11_isAs_4 ao hN_p1 ok_t_cur ok_p1_a (hk_38 := by
      intro v2' v3' ok_v2' ok_v3' hs
      exact g_X11_isAs_38 ao hN_p1 ok_t_cur ok_p1_a ok_v2' hs) FU _ _ (by decide : inZ 1) (by decide : inI 0) hs

noncomputable def m_X11_isAs (N_p1 : Nat) (t_cur : Nat → Int) (p1_a : Nat → Int) : Option (Int) := m_X11_isAs_0 N_p1 t_cur p1_a

set_option maxRecDepth 10000 in
set_option maxHeartbeats 8000000 in
theorem ct_X11_isAs {l : Launch} {E : EE} {b0 n : Nat} {h : AH} {a_t a_p1 : Nat} {N_p1 : Nat} {t_thrown t_taped t_p t_fault t_baseLow t_baseHigh t_newBaseLow t_newBaseHigh t_from t_knots t_lines t_chosen t_undos t_redos t_aimedMany t_fits t_fitOf t_sights t_systems t_own t_cross t_curveLong t_wallFirst : Int} {t_cur p1_a : Nat → Int} (ao : AO b0 n [a_t, (a_t + 24), a_p1]) (hN_p1 : N_p1 ≤ 100000) (hf : FA h [a_t, (a_t + 24), a_p1] [.inr (11, fsX11 a_t t_thrown t_taped t_p t_fault t_baseLow t_baseHigh t_newBaseLow t_newBaseHigh t_from t_knots t_lines t_chosen t_undos t_redos t_aimedMany t_fits t_fitOf t_sights t_systems t_own t_cross t_curveLong t_wallFirst), IA E 100 t_cur, IA E N_p1 p1_a]) (ok_t_cur : okA t_cur) (ok_p1_a : okA p1_a) {r : Int} (hm : m_X11_isAs N_p1 t_cur p1_a = some r) : Ct l E b0 M_X11_isAs 0 0 [.ref a_t, .ref a_p1] h n (some (vI r)) h n (inZ r) := by
  rw [m_X11_isAs] at hm
  have hg : G l E b0 M_X11_isAs (fun _ => True) (ZM E b0 (some (vI r)) (ov [a_t, (a_t + 24), a_p1] [.inr (11, fsX11 a_t t_thrown t_taped t_p t_fault t_baseLow t_baseHigh t_newBaseLow t_newBaseHigh t_from t_knots t_lines t_chosen t_undos t_redos t_aimedMany t_fits t_fitOf t_sights t_systems t_own t_cross t_curveLong t_wallFirst), IA E 100 t_cur, IA E N_p1 p1_a] h) n (inZ r) 0 0) 0 0 n (ov [a_t, (a_t + 24), a_p1] [.inr (11, fsX11 a_t t_thrown t_taped t_p t_fault t_baseLow t_baseHigh t_newBaseLow t_newBaseHigh t_from t_knots t_lines t_chosen t_undos t_redos t_aimedMany t_fits t_fitOf t_sights t_systems t_own t_cross t_curveLong t_wallFirst), IA E 100 t_cur, IA E N_p1 p1_a] h) 0 [some (.ref a_t), some (.ref a_p1), none, none] [] := by
    have hs := hm
    exact g_X11_isAs_0 ao hN_p1 ok_t_cur ok_p1_a hs
  rw [FA_id hf] at hg
  exact Ct_of [some (.ref a_t), some (.ref a_p1), none, none] ⟨by decide +kernel, rfl⟩ rfl (Nat.le_of_ble_eq_true rfl) hg

/-! ===== X11_atHand ===== -/
theorem e_X11_atHand_0 : DC cX11_atHand 0 (.aload_n 0) 1 1 := ⟨by decide +kernel, rfl⟩
theorem e_X11_atHand_1 : DC cX11_atHand 1 (.invokevirtual 343) 3 4 := ⟨by decide +kernel, rfl⟩
theorem e_X11_atHand_4 : DC cX11_atHand 4 (.aload_n 0) 1 5 := ⟨by decide +kernel, rfl⟩
theorem e_X11_atHand_5 : DC cX11_atHand 5 (.aload_n 0) 1 6 := ⟨by decide +kernel, rfl⟩
theorem e_X11_atHand_6 : DC cX11_atHand 6 (.getfield 97) 3 9 := ⟨by decide +kernel, rfl⟩
theorem e_X11_atHand_9 : DC cX11_atHand 9 (.iconst 0) 1 10 := ⟨by decide +kernel, rfl⟩
theorem e_X11_atHand_10 : DC cX11_atHand 10 (.aload_n 0) 1 11 := ⟨by decide +kernel, rfl⟩
theorem e_X11_atHand_11 : DC cX11_atHand 11 (.getfield 103) 3 14 := ⟨by decide +kernel, rfl⟩
theorem e_X11_atHand_14 : DC cX11_atHand 14 (.iconst 0) 1 15 := ⟨by decide +kernel, rfl⟩
theorem e_X11_atHand_15 : DC cX11_atHand 15 (.invokevirtual 346) 3 18 := ⟨by decide +kernel, rfl⟩
theorem e_X11_atHand_18 : DC cX11_atHand 18 (.return_) 1 19 := ⟨by decide +kernel, rfl⟩
noncomputable def m_X11_atHand_0 (t_push : Nat → Int) (t_cur : Nat → Int) (t_pushAt : Nat → Int) (t_curSum : Nat → Int) (t_row : Nat → Int) (t_sums : Nat → Int) : Option ((Nat → Int) × (Nat → Int) × (Nat → Int)) :=
  (m_X11_pushesAsRead t_push t_pushAt).bind (fun y1 => (m_X11_takes 100 6 t_cur t_curSum t_row t_sums 0 0).bind (fun y2 => some (y2.1, y1, y2.2)))

set_option maxRecDepth 10000 in
set_option maxHeartbeats 8000000 in
theorem g_X11_atHand_0 {l : Launch} {E : EE} {b0 n : Nat} {h : AH} {a_t : Nat} {t_thrown t_taped t_p t_fault t_baseLow t_baseHigh t_newBaseLow t_newBaseHigh t_from t_knots t_lines t_chosen t_undos t_redos t_aimedMany t_fits t_fitOf t_sights t_systems t_own t_cross t_curveLong t_wallFirst : Int} {t_push t_cur t_pushAt t_curSum t_row t_sums : Nat → Int} {r : (Nat → Int) × (Nat → Int) × (Nat → Int)} (ao : AO b0 n [a_t, (a_t + 6), (a_t + 24), (a_t + 27), (a_t + 28), (a_t + 29), (a_t + 31)]) (ok_t_push : okA t_push) (ok_t_cur : okA t_cur) (ok_t_pushAt : okA t_pushAt) (ok_t_curSum : okJ t_curSum) (ok_t_row : okA t_row) (ok_t_sums : okJ t_sums) (hs : m_X11_atHand_0 t_push t_cur t_pushAt t_curSum t_row t_sums = some r) : G l E b0 M_X11_atHand (fun _ => True) (ZM E b0 (none) (ov [a_t, (a_t + 6), (a_t + 24), (a_t + 27), (a_t + 28), (a_t + 29), (a_t + 31)] [.inr (11, fsX11 a_t t_thrown t_taped t_p t_fault t_baseLow t_baseHigh t_newBaseLow t_newBaseHigh t_from t_knots t_lines t_chosen t_undos t_redos t_aimedMany t_fits t_fitOf t_sights t_systems t_own t_cross t_curveLong t_wallFirst), IA E 21 t_push, IA E 100 r.1, IA E 21 r.2.1, JA E 6 r.2.2, IA E 100 t_row, JA E 6 t_sums] h) n (okA r.1 ∧ okA r.2.1 ∧ okJ r.2.2) 0 0) 0 0 n (ov [a_t, (a_t + 6), (a_t + 24), (a_t + 27), (a_t + 28), (a_t + 29), (a_t + 31)] [.inr (11, fsX11 a_t t_thrown t_taped t_p t_fault t_baseLow t_baseHigh t_newBaseLow t_newBaseHigh t_from t_knots t_lines t_chosen t_undos t_redos t_aimedMany t_fits t_fitOf t_sights t_systems t_own t_cross t_curveLong t_wallFirst), IA E 21 t_push, IA E 100 t_cur, IA E 21 t_pushAt, JA E 6 t_curSum, IA E 100 t_row, JA E 6 t_sums] h) 0 [some (.ref a_t)] [] := by
  rw [m_X11_atHand_0] at hs
  refine g_aload_n e_X11_atHand_0 rfl ?_
  obtain ⟨y1, hy1, hs⟩ := bind_elim hs
  refine g_callVv [] cv_X11_343 ⟨rfl, rfl, Nat.le_of_ble_eq_true rfl, Nat.le_of_ble_eq_true rfl⟩ (Ct_heap (ct_X11_pushesAsRead (a_t := a_t) (AO_call [0, 1, 3] ao (by decide) rfl) (FA_call [0, 1, 3] ao.1 rfl rfl) ok_t_push ok_t_pushAt hy1) (ov_call (esn := [.inr (11, fsX11 a_t t_thrown t_taped t_p t_fault t_baseLow t_baseHigh t_newBaseLow t_newBaseHigh t_from t_knots t_lines t_chosen t_undos t_redos t_aimedMany t_fits t_fitOf t_sights t_systems t_own t_cross t_curveLong t_wallFirst), IA E 21 t_push, IA E 100 t_cur, IA E 21 y1, JA E 6 t_curSum, IA E 100 t_row, JA E 6 t_sums]) [0, 1, 3] ao.1 rfl rfl rfl rfl)) e_X11_atHand_1 (ao.2 0 _ rfl) (ov_get 0 ao.1 rfl rfl) rfl rfl rfl (Nat.le_of_ble_eq_true rfl) ⟨Nat.le_refl _, Nat.le_refl _⟩ (fun Py1 => ?_)
  refine g_aload_n e_X11_atHand_4 rfl ?_
  refine g_aload_n e_X11_atHand_5 rfl ?_
  refine g_get 0 40 ao rfl rfl fsX11_g40 fl_X11_97 e_X11_atHand_6 ?_
  refine g_iconst e_X11_atHand_9 ?_
  refine g_aload_n e_X11_atHand_10 rfl ?_
  refine g_get 0 42 ao rfl rfl fsX11_g42 fl_X11_103 e_X11_atHand_11 ?_
  refine g_iconst e_X11_atHand_14 ?_
  obtain ⟨y2, hy2, hs⟩ := bind_elim hs
  refine g_callVv [.ref (a_t + 29), vI 0, .ref (a_t + 31), vI 0] cv_X11_346 ⟨rfl, rfl, Nat.le_of_ble_eq_true rfl, Nat.le_of_ble_eq_true rfl⟩ (Ct_heap (ct_X11_takes (a_t := a_t) (a_p1 := (a_t + 29)) (a_p3 := (a_t + 31)) (AO_call [0, 2, 4, 5, 6] ao (by decide) rfl) (by omega) (by omega) (FA_call [0, 2, 4, 5, 6] ao.1 rfl rfl) ok_t_cur ok_t_curSum ok_t_row ok_t_sums (by decide : inI 0) (by decide : inI 0) hy2) (ov_call (esn := [.inr (11, fsX11 a_t t_thrown t_taped t_p t_fault t_baseLow t_baseHigh t_newBaseLow t_newBaseHigh t_from t_knots t_lines t_chosen t_undos t_redos t_aimedMany t_fits t_fitOf t_sights t_systems t_own t_cross t_curveLong t_wallFirst), IA E 21 t_push, IA E 100 y2.1, IA E 21 y1, JA E 6 y2.2, IA E 100 t_row, JA E 6 t_sums]) [0, 2, 4, 5, 6] ao.1 rfl rfl rfl rfl)) e_X11_atHand_15 (ao.2 0 _ rfl) (ov_get 0 ao.1 rfl rfl) rfl rfl rfl (Nat.le_of_ble_eq_true rfl) ⟨Nat.le_refl _, Nat.le_refl _⟩ (fun Py2 => ?_)
  obtain rfl := Option.some.inj hs
  exact g_vret rfl ⟨Py2.1, Py1, Py2.2⟩ e_X11_atHand_18

noncomputable def m_X11_atHand (t_push : Nat → Int) (t_cur : Nat → Int) (t_pushAt : Nat → Int) (t_curSum : Nat → Int) (t_row : Nat → Int) (t_sums : Nat → Int) : Option ((Nat → Int) × (Nat → Int) × (Nat → Int)) := m_X11_atHand_0 t_push t_cur t_pushAt t_curSum t_row t_sums

set_option maxRecDepth 10000 in
set_option maxHeartbeats 8000000 in
theorem ct_X11_atHand {l : Launch} {E : EE} {b0 n : Nat} {h : AH} {a_t : Nat} {t_thrown t_taped t_p t_fault t_baseLow t_baseHigh t_newBaseLow t_newBaseHigh t_from t_knots t_lines t_chosen t_undos t_redos t_aimedMany t_fits t_fitOf t_sights t_systems t_own t_cross t_curveLong t_wallFirst : Int} {t_push t_cur t_pushAt t_curSum t_row t_sums : Nat → Int} (ao : AO b0 n [a_t, (a_t + 6), (a_t + 24), (a_t + 27), (a_t + 28), (a_t + 29), (a_t + 31)]) (hf : FA h [a_t, (a_t + 6), (a_t + 24), (a_t + 27), (a_t + 28), (a_t + 29), (a_t + 31)] [.inr (11, fsX11 a_t t_thrown t_taped t_p t_fault t_baseLow t_baseHigh t_newBaseLow t_newBaseHigh t_from t_knots t_lines t_chosen t_undos t_redos t_aimedMany t_fits t_fitOf t_sights t_systems t_own t_cross t_curveLong t_wallFirst), IA E 21 t_push, IA E 100 t_cur, IA E 21 t_pushAt, JA E 6 t_curSum, IA E 100 t_row, JA E 6 t_sums]) (ok_t_push : okA t_push) (ok_t_cur : okA t_cur) (ok_t_pushAt : okA t_pushAt) (ok_t_curSum : okJ t_curSum) (ok_t_row : okA t_row) (ok_t_sums : okJ t_sums) {r : (Nat → Int) × (Nat → Int) × (Nat → Int)} (hm : m_X11_atHand t_push t_cur t_pushAt t_curSum t_row t_sums = some r) : Ct l E b0 M_X11_atHand 0 0 [.ref a_t] h n (none) (ov [a_t, (a_t + 6), (a_t + 24), (a_t + 27), (a_t + 28), (a_t + 29), (a_t + 31)] [.inr (11, fsX11 a_t t_thrown t_taped t_p t_fault t_baseLow t_baseHigh t_newBaseLow t_newBaseHigh t_from t_knots t_lines t_chosen t_undos t_redos t_aimedMany t_fits t_fitOf t_sights t_systems t_own t_cross t_curveLong t_wallFirst), IA E 21 t_push, IA E 100 r.1, IA E 21 r.2.1, JA E 6 r.2.2, IA E 100 t_row, JA E 6 t_sums] h) n (okA r.1 ∧ okA r.2.1 ∧ okJ r.2.2) := by
  rw [m_X11_atHand] at hm
  have hg : G l E b0 M_X11_atHand (fun _ => True) (ZM E b0 (none) (ov [a_t, (a_t + 6), (a_t + 24), (a_t + 27), (a_t + 28), (a_t + 29), (a_t + 31)] [.inr (11, fsX11 a_t t_thrown t_taped t_p t_fault t_baseLow t_baseHigh t_newBaseLow t_newBaseHigh t_from t_knots t_lines t_chosen t_undos t_redos t_aimedMany t_fits t_fitOf t_sights t_systems t_own t_cross t_curveLong t_wallFirst), IA E 21 t_push, IA E 100 r.1, IA E 21 r.2.1, JA E 6 r.2.2, IA E 100 t_row, JA E 6 t_sums] h) n (okA r.1 ∧ okA r.2.1 ∧ okJ r.2.2) 0 0) 0 0 n (ov [a_t, (a_t + 6), (a_t + 24), (a_t + 27), (a_t + 28), (a_t + 29), (a_t + 31)] [.inr (11, fsX11 a_t t_thrown t_taped t_p t_fault t_baseLow t_baseHigh t_newBaseLow t_newBaseHigh t_from t_knots t_lines t_chosen t_undos t_redos t_aimedMany t_fits t_fitOf t_sights t_systems t_own t_cross t_curveLong t_wallFirst), IA E 21 t_push, IA E 100 t_cur, IA E 21 t_pushAt, JA E 6 t_curSum, IA E 100 t_row, JA E 6 t_sums] h) 0 [some (.ref a_t)] [] := by
    have hs := hm
    exact g_X11_atHand_0 ao ok_t_push ok_t_cur ok_t_pushAt ok_t_curSum ok_t_row ok_t_sums hs
  rw [FA_id hf] at hg
  exact Ct_of [some (.ref a_t)] ⟨by decide +kernel, rfl⟩ rfl (Nat.le_of_ble_eq_true rfl) hg

/-! ===== X11_remembers ===== -/
theorem e_X11_remembers_0 : DC cX11_remembers 0 (.aload_n 0) 1 1 := ⟨by decide +kernel, rfl⟩
theorem e_X11_remembers_1 : DC cX11_remembers 1 (.getfield 350) 3 4 := ⟨by decide +kernel, rfl⟩
theorem e_X11_remembers_4 : DC cX11_remembers 4 (.bipush 50) 2 6 := ⟨by decide +kernel, rfl⟩
theorem e_X11_remembers_6 : DB cX11_remembers 6 (.if_icmp .ne 73) (73) 3 9 79 := ⟨by decide +kernel, rfl, rfl⟩
theorem e_X11_remembers_9 : DC cX11_remembers 9 (.iconst 0) 1 10 := ⟨by decide +kernel, rfl⟩
theorem e_X11_remembers_10 : DC cX11_remembers 10 (.istore_n 1) 1 11 := ⟨by decide +kernel, rfl⟩
theorem e_X11_remembers_11 : DC cX11_remembers 11 (.iload_n 1) 1 12 := ⟨by decide +kernel, rfl⟩
theorem e_X11_remembers_12 : DC cX11_remembers 12 (.sipush 4900) 3 15 := ⟨by decide +kernel, rfl⟩
theorem e_X11_remembers_15 : DB cX11_remembers 15 (.if_icmp .ge 24) (24) 3 18 39 := ⟨by decide +kernel, rfl, rfl⟩
theorem e_X11_remembers_18 : DC cX11_remembers 18 (.aload_n 0) 1 19 := ⟨by decide +kernel, rfl⟩
theorem e_X11_remembers_19 : DC cX11_remembers 19 (.getfield 106) 3 22 := ⟨by decide +kernel, rfl⟩
theorem e_X11_remembers_22 : DC cX11_remembers 22 (.iload_n 1) 1 23 := ⟨by decide +kernel, rfl⟩
theorem e_X11_remembers_23 : DC cX11_remembers 23 (.aload_n 0) 1 24 := ⟨by decide +kernel, rfl⟩
theorem e_X11_remembers_24 : DC cX11_remembers 24 (.getfield 106) 3 27 := ⟨by decide +kernel, rfl⟩
theorem e_X11_remembers_27 : DC cX11_remembers 27 (.bipush 100) 2 29 := ⟨by decide +kernel, rfl⟩
theorem e_X11_remembers_29 : DC cX11_remembers 29 (.iload_n 1) 1 30 := ⟨by decide +kernel, rfl⟩
theorem e_X11_remembers_30 : DC cX11_remembers 30 (.iadd) 1 31 := ⟨by decide +kernel, rfl⟩
theorem e_X11_remembers_31 : DC cX11_remembers 31 (.iaload) 1 32 := ⟨by decide +kernel, rfl⟩
theorem e_X11_remembers_32 : DC cX11_remembers 32 (.iastore) 1 33 := ⟨by decide +kernel, rfl⟩
theorem e_X11_remembers_33 : DC cX11_remembers 33 (.iinc 1 1) 3 36 := ⟨by decide +kernel, rfl⟩
theorem e_X11_remembers_36 : DB cX11_remembers 36 (.goto (-25)) (-25) 3 39 11 := ⟨by decide +kernel, rfl, rfl⟩
theorem e_X11_remembers_39 : DC cX11_remembers 39 (.iconst 0) 1 40 := ⟨by decide +kernel, rfl⟩
theorem e_X11_remembers_40 : DC cX11_remembers 40 (.istore_n 1) 1 41 := ⟨by decide +kernel, rfl⟩
theorem e_X11_remembers_41 : DC cX11_remembers 41 (.iload_n 1) 1 42 := ⟨by decide +kernel, rfl⟩
theorem e_X11_remembers_42 : DC cX11_remembers 42 (.sipush 294) 3 45 := ⟨by decide +kernel, rfl⟩
theorem e_X11_remembers_45 : DB cX11_remembers 45 (.if_icmp .ge 24) (24) 3 48 69 := ⟨by decide +kernel, rfl, rfl⟩
theorem e_X11_remembers_48 : DC cX11_remembers 48 (.aload_n 0) 1 49 := ⟨by decide +kernel, rfl⟩
theorem e_X11_remembers_49 : DC cX11_remembers 49 (.getfield 112) 3 52 := ⟨by decide +kernel, rfl⟩
theorem e_X11_remembers_52 : DC cX11_remembers 52 (.iload_n 1) 1 53 := ⟨by decide +kernel, rfl⟩
theorem e_X11_remembers_53 : DC cX11_remembers 53 (.aload_n 0) 1 54 := ⟨by decide +kernel, rfl⟩
theorem e_X11_remembers_54 : DC cX11_remembers 54 (.getfield 112) 3 57 := ⟨by decide +kernel, rfl⟩
theorem e_X11_remembers_57 : DC cX11_remembers 57 (.bipush 6) 2 59 := ⟨by decide +kernel, rfl⟩
theorem e_X11_remembers_59 : DC cX11_remembers 59 (.iload_n 1) 1 60 := ⟨by decide +kernel, rfl⟩
theorem e_X11_remembers_60 : DC cX11_remembers 60 (.iadd) 1 61 := ⟨by decide +kernel, rfl⟩
theorem e_X11_remembers_61 : DC cX11_remembers 61 (.laload) 1 62 := ⟨by decide +kernel, rfl⟩
theorem e_X11_remembers_62 : DC cX11_remembers 62 (.lastore) 1 63 := ⟨by decide +kernel, rfl⟩
theorem e_X11_remembers_63 : DC cX11_remembers 63 (.iinc 1 1) 3 66 := ⟨by decide +kernel, rfl⟩
theorem e_X11_remembers_66 : DB cX11_remembers 66 (.goto (-25)) (-25) 3 69 41 := ⟨by decide +kernel, rfl, rfl⟩
theorem e_X11_remembers_69 : DC cX11_remembers 69 (.aload_n 0) 1 70 := ⟨by decide +kernel, rfl⟩
theorem e_X11_remembers_70 : DC cX11_remembers 70 (.dup) 1 71 := ⟨by decide +kernel, rfl⟩
theorem e_X11_remembers_71 : DC cX11_remembers 71 (.getfield 350) 3 74 := ⟨by decide +kernel, rfl⟩
theorem e_X11_remembers_74 : DC cX11_remembers 74 (.iconst 1) 1 75 := ⟨by decide +kernel, rfl⟩
theorem e_X11_remembers_75 : DC cX11_remembers 75 (.isub) 1 76 := ⟨by decide +kernel, rfl⟩
theorem e_X11_remembers_76 : DC cX11_remembers 76 (.putfield 350) 3 79 := ⟨by decide +kernel, rfl⟩
theorem e_X11_remembers_79 : DC cX11_remembers 79 (.aload_n 0) 1 80 := ⟨by decide +kernel, rfl⟩
theorem e_X11_remembers_80 : DC cX11_remembers 80 (.aload_n 0) 1 81 := ⟨by decide +kernel, rfl⟩
theorem e_X11_remembers_81 : DC cX11_remembers 81 (.getfield 97) 3 84 := ⟨by decide +kernel, rfl⟩
theorem e_X11_remembers_84 : DC cX11_remembers 84 (.iconst 0) 1 85 := ⟨by decide +kernel, rfl⟩
theorem e_X11_remembers_85 : DC cX11_remembers 85 (.aload_n 0) 1 86 := ⟨by decide +kernel, rfl⟩
theorem e_X11_remembers_86 : DC cX11_remembers 86 (.getfield 103) 3 89 := ⟨by decide +kernel, rfl⟩
theorem e_X11_remembers_89 : DC cX11_remembers 89 (.iconst 0) 1 90 := ⟨by decide +kernel, rfl⟩
theorem e_X11_remembers_90 : DC cX11_remembers 90 (.invokevirtual 346) 3 93 := ⟨by decide +kernel, rfl⟩
theorem e_X11_remembers_93 : DC cX11_remembers 93 (.aload_n 0) 1 94 := ⟨by decide +kernel, rfl⟩
theorem e_X11_remembers_94 : DC cX11_remembers 94 (.aload_n 0) 1 95 := ⟨by decide +kernel, rfl⟩
theorem e_X11_remembers_95 : DC cX11_remembers 95 (.getfield 106) 3 98 := ⟨by decide +kernel, rfl⟩
theorem e_X11_remembers_98 : DC cX11_remembers 98 (.bipush 100) 2 100 := ⟨by decide +kernel, rfl⟩
theorem e_X11_remembers_100 : DC cX11_remembers 100 (.aload_n 0) 1 101 := ⟨by decide +kernel, rfl⟩
theorem e_X11_remembers_101 : DC cX11_remembers 101 (.getfield 350) 3 104 := ⟨by decide +kernel, rfl⟩
theorem e_X11_remembers_104 : DC cX11_remembers 104 (.imul) 1 105 := ⟨by decide +kernel, rfl⟩
theorem e_X11_remembers_105 : DC cX11_remembers 105 (.aload_n 0) 1 106 := ⟨by decide +kernel, rfl⟩
theorem e_X11_remembers_106 : DC cX11_remembers 106 (.getfield 112) 3 109 := ⟨by decide +kernel, rfl⟩
theorem e_X11_remembers_109 : DC cX11_remembers 109 (.bipush 6) 2 111 := ⟨by decide +kernel, rfl⟩
theorem e_X11_remembers_111 : DC cX11_remembers 111 (.aload_n 0) 1 112 := ⟨by decide +kernel, rfl⟩
theorem e_X11_remembers_112 : DC cX11_remembers 112 (.getfield 350) 3 115 := ⟨by decide +kernel, rfl⟩
theorem e_X11_remembers_115 : DC cX11_remembers 115 (.imul) 1 116 := ⟨by decide +kernel, rfl⟩
theorem e_X11_remembers_116 : DC cX11_remembers 116 (.invokevirtual 353) 3 119 := ⟨by decide +kernel, rfl⟩
theorem e_X11_remembers_119 : DC cX11_remembers 119 (.aload_n 0) 1 120 := ⟨by decide +kernel, rfl⟩
theorem e_X11_remembers_120 : DC cX11_remembers 120 (.dup) 1 121 := ⟨by decide +kernel, rfl⟩
theorem e_X11_remembers_121 : DC cX11_remembers 121 (.getfield 350) 3 124 := ⟨by decide +kernel, rfl⟩
theorem e_X11_remembers_124 : DC cX11_remembers 124 (.iconst 1) 1 125 := ⟨by decide +kernel, rfl⟩
theorem e_X11_remembers_125 : DC cX11_remembers 125 (.iadd) 1 126 := ⟨by decide +kernel, rfl⟩
theorem e_X11_remembers_126 : DC cX11_remembers 126 (.putfield 350) 3 129 := ⟨by decide +kernel, rfl⟩
theorem e_X11_remembers_129 : DC cX11_remembers 129 (.return_) 1 130 := ⟨by decide +kernel, rfl⟩
noncomputable def m_X11_remembers_11 (k_39 : (Nat → Int) → Int → Option (Int × (Nat → Int) × (Nat → Int) × (Nat → Int) × (Nat → Int))) : Nat → (Nat → Int) → Int → Option (Int × (Nat → Int) × (Nat → Int) × (Nat → Int) × (Nat → Int))
  | 0, _, _ => none
  | F + 1, t_undoRow, v1 => if 4900 ≤ v1 then (k_39 t_undoRow v1) else (chk (inB (100 + v1) 5000) (chk (inB v1 5000) (chk (inI (v1 + 1)) (m_X11_remembers_11 k_39 F (up t_undoRow (Int.toNat v1) (t_undoRow (Int.toNat (100 + v1)))) (v1 + 1)))))

set_option maxRecDepth 10000 in
set_option maxHeartbeats 8000000 in
theorem g_X11_remembers_11 {l : Launch} {E : EE} {b0 n : Nat} {h : AH} {a_t : Nat} {t_thrown t_taped t_p t_fault t_baseLow t_baseHigh t_newBaseLow t_newBaseHigh t_from t_knots t_lines t_chosen t_undos t_redos t_aimedMany t_fits t_fitOf t_sights t_systems t_own t_cross t_curveLong t_wallFirst : Int} {t_cur t_curSum t_row t_sums t_undoSum : Nat → Int} {r : Int × (Nat → Int) × (Nat → Int) × (Nat → Int) × (Nat → Int)} {k_39 : (Nat → Int) → Int → Option (Int × (Nat → Int) × (Nat → Int) × (Nat → Int) × (Nat → Int))} (ao : AO b0 n [a_t, (a_t + 24), (a_t + 28), (a_t + 29), (a_t + 31), (a_t + 32), (a_t + 34)]) (ok_t_undos : inI t_undos) (ok_t_cur : okA t_cur) (ok_t_curSum : okJ t_curSum) (ok_t_row : okA t_row) (ok_t_sums : okJ t_sums) (ok_t_undoSum : okJ t_undoSum) (hk_39 : ∀ (t_undoRow_ : Nat → Int) (v1_ : Int), okA t_undoRow_ → inI v1_ → k_39 t_undoRow_ v1_ = some r → G l E b0 M_X11_remembers (fun _ => True) (ZM E b0 (none) (ov [a_t, (a_t + 24), (a_t + 28), (a_t + 29), (a_t + 31), (a_t + 32), (a_t + 34)] [.inr (11, fsX11 a_t t_thrown t_taped t_p t_fault t_baseLow t_baseHigh t_newBaseLow t_newBaseHigh t_from t_knots t_lines t_chosen r.1 t_redos t_aimedMany t_fits t_fitOf t_sights t_systems t_own t_cross t_curveLong t_wallFirst), IA E 100 r.2.1, JA E 6 r.2.2.1, IA E 100 t_row, JA E 6 t_sums, IA E 5000 r.2.2.2.1, JA E 300 r.2.2.2.2] h) n (inI r.1 ∧ okA r.2.1 ∧ okJ r.2.2.1 ∧ okA r.2.2.2.1 ∧ okJ r.2.2.2.2) 0 0) 0 0 n (ov [a_t, (a_t + 24), (a_t + 28), (a_t + 29), (a_t + 31), (a_t + 32), (a_t + 34)] [.inr (11, fsX11 a_t t_thrown t_taped t_p t_fault t_baseLow t_baseHigh t_newBaseLow t_newBaseHigh t_from t_knots t_lines t_chosen t_undos t_redos t_aimedMany t_fits t_fitOf t_sights t_systems t_own t_cross t_curveLong t_wallFirst), IA E 100 t_cur, JA E 6 t_curSum, IA E 100 t_row, JA E 6 t_sums, IA E 5000 t_undoRow_, JA E 300 t_undoSum] h) 39 [some (.ref a_t), none] []) :
    ∀ (F : Nat) (t_undoRow : Nat → Int) (v1 : Int), okA t_undoRow → inI v1 → m_X11_remembers_11 k_39 F t_undoRow v1 = some r → G l E b0 M_X11_remembers (fun _ => True) (ZM E b0 (none) (ov [a_t, (a_t + 24), (a_t + 28), (a_t + 29), (a_t + 31), (a_t + 32), (a_t + 34)] [.inr (11, fsX11 a_t t_thrown t_taped t_p t_fault t_baseLow t_baseHigh t_newBaseLow t_newBaseHigh t_from t_knots t_lines t_chosen r.1 t_redos t_aimedMany t_fits t_fitOf t_sights t_systems t_own t_cross t_curveLong t_wallFirst), IA E 100 r.2.1, JA E 6 r.2.2.1, IA E 100 t_row, JA E 6 t_sums, IA E 5000 r.2.2.2.1, JA E 300 r.2.2.2.2] h) n (inI r.1 ∧ okA r.2.1 ∧ okJ r.2.2.1 ∧ okA r.2.2.2.1 ∧ okJ r.2.2.2.2) 0 0) 0 0 n (ov [a_t, (a_t + 24), (a_t + 28), (a_t + 29), (a_t + 31), (a_t + 32), (a_t + 34)] [.inr (11, fsX11 a_t t_thrown t_taped t_p t_fault t_baseLow t_baseHigh t_newBaseLow t_newBaseHigh t_from t_knots t_lines t_chosen t_undos t_redos t_aimedMany t_fits t_fitOf t_sights t_systems t_own t_cross t_curveLong t_wallFirst), IA E 100 t_cur, JA E 6 t_curSum, IA E 100 t_row, JA E 6 t_sums, IA E 5000 t_undoRow, JA E 300 t_undoSum] h) 11 [some (.ref a_t), some (vI v1)] [] := by
  intro F
  induction F with
  | zero =>
    intro t_undoRow v1 ok_t_undoRow ok_v1 hs
    rw [m_X11_remembers_11] at hs
    cases hs
  | succ F ih =>
    intro t_undoRow v1 ok_t_undoRow ok_v1 hs
    rw [m_X11_remembers_11] at hs
    refine g_iload_n e_X11_remembers_11 rfl ?_
    refine g_sipush e_X11_remembers_12 sp_4900 ?_
    refine g_icmp_ge e_X11_remembers_15 ok_v1 (by decide : inI 4900) hs (fun c15 hs => ?_) (fun c15 hs => ?_)
    · exact g_mask [true, false] (hk_39 _ _ ok_t_undoRow ok_v1 hs)
    · refine g_aload_n e_X11_remembers_18 rfl ?_
      refine g_get 0 43 ao rfl rfl fsX11_g43 fl_X11_106 e_X11_remembers_19 ?_
      refine g_iload_n e_X11_remembers_22 rfl ?_
      refine g_aload_n e_X11_remembers_23 rfl ?_
      refine g_get 0 43 ao rfl rfl fsX11_g43 fl_X11_106 e_X11_remembers_24 ?_
      refine g_bipush e_X11_remembers_27 bp_100 ?_
      refine g_iload_n e_X11_remembers_29 rfl ?_
      refine g_iadd e_X11_remembers_30 ?_
      refine g_iald 5 ao rfl rfl (Nat.le_of_ble_eq_true rfl) e_X11_remembers_31 hs (fun hi1 hs => ?_)
      refine g_iast 5 ao rfl rfl ls_5 (Nat.le_of_ble_eq_true rfl) e_X11_remembers_32 hs (fun hi2 hs => ?_)
      refine g_iinc e_X11_remembers_33 rfl st1_1 rfl ?_
      refine g_goto e_X11_remembers_36 ?_
      obtain ⟨hc3, hs⟩ := chk_elim hs
      exact ih _ _ (okA_up ok_t_undoRow (ok_t_undoRow _)) hc3 hs

noncomputable def m_X11_remembers_41 (k_69 : (Nat → Int) → Int → Option (Int × (Nat → Int) × (Nat → Int) × (Nat → Int) × (Nat → Int))) : Nat → (Nat → Int) → Int → Option (Int × (Nat → Int) × (Nat → Int) × (Nat → Int) × (Nat → Int))
  | 0, _, _ => none
  | F + 1, t_undoSum, v1 => if 294 ≤ v1 then (k_69 t_undoSum v1) else (chk (inB (6 + v1) 300) (chk (inB v1 300) (chk (inI (v1 + 1)) (m_X11_remembers_41 k_69 F (up t_undoSum (Int.toNat v1) (t_undoSum (Int.toNat (6 + v1)))) (v1 + 1)))))

set_option maxRecDepth 10000 in
set_option maxHeartbeats 8000000 in
theorem g_X11_remembers_41 {l : Launch} {E : EE} {b0 n : Nat} {h : AH} {a_t : Nat} {t_thrown t_taped t_p t_fault t_baseLow t_baseHigh t_newBaseLow t_newBaseHigh t_from t_knots t_lines t_chosen t_undos t_redos t_aimedMany t_fits t_fitOf t_sights t_systems t_own t_cross t_curveLong t_wallFirst : Int} {t_cur t_curSum t_row t_sums t_undoRow : Nat → Int} {r : Int × (Nat → Int) × (Nat → Int) × (Nat → Int) × (Nat → Int)} {k_69 : (Nat → Int) → Int → Option (Int × (Nat → Int) × (Nat → Int) × (Nat → Int) × (Nat → Int))} (ao : AO b0 n [a_t, (a_t + 24), (a_t + 28), (a_t + 29), (a_t + 31), (a_t + 32), (a_t + 34)]) (ok_t_undos : inI t_undos) (ok_t_cur : okA t_cur) (ok_t_curSum : okJ t_curSum) (ok_t_row : okA t_row) (ok_t_sums : okJ t_sums) (ok_t_undoRow : okA t_undoRow) (hk_69 : ∀ (t_undoSum_ : Nat → Int) (v1_ : Int), okJ t_undoSum_ → inI v1_ → k_69 t_undoSum_ v1_ = some r → G l E b0 M_X11_remembers (fun _ => True) (ZM E b0 (none) (ov [a_t, (a_t + 24), (a_t + 28), (a_t + 29), (a_t + 31), (a_t + 32), (a_t + 34)] [.inr (11, fsX11 a_t t_thrown t_taped t_p t_fault t_baseLow t_baseHigh t_newBaseLow t_newBaseHigh t_from t_knots t_lines t_chosen r.1 t_redos t_aimedMany t_fits t_fitOf t_sights t_systems t_own t_cross t_curveLong t_wallFirst), IA E 100 r.2.1, JA E 6 r.2.2.1, IA E 100 t_row, JA E 6 t_sums, IA E 5000 r.2.2.2.1, JA E 300 r.2.2.2.2] h) n (inI r.1 ∧ okA r.2.1 ∧ okJ r.2.2.1 ∧ okA r.2.2.2.1 ∧ okJ r.2.2.2.2) 0 0) 0 0 n (ov [a_t, (a_t + 24), (a_t + 28), (a_t + 29), (a_t + 31), (a_t + 32), (a_t + 34)] [.inr (11, fsX11 a_t t_thrown t_taped t_p t_fault t_baseLow t_baseHigh t_newBaseLow t_newBaseHigh t_from t_knots t_lines t_chosen t_undos t_redos t_aimedMany t_fits t_fitOf t_sights t_systems t_own t_cross t_curveLong t_wallFirst), IA E 100 t_cur, JA E 6 t_curSum, IA E 100 t_row, JA E 6 t_sums, IA E 5000 t_undoRow, JA E 300 t_undoSum_] h) 69 [some (.ref a_t), none] []) :
    ∀ (F : Nat) (t_undoSum : Nat → Int) (v1 : Int), okJ t_undoSum → inI v1 → m_X11_remembers_41 k_69 F t_undoSum v1 = some r → G l E b0 M_X11_remembers (fun _ => True) (ZM E b0 (none) (ov [a_t, (a_t + 24), (a_t + 28), (a_t + 29), (a_t + 31), (a_t + 32), (a_t + 34)] [.inr (11, fsX11 a_t t_thrown t_taped t_p t_fault t_baseLow t_baseHigh t_newBaseLow t_newBaseHigh t_from t_knots t_lines t_chosen r.1 t_redos t_aimedMany t_fits t_fitOf t_sights t_systems t_own t_cross t_curveLong t_wallFirst), IA E 100 r.2.1, JA E 6 r.2.2.1, IA E 100 t_row, JA E 6 t_sums, IA E 5000 r.2.2.2.1, JA E 300 r.2.2.2.2] h) n (inI r.1 ∧ okA r.2.1 ∧ okJ r.2.2.1 ∧ okA r.2.2.2.1 ∧ okJ r.2.2.2.2) 0 0) 0 0 n (ov [a_t, (a_t + 24), (a_t + 28), (a_t + 29), (a_t + 31), (a_t + 32), (a_t + 34)] [.inr (11, fsX11 a_t t_thrown t_taped t_p t_fault t_baseLow t_baseHigh t_newBaseLow t_newBaseHigh t_from t_knots t_lines t_chosen t_undos t_redos t_aimedMany t_fits t_fitOf t_sights t_systems t_own t_cross t_curveLong t_wallFirst), IA E 100 t_cur, JA E 6 t_curSum, IA E 100 t_row, JA E 6 t_sums, IA E 5000 t_undoRow, JA E 300 t_undoSum] h) 41 [some (.ref a_t), some (vI v1)] [] := by
  intro F
  induction F with
  | zero =>
    intro t_undoSum v1 ok_t_undoSum ok_v1 hs
    rw [m_X11_remembers_41] at hs
    cases hs
  | succ F ih =>
    intro t_undoSum v1 ok_t_undoSum ok_v1 hs
    rw [m_X11_remembers_41] at hs
    refine g_iload_n e_X11_remembers_41 rfl ?_
    refine g_sipush e_X11_remembers_42 sp_294 ?_
    refine g_icmp_ge e_X11_remembers_45 ok_v1 (by decide : inI 294) hs (fun c45 hs => ?_) (fun c45 hs => ?_)
    · exact g_mask [true, false] (hk_69 _ _ ok_t_undoSum ok_v1 hs)
    · refine g_aload_n e_X11_remembers_48 rfl ?_
      refine g_get 0 45 ao rfl rfl fsX11_g45 fl_X11_112 e_X11_remembers_49 ?_
      refine g_iload_n e_X11_remembers_52 rfl ?_
      refine g_aload_n e_X11_remembers_53 rfl ?_
      refine g_get 0 45 ao rfl rfl fsX11_g45 fl_X11_112 e_X11_remembers_54 ?_
      refine g_bipush e_X11_remembers_57 bp_6 ?_
      refine g_iload_n e_X11_remembers_59 rfl ?_
      refine g_iadd e_X11_remembers_60 ?_
      refine g_lald 6 ao rfl rfl (Nat.le_of_ble_eq_true rfl) e_X11_remembers_61 hs (fun hi4 hs => ?_)
      refine g_last 6 ao rfl rfl ls_6 (Nat.le_of_ble_eq_true rfl) e_X11_remembers_62 hs (fun hi5 hs => ?_)
      refine g_iinc e_X11_remembers_63 rfl st1_1 rfl ?_
      refine g_goto e_X11_remembers_66 ?_
      obtain ⟨hc6, hs⟩ := chk_elim hs
      exact ih _ _ (okJ_up ok_t_undoSum (ok_t_undoSum _)) hc6 hs

noncomputable def m_X11_remembers_79 (t_undos : Int) (t_cur : Nat → Int) (t_curSum : Nat → Int) (t_row : Nat → Int) (t_sums : Nat → Int) (t_undoRow : Nat → Int) (t_undoSum : Nat → Int) : Option (Int × (Nat → Int) × (Nat → Int) × (Nat → Int) × (Nat → Int)) :=
  (m_X11_takes 100 6 t_cur t_curSum t_row t_sums 0 0).bind (fun y8 => chk (inI (100 * t_undos)) (chk (inI (6 * t_undos)) ((m_X11_keeps 5000 300 y8.1 y8.2 t_undoRow t_undoSum (100 * t_undos) (6 * t_undos)).bind (fun y11 => chk (inI (t_undos + 1)) (some (t_undos + 1, y8.1, y8.2, y11.1, y11.2))))))

set_option maxRecDepth 10000 in
set_option maxHeartbeats 8000000 in
theorem g_X11_remembers_79 {l : Launch} {E : EE} {b0 n : Nat} {h : AH} {a_t : Nat} {t_thrown t_taped t_p t_fault t_baseLow t_baseHigh t_newBaseLow t_newBaseHigh t_from t_knots t_lines t_chosen t_undos t_redos t_aimedMany t_fits t_fitOf t_sights t_systems t_own t_cross t_curveLong t_wallFirst : Int} {t_cur t_curSum t_row t_sums t_undoRow t_undoSum : Nat → Int} {r : Int × (Nat → Int) × (Nat → Int) × (Nat → Int) × (Nat → Int)} (ao : AO b0 n [a_t, (a_t + 24), (a_t + 28), (a_t + 29), (a_t + 31), (a_t + 32), (a_t + 34)]) (ok_t_undos : inI t_undos) (ok_t_cur : okA t_cur) (ok_t_curSum : okJ t_curSum) (ok_t_row : okA t_row) (ok_t_sums : okJ t_sums) (ok_t_undoRow : okA t_undoRow) (ok_t_undoSum : okJ t_undoSum) (hs : m_X11_remembers_79 t_undos t_cur t_curSum t_row t_sums t_undoRow t_undoSum = some r) : G l E b0 M_X11_remembers (fun _ => True) (ZM E b0 (none) (ov [a_t, (a_t + 24), (a_t + 28), (a_t + 29), (a_t + 31), (a_t + 32), (a_t + 34)] [.inr (11, fsX11 a_t t_thrown t_taped t_p t_fault t_baseLow t_baseHigh t_newBaseLow t_newBaseHigh t_from t_knots t_lines t_chosen r.1 t_redos t_aimedMany t_fits t_fitOf t_sights t_systems t_own t_cross t_curveLong t_wallFirst), IA E 100 r.2.1, JA E 6 r.2.2.1, IA E 100 t_row, JA E 6 t_sums, IA E 5000 r.2.2.2.1, JA E 300 r.2.2.2.2] h) n (inI r.1 ∧ okA r.2.1 ∧ okJ r.2.2.1 ∧ okA r.2.2.2.1 ∧ okJ r.2.2.2.2) 0 0) 0 0 n (ov [a_t, (a_t + 24), (a_t + 28), (a_t + 29), (a_t + 31), (a_t + 32), (a_t + 34)] [.inr (11, fsX11 a_t t_thrown t_taped t_p t_fault t_baseLow t_baseHigh t_newBaseLow t_newBaseHigh t_from t_knots t_lines t_chosen t_undos t_redos t_aimedMany t_fits t_fitOf t_sights t_systems t_own t_cross t_curveLong t_wallFirst), IA E 100 t_cur, JA E 6 t_curSum, IA E 100 t_row, JA E 6 t_sums, IA E 5000 t_undoRow, JA E 300 t_undoSum] h) 79 [some (.ref a_t), none] [] := by
  rw [m_X11_remembers_79] at hs
  refine g_aload_n e_X11_remembers_79 rfl ?_
  refine g_aload_n e_X11_remembers_80 rfl ?_
  refine g_get 0 40 ao rfl rfl fsX11_g40 fl_X11_97 e_X11_remembers_81 ?_
  refine g_iconst e_X11_remembers_84 ?_
  refine g_aload_n e_X11_remembers_85 rfl ?_
  refine g_get 0 42 ao rfl rfl fsX11_g42 fl_X11_103 e_X11_remembers_86 ?_
  refine g_iconst e_X11_remembers_89 ?_
  obtain ⟨y8, hy8, hs⟩ := bind_elim hs
  refine g_callVv [.ref (a_t + 29), vI 0, .ref (a_t + 31), vI 0] cv_X11_346 ⟨rfl, rfl, Nat.le_of_ble_eq_true rfl, Nat.le_of_ble_eq_true rfl⟩ (Ct_heap (ct_X11_takes (a_t := a_t) (a_p1 := (a_t + 29)) (a_p3 := (a_t + 31)) (AO_call [0, 1, 2, 3, 4] ao (by decide) rfl) (by omega) (by omega) (FA_call [0, 1, 2, 3, 4] ao.1 rfl rfl) ok_t_cur ok_t_curSum ok_t_row ok_t_sums (by decide : inI 0) (by decide : inI 0) hy8) (ov_call (esn := [.inr (11, fsX11 a_t t_thrown t_taped t_p t_fault t_baseLow t_baseHigh t_newBaseLow t_newBaseHigh t_from t_knots t_lines t_chosen t_undos t_redos t_aimedMany t_fits t_fitOf t_sights t_systems t_own t_cross t_curveLong t_wallFirst), IA E 100 y8.1, JA E 6 y8.2, IA E 100 t_row, JA E 6 t_sums, IA E 5000 t_undoRow, JA E 300 t_undoSum]) [0, 1, 2, 3, 4] ao.1 rfl rfl rfl rfl)) e_X11_remembers_90 (ao.2 0 _ rfl) (ov_get 0 ao.1 rfl rfl) rfl rfl rfl (Nat.le_of_ble_eq_true rfl) ⟨Nat.le_refl _, Nat.le_refl _⟩ (fun Py8 => ?_)
  refine g_aload_n e_X11_remembers_93 rfl ?_
  refine g_aload_n e_X11_remembers_94 rfl ?_
  refine g_get 0 43 ao rfl rfl fsX11_g43 fl_X11_106 e_X11_remembers_95 ?_
  refine g_bipush e_X11_remembers_98 bp_100 ?_
  refine g_aload_n e_X11_remembers_100 rfl ?_
  refine g_get 0 47 ao rfl rfl fsX11_g47 fl_X11_350 e_X11_remembers_101 ?_
  refine g_imul e_X11_remembers_104 ?_
  refine g_aload_n e_X11_remembers_105 rfl ?_
  refine g_get 0 45 ao rfl rfl fsX11_g45 fl_X11_112 e_X11_remembers_106 ?_
  refine g_bipush e_X11_remembers_109 bp_6 ?_
  refine g_aload_n e_X11_remembers_111 rfl ?_
  refine g_get 0 47 ao rfl rfl fsX11_g47 fl_X11_350 e_X11_remembers_112 ?_
  refine g_imul e_X11_remembers_115 ?_
  obtain ⟨hc9, hs⟩ := chk_elim hs
  obtain ⟨hc10, hs⟩ := chk_elim hs
  obtain ⟨y11, hy11, hs⟩ := bind_elim hs
  refine g_callVv [.ref (a_t + 32), vI (100 * t_undos), .ref (a_t + 34), vI (6 * t_undos)] cv_X11_353 ⟨rfl, rfl, Nat.le_of_ble_eq_true rfl, Nat.le_of_ble_eq_true rfl⟩ (Ct_heap (ct_X11_keeps (a_t := a_t) (a_p1 := (a_t + 32)) (a_p3 := (a_t + 34)) (AO_call [0, 1, 2, 5, 6] ao (by decide) rfl) (by omega) (by omega) (FA_call [0, 1, 2, 5, 6] ao.1 rfl rfl) Py8.1 Py8.2 ok_t_undoRow ok_t_undoSum hc9 hc10 hy11) (ov_call (esn := [.inr (11, fsX11 a_t t_thrown t_taped t_p t_fault t_baseLow t_baseHigh t_newBaseLow t_newBaseHigh t_from t_knots t_lines t_chosen t_undos t_redos t_aimedMany t_fits t_fitOf t_sights t_systems t_own t_cross t_curveLong t_wallFirst), IA E 100 y8.1, JA E 6 y8.2, IA E 100 t_row, JA E 6 t_sums, IA E 5000 y11.1, JA E 300 y11.2]) [0, 1, 2, 5, 6] ao.1 rfl rfl rfl rfl)) e_X11_remembers_116 (ao.2 0 _ rfl) (ov_get 0 ao.1 rfl rfl) rfl rfl rfl (Nat.le_of_ble_eq_true rfl) ⟨Nat.le_refl _, Nat.le_refl _⟩ (fun Py11 => ?_)
  refine g_aload_n e_X11_remembers_119 rfl ?_
  refine g_dup e_X11_remembers_120 rfl ?_
  refine g_get 0 47 ao rfl rfl fsX11_g47 fl_X11_350 e_X11_remembers_121 ?_
  refine g_iconst e_X11_remembers_124 ?_
  refine g_iadd e_X11_remembers_125 ?_
  obtain ⟨hc12, hs⟩ := chk_elim hs
  refine g_put 0 47 ao rfl rfl fsX11_k47 fsX11_s47 ls_0 fw_X11_350 (fun h => by cases h) ⟨rfl, rfl⟩ e_X11_remembers_126 ?_
  obtain rfl := Option.some.inj hs
  exact g_vret rfl ⟨hc12, Py8.1, Py8.2, Py11.1, Py11.2⟩ e_X11_remembers_129

noncomputable def m_X11_remembers_69 (t_undos : Int) (t_cur : Nat → Int) (t_curSum : Nat → Int) (t_row : Nat → Int) (t_sums : Nat → Int) (t_undoRow : Nat → Int) (t_undoSum : Nat → Int) : Option (Int × (Nat → Int) × (Nat → Int) × (Nat → Int) × (Nat → Int)) :=
  chk (inI (t_undos - 1)) (m_X11_remembers_79 (t_undos - 1) t_cur t_curSum t_row t_sums t_undoRow t_undoSum)

set_option maxRecDepth 10000 in
set_option maxHeartbeats 8000000 in
theorem g_X11_remembers_69 {l : Launch} {E : EE} {b0 n : Nat} {h : AH} {a_t : Nat} {t_thrown t_taped t_p t_fault t_baseLow t_baseHigh t_newBaseLow t_newBaseHigh t_from t_knots t_lines t_chosen t_undos t_redos t_aimedMany t_fits t_fitOf t_sights t_systems t_own t_cross t_curveLong t_wallFirst : Int} {t_cur t_curSum t_row t_sums t_undoRow t_undoSum : Nat → Int} {r : Int × (Nat → Int) × (Nat → Int) × (Nat → Int) × (Nat → Int)} (ao : AO b0 n [a_t, (a_t + 24), (a_t + 28), (a_t + 29), (a_t + 31), (a_t + 32), (a_t + 34)]) (ok_t_undos : inI t_undos) (ok_t_cur : okA t_cur) (ok_t_curSum : okJ t_curSum) (ok_t_row : okA t_row) (ok_t_sums : okJ t_sums) (ok_t_undoRow : okA t_undoRow) (ok_t_undoSum : okJ t_undoSum) (hs : m_X11_remembers_69 t_undos t_cur t_curSum t_row t_sums t_undoRow t_undoSum = some r) : G l E b0 M_X11_remembers (fun _ => True) (ZM E b0 (none) (ov [a_t, (a_t + 24), (a_t + 28), (a_t + 29), (a_t + 31), (a_t + 32), (a_t + 34)] [.inr (11, fsX11 a_t t_thrown t_taped t_p t_fault t_baseLow t_baseHigh t_newBaseLow t_newBaseHigh t_from t_knots t_lines t_chosen r.1 t_redos t_aimedMany t_fits t_fitOf t_sights t_systems t_own t_cross t_curveLong t_wallFirst), IA E 100 r.2.1, JA E 6 r.2.2.1, IA E 100 t_row, JA E 6 t_sums, IA E 5000 r.2.2.2.1, JA E 300 r.2.2.2.2] h) n (inI r.1 ∧ okA r.2.1 ∧ okJ r.2.2.1 ∧ okA r.2.2.2.1 ∧ okJ r.2.2.2.2) 0 0) 0 0 n (ov [a_t, (a_t + 24), (a_t + 28), (a_t + 29), (a_t + 31), (a_t + 32), (a_t + 34)] [.inr (11, fsX11 a_t t_thrown t_taped t_p t_fault t_baseLow t_baseHigh t_newBaseLow t_newBaseHigh t_from t_knots t_lines t_chosen t_undos t_redos t_aimedMany t_fits t_fitOf t_sights t_systems t_own t_cross t_curveLong t_wallFirst), IA E 100 t_cur, JA E 6 t_curSum, IA E 100 t_row, JA E 6 t_sums, IA E 5000 t_undoRow, JA E 300 t_undoSum] h) 69 [some (.ref a_t), none] [] := by
  rw [m_X11_remembers_69] at hs
  refine g_aload_n e_X11_remembers_69 rfl ?_
  refine g_dup e_X11_remembers_70 rfl ?_
  refine g_get 0 47 ao rfl rfl fsX11_g47 fl_X11_350 e_X11_remembers_71 ?_
  refine g_iconst e_X11_remembers_74 ?_
  refine g_isub e_X11_remembers_75 ?_
  obtain ⟨hc7, hs⟩ := chk_elim hs
  refine g_put 0 47 ao rfl rfl fsX11_k47 fsX11_s47 ls_0 fw_X11_350 (fun h => by cases h) ⟨rfl, rfl⟩ e_X11_remembers_76 ?_
  exact g_X11_remembers_79 ao hc7 ok_t_cur ok_t_curSum ok_t_row ok_t_sums ok_t_undoRow ok_t_undoSum hs

noncomputable def m_X11_remembers_39 (t_undos : Int) (t_cur : Nat → Int) (t_curSum : Nat → Int) (t_row : Nat → Int) (t_sums : Nat → Int) (t_undoRow : Nat → Int) (t_undoSum : Nat → Int) : Option (Int × (Nat → Int) × (Nat → Int) × (Nat → Int) × (Nat → Int)) :=
  m_X11_remembers_41 (fun t_undoSum' v1' => m_X11_remembers_69 t_undos t_cur t_curSum t_row t_sums t_undoRow t_undoSum') FU t_undoSum 0

set_option maxRecDepth 10000 in
set_option maxHeartbeats 8000000 in
theorem g_X11_remembers_39 {l : Launch} {E : EE} {b0 n : Nat} {h : AH} {a_t : Nat} {t_thrown t_taped t_p t_fault t_baseLow t_baseHigh t_newBaseLow t_newBaseHigh t_from t_knots t_lines t_chosen t_undos t_redos t_aimedMany t_fits t_fitOf t_sights t_systems t_own t_cross t_curveLong t_wallFirst : Int} {t_cur t_curSum t_row t_sums t_undoRow t_undoSum : Nat → Int} {r : Int × (Nat → Int) × (Nat → Int) × (Nat → Int) × (Nat → Int)} (ao : AO b0 n [a_t, (a_t + 24), (a_t + 28), (a_t + 29), (a_t + 31), (a_t + 32), (a_t + 34)]) (ok_t_undos : inI t_undos) (ok_t_cur : okA t_cur) (ok_t_curSum : okJ t_curSum) (ok_t_row : okA t_row) (ok_t_sums : okJ t_sums) (ok_t_undoRow : okA t_undoRow) (ok_t_undoSum : okJ t_undoSum) (hs : m_X11_remembers_39 t_undos t_cur t_curSum t_row t_sums t_undoRow t_undoSum = some r) : G l E b0 M_X11_remembers (fun _ => True) (ZM E b0 (none) (ov [a_t, (a_t + 24), (a_t + 28), (a_t + 29), (a_t + 31), (a_t + 32), (a_t + 34)] [.inr (11, fsX11 a_t t_thrown t_taped t_p t_fault t_baseLow t_baseHigh t_newBaseLow t_newBaseHigh t_from t_knots t_lines t_chosen r.1 t_redos t_aimedMany t_fits t_fitOf t_sights t_systems t_own t_cross t_curveLong t_wallFirst), IA E 100 r.2.1, JA E 6 r.2.2.1, IA E 100 t_row, JA E 6 t_sums, IA E 5000 r.2.2.2.1, JA E 300 r.2.2.2.2] h) n (inI r.1 ∧ okA r.2.1 ∧ okJ r.2.2.1 ∧ okA r.2.2.2.1 ∧ okJ r.2.2.2.2) 0 0) 0 0 n (ov [a_t, (a_t + 24), (a_t + 28), (a_t + 29), (a_t + 31), (a_t + 32), (a_t + 34)] [.inr (11, fsX11 a_t t_thrown t_taped t_p t_fault t_baseLow t_baseHigh t_newBaseLow t_newBaseHigh t_from t_knots t_lines t_chosen t_undos t_redos t_aimedMany t_fits t_fitOf t_sights t_systems t_own t_cross t_curveLong t_wallFirst), IA E 100 t_cur, JA E 6 t_curSum, IA E 100 t_row, JA E 6 t_sums, IA E 5000 t_undoRow, JA E 300 t_undoSum] h) 39 [some (.ref a_t), none] [] := by
  rw [m_X11_remembers_39] at hs
  refine g_iconst e_X11_remembers_39 ?_
  refine g_istore_n e_X11_remembers_40 st1_1 rfl ?_
  exact g_X11_remembers_41 ao ok_t_undos ok_t_cur ok_t_curSum ok_t_row ok_t_sums ok_t_undoRow (hk_69 := by
      intro t_undoSum' v1' ok_t_undoSum' ok_v1' hs
      exact g_X11_remembers_69 ao ok_t_undos ok_t_cur ok_t_curSum ok_t_row ok_t_sums ok_t_undoRow ok_t_undoSum' hs) FU _ _ ok_t_undoSum (by decide : inI 0) hs

noncomputable def m_X11_remembers_0 (t_undos : Int) (t_cur : Nat → Int) (t_curSum : Nat → Int) (t_row : Nat → Int) (t_sums : Nat → Int) (t_undoRow : Nat → Int) (t_undoSum : Nat → Int) : Option (Int × (Nat → Int) × (Nat → Int) × (Nat → Int) × (Nat → Int)) :=
  if t_undos = 50 then (m_X11_remembers_11 (fun t_undoRow' v1' => m_X11_remembers_39 t_undos t_cur t_curSum t_row t_sums t_undoRow' t_undoSum) FU t_undoRow 0) else (m_X11_remembers_79 t_undos t_cur t_curSum t_row t_sums t_undoRow t_undoSum)

set_option maxRecDepth 10000 in
set_option maxHeartbeats 8000000 in
theorem g_X11_remembers_0 {l : Launch} {E : EE} {b0 n : Nat} {h : AH} {a_t : Nat} {t_thrown t_taped t_p t_fault t_baseLow t_baseHigh t_newBaseLow t_newBaseHigh t_from t_knots t_lines t_chosen t_undos t_redos t_aimedMany t_fits t_fitOf t_sights t_systems t_own t_cross t_curveLong t_wallFirst : Int} {t_cur t_curSum t_row t_sums t_undoRow t_undoSum : Nat → Int} {r : Int × (Nat → Int) × (Nat → Int) × (Nat → Int) × (Nat → Int)} (ao : AO b0 n [a_t, (a_t + 24), (a_t + 28), (a_t + 29), (a_t + 31), (a_t + 32), (a_t + 34)]) (ok_t_undos : inI t_undos) (ok_t_cur : okA t_cur) (ok_t_curSum : okJ t_curSum) (ok_t_row : okA t_row) (ok_t_sums : okJ t_sums) (ok_t_undoRow : okA t_undoRow) (ok_t_undoSum : okJ t_undoSum) (hs : m_X11_remembers_0 t_undos t_cur t_curSum t_row t_sums t_undoRow t_undoSum = some r) : G l E b0 M_X11_remembers (fun _ => True) (ZM E b0 (none) (ov [a_t, (a_t + 24), (a_t + 28), (a_t + 29), (a_t + 31), (a_t + 32), (a_t + 34)] [.inr (11, fsX11 a_t t_thrown t_taped t_p t_fault t_baseLow t_baseHigh t_newBaseLow t_newBaseHigh t_from t_knots t_lines t_chosen r.1 t_redos t_aimedMany t_fits t_fitOf t_sights t_systems t_own t_cross t_curveLong t_wallFirst), IA E 100 r.2.1, JA E 6 r.2.2.1, IA E 100 t_row, JA E 6 t_sums, IA E 5000 r.2.2.2.1, JA E 300 r.2.2.2.2] h) n (inI r.1 ∧ okA r.2.1 ∧ okJ r.2.2.1 ∧ okA r.2.2.2.1 ∧ okJ r.2.2.2.2) 0 0) 0 0 n (ov [a_t, (a_t + 24), (a_t + 28), (a_t + 29), (a_t + 31), (a_t + 32), (a_t + 34)] [.inr (11, fsX11 a_t t_thrown t_taped t_p t_fault t_baseLow t_baseHigh t_newBaseLow t_newBaseHigh t_from t_knots t_lines t_chosen t_undos t_redos t_aimedMany t_fits t_fitOf t_sights t_systems t_own t_cross t_curveLong t_wallFirst), IA E 100 t_cur, JA E 6 t_curSum, IA E 100 t_row, JA E 6 t_sums, IA E 5000 t_undoRow, JA E 300 t_undoSum] h) 0 [some (.ref a_t), none] [] := by
  rw [m_X11_remembers_0] at hs
  refine g_aload_n e_X11_remembers_0 rfl ?_
  refine g_get 0 47 ao rfl rfl fsX11_g47 fl_X11_350 e_X11_remembers_1 ?_
  refine g_bipush e_X11_remembers_4 bp_50 ?_
  refine g_icmp_ne e_X11_remembers_6 ok_t_undos (by decide : inI 50) hs (fun c6 hs => ?_) (fun c6 hs => ?_)
  · refine g_iconst e_X11_remembers_9 ?_
    refine g_istore_n e_X11_remembers_10 st1_1 rfl ?_
    exact g_X11_remembers_11 ao ok_t_undos ok_t_cur ok_t_curSum ok_t_row ok_t_sums ok_t_undoSum (hk_39 := by
      intro t_undoRow' v1' ok_t_undoRow' ok_v1' hs
      exact g_X11_remembers_39 ao ok_t_undos ok_t_cur ok_t_curSum ok_t_row ok_t_sums ok_t_undoRow' ok_t_undoSum hs) FU _ _ ok_t_undoRow (by decide : inI 0) hs
  · exact g_X11_remembers_79 ao ok_t_undos ok_t_cur ok_t_curSum ok_t_row ok_t_sums ok_t_undoRow ok_t_undoSum hs

noncomputable def m_X11_remembers (t_undos : Int) (t_cur : Nat → Int) (t_curSum : Nat → Int) (t_row : Nat → Int) (t_sums : Nat → Int) (t_undoRow : Nat → Int) (t_undoSum : Nat → Int) : Option (Int × (Nat → Int) × (Nat → Int) × (Nat → Int) × (Nat → Int)) := m_X11_remembers_0 t_undos t_cur t_curSum t_row t_sums t_undoRow t_undoSum

set_option maxRecDepth 10000 in
set_option maxHeartbeats 8000000 in
theorem ct_X11_remembers {l : Launch} {E : EE} {b0 n : Nat} {h : AH} {a_t : Nat} {t_thrown t_taped t_p t_fault t_baseLow t_baseHigh t_newBaseLow t_newBaseHigh t_from t_knots t_lines t_chosen t_undos t_redos t_aimedMany t_fits t_fitOf t_sights t_systems t_own t_cross t_curveLong t_wallFirst : Int} {t_cur t_curSum t_row t_sums t_undoRow t_undoSum : Nat → Int} (ao : AO b0 n [a_t, (a_t + 24), (a_t + 28), (a_t + 29), (a_t + 31), (a_t + 32), (a_t + 34)]) (hf : FA h [a_t, (a_t + 24), (a_t + 28), (a_t + 29), (a_t + 31), (a_t + 32), (a_t + 34)] [.inr (11, fsX11 a_t t_thrown t_taped t_p t_fault t_baseLow t_baseHigh t_newBaseLow t_newBaseHigh t_from t_knots t_lines t_chosen t_undos t_redos t_aimedMany t_fits t_fitOf t_sights t_systems t_own t_cross t_curveLong t_wallFirst), IA E 100 t_cur, JA E 6 t_curSum, IA E 100 t_row, JA E 6 t_sums, IA E 5000 t_undoRow, JA E 300 t_undoSum]) (ok_t_undos : inI t_undos) (ok_t_cur : okA t_cur) (ok_t_curSum : okJ t_curSum) (ok_t_row : okA t_row) (ok_t_sums : okJ t_sums) (ok_t_undoRow : okA t_undoRow) (ok_t_undoSum : okJ t_undoSum) {r : Int × (Nat → Int) × (Nat → Int) × (Nat → Int) × (Nat → Int)} (hm : m_X11_remembers t_undos t_cur t_curSum t_row t_sums t_undoRow t_undoSum = some r) : Ct l E b0 M_X11_remembers 0 0 [.ref a_t] h n (none) (ov [a_t, (a_t + 24), (a_t + 28), (a_t + 29), (a_t + 31), (a_t + 32), (a_t + 34)] [.inr (11, fsX11 a_t t_thrown t_taped t_p t_fault t_baseLow t_baseHigh t_newBaseLow t_newBaseHigh t_from t_knots t_lines t_chosen r.1 t_redos t_aimedMany t_fits t_fitOf t_sights t_systems t_own t_cross t_curveLong t_wallFirst), IA E 100 r.2.1, JA E 6 r.2.2.1, IA E 100 t_row, JA E 6 t_sums, IA E 5000 r.2.2.2.1, JA E 300 r.2.2.2.2] h) n (inI r.1 ∧ okA r.2.1 ∧ okJ r.2.2.1 ∧ okA r.2.2.2.1 ∧ okJ r.2.2.2.2) := by
  rw [m_X11_remembers] at hm
  have hg : G l E b0 M_X11_remembers (fun _ => True) (ZM E b0 (none) (ov [a_t, (a_t + 24), (a_t + 28), (a_t + 29), (a_t + 31), (a_t + 32), (a_t + 34)] [.inr (11, fsX11 a_t t_thrown t_taped t_p t_fault t_baseLow t_baseHigh t_newBaseLow t_newBaseHigh t_from t_knots t_lines t_chosen r.1 t_redos t_aimedMany t_fits t_fitOf t_sights t_systems t_own t_cross t_curveLong t_wallFirst), IA E 100 r.2.1, JA E 6 r.2.2.1, IA E 100 t_row, JA E 6 t_sums, IA E 5000 r.2.2.2.1, JA E 300 r.2.2.2.2] h) n (inI r.1 ∧ okA r.2.1 ∧ okJ r.2.2.1 ∧ okA r.2.2.2.1 ∧ okJ r.2.2.2.2) 0 0) 0 0 n (ov [a_t, (a_t + 24), (a_t + 28), (a_t + 29), (a_t + 31), (a_t + 32), (a_t + 34)] [.inr (11, fsX11 a_t t_thrown t_taped t_p t_fault t_baseLow t_baseHigh t_newBaseLow t_newBaseHigh t_from t_knots t_lines t_chosen t_undos t_redos t_aimedMany t_fits t_fitOf t_sights t_systems t_own t_cross t_curveLong t_wallFirst), IA E 100 t_cur, JA E 6 t_curSum, IA E 100 t_row, JA E 6 t_sums, IA E 5000 t_undoRow, JA E 300 t_undoSum] h) 0 [some (.ref a_t), none] [] := by
    have hs := hm
    exact g_X11_remembers_0 ao ok_t_undos ok_t_cur ok_t_curSum ok_t_row ok_t_sums ok_t_undoRow ok_t_undoSum hs
  rw [FA_id hf] at hg
  exact Ct_of [some (.ref a_t), none] ⟨by decide +kernel, rfl⟩ rfl (Nat.le_of_ble_eq_true rfl) hg

/-! ===== X11_act ===== -/
theorem e_X11_act_0 : DC cX11_act 0 (.aload_n 0) 1 1 := ⟨by decide +kernel, rfl⟩
theorem e_X11_act_1 : DC cX11_act 1 (.invokevirtual 356) 3 4 := ⟨by decide +kernel, rfl⟩
theorem e_X11_act_4 : DC cX11_act 4 (.aload_n 0) 1 5 := ⟨by decide +kernel, rfl⟩
theorem e_X11_act_5 : DC cX11_act 5 (.iconst 0) 1 6 := ⟨by decide +kernel, rfl⟩
theorem e_X11_act_6 : DC cX11_act 6 (.putfield 359) 3 9 := ⟨by decide +kernel, rfl⟩
theorem e_X11_act_9 : DC cX11_act 9 (.return_) 1 10 := ⟨by decide +kernel, rfl⟩
noncomputable def m_X11_act_0 (t_undos : Int) (t_redos : Int) (t_cur : Nat → Int) (t_curSum : Nat → Int) (t_row : Nat → Int) (t_sums : Nat → Int) (t_undoRow : Nat → Int) (t_undoSum : Nat → Int) : Option (Int × Int × (Nat → Int) × (Nat → Int) × (Nat → Int) × (Nat → Int)) :=
  (m_X11_remembers t_undos t_cur t_curSum t_row t_sums t_undoRow t_undoSum).bind (fun y1 => some (y1.1, 0, y1.2.1, y1.2.2.1, y1.2.2.2.1, y1.2.2.2.2))

set_option maxRecDepth 10000 in
set_option maxHeartbeats 8000000 in
theorem g_X11_act_0 {l : Launch} {E : EE} {b0 n : Nat} {h : AH} {a_t : Nat} {t_thrown t_taped t_p t_fault t_baseLow t_baseHigh t_newBaseLow t_newBaseHigh t_from t_knots t_lines t_chosen t_undos t_redos t_aimedMany t_fits t_fitOf t_sights t_systems t_own t_cross t_curveLong t_wallFirst : Int} {t_cur t_curSum t_row t_sums t_undoRow t_undoSum : Nat → Int} {r : Int × Int × (Nat → Int) × (Nat → Int) × (Nat → Int) × (Nat → Int)} (ao : AO b0 n [a_t, (a_t + 24), (a_t + 28), (a_t + 29), (a_t + 31), (a_t + 32), (a_t + 34)]) (ok_t_undos : inI t_undos) (ok_t_redos : inI t_redos) (ok_t_cur : okA t_cur) (ok_t_curSum : okJ t_curSum) (ok_t_row : okA t_row) (ok_t_sums : okJ t_sums) (ok_t_undoRow : okA t_undoRow) (ok_t_undoSum : okJ t_undoSum) (hs : m_X11_act_0 t_undos t_redos t_cur t_curSum t_row t_sums t_undoRow t_undoSum = some r) : G l E b0 M_X11_act (fun _ => True) (ZM E b0 (none) (ov [a_t, (a_t + 24), (a_t + 28), (a_t + 29), (a_t + 31), (a_t + 32), (a_t + 34)] [.inr (11, fsX11 a_t t_thrown t_taped t_p t_fault t_baseLow t_baseHigh t_newBaseLow t_newBaseHigh t_from t_knots t_lines t_chosen r.1 r.2.1 t_aimedMany t_fits t_fitOf t_sights t_systems t_own t_cross t_curveLong t_wallFirst), IA E 100 r.2.2.1, JA E 6 r.2.2.2.1, IA E 100 t_row, JA E 6 t_sums, IA E 5000 r.2.2.2.2.1, JA E 300 r.2.2.2.2.2] h) n (inI r.1 ∧ inI r.2.1 ∧ okA r.2.2.1 ∧ okJ r.2.2.2.1 ∧ okA r.2.2.2.2.1 ∧ okJ r.2.2.2.2.2) 0 0) 0 0 n (ov [a_t, (a_t + 24), (a_t + 28), (a_t + 29), (a_t + 31), (a_t + 32), (a_t + 34)] [.inr (11, fsX11 a_t t_thrown t_taped t_p t_fault t_baseLow t_baseHigh t_newBaseLow t_newBaseHigh t_from t_knots t_lines t_chosen t_undos t_redos t_aimedMany t_fits t_fitOf t_sights t_systems t_own t_cross t_curveLong t_wallFirst), IA E 100 t_cur, JA E 6 t_curSum, IA E 100 t_row, JA E 6 t_sums, IA E 5000 t_undoRow, JA E 300 t_undoSum] h) 0 [some (.ref a_t)] [] := by
  rw [m_X11_act_0] at hs
  refine g_aload_n e_X11_act_0 rfl ?_
  obtain ⟨y1, hy1, hs⟩ := bind_elim hs
  refine g_callVv [] cv_X11_356 ⟨rfl, rfl, Nat.le_of_ble_eq_true rfl, Nat.le_of_ble_eq_true rfl⟩ (Ct_heap (ct_X11_remembers (a_t := a_t) (AO_call [0, 1, 2, 3, 4, 5, 6] ao (by decide) rfl) (FA_call [0, 1, 2, 3, 4, 5, 6] ao.1 rfl rfl) ok_t_undos ok_t_cur ok_t_curSum ok_t_row ok_t_sums ok_t_undoRow ok_t_undoSum hy1) (ov_call (esn := [.inr (11, fsX11 a_t t_thrown t_taped t_p t_fault t_baseLow t_baseHigh t_newBaseLow t_newBaseHigh t_from t_knots t_lines t_chosen y1.1 t_redos t_aimedMany t_fits t_fitOf t_sights t_systems t_own t_cross t_curveLong t_wallFirst), IA E 100 y1.2.1, JA E 6 y1.2.2.1, IA E 100 t_row, JA E 6 t_sums, IA E 5000 y1.2.2.2.1, JA E 300 y1.2.2.2.2]) [0, 1, 2, 3, 4, 5, 6] ao.1 rfl rfl rfl rfl)) e_X11_act_1 (ao.2 0 _ rfl) (ov_get 0 ao.1 rfl rfl) rfl rfl rfl (Nat.le_of_ble_eq_true rfl) ⟨Nat.le_refl _, Nat.le_refl _⟩ (fun Py1 => ?_)
  refine g_aload_n e_X11_act_4 rfl ?_
  refine g_iconst e_X11_act_5 ?_
  refine g_put 0 48 ao rfl rfl fsX11_k48 fsX11_s48 ls_0 fw_X11_359 (fun h => by cases h) ⟨rfl, rfl⟩ e_X11_act_6 ?_
  obtain rfl := Option.some.inj hs
  exact g_vret rfl ⟨Py1.1, (by decide : inI 0), Py1.2.1, Py1.2.2.1, Py1.2.2.2.1, Py1.2.2.2.2⟩ e_X11_act_9

noncomputable def m_X11_act (t_undos : Int) (t_redos : Int) (t_cur : Nat → Int) (t_curSum : Nat → Int) (t_row : Nat → Int) (t_sums : Nat → Int) (t_undoRow : Nat → Int) (t_undoSum : Nat → Int) : Option (Int × Int × (Nat → Int) × (Nat → Int) × (Nat → Int) × (Nat → Int)) := m_X11_act_0 t_undos t_redos t_cur t_curSum t_row t_sums t_undoRow t_undoSum

set_option maxRecDepth 10000 in
set_option maxHeartbeats 8000000 in
theorem ct_X11_act {l : Launch} {E : EE} {b0 n : Nat} {h : AH} {a_t : Nat} {t_thrown t_taped t_p t_fault t_baseLow t_baseHigh t_newBaseLow t_newBaseHigh t_from t_knots t_lines t_chosen t_undos t_redos t_aimedMany t_fits t_fitOf t_sights t_systems t_own t_cross t_curveLong t_wallFirst : Int} {t_cur t_curSum t_row t_sums t_undoRow t_undoSum : Nat → Int} (ao : AO b0 n [a_t, (a_t + 24), (a_t + 28), (a_t + 29), (a_t + 31), (a_t + 32), (a_t + 34)]) (hf : FA h [a_t, (a_t + 24), (a_t + 28), (a_t + 29), (a_t + 31), (a_t + 32), (a_t + 34)] [.inr (11, fsX11 a_t t_thrown t_taped t_p t_fault t_baseLow t_baseHigh t_newBaseLow t_newBaseHigh t_from t_knots t_lines t_chosen t_undos t_redos t_aimedMany t_fits t_fitOf t_sights t_systems t_own t_cross t_curveLong t_wallFirst), IA E 100 t_cur, JA E 6 t_curSum, IA E 100 t_row, JA E 6 t_sums, IA E 5000 t_undoRow, JA E 300 t_undoSum]) (ok_t_undos : inI t_undos) (ok_t_redos : inI t_redos) (ok_t_cur : okA t_cur) (ok_t_curSum : okJ t_curSum) (ok_t_row : okA t_row) (ok_t_sums : okJ t_sums) (ok_t_undoRow : okA t_undoRow) (ok_t_undoSum : okJ t_undoSum) {r : Int × Int × (Nat → Int) × (Nat → Int) × (Nat → Int) × (Nat → Int)} (hm : m_X11_act t_undos t_redos t_cur t_curSum t_row t_sums t_undoRow t_undoSum = some r) : Ct l E b0 M_X11_act 0 0 [.ref a_t] h n (none) (ov [a_t, (a_t + 24), (a_t + 28), (a_t + 29), (a_t + 31), (a_t + 32), (a_t + 34)] [.inr (11, fsX11 a_t t_thrown t_taped t_p t_fault t_baseLow t_baseHigh t_newBaseLow t_newBaseHigh t_from t_knots t_lines t_chosen r.1 r.2.1 t_aimedMany t_fits t_fitOf t_sights t_systems t_own t_cross t_curveLong t_wallFirst), IA E 100 r.2.2.1, JA E 6 r.2.2.2.1, IA E 100 t_row, JA E 6 t_sums, IA E 5000 r.2.2.2.2.1, JA E 300 r.2.2.2.2.2] h) n (inI r.1 ∧ inI r.2.1 ∧ okA r.2.2.1 ∧ okJ r.2.2.2.1 ∧ okA r.2.2.2.2.1 ∧ okJ r.2.2.2.2.2) := by
  rw [m_X11_act] at hm
  have hg : G l E b0 M_X11_act (fun _ => True) (ZM E b0 (none) (ov [a_t, (a_t + 24), (a_t + 28), (a_t + 29), (a_t + 31), (a_t + 32), (a_t + 34)] [.inr (11, fsX11 a_t t_thrown t_taped t_p t_fault t_baseLow t_baseHigh t_newBaseLow t_newBaseHigh t_from t_knots t_lines t_chosen r.1 r.2.1 t_aimedMany t_fits t_fitOf t_sights t_systems t_own t_cross t_curveLong t_wallFirst), IA E 100 r.2.2.1, JA E 6 r.2.2.2.1, IA E 100 t_row, JA E 6 t_sums, IA E 5000 r.2.2.2.2.1, JA E 300 r.2.2.2.2.2] h) n (inI r.1 ∧ inI r.2.1 ∧ okA r.2.2.1 ∧ okJ r.2.2.2.1 ∧ okA r.2.2.2.2.1 ∧ okJ r.2.2.2.2.2) 0 0) 0 0 n (ov [a_t, (a_t + 24), (a_t + 28), (a_t + 29), (a_t + 31), (a_t + 32), (a_t + 34)] [.inr (11, fsX11 a_t t_thrown t_taped t_p t_fault t_baseLow t_baseHigh t_newBaseLow t_newBaseHigh t_from t_knots t_lines t_chosen t_undos t_redos t_aimedMany t_fits t_fitOf t_sights t_systems t_own t_cross t_curveLong t_wallFirst), IA E 100 t_cur, JA E 6 t_curSum, IA E 100 t_row, JA E 6 t_sums, IA E 5000 t_undoRow, JA E 300 t_undoSum] h) 0 [some (.ref a_t)] [] := by
    have hs := hm
    exact g_X11_act_0 ao ok_t_undos ok_t_redos ok_t_cur ok_t_curSum ok_t_row ok_t_sums ok_t_undoRow ok_t_undoSum hs
  rw [FA_id hf] at hg
  exact Ct_of [some (.ref a_t)] ⟨by decide +kernel, rfl⟩ rfl (Nat.le_of_ble_eq_true rfl) hg

/-! ===== X11_undo ===== -/
theorem e_X11_undo_0 : DC cX11_undo 0 (.aload_n 0) 1 1 := ⟨by decide +kernel, rfl⟩
theorem e_X11_undo_1 : DC cX11_undo 1 (.getfield 350) 3 4 := ⟨by decide +kernel, rfl⟩
theorem e_X11_undo_4 : DB cX11_undo 4 (.ifCond .ne 5) (5) 3 7 9 := ⟨by decide +kernel, rfl, rfl⟩
theorem e_X11_undo_7 : DC cX11_undo 7 (.iconst 0) 1 8 := ⟨by decide +kernel, rfl⟩
theorem e_X11_undo_8 : DC cX11_undo 8 (.ireturn) 1 9 := ⟨by decide +kernel, rfl⟩
theorem e_X11_undo_9 : DC cX11_undo 9 (.aload_n 0) 1 10 := ⟨by decide +kernel, rfl⟩
theorem e_X11_undo_10 : DC cX11_undo 10 (.aload_n 0) 1 11 := ⟨by decide +kernel, rfl⟩
theorem e_X11_undo_11 : DC cX11_undo 11 (.getfield 97) 3 14 := ⟨by decide +kernel, rfl⟩
theorem e_X11_undo_14 : DC cX11_undo 14 (.iconst 0) 1 15 := ⟨by decide +kernel, rfl⟩
theorem e_X11_undo_15 : DC cX11_undo 15 (.aload_n 0) 1 16 := ⟨by decide +kernel, rfl⟩
theorem e_X11_undo_16 : DC cX11_undo 16 (.getfield 103) 3 19 := ⟨by decide +kernel, rfl⟩
theorem e_X11_undo_19 : DC cX11_undo 19 (.iconst 0) 1 20 := ⟨by decide +kernel, rfl⟩
theorem e_X11_undo_20 : DC cX11_undo 20 (.invokevirtual 346) 3 23 := ⟨by decide +kernel, rfl⟩
theorem e_X11_undo_23 : DC cX11_undo 23 (.aload_n 0) 1 24 := ⟨by decide +kernel, rfl⟩
theorem e_X11_undo_24 : DC cX11_undo 24 (.aload_n 0) 1 25 := ⟨by decide +kernel, rfl⟩
theorem e_X11_undo_25 : DC cX11_undo 25 (.getfield 109) 3 28 := ⟨by decide +kernel, rfl⟩
theorem e_X11_undo_28 : DC cX11_undo 28 (.bipush 100) 2 30 := ⟨by decide +kernel, rfl⟩
theorem e_X11_undo_30 : DC cX11_undo 30 (.aload_n 0) 1 31 := ⟨by decide +kernel, rfl⟩
theorem e_X11_undo_31 : DC cX11_undo 31 (.getfield 359) 3 34 := ⟨by decide +kernel, rfl⟩
theorem e_X11_undo_34 : DC cX11_undo 34 (.imul) 1 35 := ⟨by decide +kernel, rfl⟩
theorem e_X11_undo_35 : DC cX11_undo 35 (.aload_n 0) 1 36 := ⟨by decide +kernel, rfl⟩
theorem e_X11_undo_36 : DC cX11_undo 36 (.getfield 115) 3 39 := ⟨by decide +kernel, rfl⟩
theorem e_X11_undo_39 : DC cX11_undo 39 (.bipush 6) 2 41 := ⟨by decide +kernel, rfl⟩
theorem e_X11_undo_41 : DC cX11_undo 41 (.aload_n 0) 1 42 := ⟨by decide +kernel, rfl⟩
theorem e_X11_undo_42 : DC cX11_undo 42 (.getfield 359) 3 45 := ⟨by decide +kernel, rfl⟩
theorem e_X11_undo_45 : DC cX11_undo 45 (.imul) 1 46 := ⟨by decide +kernel, rfl⟩
theorem e_X11_undo_46 : DC cX11_undo 46 (.invokevirtual 353) 3 49 := ⟨by decide +kernel, rfl⟩
theorem e_X11_undo_49 : DC cX11_undo 49 (.aload_n 0) 1 50 := ⟨by decide +kernel, rfl⟩
theorem e_X11_undo_50 : DC cX11_undo 50 (.dup) 1 51 := ⟨by decide +kernel, rfl⟩
theorem e_X11_undo_51 : DC cX11_undo 51 (.getfield 359) 3 54 := ⟨by decide +kernel, rfl⟩
theorem e_X11_undo_54 : DC cX11_undo 54 (.iconst 1) 1 55 := ⟨by decide +kernel, rfl⟩
theorem e_X11_undo_55 : DC cX11_undo 55 (.iadd) 1 56 := ⟨by decide +kernel, rfl⟩
theorem e_X11_undo_56 : DC cX11_undo 56 (.putfield 359) 3 59 := ⟨by decide +kernel, rfl⟩
theorem e_X11_undo_59 : DC cX11_undo 59 (.aload_n 0) 1 60 := ⟨by decide +kernel, rfl⟩
theorem e_X11_undo_60 : DC cX11_undo 60 (.dup) 1 61 := ⟨by decide +kernel, rfl⟩
theorem e_X11_undo_61 : DC cX11_undo 61 (.getfield 350) 3 64 := ⟨by decide +kernel, rfl⟩
theorem e_X11_undo_64 : DC cX11_undo 64 (.iconst 1) 1 65 := ⟨by decide +kernel, rfl⟩
theorem e_X11_undo_65 : DC cX11_undo 65 (.isub) 1 66 := ⟨by decide +kernel, rfl⟩
theorem e_X11_undo_66 : DC cX11_undo 66 (.putfield 350) 3 69 := ⟨by decide +kernel, rfl⟩
theorem e_X11_undo_69 : DC cX11_undo 69 (.aload_n 0) 1 70 := ⟨by decide +kernel, rfl⟩
theorem e_X11_undo_70 : DC cX11_undo 70 (.aload_n 0) 1 71 := ⟨by decide +kernel, rfl⟩
theorem e_X11_undo_71 : DC cX11_undo 71 (.getfield 106) 3 74 := ⟨by decide +kernel, rfl⟩
theorem e_X11_undo_74 : DC cX11_undo 74 (.bipush 100) 2 76 := ⟨by decide +kernel, rfl⟩
theorem e_X11_undo_76 : DC cX11_undo 76 (.aload_n 0) 1 77 := ⟨by decide +kernel, rfl⟩
theorem e_X11_undo_77 : DC cX11_undo 77 (.getfield 350) 3 80 := ⟨by decide +kernel, rfl⟩
theorem e_X11_undo_80 : DC cX11_undo 80 (.imul) 1 81 := ⟨by decide +kernel, rfl⟩
theorem e_X11_undo_81 : DC cX11_undo 81 (.aload_n 0) 1 82 := ⟨by decide +kernel, rfl⟩
theorem e_X11_undo_82 : DC cX11_undo 82 (.getfield 112) 3 85 := ⟨by decide +kernel, rfl⟩
theorem e_X11_undo_85 : DC cX11_undo 85 (.bipush 6) 2 87 := ⟨by decide +kernel, rfl⟩
theorem e_X11_undo_87 : DC cX11_undo 87 (.aload_n 0) 1 88 := ⟨by decide +kernel, rfl⟩
theorem e_X11_undo_88 : DC cX11_undo 88 (.getfield 350) 3 91 := ⟨by decide +kernel, rfl⟩
theorem e_X11_undo_91 : DC cX11_undo 91 (.imul) 1 92 := ⟨by decide +kernel, rfl⟩
theorem e_X11_undo_92 : DC cX11_undo 92 (.invokevirtual 346) 3 95 := ⟨by decide +kernel, rfl⟩
theorem e_X11_undo_95 : DC cX11_undo 95 (.aload_n 0) 1 96 := ⟨by decide +kernel, rfl⟩
theorem e_X11_undo_96 : DC cX11_undo 96 (.aload_n 0) 1 97 := ⟨by decide +kernel, rfl⟩
theorem e_X11_undo_97 : DC cX11_undo 97 (.getfield 97) 3 100 := ⟨by decide +kernel, rfl⟩
theorem e_X11_undo_100 : DC cX11_undo 100 (.iconst 0) 1 101 := ⟨by decide +kernel, rfl⟩
theorem e_X11_undo_101 : DC cX11_undo 101 (.aload_n 0) 1 102 := ⟨by decide +kernel, rfl⟩
theorem e_X11_undo_102 : DC cX11_undo 102 (.getfield 103) 3 105 := ⟨by decide +kernel, rfl⟩
theorem e_X11_undo_105 : DC cX11_undo 105 (.iconst 0) 1 106 := ⟨by decide +kernel, rfl⟩
theorem e_X11_undo_106 : DC cX11_undo 106 (.invokevirtual 353) 3 109 := ⟨by decide +kernel, rfl⟩
theorem e_X11_undo_109 : DC cX11_undo 109 (.iconst 1) 1 110 := ⟨by decide +kernel, rfl⟩
theorem e_X11_undo_110 : DC cX11_undo 110 (.ireturn) 1 111 := ⟨by decide +kernel, rfl⟩
noncomputable def m_X11_undo_0 (t_undos : Int) (t_redos : Int) (t_cur : Nat → Int) (t_curSum : Nat → Int) (t_row : Nat → Int) (t_sums : Nat → Int) (t_undoRow : Nat → Int) (t_redoRow : Nat → Int) (t_undoSum : Nat → Int) (t_redoSum : Nat → Int) : Option (Int × Int × Int × (Nat → Int) × (Nat → Int) × (Nat → Int) × (Nat → Int) × (Nat → Int) × (Nat → Int)) :=
  if t_undos = 0 then (some (0, t_undos, t_redos, t_cur, t_curSum, t_row, t_sums, t_redoRow, t_redoSum)) else ((m_X11_takes 100 6 t_cur t_curSum t_row t_sums 0 0).bind (fun y1 => chk (inI (100 * t_redos)) (chk (inI (6 * t_redos)) ((m_X11_keeps 5000 300 y1.1 y1.2 t_redoRow t_redoSum (100 * t_redos) (6 * t_redos)).bind (fun y4 => chk (inI (t_redos + 1)) (chk (inI (t_undos - 1)) (chk (inI (100 * (t_undos - 1))) (chk (inI (6 * (t_undos - 1))) ((m_X11_takes 5000 300 y1.1 y1.2 t_undoRow t_undoSum (100 * (t_undos - 1)) (6 * (t_undos - 1))).bind (fun y9 => (m_X11_keeps 100 6 y9.1 y9.2 t_row t_sums 0 0).bind (fun y10 => some (1, t_undos - 1, t_redos + 1, y9.1, y9.2, y10.1, y10.2, y4.1, y4.2))))))))))))

set_option maxRecDepth 10000 in
set_option maxHeartbeats 8000000 in
theorem g_X11_undo_0 {l : Launch} {E : EE} {b0 n : Nat} {h : AH} {a_t : Nat} {t_thrown t_taped t_p t_fault t_baseLow t_baseHigh t_newBaseLow t_newBaseHigh t_from t_knots t_lines t_chosen t_undos t_redos t_aimedMany t_fits t_fitOf t_sights t_systems t_own t_cross t_curveLong t_wallFirst : Int} {t_cur t_curSum t_row t_sums t_undoRow t_redoRow t_undoSum t_redoSum : Nat → Int} {r : Int × Int × Int × (Nat → Int) × (Nat → Int) × (Nat → Int) × (Nat → Int) × (Nat → Int) × (Nat → Int)} (ao : AO b0 n [a_t, (a_t + 24), (a_t + 28), (a_t + 29), (a_t + 31), (a_t + 32), (a_t + 33), (a_t + 34), (a_t + 35)]) (ok_t_undos : inI t_undos) (ok_t_redos : inI t_redos) (ok_t_cur : okA t_cur) (ok_t_curSum : okJ t_curSum) (ok_t_row : okA t_row) (ok_t_sums : okJ t_sums) (ok_t_undoRow : okA t_undoRow) (ok_t_redoRow : okA t_redoRow) (ok_t_undoSum : okJ t_undoSum) (ok_t_redoSum : okJ t_redoSum) (hs : m_X11_undo_0 t_undos t_redos t_cur t_curSum t_row t_sums t_undoRow t_redoRow t_undoSum t_redoSum = some r) : G l E b0 M_X11_undo (fun _ => True) (ZM E b0 (some (vI r.1)) (ov [a_t, (a_t + 24), (a_t + 28), (a_t + 29), (a_t + 31), (a_t + 32), (a_t + 33), (a_t + 34), (a_t + 35)] [.inr (11, fsX11 a_t t_thrown t_taped t_p t_fault t_baseLow t_baseHigh t_newBaseLow t_newBaseHigh t_from t_knots t_lines t_chosen r.2.1 r.2.2.1 t_aimedMany t_fits t_fitOf t_sights t_systems t_own t_cross t_curveLong t_wallFirst), IA E 100 r.2.2.2.1, JA E 6 r.2.2.2.2.1, IA E 100 r.2.2.2.2.2.1, JA E 6 r.2.2.2.2.2.2.1, IA E 5000 t_undoRow, IA E 5000 r.2.2.2.2.2.2.2.1, JA E 300 t_undoSum, JA E 300 r.2.2.2.2.2.2.2.2] h) n (inZ r.1 ∧ inI r.2.1 ∧ inI r.2.2.1 ∧ okA r.2.2.2.1 ∧ okJ r.2.2.2.2.1 ∧ okA r.2.2.2.2.2.1 ∧ okJ r.2.2.2.2.2.2.1 ∧ okA r.2.2.2.2.2.2.2.1 ∧ okJ r.2.2.2.2.2.2.2.2) 0 0) 0 0 n (ov [a_t, (a_t + 24), (a_t + 28), (a_t + 29), (a_t + 31), (a_t + 32), (a_t + 33), (a_t + 34), (a_t + 35)] [.inr (11, fsX11 a_t t_thrown t_taped t_p t_fault t_baseLow t_baseHigh t_newBaseLow t_newBaseHigh t_from t_knots t_lines t_chosen t_undos t_redos t_aimedMany t_fits t_fitOf t_sights t_systems t_own t_cross t_curveLong t_wallFirst), IA E 100 t_cur, JA E 6 t_curSum, IA E 100 t_row, JA E 6 t_sums, IA E 5000 t_undoRow, IA E 5000 t_redoRow, JA E 300 t_undoSum, JA E 300 t_redoSum] h) 0 [some (.ref a_t)] [] := by
  rw [m_X11_undo_0] at hs
  refine g_aload_n e_X11_undo_0 rfl ?_
  refine g_get 0 47 ao rfl rfl fsX11_g47 fl_X11_350 e_X11_undo_1 ?_
  refine g_if_ne e_X11_undo_4 ok_t_undos hs (fun c4 hs => ?_) (fun c4 hs => ?_)
  · refine g_iconst e_X11_undo_7 ?_
    obtain rfl := Option.some.inj hs
    exact g_zret rfl (by decide : inZ 0) ⟨(by decide : inZ 0), ok_t_undos, ok_t_redos, ok_t_cur, ok_t_curSum, ok_t_row, ok_t_sums, ok_t_redoRow, ok_t_redoSum⟩ e_X11_undo_8
  · refine g_aload_n e_X11_undo_9 rfl ?_
    refine g_aload_n e_X11_undo_10 rfl ?_
    refine g_get 0 40 ao rfl rfl fsX11_g40 fl_X11_97 e_X11_undo_11 ?_
    refine g_iconst e_X11_undo_14 ?_
    refine g_aload_n e_X11_undo_15 rfl ?_
    refine g_get 0 42 ao rfl rfl fsX11_g42 fl_X11_103 e_X11_undo_16 ?_
    refine g_iconst e_X11_undo_19 ?_
    obtain ⟨y1, hy1, hs⟩ := bind_elim hs
    refine g_callVv [.ref (a_t + 29), vI 0, .ref (a_t + 31), vI 0] cv_X11_346 ⟨rfl, rfl, Nat.le_of_ble_eq_true rfl, Nat.le_of_ble_eq_true rfl⟩ (Ct_heap (ct_X11_takes (a_t := a_t) (a_p1 := (a_t + 29)) (a_p3 := (a_t + 31)) (AO_call [0, 1, 2, 3, 4] ao (by decide) rfl) (by omega) (by omega) (FA_call [0, 1, 2, 3, 4] ao.1 rfl rfl) ok_t_cur ok_t_curSum ok_t_row ok_t_sums (by decide : inI 0) (by decide : inI 0) hy1) (ov_call (esn := [.inr (11, fsX11 a_t t_thrown t_taped t_p t_fault t_baseLow t_baseHigh t_newBaseLow t_newBaseHigh t_from t_knots t_lines t_chosen t_undos t_redos t_aimedMany t_fits t_fitOf t_sights t_systems t_own t_cross t_curveLong t_wallFirst), IA E 100 y1.1, JA E 6 y1.2, IA E 100 t_row, JA E 6 t_sums, IA E 5000 t_undoRow, IA E 5000 t_redoRow, JA E 300 t_undoSum, JA E 300 t_redoSum]) [0, 1, 2, 3, 4] ao.1 rfl rfl rfl rfl)) e_X11_undo_20 (ao.2 0 _ rfl) (ov_get 0 ao.1 rfl rfl) rfl rfl rfl (Nat.le_of_ble_eq_true rfl) ⟨Nat.le_refl _, Nat.le_refl _⟩ (fun Py1 => ?_)
    refine g_aload_n e_X11_undo_23 rfl ?_
    refine g_aload_n e_X11_undo_24 rfl ?_
    refine g_get 0 44 ao rfl rfl fsX11_g44 fl_X11_109 e_X11_undo_25 ?_
    refine g_bipush e_X11_undo_28 bp_100 ?_
    refine g_aload_n e_X11_undo_30 rfl ?_
    refine g_get 0 48 ao rfl rfl fsX11_g48 fl_X11_359 e_X11_undo_31 ?_
    refine g_imul e_X11_undo_34 ?_
    refine g_aload_n e_X11_undo_35 rfl ?_
    refine g_get 0 46 ao rfl rfl fsX11_g46 fl_X11_115 e_X11_undo_36 ?_
    refine g_bipush e_X11_undo_39 bp_6 ?_
    refine g_aload_n e_X11_undo_41 rfl ?_
    refine g_get 0 48 ao rfl rfl fsX11_g48 fl_X11_359 e_X11_undo_42 ?_
    refine g_imul e_X11_undo_45 ?_
    obtain ⟨hc2, hs⟩ := chk_elim hs
    obtain ⟨hc3, hs⟩ := chk_elim hs
    obtain ⟨y4, hy4, hs⟩ := bind_elim hs
    refine g_callVv [.ref (a_t + 33), vI (100 * t_redos), .ref (a_t + 35), vI (6 * t_redos)] cv_X11_353 ⟨rfl, rfl, Nat.le_of_ble_eq_true rfl, Nat.le_of_ble_eq_true rfl⟩ (Ct_heap (ct_X11_keeps (a_t := a_t) (a_p1 := (a_t + 33)) (a_p3 := (a_t + 35)) (AO_call [0, 1, 2, 6, 8] ao (by decide) rfl) (by omega) (by omega) (FA_call [0, 1, 2, 6, 8] ao.1 rfl rfl) Py1.1 Py1.2 ok_t_redoRow ok_t_redoSum hc2 hc3 hy4) (ov_call (esn := [.inr (11, fsX11 a_t t_thrown t_taped t_p t_fault t_baseLow t_baseHigh t_newBaseLow t_newBaseHigh t_from t_knots t_lines t_chosen t_undos t_redos t_aimedMany t_fits t_fitOf t_sights t_systems t_own t_cross t_curveLong t_wallFirst), IA E 100 y1.1, JA E 6 y1.2, IA E 100 t_row, JA E 6 t_sums, IA E 5000 t_undoRow, IA E 5000 y4.1, JA E 300 t_undoSum, JA E 300 y4.2]) [0, 1, 2, 6, 8] ao.1 rfl rfl rfl rfl)) e_X11_undo_46 (ao.2 0 _ rfl) (ov_get 0 ao.1 rfl rfl) rfl rfl rfl (Nat.le_of_ble_eq_true rfl) ⟨Nat.le_refl _, Nat.le_refl _⟩ (fun Py4 => ?_)
    refine g_aload_n e_X11_undo_49 rfl ?_
    refine g_dup e_X11_undo_50 rfl ?_
    refine g_get 0 48 ao rfl rfl fsX11_g48 fl_X11_359 e_X11_undo_51 ?_
    refine g_iconst e_X11_undo_54 ?_
    refine g_iadd e_X11_undo_55 ?_
    obtain ⟨hc5, hs⟩ := chk_elim hs
    refine g_put 0 48 ao rfl rfl fsX11_k48 fsX11_s48 ls_0 fw_X11_359 (fun h => by cases h) ⟨rfl, rfl⟩ e_X11_undo_56 ?_
    refine g_aload_n e_X11_undo_59 rfl ?_
    refine g_dup e_X11_undo_60 rfl ?_
    refine g_get 0 47 ao rfl rfl fsX11_g47 fl_X11_350 e_X11_undo_61 ?_
    refine g_iconst e_X11_undo_64 ?_
    refine g_isub e_X11_undo_65 ?_
    obtain ⟨hc6, hs⟩ := chk_elim hs
    refine g_put 0 47 ao rfl rfl fsX11_k47 fsX11_s47 ls_0 fw_X11_350 (fun h => by cases h) ⟨rfl, rfl⟩ e_X11_undo_66 ?_
    refine g_aload_n e_X11_undo_69 rfl ?_
    refine g_aload_n e_X11_undo_70 rfl ?_
    refine g_get 0 43 ao rfl rfl fsX11_g43 fl_X11_106 e_X11_undo_71 ?_
    refine g_bipush e_X11_undo_74 bp_100 ?_
    refine g_aload_n e_X11_undo_76 rfl ?_
    refine g_get 0 47 ao rfl rfl fsX11_g47 fl_X11_350 e_X11_undo_77 ?_
    refine g_imul e_X11_undo_80 ?_
    refine g_aload_n e_X11_undo_81 rfl ?_
    refine g_get 0 45 ao rfl rfl fsX11_g45 fl_X11_112 e_X11_undo_82 ?_
    refine g_bipush e_X11_undo_85 bp_6 ?_
    refine g_aload_n e_X11_undo_87 rfl ?_
    refine g_get 0 47 ao rfl rfl fsX11_g47 fl_X11_350 e_X11_undo_88 ?_
    refine g_imul e_X11_undo_91 ?_
    obtain ⟨hc7, hs⟩ := chk_elim hs
    obtain ⟨hc8, hs⟩ := chk_elim hs
    obtain ⟨y9, hy9, hs⟩ := bind_elim hs
    refine g_callVv [.ref (a_t + 32), vI (100 * (t_undos - 1)), .ref (a_t + 34), vI (6 * (t_undos - 1))] cv_X11_346 ⟨rfl, rfl, Nat.le_of_ble_eq_true rfl, Nat.le_of_ble_eq_true rfl⟩ (Ct_heap (ct_X11_takes (a_t := a_t) (a_p1 := (a_t + 32)) (a_p3 := (a_t + 34)) (AO_call [0, 1, 2, 5, 7] ao (by decide) rfl) (by omega) (by omega) (FA_call [0, 1, 2, 5, 7] ao.1 rfl rfl) Py1.1 Py1.2 ok_t_undoRow ok_t_undoSum hc7 hc8 hy9) (ov_call (esn := [.inr (11, fsX11 a_t t_thrown t_taped t_p t_fault t_baseLow t_baseHigh t_newBaseLow t_newBaseHigh t_from t_knots t_lines t_chosen (t_undos - 1) (t_redos + 1) t_aimedMany t_fits t_fitOf t_sights t_systems t_own t_cross t_curveLong t_wallFirst), IA E 100 y9.1, JA E 6 y9.2, IA E 100 t_row, JA E 6 t_sums, IA E 5000 t_undoRow, IA E 5000 y4.1, JA E 300 t_undoSum, JA E 300 y4.2]) [0, 1, 2, 5, 7] ao.1 rfl rfl rfl rfl)) e_X11_undo_92 (ao.2 0 _ rfl) (ov_get 0 ao.1 rfl rfl) rfl rfl rfl (Nat.le_of_ble_eq_true rfl) ⟨Nat.le_refl _, Nat.le_refl _⟩ (fun Py9 => ?_)
    refine g_aload_n e_X11_undo_95 rfl ?_
    refine g_aload_n e_X11_undo_96 rfl ?_
    refine g_get 0 40 ao rfl rfl fsX11_g40 fl_X11_97 e_X11_undo_97 ?_
    refine g_iconst e_X11_undo_100 ?_
    refine g_aload_n e_X11_undo_101 rfl ?_
    refine g_get 0 42 ao rfl rfl fsX11_g42 fl_X11_103 e_X11_undo_102 ?_
    refine g_iconst e_X11_undo_105 ?_
    obtain ⟨y10, hy10, hs⟩ := bind_elim hs
    refine g_callVv [.ref (a_t + 29), vI 0, .ref (a_t + 31), vI 0] cv_X11_353 ⟨rfl, rfl, Nat.le_of_ble_eq_true rfl, Nat.le_of_ble_eq_true rfl⟩ (Ct_heap (ct_X11_keeps (a_t := a_t) (a_p1 := (a_t + 29)) (a_p3 := (a_t + 31)) (AO_call [0, 1, 2, 3, 4] ao (by decide) rfl) (by omega) (by omega) (FA_call [0, 1, 2, 3, 4] ao.1 rfl rfl) Py9.1 Py9.2 ok_t_row ok_t_sums (by decide : inI 0) (by decide : inI 0) hy10) (ov_call (esn := [.inr (11, fsX11 a_t t_thrown t_taped t_p t_fault t_baseLow t_baseHigh t_newBaseLow t_newBaseHigh t_from t_knots t_lines t_chosen (t_undos - 1) (t_redos + 1) t_aimedMany t_fits t_fitOf t_sights t_systems t_own t_cross t_curveLong t_wallFirst), IA E 100 y9.1, JA E 6 y9.2, IA E 100 y10.1, JA E 6 y10.2, IA E 5000 t_undoRow, IA E 5000 y4.1, JA E 300 t_undoSum, JA E 300 y4.2]) [0, 1, 2, 3, 4] ao.1 rfl rfl rfl rfl)) e_X11_undo_106 (ao.2 0 _ rfl) (ov_get 0 ao.1 rfl rfl) rfl rfl rfl (Nat.le_of_ble_eq_true rfl) ⟨Nat.le_refl _, Nat.le_refl _⟩ (fun Py10 => ?_)
    refine g_iconst e_X11_undo_109 ?_
    obtain rfl := Option.some.inj hs
    exact g_zret rfl (by decide : inZ 1) ⟨(by decide : inZ 1), hc6, hc5, Py9.1, Py9.2, Py10.1, Py10.2, Py4.1, Py4.2⟩ e_X11_undo_110

noncomputable def m_X11_undo (t_undos : Int) (t_redos : Int) (t_cur : Nat → Int) (t_curSum : Nat → Int) (t_row : Nat → Int) (t_sums : Nat → Int) (t_undoRow : Nat → Int) (t_redoRow : Nat → Int) (t_undoSum : Nat → Int) (t_redoSum : Nat → Int) : Option (Int × Int × Int × (Nat → Int) × (Nat → Int) × (Nat → Int) × (Nat → Int) × (Nat → Int) × (Nat → Int)) := m_X11_undo_0 t_undos t_redos t_cur t_curSum t_row t_sums t_undoRow t_redoRow t_undoSum t_redoSum

set_option maxRecDepth 10000 in
set_option maxHeartbeats 8000000 in
theorem ct_X11_undo {l : Launch} {E : EE} {b0 n : Nat} {h : AH} {a_t : Nat} {t_thrown t_taped t_p t_fault t_baseLow t_baseHigh t_newBaseLow t_newBaseHigh t_from t_knots t_lines t_chosen t_undos t_redos t_aimedMany t_fits t_fitOf t_sights t_systems t_own t_cross t_curveLong t_wallFirst : Int} {t_cur t_curSum t_row t_sums t_undoRow t_redoRow t_undoSum t_redoSum : Nat → Int} (ao : AO b0 n [a_t, (a_t + 24), (a_t + 28), (a_t + 29), (a_t + 31), (a_t + 32), (a_t + 33), (a_t + 34), (a_t + 35)]) (hf : FA h [a_t, (a_t + 24), (a_t + 28), (a_t + 29), (a_t + 31), (a_t + 32), (a_t + 33), (a_t + 34), (a_t + 35)] [.inr (11, fsX11 a_t t_thrown t_taped t_p t_fault t_baseLow t_baseHigh t_newBaseLow t_newBaseHigh t_from t_knots t_lines t_chosen t_undos t_redos t_aimedMany t_fits t_fitOf t_sights t_systems t_own t_cross t_curveLong t_wallFirst), IA E 100 t_cur, JA E 6 t_curSum, IA E 100 t_row, JA E 6 t_sums, IA E 5000 t_undoRow, IA E 5000 t_redoRow, JA E 300 t_undoSum, JA E 300 t_redoSum]) (ok_t_undos : inI t_undos) (ok_t_redos : inI t_redos) (ok_t_cur : okA t_cur) (ok_t_curSum : okJ t_curSum) (ok_t_row : okA t_row) (ok_t_sums : okJ t_sums) (ok_t_undoRow : okA t_undoRow) (ok_t_redoRow : okA t_redoRow) (ok_t_undoSum : okJ t_undoSum) (ok_t_redoSum : okJ t_redoSum) {r : Int × Int × Int × (Nat → Int) × (Nat → Int) × (Nat → Int) × (Nat → Int) × (Nat → Int) × (Nat → Int)} (hm : m_X11_undo t_undos t_redos t_cur t_curSum t_row t_sums t_undoRow t_redoRow t_undoSum t_redoSum = some r) : Ct l E b0 M_X11_undo 0 0 [.ref a_t] h n (some (vI r.1)) (ov [a_t, (a_t + 24), (a_t + 28), (a_t + 29), (a_t + 31), (a_t + 32), (a_t + 33), (a_t + 34), (a_t + 35)] [.inr (11, fsX11 a_t t_thrown t_taped t_p t_fault t_baseLow t_baseHigh t_newBaseLow t_newBaseHigh t_from t_knots t_lines t_chosen r.2.1 r.2.2.1 t_aimedMany t_fits t_fitOf t_sights t_systems t_own t_cross t_curveLong t_wallFirst), IA E 100 r.2.2.2.1, JA E 6 r.2.2.2.2.1, IA E 100 r.2.2.2.2.2.1, JA E 6 r.2.2.2.2.2.2.1, IA E 5000 t_undoRow, IA E 5000 r.2.2.2.2.2.2.2.1, JA E 300 t_undoSum, JA E 300 r.2.2.2.2.2.2.2.2] h) n (inZ r.1 ∧ inI r.2.1 ∧ inI r.2.2.1 ∧ okA r.2.2.2.1 ∧ okJ r.2.2.2.2.1 ∧ okA r.2.2.2.2.2.1 ∧ okJ r.2.2.2.2.2.2.1 ∧ okA r.2.2.2.2.2.2.2.1 ∧ okJ r.2.2.2.2.2.2.2.2) := by
  rw [m_X11_undo] at hm
  have hg : G l E b0 M_X11_undo (fun _ => True) (ZM E b0 (some (vI r.1)) (ov [a_t, (a_t + 24), (a_t + 28), (a_t + 29), (a_t + 31), (a_t + 32), (a_t + 33), (a_t + 34), (a_t + 35)] [.inr (11, fsX11 a_t t_thrown t_taped t_p t_fault t_baseLow t_baseHigh t_newBaseLow t_newBaseHigh t_from t_knots t_lines t_chosen r.2.1 r.2.2.1 t_aimedMany t_fits t_fitOf t_sights t_systems t_own t_cross t_curveLong t_wallFirst), IA E 100 r.2.2.2.1, JA E 6 r.2.2.2.2.1, IA E 100 r.2.2.2.2.2.1, JA E 6 r.2.2.2.2.2.2.1, IA E 5000 t_undoRow, IA E 5000 r.2.2.2.2.2.2.2.1, JA E 300 t_undoSum, JA E 300 r.2.2.2.2.2.2.2.2] h) n (inZ r.1 ∧ inI r.2.1 ∧ inI r.2.2.1 ∧ okA r.2.2.2.1 ∧ okJ r.2.2.2.2.1 ∧ okA r.2.2.2.2.2.1 ∧ okJ r.2.2.2.2.2.2.1 ∧ okA r.2.2.2.2.2.2.2.1 ∧ okJ r.2.2.2.2.2.2.2.2) 0 0) 0 0 n (ov [a_t, (a_t + 24), (a_t + 28), (a_t + 29), (a_t + 31), (a_t + 32), (a_t + 33), (a_t + 34), (a_t + 35)] [.inr (11, fsX11 a_t t_thrown t_taped t_p t_fault t_baseLow t_baseHigh t_newBaseLow t_newBaseHigh t_from t_knots t_lines t_chosen t_undos t_redos t_aimedMany t_fits t_fitOf t_sights t_systems t_own t_cross t_curveLong t_wallFirst), IA E 100 t_cur, JA E 6 t_curSum, IA E 100 t_row, JA E 6 t_sums, IA E 5000 t_undoRow, IA E 5000 t_redoRow, JA E 300 t_undoSum, JA E 300 t_redoSum] h) 0 [some (.ref a_t)] [] := by
    have hs := hm
    exact g_X11_undo_0 ao ok_t_undos ok_t_redos ok_t_cur ok_t_curSum ok_t_row ok_t_sums ok_t_undoRow ok_t_redoRow ok_t_undoSum ok_t_redoSum hs
  rw [FA_id hf] at hg
  exact Ct_of [some (.ref a_t)] ⟨by decide +kernel, rfl⟩ rfl (Nat.le_of_ble_eq_true rfl) hg

/-! ===== X11_redo ===== -/
theorem e_X11_redo_0 : DC cX11_redo 0 (.aload_n 0) 1 1 := ⟨by decide +kernel, rfl⟩
theorem e_X11_redo_1 : DC cX11_redo 1 (.getfield 359) 3 4 := ⟨by decide +kernel, rfl⟩
theorem e_X11_redo_4 : DB cX11_redo 4 (.ifCond .ne 5) (5) 3 7 9 := ⟨by decide +kernel, rfl, rfl⟩
theorem e_X11_redo_7 : DC cX11_redo 7 (.iconst 0) 1 8 := ⟨by decide +kernel, rfl⟩
theorem e_X11_redo_8 : DC cX11_redo 8 (.ireturn) 1 9 := ⟨by decide +kernel, rfl⟩
theorem e_X11_redo_9 : DC cX11_redo 9 (.aload_n 0) 1 10 := ⟨by decide +kernel, rfl⟩
theorem e_X11_redo_10 : DC cX11_redo 10 (.invokevirtual 356) 3 13 := ⟨by decide +kernel, rfl⟩
theorem e_X11_redo_13 : DC cX11_redo 13 (.aload_n 0) 1 14 := ⟨by decide +kernel, rfl⟩
theorem e_X11_redo_14 : DC cX11_redo 14 (.dup) 1 15 := ⟨by decide +kernel, rfl⟩
theorem e_X11_redo_15 : DC cX11_redo 15 (.getfield 359) 3 18 := ⟨by decide +kernel, rfl⟩
theorem e_X11_redo_18 : DC cX11_redo 18 (.iconst 1) 1 19 := ⟨by decide +kernel, rfl⟩
theorem e_X11_redo_19 : DC cX11_redo 19 (.isub) 1 20 := ⟨by decide +kernel, rfl⟩
theorem e_X11_redo_20 : DC cX11_redo 20 (.putfield 359) 3 23 := ⟨by decide +kernel, rfl⟩
theorem e_X11_redo_23 : DC cX11_redo 23 (.aload_n 0) 1 24 := ⟨by decide +kernel, rfl⟩
theorem e_X11_redo_24 : DC cX11_redo 24 (.aload_n 0) 1 25 := ⟨by decide +kernel, rfl⟩
theorem e_X11_redo_25 : DC cX11_redo 25 (.getfield 109) 3 28 := ⟨by decide +kernel, rfl⟩
theorem e_X11_redo_28 : DC cX11_redo 28 (.bipush 100) 2 30 := ⟨by decide +kernel, rfl⟩
theorem e_X11_redo_30 : DC cX11_redo 30 (.aload_n 0) 1 31 := ⟨by decide +kernel, rfl⟩
theorem e_X11_redo_31 : DC cX11_redo 31 (.getfield 359) 3 34 := ⟨by decide +kernel, rfl⟩
theorem e_X11_redo_34 : DC cX11_redo 34 (.imul) 1 35 := ⟨by decide +kernel, rfl⟩
theorem e_X11_redo_35 : DC cX11_redo 35 (.aload_n 0) 1 36 := ⟨by decide +kernel, rfl⟩
theorem e_X11_redo_36 : DC cX11_redo 36 (.getfield 115) 3 39 := ⟨by decide +kernel, rfl⟩
theorem e_X11_redo_39 : DC cX11_redo 39 (.bipush 6) 2 41 := ⟨by decide +kernel, rfl⟩
theorem e_X11_redo_41 : DC cX11_redo 41 (.aload_n 0) 1 42 := ⟨by decide +kernel, rfl⟩
theorem e_X11_redo_42 : DC cX11_redo 42 (.getfield 359) 3 45 := ⟨by decide +kernel, rfl⟩
theorem e_X11_redo_45 : DC cX11_redo 45 (.imul) 1 46 := ⟨by decide +kernel, rfl⟩
theorem e_X11_redo_46 : DC cX11_redo 46 (.invokevirtual 346) 3 49 := ⟨by decide +kernel, rfl⟩
theorem e_X11_redo_49 : DC cX11_redo 49 (.aload_n 0) 1 50 := ⟨by decide +kernel, rfl⟩
theorem e_X11_redo_50 : DC cX11_redo 50 (.aload_n 0) 1 51 := ⟨by decide +kernel, rfl⟩
theorem e_X11_redo_51 : DC cX11_redo 51 (.getfield 97) 3 54 := ⟨by decide +kernel, rfl⟩
theorem e_X11_redo_54 : DC cX11_redo 54 (.iconst 0) 1 55 := ⟨by decide +kernel, rfl⟩
theorem e_X11_redo_55 : DC cX11_redo 55 (.aload_n 0) 1 56 := ⟨by decide +kernel, rfl⟩
theorem e_X11_redo_56 : DC cX11_redo 56 (.getfield 103) 3 59 := ⟨by decide +kernel, rfl⟩
theorem e_X11_redo_59 : DC cX11_redo 59 (.iconst 0) 1 60 := ⟨by decide +kernel, rfl⟩
theorem e_X11_redo_60 : DC cX11_redo 60 (.invokevirtual 353) 3 63 := ⟨by decide +kernel, rfl⟩
theorem e_X11_redo_63 : DC cX11_redo 63 (.iconst 1) 1 64 := ⟨by decide +kernel, rfl⟩
theorem e_X11_redo_64 : DC cX11_redo 64 (.ireturn) 1 65 := ⟨by decide +kernel, rfl⟩
noncomputable def m_X11_redo_0 (t_undos : Int) (t_redos : Int) (t_cur : Nat → Int) (t_curSum : Nat → Int) (t_row : Nat → Int) (t_sums : Nat → Int) (t_undoRow : Nat → Int) (t_redoRow : Nat → Int) (t_undoSum : Nat → Int) (t_redoSum : Nat → Int) : Option (Int × Int × Int × (Nat → Int) × (Nat → Int) × (Nat → Int) × (Nat → Int) × (Nat → Int) × (Nat → Int)) :=
  if t_redos = 0 then (some (0, t_undos, t_redos, t_cur, t_curSum, t_row, t_sums, t_undoRow, t_undoSum)) else ((m_X11_remembers t_undos t_cur t_curSum t_row t_sums t_undoRow t_undoSum).bind (fun y1 => chk (inI (t_redos - 1)) (chk (inI (100 * (t_redos - 1))) (chk (inI (6 * (t_redos - 1))) ((m_X11_takes 5000 300 y1.2.1 y1.2.2.1 t_redoRow t_redoSum (100 * (t_redos - 1)) (6 * (t_redos - 1))).bind (fun y5 => (m_X11_keeps 100 6 y5.1 y5.2 t_row t_sums 0 0).bind (fun y6 => some (1, y1.1, t_redos - 1, y5.1, y5.2, y6.1, y6.2, y1.2.2.2.1, y1.2.2.2.2))))))))

set_option maxRecDepth 10000 in
set_option maxHeartbeats 8000000 in
theorem g_X11_redo_0 {l : Launch} {E : EE} {b0 n : Nat} {h : AH} {a_t : Nat} {t_thrown t_taped t_p t_fault t_baseLow t_baseHigh t_newBaseLow t_newBaseHigh t_from t_knots t_lines t_chosen t_undos t_redos t_aimedMany t_fits t_fitOf t_sights t_systems t_own t_cross t_curveLong t_wallFirst : Int} {t_cur t_curSum t_row t_sums t_undoRow t_redoRow t_undoSum t_redoSum : Nat → Int} {r : Int × Int × Int × (Nat → Int) × (Nat → Int) × (Nat → Int) × (Nat → Int) × (Nat → Int) × (Nat → Int)} (ao : AO b0 n [a_t, (a_t + 24), (a_t + 28), (a_t + 29), (a_t + 31), (a_t + 32), (a_t + 33), (a_t + 34), (a_t + 35)]) (ok_t_undos : inI t_undos) (ok_t_redos : inI t_redos) (ok_t_cur : okA t_cur) (ok_t_curSum : okJ t_curSum) (ok_t_row : okA t_row) (ok_t_sums : okJ t_sums) (ok_t_undoRow : okA t_undoRow) (ok_t_redoRow : okA t_redoRow) (ok_t_undoSum : okJ t_undoSum) (ok_t_redoSum : okJ t_redoSum) (hs : m_X11_redo_0 t_undos t_redos t_cur t_curSum t_row t_sums t_undoRow t_redoRow t_undoSum t_redoSum = some r) : G l E b0 M_X11_redo (fun _ => True) (ZM E b0 (some (vI r.1)) (ov [a_t, (a_t + 24), (a_t + 28), (a_t + 29), (a_t + 31), (a_t + 32), (a_t + 33), (a_t + 34), (a_t + 35)] [.inr (11, fsX11 a_t t_thrown t_taped t_p t_fault t_baseLow t_baseHigh t_newBaseLow t_newBaseHigh t_from t_knots t_lines t_chosen r.2.1 r.2.2.1 t_aimedMany t_fits t_fitOf t_sights t_systems t_own t_cross t_curveLong t_wallFirst), IA E 100 r.2.2.2.1, JA E 6 r.2.2.2.2.1, IA E 100 r.2.2.2.2.2.1, JA E 6 r.2.2.2.2.2.2.1, IA E 5000 r.2.2.2.2.2.2.2.1, IA E 5000 t_redoRow, JA E 300 r.2.2.2.2.2.2.2.2, JA E 300 t_redoSum] h) n (inZ r.1 ∧ inI r.2.1 ∧ inI r.2.2.1 ∧ okA r.2.2.2.1 ∧ okJ r.2.2.2.2.1 ∧ okA r.2.2.2.2.2.1 ∧ okJ r.2.2.2.2.2.2.1 ∧ okA r.2.2.2.2.2.2.2.1 ∧ okJ r.2.2.2.2.2.2.2.2) 0 0) 0 0 n (ov [a_t, (a_t + 24), (a_t + 28), (a_t + 29), (a_t + 31), (a_t + 32), (a_t + 33), (a_t + 34), (a_t + 35)] [.inr (11, fsX11 a_t t_thrown t_taped t_p t_fault t_baseLow t_baseHigh t_newBaseLow t_newBaseHigh t_from t_knots t_lines t_chosen t_undos t_redos t_aimedMany t_fits t_fitOf t_sights t_systems t_own t_cross t_curveLong t_wallFirst), IA E 100 t_cur, JA E 6 t_curSum, IA E 100 t_row, JA E 6 t_sums, IA E 5000 t_undoRow, IA E 5000 t_redoRow, JA E 300 t_undoSum, JA E 300 t_redoSum] h) 0 [some (.ref a_t)] [] := by
  rw [m_X11_redo_0] at hs
  refine g_aload_n e_X11_redo_0 rfl ?_
  refine g_get 0 48 ao rfl rfl fsX11_g48 fl_X11_359 e_X11_redo_1 ?_
  refine g_if_ne e_X11_redo_4 ok_t_redos hs (fun c4 hs => ?_) (fun c4 hs => ?_)
  · refine g_iconst e_X11_redo_7 ?_
    obtain rfl := Option.some.inj hs
    exact g_zret rfl (by decide : inZ 0) ⟨(by decide : inZ 0), ok_t_undos, ok_t_redos, ok_t_cur, ok_t_curSum, ok_t_row, ok_t_sums, ok_t_undoRow, ok_t_undoSum⟩ e_X11_redo_8
  · refine g_aload_n e_X11_redo_9 rfl ?_
    obtain ⟨y1, hy1, hs⟩ := bind_elim hs
    refine g_callVv [] cv_X11_356 ⟨rfl, rfl, Nat.le_of_ble_eq_true rfl, Nat.le_of_ble_eq_true rfl⟩ (Ct_heap (ct_X11_remembers (a_t := a_t) (AO_call [0, 1, 2, 3, 4, 5, 7] ao (by decide) rfl) (FA_call [0, 1, 2, 3, 4, 5, 7] ao.1 rfl rfl) ok_t_undos ok_t_cur ok_t_curSum ok_t_row ok_t_sums ok_t_undoRow ok_t_undoSum hy1) (ov_call (esn := [.inr (11, fsX11 a_t t_thrown t_taped t_p t_fault t_baseLow t_baseHigh t_newBaseLow t_newBaseHigh t_from t_knots t_lines t_chosen y1.1 t_redos t_aimedMany t_fits t_fitOf t_sights t_systems t_own t_cross t_curveLong t_wallFirst), IA E 100 y1.2.1, JA E 6 y1.2.2.1, IA E 100 t_row, JA E 6 t_sums, IA E 5000 y1.2.2.2.1, IA E 5000 t_redoRow, JA E 300 y1.2.2.2.2, JA E 300 t_redoSum]) [0, 1, 2, 3, 4, 5, 7] ao.1 rfl rfl rfl rfl)) e_X11_redo_10 (ao.2 0 _ rfl) (ov_get 0 ao.1 rfl rfl) rfl rfl rfl (Nat.le_of_ble_eq_true rfl) ⟨Nat.le_refl _, Nat.le_refl _⟩ (fun Py1 => ?_)
    refine g_aload_n e_X11_redo_13 rfl ?_
    refine g_dup e_X11_redo_14 rfl ?_
    refine g_get 0 48 ao rfl rfl fsX11_g48 fl_X11_359 e_X11_redo_15 ?_
    refine g_iconst e_X11_redo_18 ?_
    refine g_isub e_X11_redo_19 ?_
    obtain ⟨hc2, hs⟩ := chk_elim hs
    refine g_put 0 48 ao rfl rfl fsX11_k48 fsX11_s48 ls_0 fw_X11_359 (fun h => by cases h) ⟨rfl, rfl⟩ e_X11_redo_20 ?_
    refine g_aload_n e_X11_redo_23 rfl ?_
    refine g_aload_n e_X11_redo_24 rfl ?_
    refine g_get 0 44 ao rfl rfl fsX11_g44 fl_X11_109 e_X11_redo_25 ?_
    refine g_bipush e_X11_redo_28 bp_100 ?_
    refine g_aload_n e_X11_redo_30 rfl ?_
    refine g_get 0 48 ao rfl rfl fsX11_g48 fl_X11_359 e_X11_redo_31 ?_
    refine g_imul e_X11_redo_34 ?_
    refine g_aload_n e_X11_redo_35 rfl ?_
    refine g_get 0 46 ao rfl rfl fsX11_g46 fl_X11_115 e_X11_redo_36 ?_
    refine g_bipush e_X11_redo_39 bp_6 ?_
    refine g_aload_n e_X11_redo_41 rfl ?_
    refine g_get 0 48 ao rfl rfl fsX11_g48 fl_X11_359 e_X11_redo_42 ?_
    refine g_imul e_X11_redo_45 ?_
    obtain ⟨hc3, hs⟩ := chk_elim hs
    obtain ⟨hc4, hs⟩ := chk_elim hs
    obtain ⟨y5, hy5, hs⟩ := bind_elim hs
    refine g_callVv [.ref (a_t + 33), vI (100 * (t_redos - 1)), .ref (a_t + 35), vI (6 * (t_redos - 1))] cv_X11_346 ⟨rfl, rfl, Nat.le_of_ble_eq_true rfl, Nat.le_of_ble_eq_true rfl⟩ (Ct_heap (ct_X11_takes (a_t := a_t) (a_p1 := (a_t + 33)) (a_p3 := (a_t + 35)) (AO_call [0, 1, 2, 6, 8] ao (by decide) rfl) (by omega) (by omega) (FA_call [0, 1, 2, 6, 8] ao.1 rfl rfl) Py1.2.1 Py1.2.2.1 ok_t_redoRow ok_t_redoSum hc3 hc4 hy5) (ov_call (esn := [.inr (11, fsX11 a_t t_thrown t_taped t_p t_fault t_baseLow t_baseHigh t_newBaseLow t_newBaseHigh t_from t_knots t_lines t_chosen y1.1 (t_redos - 1) t_aimedMany t_fits t_fitOf t_sights t_systems t_own t_cross t_curveLong t_wallFirst), IA E 100 y5.1, JA E 6 y5.2, IA E 100 t_row, JA E 6 t_sums, IA E 5000 y1.2.2.2.1, IA E 5000 t_redoRow, JA E 300 y1.2.2.2.2, JA E 300 t_redoSum]) [0, 1, 2, 6, 8] ao.1 rfl rfl rfl rfl)) e_X11_redo_46 (ao.2 0 _ rfl) (ov_get 0 ao.1 rfl rfl) rfl rfl rfl (Nat.le_of_ble_eq_true rfl) ⟨Nat.le_refl _, Nat.le_refl _⟩ (fun Py5 => ?_)
    refine g_aload_n e_X11_redo_49 rfl ?_
    refine g_aload_n e_X11_redo_50 rfl ?_
    refine g_get 0 40 ao rfl rfl fsX11_g40 fl_X11_97 e_X11_redo_51 ?_
    refine g_iconst e_X11_redo_54 ?_
    refine g_aload_n e_X11_redo_55 rfl ?_
    refine g_get 0 42 ao rfl rfl fsX11_g42 fl_X11_103 e_X11_redo_56 ?_
    refine g_iconst e_X11_redo_59 ?_
    obtain ⟨y6, hy6, hs⟩ := bind_elim hs
    refine g_callVv [.ref (a_t + 29), vI 0, .ref (a_t + 31), vI 0] cv_X11_353 ⟨rfl, rfl, Nat.le_of_ble_eq_true rfl, Nat.le_of_ble_eq_true rfl⟩ (Ct_heap (ct_X11_keeps (a_t := a_t) (a_p1 := (a_t + 29)) (a_p3 := (a_t + 31)) (AO_call [0, 1, 2, 3, 4] ao (by decide) rfl) (by omega) (by omega) (FA_call [0, 1, 2, 3, 4] ao.1 rfl rfl) Py5.1 Py5.2 ok_t_row ok_t_sums (by decide : inI 0) (by decide : inI 0) hy6) (ov_call (esn := [.inr (11, fsX11 a_t t_thrown t_taped t_p t_fault t_baseLow t_baseHigh t_newBaseLow t_newBaseHigh t_from t_knots t_lines t_chosen y1.1 (t_redos - 1) t_aimedMany t_fits t_fitOf t_sights t_systems t_own t_cross t_curveLong t_wallFirst), IA E 100 y5.1, JA E 6 y5.2, IA E 100 y6.1, JA E 6 y6.2, IA E 5000 y1.2.2.2.1, IA E 5000 t_redoRow, JA E 300 y1.2.2.2.2, JA E 300 t_redoSum]) [0, 1, 2, 3, 4] ao.1 rfl rfl rfl rfl)) e_X11_redo_60 (ao.2 0 _ rfl) (ov_get 0 ao.1 rfl rfl) rfl rfl rfl (Nat.le_of_ble_eq_true rfl) ⟨Nat.le_refl _, Nat.le_refl _⟩ (fun Py6 => ?_)
    refine g_iconst e_X11_redo_63 ?_
    obtain rfl := Option.some.inj hs
    exact g_zret rfl (by decide : inZ 1) ⟨(by decide : inZ 1), Py1.1, hc2, Py5.1, Py5.2, Py6.1, Py6.2, Py1.2.2.2.1, Py1.2.2.2.2⟩ e_X11_redo_64

noncomputable def m_X11_redo (t_undos : Int) (t_redos : Int) (t_cur : Nat → Int) (t_curSum : Nat → Int) (t_row : Nat → Int) (t_sums : Nat → Int) (t_undoRow : Nat → Int) (t_redoRow : Nat → Int) (t_undoSum : Nat → Int) (t_redoSum : Nat → Int) : Option (Int × Int × Int × (Nat → Int) × (Nat → Int) × (Nat → Int) × (Nat → Int) × (Nat → Int) × (Nat → Int)) := m_X11_redo_0 t_undos t_redos t_cur t_curSum t_row t_sums t_undoRow t_redoRow t_undoSum t_redoSum

set_option maxRecDepth 10000 in
set_option maxHeartbeats 8000000 in
theorem ct_X11_redo {l : Launch} {E : EE} {b0 n : Nat} {h : AH} {a_t : Nat} {t_thrown t_taped t_p t_fault t_baseLow t_baseHigh t_newBaseLow t_newBaseHigh t_from t_knots t_lines t_chosen t_undos t_redos t_aimedMany t_fits t_fitOf t_sights t_systems t_own t_cross t_curveLong t_wallFirst : Int} {t_cur t_curSum t_row t_sums t_undoRow t_redoRow t_undoSum t_redoSum : Nat → Int} (ao : AO b0 n [a_t, (a_t + 24), (a_t + 28), (a_t + 29), (a_t + 31), (a_t + 32), (a_t + 33), (a_t + 34), (a_t + 35)]) (hf : FA h [a_t, (a_t + 24), (a_t + 28), (a_t + 29), (a_t + 31), (a_t + 32), (a_t + 33), (a_t + 34), (a_t + 35)] [.inr (11, fsX11 a_t t_thrown t_taped t_p t_fault t_baseLow t_baseHigh t_newBaseLow t_newBaseHigh t_from t_knots t_lines t_chosen t_undos t_redos t_aimedMany t_fits t_fitOf t_sights t_systems t_own t_cross t_curveLong t_wallFirst), IA E 100 t_cur, JA E 6 t_curSum, IA E 100 t_row, JA E 6 t_sums, IA E 5000 t_undoRow, IA E 5000 t_redoRow, JA E 300 t_undoSum, JA E 300 t_redoSum]) (ok_t_undos : inI t_undos) (ok_t_redos : inI t_redos) (ok_t_cur : okA t_cur) (ok_t_curSum : okJ t_curSum) (ok_t_row : okA t_row) (ok_t_sums : okJ t_sums) (ok_t_undoRow : okA t_undoRow) (ok_t_redoRow : okA t_redoRow) (ok_t_undoSum : okJ t_undoSum) (ok_t_redoSum : okJ t_redoSum) {r : Int × Int × Int × (Nat → Int) × (Nat → Int) × (Nat → Int) × (Nat → Int) × (Nat → Int) × (Nat → Int)} (hm : m_X11_redo t_undos t_redos t_cur t_curSum t_row t_sums t_undoRow t_redoRow t_undoSum t_redoSum = some r) : Ct l E b0 M_X11_redo 0 0 [.ref a_t] h n (some (vI r.1)) (ov [a_t, (a_t + 24), (a_t + 28), (a_t + 29), (a_t + 31), (a_t + 32), (a_t + 33), (a_t + 34), (a_t + 35)] [.inr (11, fsX11 a_t t_thrown t_taped t_p t_fault t_baseLow t_baseHigh t_newBaseLow t_newBaseHigh t_from t_knots t_lines t_chosen r.2.1 r.2.2.1 t_aimedMany t_fits t_fitOf t_sights t_systems t_own t_cross t_curveLong t_wallFirst), IA E 100 r.2.2.2.1, JA E 6 r.2.2.2.2.1, IA E 100 r.2.2.2.2.2.1, JA E 6 r.2.2.2.2.2.2.1, IA E 5000 r.2.2.2.2.2.2.2.1, IA E 5000 t_redoRow, JA E 300 r.2.2.2.2.2.2.2.2, JA E 300 t_redoSum] h) n (inZ r.1 ∧ inI r.2.1 ∧ inI r.2.2.1 ∧ okA r.2.2.2.1 ∧ okJ r.2.2.2.2.1 ∧ okA r.2.2.2.2.2.1 ∧ okJ r.2.2.2.2.2.2.1 ∧ okA r.2.2.2.2.2.2.2.1 ∧ okJ r.2.2.2.2.2.2.2.2) := by
  rw [m_X11_redo] at hm
  have hg : G l E b0 M_X11_redo (fun _ => True) (ZM E b0 (some (vI r.1)) (ov [a_t, (a_t + 24), (a_t + 28), (a_t + 29), (a_t + 31), (a_t + 32), (a_t + 33), (a_t + 34), (a_t + 35)] [.inr (11, fsX11 a_t t_thrown t_taped t_p t_fault t_baseLow t_baseHigh t_newBaseLow t_newBaseHigh t_from t_knots t_lines t_chosen r.2.1 r.2.2.1 t_aimedMany t_fits t_fitOf t_sights t_systems t_own t_cross t_curveLong t_wallFirst), IA E 100 r.2.2.2.1, JA E 6 r.2.2.2.2.1, IA E 100 r.2.2.2.2.2.1, JA E 6 r.2.2.2.2.2.2.1, IA E 5000 r.2.2.2.2.2.2.2.1, IA E 5000 t_redoRow, JA E 300 r.2.2.2.2.2.2.2.2, JA E 300 t_redoSum] h) n (inZ r.1 ∧ inI r.2.1 ∧ inI r.2.2.1 ∧ okA r.2.2.2.1 ∧ okJ r.2.2.2.2.1 ∧ okA r.2.2.2.2.2.1 ∧ okJ r.2.2.2.2.2.2.1 ∧ okA r.2.2.2.2.2.2.2.1 ∧ okJ r.2.2.2.2.2.2.2.2) 0 0) 0 0 n (ov [a_t, (a_t + 24), (a_t + 28), (a_t + 29), (a_t + 31), (a_t + 32), (a_t + 33), (a_t + 34), (a_t + 35)] [.inr (11, fsX11 a_t t_thrown t_taped t_p t_fault t_baseLow t_baseHigh t_newBaseLow t_newBaseHigh t_from t_knots t_lines t_chosen t_undos t_redos t_aimedMany t_fits t_fitOf t_sights t_systems t_own t_cross t_curveLong t_wallFirst), IA E 100 t_cur, JA E 6 t_curSum, IA E 100 t_row, JA E 6 t_sums, IA E 5000 t_undoRow, IA E 5000 t_redoRow, JA E 300 t_undoSum, JA E 300 t_redoSum] h) 0 [some (.ref a_t)] [] := by
    have hs := hm
    exact g_X11_redo_0 ao ok_t_undos ok_t_redos ok_t_cur ok_t_curSum ok_t_row ok_t_sums ok_t_undoRow ok_t_redoRow ok_t_undoSum ok_t_redoSum hs
  rw [FA_id hf] at hg
  exact Ct_of [some (.ref a_t)] ⟨by decide +kernel, rfl⟩ rfl (Nat.le_of_ble_eq_true rfl) hg

/-! ===== X11_put_ ===== -/
theorem e_X11_put__0 : DC cX11_put_ 0 (.aload_n 0) 1 1 := ⟨by decide +kernel, rfl⟩
theorem e_X11_put__1 : DC cX11_put_ 1 (.invokevirtual 362) 3 4 := ⟨by decide +kernel, rfl⟩
theorem e_X11_put__4 : DC cX11_put_ 4 (.iload_n 1) 1 5 := ⟨by decide +kernel, rfl⟩
theorem e_X11_put__5 : DC cX11_put_ 5 (.iconst 0) 1 6 := ⟨by decide +kernel, rfl⟩
theorem e_X11_put__6 : DC cX11_put_ 6 (.bipush 99) 2 8 := ⟨by decide +kernel, rfl⟩
theorem e_X11_put__8 : DC cX11_put_ 8 (.invokestatic 226) 3 11 := ⟨by decide +kernel, rfl⟩
theorem e_X11_put__11 : DB cX11_put_ 11 (.ifCond .eq 31) (31) 3 14 42 := ⟨by decide +kernel, rfl, rfl⟩
theorem e_X11_put__14 : DC cX11_put_ 14 (.iload_n 2) 1 15 := ⟨by decide +kernel, rfl⟩
theorem e_X11_put__15 : DC cX11_put_ 15 (.iconst 1) 1 16 := ⟨by decide +kernel, rfl⟩
theorem e_X11_put__16 : DB cX11_put_ 16 (.if_icmp .eq 8) (8) 3 19 24 := ⟨by decide +kernel, rfl, rfl⟩
theorem e_X11_put__19 : DC cX11_put_ 19 (.iload_n 2) 1 20 := ⟨by decide +kernel, rfl⟩
theorem e_X11_put__20 : DC cX11_put_ 20 (.iconst (-1)) 1 21 := ⟨by decide +kernel, rfl⟩
theorem e_X11_put__21 : DB cX11_put_ 21 (.if_icmp .ne 21) (21) 3 24 42 := ⟨by decide +kernel, rfl, rfl⟩
theorem e_X11_put__24 : DC cX11_put_ 24 (.aload_n 0) 1 25 := ⟨by decide +kernel, rfl⟩
theorem e_X11_put__25 : DC cX11_put_ 25 (.getfield 97) 3 28 := ⟨by decide +kernel, rfl⟩
theorem e_X11_put__28 : DC cX11_put_ 28 (.iload_n 1) 1 29 := ⟨by decide +kernel, rfl⟩
theorem e_X11_put__29 : DC cX11_put_ 29 (.iaload) 1 30 := ⟨by decide +kernel, rfl⟩
theorem e_X11_put__30 : DB cX11_put_ 30 (.ifCond .ne 12) (12) 3 33 42 := ⟨by decide +kernel, rfl, rfl⟩
theorem e_X11_put__33 : DC cX11_put_ 33 (.aload_n 0) 1 34 := ⟨by decide +kernel, rfl⟩
theorem e_X11_put__34 : DC cX11_put_ 34 (.invokevirtual 337) 3 37 := ⟨by decide +kernel, rfl⟩
theorem e_X11_put__37 : DC cX11_put_ 37 (.bipush 30) 2 39 := ⟨by decide +kernel, rfl⟩
theorem e_X11_put__39 : DB cX11_put_ 39 (.if_icmp .ne 5) (5) 3 42 44 := ⟨by decide +kernel, rfl, rfl⟩
theorem e_X11_put__42 : DC cX11_put_ 42 (.iconst 0) 1 43 := ⟨by decide +kernel, rfl⟩
theorem e_X11_put__43 : DC cX11_put_ 43 (.ireturn) 1 44 := ⟨by decide +kernel, rfl⟩
theorem e_X11_put__44 : DC cX11_put_ 44 (.aload_n 0) 1 45 := ⟨by decide +kernel, rfl⟩
theorem e_X11_put__45 : DC cX11_put_ 45 (.invokevirtual 365) 3 48 := ⟨by decide +kernel, rfl⟩
theorem e_X11_put__48 : DC cX11_put_ 48 (.aload_n 0) 1 49 := ⟨by decide +kernel, rfl⟩
theorem e_X11_put__49 : DC cX11_put_ 49 (.getfield 97) 3 52 := ⟨by decide +kernel, rfl⟩
theorem e_X11_put__52 : DC cX11_put_ 52 (.iload_n 1) 1 53 := ⟨by decide +kernel, rfl⟩
theorem e_X11_put__53 : DC cX11_put_ 53 (.iload_n 2) 1 54 := ⟨by decide +kernel, rfl⟩
theorem e_X11_put__54 : DC cX11_put_ 54 (.iastore) 1 55 := ⟨by decide +kernel, rfl⟩
theorem e_X11_put__55 : DC cX11_put_ 55 (.iconst 1) 1 56 := ⟨by decide +kernel, rfl⟩
theorem e_X11_put__56 : DC cX11_put_ 56 (.ireturn) 1 57 := ⟨by decide +kernel, rfl⟩
noncomputable def m_X11_put__24 (t_undos : Int) (t_redos : Int) (t_cur : Nat → Int) (t_pushAt : Nat → Int) (t_curSum : Nat → Int) (t_row : Nat → Int) (t_sums : Nat → Int) (t_undoRow : Nat → Int) (t_undoSum : Nat → Int) (v1 : Int) (v2 : Int) : Option (Int × Int × Int × (Nat → Int) × (Nat → Int) × (Nat → Int) × (Nat → Int) × (Nat → Int) × (Nat → Int)) :=
  chk (inB v1 100) (if (t_row (Int.toNat v1)) = 0 then ((m_X11_flaws t_cur).bind (fun y4 => if y4 = 30 then (some (0, t_undos, t_redos, t_cur, t_pushAt, t_curSum, t_row, t_undoRow, t_undoSum)) else ((m_X11_act t_undos t_redos t_cur t_curSum t_row t_sums t_undoRow t_undoSum).bind (fun y5 => chk (inB v1 100) (some (1, y5.1, y5.2.1, y5.2.2.1, t_pushAt, y5.2.2.2.1, up t_row (Int.toNat v1) v2, y5.2.2.2.2.1, y5.2.2.2.2.2)))))) else (some (0, t_undos, t_redos, t_cur, t_pushAt, t_curSum, t_row, t_undoRow, t_undoSum)))

set_option maxRecDepth 10000 in
set_option maxHeartbeats 8000000 in
theorem g_X11_put__24 {l : Launch} {E : EE} {b0 n : Nat} {h : AH} {a_t : Nat} {t_thrown t_taped t_p t_fault t_baseLow t_baseHigh t_newBaseLow t_newBaseHigh t_from t_knots t_lines t_chosen t_undos t_redos t_aimedMany t_fits t_fitOf t_sights t_systems t_own t_cross t_curveLong t_wallFirst v1 v2 : Int} {t_push t_cur t_pushAt t_curSum t_row t_sums t_undoRow t_undoSum : Nat → Int} {r : Int × Int × Int × (Nat → Int) × (Nat → Int) × (Nat → Int) × (Nat → Int) × (Nat → Int) × (Nat → Int)} (ao : AO b0 n [a_t, (a_t + 6), (a_t + 24), (a_t + 27), (a_t + 28), (a_t + 29), (a_t + 31), (a_t + 32), (a_t + 34)]) (ok_t_undos : inI t_undos) (ok_t_redos : inI t_redos) (ok_t_push : okA t_push) (ok_t_cur : okA t_cur) (ok_t_pushAt : okA t_pushAt) (ok_t_curSum : okJ t_curSum) (ok_t_row : okA t_row) (ok_t_sums : okJ t_sums) (ok_t_undoRow : okA t_undoRow) (ok_t_undoSum : okJ t_undoSum) (ok_v1 : inI v1) (ok_v2 : inI v2) (hs : m_X11_put__24 t_undos t_redos t_cur t_pushAt t_curSum t_row t_sums t_undoRow t_undoSum v1 v2 = some r) : G l E b0 M_X11_put_ (fun _ => True) (ZM E b0 (some (vI r.1)) (ov [a_t, (a_t + 6), (a_t + 24), (a_t + 27), (a_t + 28), (a_t + 29), (a_t + 31), (a_t + 32), (a_t + 34)] [.inr (11, fsX11 a_t t_thrown t_taped t_p t_fault t_baseLow t_baseHigh t_newBaseLow t_newBaseHigh t_from t_knots t_lines t_chosen r.2.1 r.2.2.1 t_aimedMany t_fits t_fitOf t_sights t_systems t_own t_cross t_curveLong t_wallFirst), IA E 21 t_push, IA E 100 r.2.2.2.1, IA E 21 r.2.2.2.2.1, JA E 6 r.2.2.2.2.2.1, IA E 100 r.2.2.2.2.2.2.1, JA E 6 t_sums, IA E 5000 r.2.2.2.2.2.2.2.1, JA E 300 r.2.2.2.2.2.2.2.2] h) n (inZ r.1 ∧ inI r.2.1 ∧ inI r.2.2.1 ∧ okA r.2.2.2.1 ∧ okA r.2.2.2.2.1 ∧ okJ r.2.2.2.2.2.1 ∧ okA r.2.2.2.2.2.2.1 ∧ okA r.2.2.2.2.2.2.2.1 ∧ okJ r.2.2.2.2.2.2.2.2) 0 0) 0 0 n (ov [a_t, (a_t + 6), (a_t + 24), (a_t + 27), (a_t + 28), (a_t + 29), (a_t + 31), (a_t + 32), (a_t + 34)] [.inr (11, fsX11 a_t t_thrown t_taped t_p t_fault t_baseLow t_baseHigh t_newBaseLow t_newBaseHigh t_from t_knots t_lines t_chosen t_undos t_redos t_aimedMany t_fits t_fitOf t_sights t_systems t_own t_cross t_curveLong t_wallFirst), IA E 21 t_push, IA E 100 t_cur, IA E 21 t_pushAt, JA E 6 t_curSum, IA E 100 t_row, JA E 6 t_sums, IA E 5000 t_undoRow, JA E 300 t_undoSum] h) 24 [some (.ref a_t), some (vI v1), some (vI v2)] [] := by
  rw [m_X11_put__24] at hs
  refine g_aload_n e_X11_put__24 rfl ?_
  refine g_get 0 40 ao rfl rfl fsX11_g40 fl_X11_97 e_X11_put__25 ?_
  refine g_iload_n e_X11_put__28 rfl ?_
  refine g_iald 5 ao rfl rfl (Nat.le_of_ble_eq_true rfl) e_X11_put__29 hs (fun hi3 hs => ?_)
  refine g_if_ne e_X11_put__30 (ok_t_row _) hs (fun c30 hs => ?_) (fun c30 hs => ?_)
  · refine g_aload_n e_X11_put__33 rfl ?_
    obtain ⟨y4, hy4, hs⟩ := bind_elim hs
    refine g_callVr [] cv_X11_337 ⟨rfl, rfl, Nat.le_of_ble_eq_true rfl, Nat.le_of_ble_eq_true rfl⟩ (ct_X11_flaws (a_t := a_t) (AO_call [0, 2] ao (by decide) rfl) (FA_call [0, 2] ao.1 rfl rfl) ok_t_cur hy4) e_X11_put__34 (ao.2 0 _ rfl) (ov_get 0 ao.1 rfl rfl) rfl rfl rfl (Nat.le_of_ble_eq_true rfl) ⟨Nat.le_refl _, Nat.le_refl _⟩ (fun Py4 => ?_)
    refine g_bipush e_X11_put__37 bp_30 ?_
    refine g_icmp_ne e_X11_put__39 Py4 (by decide : inI 30) hs (fun c39 hs => ?_) (fun c39 hs => ?_)
    · refine g_iconst e_X11_put__42 ?_
      obtain rfl := Option.some.inj hs
      exact g_zret rfl (by decide : inZ 0) ⟨(by decide : inZ 0), ok_t_undos, ok_t_redos, ok_t_cur, ok_t_pushAt, ok_t_curSum, ok_t_row, ok_t_undoRow, ok_t_undoSum⟩ e_X11_put__43
    · refine g_aload_n e_X11_put__44 rfl ?_
      obtain ⟨y5, hy5, hs⟩ := bind_elim hs
      refine g_callVv [] cv_X11_365 ⟨rfl, rfl, Nat.le_of_ble_eq_true rfl, Nat.le_of_ble_eq_true rfl⟩ (Ct_heap (ct_X11_act (a_t := a_t) (AO_call [0, 2, 4, 5, 6, 7, 8] ao (by decide) rfl) (FA_call [0, 2, 4, 5, 6, 7, 8] ao.1 rfl rfl) ok_t_undos ok_t_redos ok_t_cur ok_t_curSum ok_t_row ok_t_sums ok_t_undoRow ok_t_undoSum hy5) (ov_call (esn := [.inr (11, fsX11 a_t t_thrown t_taped t_p t_fault t_baseLow t_baseHigh t_newBaseLow t_newBaseHigh t_from t_knots t_lines t_chosen y5.1 y5.2.1 t_aimedMany t_fits t_fitOf t_sights t_systems t_own t_cross t_curveLong t_wallFirst), IA E 21 t_push, IA E 100 y5.2.2.1, IA E 21 t_pushAt, JA E 6 y5.2.2.2.1, IA E 100 t_row, JA E 6 t_sums, IA E 5000 y5.2.2.2.2.1, JA E 300 y5.2.2.2.2.2]) [0, 2, 4, 5, 6, 7, 8] ao.1 rfl rfl rfl rfl)) e_X11_put__45 (ao.2 0 _ rfl) (ov_get 0 ao.1 rfl rfl) rfl rfl rfl (Nat.le_of_ble_eq_true rfl) ⟨Nat.le_refl _, Nat.le_refl _⟩ (fun Py5 => ?_)
      refine g_aload_n e_X11_put__48 rfl ?_
      refine g_get 0 40 ao rfl rfl fsX11_g40 fl_X11_97 e_X11_put__49 ?_
      refine g_iload_n e_X11_put__52 rfl ?_
      refine g_iload_n e_X11_put__53 rfl ?_
      refine g_iast 5 ao rfl rfl ls_5 (Nat.le_of_ble_eq_true rfl) e_X11_put__54 hs (fun hi6 hs => ?_)
      refine g_iconst e_X11_put__55 ?_
      obtain rfl := Option.some.inj hs
      exact g_zret rfl (by decide : inZ 1) ⟨(by decide : inZ 1), Py5.1, Py5.2.1, Py5.2.2.1, ok_t_pushAt, Py5.2.2.2.1, (okA_up ok_t_row ok_v2), Py5.2.2.2.2.1, Py5.2.2.2.2.2⟩ e_X11_put__56
  · refine g_iconst e_X11_put__42 ?_
    obtain rfl := Option.some.inj hs
    exact g_zret rfl (by decide : inZ 0) ⟨(by decide : inZ 0), ok_t_undos, ok_t_redos, ok_t_cur, ok_t_pushAt, ok_t_curSum, ok_t_row, ok_t_undoRow, ok_t_undoSum⟩ e_X11_put__43

noncomputable def m_X11_put__0 (t_undos : Int) (t_redos : Int) (t_push : Nat → Int) (t_cur : Nat → Int) (t_pushAt : Nat → Int) (t_curSum : Nat → Int) (t_row : Nat → Int) (t_sums : Nat → Int) (t_undoRow : Nat → Int) (t_undoSum : Nat → Int) (v1 : Int) (v2 : Int) : Option (Int × Int × Int × (Nat → Int) × (Nat → Int) × (Nat → Int) × (Nat → Int) × (Nat → Int) × (Nat → Int)) :=
  (m_X11_atHand t_push t_cur t_pushAt t_curSum t_row t_sums).bind (fun y1 => (m_X11_in v1 0 99).bind (fun y2 => if y2 = 0 then (some (0, t_undos, t_redos, y1.1, y1.2.1, y1.2.2, t_row, t_undoRow, t_undoSum)) else (if v2 = 1 then (m_X11_put__24 t_undos t_redos y1.1 y1.2.1 y1.2.2 t_row t_sums t_undoRow t_undoSum v1 v2) else (if v2 = (-1) then (m_X11_put__24 t_undos t_redos y1.1 y1.2.1 y1.2.2 t_row t_sums t_undoRow t_undoSum v1 v2) else (some (0, t_undos, t_redos, y1.1, y1.2.1, y1.2.2, t_row, t_undoRow, t_undoSum))))))

set_option maxRecDepth 10000 in
set_option maxHeartbeats 8000000 in
theorem g_X11_put__0 {l : Launch} {E : EE} {b0 n : Nat} {h : AH} {a_t : Nat} {t_thrown t_taped t_p t_fault t_baseLow t_baseHigh t_newBaseLow t_newBaseHigh t_from t_knots t_lines t_chosen t_undos t_redos t_aimedMany t_fits t_fitOf t_sights t_systems t_own t_cross t_curveLong t_wallFirst v1 v2 : Int} {t_push t_cur t_pushAt t_curSum t_row t_sums t_undoRow t_undoSum : Nat → Int} {r : Int × Int × Int × (Nat → Int) × (Nat → Int) × (Nat → Int) × (Nat → Int) × (Nat → Int) × (Nat → Int)} (ao : AO b0 n [a_t, (a_t + 6), (a_t + 24), (a_t + 27), (a_t + 28), (a_t + 29), (a_t + 31), (a_t + 32), (a_t + 34)]) (ok_t_undos : inI t_undos) (ok_t_redos : inI t_redos) (ok_t_push : okA t_push) (ok_t_cur : okA t_cur) (ok_t_pushAt : okA t_pushAt) (ok_t_curSum : okJ t_curSum) (ok_t_row : okA t_row) (ok_t_sums : okJ t_sums) (ok_t_undoRow : okA t_undoRow) (ok_t_undoSum : okJ t_undoSum) (ok_v1 : inI v1) (ok_v2 : inI v2) (hs : m_X11_put__0 t_undos t_redos t_push t_cur t_pushAt t_curSum t_row t_sums t_undoRow t_undoSum v1 v2 = some r) : G l E b0 M_X11_put_ (fun _ => True) (ZM E b0 (some (vI r.1)) (ov [a_t, (a_t + 6), (a_t + 24), (a_t + 27), (a_t + 28), (a_t + 29), (a_t + 31), (a_t + 32), (a_t + 34)] [.inr (11, fsX11 a_t t_thrown t_taped t_p t_fault t_baseLow t_baseHigh t_newBaseLow t_newBaseHigh t_from t_knots t_lines t_chosen r.2.1 r.2.2.1 t_aimedMany t_fits t_fitOf t_sights t_systems t_own t_cross t_curveLong t_wallFirst), IA E 21 t_push, IA E 100 r.2.2.2.1, IA E 21 r.2.2.2.2.1, JA E 6 r.2.2.2.2.2.1, IA E 100 r.2.2.2.2.2.2.1, JA E 6 t_sums, IA E 5000 r.2.2.2.2.2.2.2.1, JA E 300 r.2.2.2.2.2.2.2.2] h) n (inZ r.1 ∧ inI r.2.1 ∧ inI r.2.2.1 ∧ okA r.2.2.2.1 ∧ okA r.2.2.2.2.1 ∧ okJ r.2.2.2.2.2.1 ∧ okA r.2.2.2.2.2.2.1 ∧ okA r.2.2.2.2.2.2.2.1 ∧ okJ r.2.2.2.2.2.2.2.2) 0 0) 0 0 n (ov [a_t, (a_t + 6), (a_t + 24), (a_t + 27), (a_t + 28), (a_t + 29), (a_t + 31), (a_t + 32), (a_t + 34)] [.inr (11, fsX11 a_t t_thrown t_taped t_p t_fault t_baseLow t_baseHigh t_newBaseLow t_newBaseHigh t_from t_knots t_lines t_chosen t_undos t_redos t_aimedMany t_fits t_fitOf t_sights t_systems t_own t_cross t_curveLong t_wallFirst), IA E 21 t_push, IA E 100 t_cur, IA E 21 t_pushAt, JA E 6 t_curSum, IA E 100 t_row, JA E 6 t_sums, IA E 5000 t_undoRow, JA E 300 t_undoSum] h) 0 [some (.ref a_t), some (vI v1), some (vI v2)] [] := by
  rw [m_X11_put__0] at hs
  refine g_aload_n e_X11_put__0 rfl ?_
  obtain ⟨y1, hy1, hs⟩ := bind_elim hs
  refine g_callVv [] cv_X11_362 ⟨rfl, rfl, Nat.le_of_ble_eq_true rfl, Nat.le_of_ble_eq_true rfl⟩ (Ct_heap (ct_X11_atHand (a_t := a_t) (AO_call [0, 1, 2, 3, 4, 5, 6] ao (by decide) rfl) (FA_call [0, 1, 2, 3, 4, 5, 6] ao.1 rfl rfl) ok_t_push ok_t_cur ok_t_pushAt ok_t_curSum ok_t_row ok_t_sums hy1) (ov_call (esn := [.inr (11, fsX11 a_t t_thrown t_taped t_p t_fault t_baseLow t_baseHigh t_newBaseLow t_newBaseHigh t_from t_knots t_lines t_chosen t_undos t_redos t_aimedMany t_fits t_fitOf t_sights t_systems t_own t_cross t_curveLong t_wallFirst), IA E 21 t_push, IA E 100 y1.1, IA E 21 y1.2.1, JA E 6 y1.2.2, IA E 100 t_row, JA E 6 t_sums, IA E 5000 t_undoRow, JA E 300 t_undoSum]) [0, 1, 2, 3, 4, 5, 6] ao.1 rfl rfl rfl rfl)) e_X11_put__1 (ao.2 0 _ rfl) (ov_get 0 ao.1 rfl rfl) rfl rfl rfl (Nat.le_of_ble_eq_true rfl) ⟨Nat.le_refl _, Nat.le_refl _⟩ (fun Py1 => ?_)
  refine g_iload_n e_X11_put__4 rfl ?_
  refine g_iconst e_X11_put__5 ?_
  refine g_bipush e_X11_put__6 bp_99 ?_
  obtain ⟨y2, hy2, hs⟩ := bind_elim hs
  refine g_callSr [vI v1, vI 0, vI 99] cs_X11_226 ⟨rfl, rfl, Nat.le_of_ble_eq_true rfl, Nat.le_of_ble_eq_true rfl⟩ (ct_X11_in ⟨List.nodup_nil, fun i a h => by simp at h⟩ (fun i a e h => by simp at h) ok_v1 (by decide : inI 0) (by decide : inI 99) hy2) e_X11_put__8 rfl rfl (Nat.le_of_ble_eq_true rfl) ⟨Nat.le_refl _, Nat.le_refl _⟩ (fun Py2 => ?_)
  refine g_if_eq e_X11_put__11 (inZ_I Py2) hs (fun c11 hs => ?_) (fun c11 hs => ?_)
  · refine g_iconst e_X11_put__42 ?_
    obtain rfl := Option.some.inj hs
    exact g_zret rfl (by decide : inZ 0) ⟨(by decide : inZ 0), ok_t_undos, ok_t_redos, Py1.1, Py1.2.1, Py1.2.2, ok_t_row, ok_t_undoRow, ok_t_undoSum⟩ e_X11_put__43
  · refine g_iload_n e_X11_put__14 rfl ?_
    refine g_iconst e_X11_put__15 ?_
    refine g_icmp_eq e_X11_put__16 ok_v2 (by decide : inI 1) hs (fun c16 hs => ?_) (fun c16 hs => ?_)
    · exact g_X11_put__24 ao ok_t_undos ok_t_redos ok_t_push Py1.1 Py1.2.1 Py1.2.2 ok_t_row ok_t_sums ok_t_undoRow ok_t_undoSum ok_v1 ok_v2 hs
    · refine g_iload_n e_X11_put__19 rfl ?_
      refine g_iconst e_X11_put__20 ?_
      refine g_icmp_ne e_X11_put__21 ok_v2 (by decide : inI (-1)) hs (fun c21 hs => ?_) (fun c21 hs => ?_)
      · exact g_X11_put__24 ao ok_t_undos ok_t_redos ok_t_push Py1.1 Py1.2.1 Py1.2.2 ok_t_row ok_t_sums ok_t_undoRow ok_t_undoSum ok_v1 ok_v2 hs
      · refine g_iconst e_X11_put__42 ?_
        obtain rfl := Option.some.inj hs
        exact g_zret rfl (by decide : inZ 0) ⟨(by decide : inZ 0), ok_t_undos, ok_t_redos, Py1.1, Py1.2.1, Py1.2.2, ok_t_row, ok_t_undoRow, ok_t_undoSum⟩ e_X11_put__43

noncomputable def m_X11_put_ (t_undos : Int) (t_redos : Int) (t_push : Nat → Int) (t_cur : Nat → Int) (t_pushAt : Nat → Int) (t_curSum : Nat → Int) (t_row : Nat → Int) (t_sums : Nat → Int) (t_undoRow : Nat → Int) (t_undoSum : Nat → Int) (v1 : Int) (v2 : Int) : Option (Int × Int × Int × (Nat → Int) × (Nat → Int) × (Nat → Int) × (Nat → Int) × (Nat → Int) × (Nat → Int)) := m_X11_put__0 t_undos t_redos t_push t_cur t_pushAt t_curSum t_row t_sums t_undoRow t_undoSum v1 v2

set_option maxRecDepth 10000 in
set_option maxHeartbeats 8000000 in
theorem ct_X11_put_ {l : Launch} {E : EE} {b0 n : Nat} {h : AH} {a_t : Nat} {t_thrown t_taped t_p t_fault t_baseLow t_baseHigh t_newBaseLow t_newBaseHigh t_from t_knots t_lines t_chosen t_undos t_redos t_aimedMany t_fits t_fitOf t_sights t_systems t_own t_cross t_curveLong t_wallFirst : Int} {t_push t_cur t_pushAt t_curSum t_row t_sums t_undoRow t_undoSum : Nat → Int} {v1 v2 : Int} (ao : AO b0 n [a_t, (a_t + 6), (a_t + 24), (a_t + 27), (a_t + 28), (a_t + 29), (a_t + 31), (a_t + 32), (a_t + 34)]) (hf : FA h [a_t, (a_t + 6), (a_t + 24), (a_t + 27), (a_t + 28), (a_t + 29), (a_t + 31), (a_t + 32), (a_t + 34)] [.inr (11, fsX11 a_t t_thrown t_taped t_p t_fault t_baseLow t_baseHigh t_newBaseLow t_newBaseHigh t_from t_knots t_lines t_chosen t_undos t_redos t_aimedMany t_fits t_fitOf t_sights t_systems t_own t_cross t_curveLong t_wallFirst), IA E 21 t_push, IA E 100 t_cur, IA E 21 t_pushAt, JA E 6 t_curSum, IA E 100 t_row, JA E 6 t_sums, IA E 5000 t_undoRow, JA E 300 t_undoSum]) (ok_t_undos : inI t_undos) (ok_t_redos : inI t_redos) (ok_t_push : okA t_push) (ok_t_cur : okA t_cur) (ok_t_pushAt : okA t_pushAt) (ok_t_curSum : okJ t_curSum) (ok_t_row : okA t_row) (ok_t_sums : okJ t_sums) (ok_t_undoRow : okA t_undoRow) (ok_t_undoSum : okJ t_undoSum) (ok_v1 : inI v1) (ok_v2 : inI v2) {r : Int × Int × Int × (Nat → Int) × (Nat → Int) × (Nat → Int) × (Nat → Int) × (Nat → Int) × (Nat → Int)} (hm : m_X11_put_ t_undos t_redos t_push t_cur t_pushAt t_curSum t_row t_sums t_undoRow t_undoSum v1 v2 = some r) : Ct l E b0 M_X11_put_ 0 0 [.ref a_t, vI v1, vI v2] h n (some (vI r.1)) (ov [a_t, (a_t + 6), (a_t + 24), (a_t + 27), (a_t + 28), (a_t + 29), (a_t + 31), (a_t + 32), (a_t + 34)] [.inr (11, fsX11 a_t t_thrown t_taped t_p t_fault t_baseLow t_baseHigh t_newBaseLow t_newBaseHigh t_from t_knots t_lines t_chosen r.2.1 r.2.2.1 t_aimedMany t_fits t_fitOf t_sights t_systems t_own t_cross t_curveLong t_wallFirst), IA E 21 t_push, IA E 100 r.2.2.2.1, IA E 21 r.2.2.2.2.1, JA E 6 r.2.2.2.2.2.1, IA E 100 r.2.2.2.2.2.2.1, JA E 6 t_sums, IA E 5000 r.2.2.2.2.2.2.2.1, JA E 300 r.2.2.2.2.2.2.2.2] h) n (inZ r.1 ∧ inI r.2.1 ∧ inI r.2.2.1 ∧ okA r.2.2.2.1 ∧ okA r.2.2.2.2.1 ∧ okJ r.2.2.2.2.2.1 ∧ okA r.2.2.2.2.2.2.1 ∧ okA r.2.2.2.2.2.2.2.1 ∧ okJ r.2.2.2.2.2.2.2.2) := by
  rw [m_X11_put_] at hm
  have hg : G l E b0 M_X11_put_ (fun _ => True) (ZM E b0 (some (vI r.1)) (ov [a_t, (a_t + 6), (a_t + 24), (a_t + 27), (a_t + 28), (a_t + 29), (a_t + 31), (a_t + 32), (a_t + 34)] [.inr (11, fsX11 a_t t_thrown t_taped t_p t_fault t_baseLow t_baseHigh t_newBaseLow t_newBaseHigh t_from t_knots t_lines t_chosen r.2.1 r.2.2.1 t_aimedMany t_fits t_fitOf t_sights t_systems t_own t_cross t_curveLong t_wallFirst), IA E 21 t_push, IA E 100 r.2.2.2.1, IA E 21 r.2.2.2.2.1, JA E 6 r.2.2.2.2.2.1, IA E 100 r.2.2.2.2.2.2.1, JA E 6 t_sums, IA E 5000 r.2.2.2.2.2.2.2.1, JA E 300 r.2.2.2.2.2.2.2.2] h) n (inZ r.1 ∧ inI r.2.1 ∧ inI r.2.2.1 ∧ okA r.2.2.2.1 ∧ okA r.2.2.2.2.1 ∧ okJ r.2.2.2.2.2.1 ∧ okA r.2.2.2.2.2.2.1 ∧ okA r.2.2.2.2.2.2.2.1 ∧ okJ r.2.2.2.2.2.2.2.2) 0 0) 0 0 n (ov [a_t, (a_t + 6), (a_t + 24), (a_t + 27), (a_t + 28), (a_t + 29), (a_t + 31), (a_t + 32), (a_t + 34)] [.inr (11, fsX11 a_t t_thrown t_taped t_p t_fault t_baseLow t_baseHigh t_newBaseLow t_newBaseHigh t_from t_knots t_lines t_chosen t_undos t_redos t_aimedMany t_fits t_fitOf t_sights t_systems t_own t_cross t_curveLong t_wallFirst), IA E 21 t_push, IA E 100 t_cur, IA E 21 t_pushAt, JA E 6 t_curSum, IA E 100 t_row, JA E 6 t_sums, IA E 5000 t_undoRow, JA E 300 t_undoSum] h) 0 [some (.ref a_t), some (vI v1), some (vI v2)] [] := by
    have hs := hm
    exact g_X11_put__0 ao ok_t_undos ok_t_redos ok_t_push ok_t_cur ok_t_pushAt ok_t_curSum ok_t_row ok_t_sums ok_t_undoRow ok_t_undoSum ok_v1 ok_v2 hs
  rw [FA_id hf] at hg
  exact Ct_of [some (.ref a_t), some (vI v1), some (vI v2)] ⟨by decide +kernel, rfl⟩ rfl (Nat.le_of_ble_eq_true rfl) hg

/-! ===== X11_at ===== -/
theorem e_X11_at_0 : DC cX11_at 0 (.iload_n 1) 1 1 := ⟨by decide +kernel, rfl⟩
theorem e_X11_at_1 : DC cX11_at 1 (.iconst 0) 1 2 := ⟨by decide +kernel, rfl⟩
theorem e_X11_at_2 : DC cX11_at 2 (.bipush 99) 2 4 := ⟨by decide +kernel, rfl⟩
theorem e_X11_at_4 : DC cX11_at 4 (.invokestatic 226) 3 7 := ⟨by decide +kernel, rfl⟩
theorem e_X11_at_7 : DB cX11_at 7 (.ifCond .eq 12) (12) 3 10 19 := ⟨by decide +kernel, rfl, rfl⟩
theorem e_X11_at_10 : DC cX11_at 10 (.aload_n 0) 1 11 := ⟨by decide +kernel, rfl⟩
theorem e_X11_at_11 : DC cX11_at 11 (.getfield 97) 3 14 := ⟨by decide +kernel, rfl⟩
theorem e_X11_at_14 : DC cX11_at 14 (.iload_n 1) 1 15 := ⟨by decide +kernel, rfl⟩
theorem e_X11_at_15 : DC cX11_at 15 (.iaload) 1 16 := ⟨by decide +kernel, rfl⟩
theorem e_X11_at_16 : DB cX11_at 16 (.goto 4) (4) 3 19 20 := ⟨by decide +kernel, rfl, rfl⟩
theorem e_X11_at_19 : DC cX11_at 19 (.iconst 0) 1 20 := ⟨by decide +kernel, rfl⟩
theorem e_X11_at_20 : DC cX11_at 20 (.ireturn) 1 21 := ⟨by decide +kernel, rfl⟩
noncomputable def m_X11_at_0 (t_row : Nat → Int) (v1 : Int) : Option (Int) :=
  (m_X11_in v1 0 99).bind (fun y1 => if y1 = 0 then (some (0)) else (chk (inB v1 100) (some (t_row (Int.toNat v1)))))

set_option maxRecDepth 10000 in
set_option maxHeartbeats 8000000 in
theorem g_X11_at_0 {l : Launch} {E : EE} {b0 n : Nat} {h : AH} {a_t : Nat} {t_thrown t_taped t_p t_fault t_baseLow t_baseHigh t_newBaseLow t_newBaseHigh t_from t_knots t_lines t_chosen t_undos t_redos t_aimedMany t_fits t_fitOf t_sights t_systems t_own t_cross t_curveLong t_wallFirst v1 : Int} {t_row : Nat → Int} {r : Int} (ao : AO b0 n [a_t, (a_t + 29)]) (ok_t_row : okA t_row) (ok_v1 : inI v1) (hs : m_X11_at_0 t_row v1 = some r) : G l E b0 M_X11_at (fun _ => True) (ZM E b0 (some (vI r)) (ov [a_t, (a_t + 29)] [.inr (11, fsX11 a_t t_thrown t_taped t_p t_fault t_baseLow t_baseHigh t_newBaseLow t_newBaseHigh t_from t_knots t_lines t_chosen t_undos t_redos t_aimedMany t_fits t_fitOf t_sights t_systems t_own t_cross t_curveLong t_wallFirst), IA E 100 t_row] h) n (inI r) 0 0) 0 0 n (ov [a_t, (a_t + 29)] [.inr (11, fsX11 a_t t_thrown t_taped t_p t_fault t_baseLow t_baseHigh t_newBaseLow t_newBaseHigh t_from t_knots t_lines t_chosen t_undos t_redos t_aimedMany t_fits t_fitOf t_sights t_systems t_own t_cross t_curveLong t_wallFirst), IA E 100 t_row] h) 0 [some (.ref a_t), some (vI v1)] [] := by
  rw [m_X11_at_0] at hs
  refine g_iload_n e_X11_at_0 rfl ?_
  refine g_iconst e_X11_at_1 ?_
  refine g_bipush e_X11_at_2 bp_99 ?_
  obtain ⟨y1, hy1, hs⟩ := bind_elim hs
  refine g_callSr [vI v1, vI 0, vI 99] cs_X11_226 ⟨rfl, rfl, Nat.le_of_ble_eq_true rfl, Nat.le_of_ble_eq_true rfl⟩ (ct_X11_in ⟨List.nodup_nil, fun i a h => by simp at h⟩ (fun i a e h => by simp at h) ok_v1 (by decide : inI 0) (by decide : inI 99) hy1) e_X11_at_4 rfl rfl (Nat.le_of_ble_eq_true rfl) ⟨Nat.le_refl _, Nat.le_refl _⟩ (fun Py1 => ?_)
  refine g_if_eq e_X11_at_7 (inZ_I Py1) hs (fun c7 hs => ?_) (fun c7 hs => ?_)
  · refine g_iconst e_X11_at_19 ?_
    obtain rfl := Option.some.inj hs
    exact g_iret rfl (by decide : inI 0) e_X11_at_20
  · refine g_aload_n e_X11_at_10 rfl ?_
    refine g_get 0 40 ao rfl rfl fsX11_g40 fl_X11_97 e_X11_at_11 ?_
    refine g_iload_n e_X11_at_14 rfl ?_
    refine g_iald 1 ao rfl rfl (Nat.le_of_ble_eq_true rfl) e_X11_at_15 hs (fun hi2 hs => ?_)
    refine g_goto e_X11_at_16 ?_
    obtain rfl := Option.some.inj hs
    exact g_iret rfl (ok_t_row _) e_X11_at_20

noncomputable def m_X11_at (t_row : Nat → Int) (v1 : Int) : Option (Int) := m_X11_at_0 t_row v1

set_option maxRecDepth 10000 in
set_option maxHeartbeats 8000000 in
theorem ct_X11_at {l : Launch} {E : EE} {b0 n : Nat} {h : AH} {a_t : Nat} {t_thrown t_taped t_p t_fault t_baseLow t_baseHigh t_newBaseLow t_newBaseHigh t_from t_knots t_lines t_chosen t_undos t_redos t_aimedMany t_fits t_fitOf t_sights t_systems t_own t_cross t_curveLong t_wallFirst : Int} {t_row : Nat → Int} {v1 : Int} (ao : AO b0 n [a_t, (a_t + 29)]) (hf : FA h [a_t, (a_t + 29)] [.inr (11, fsX11 a_t t_thrown t_taped t_p t_fault t_baseLow t_baseHigh t_newBaseLow t_newBaseHigh t_from t_knots t_lines t_chosen t_undos t_redos t_aimedMany t_fits t_fitOf t_sights t_systems t_own t_cross t_curveLong t_wallFirst), IA E 100 t_row]) (ok_t_row : okA t_row) (ok_v1 : inI v1) {r : Int} (hm : m_X11_at t_row v1 = some r) : Ct l E b0 M_X11_at 0 0 [.ref a_t, vI v1] h n (some (vI r)) h n (inI r) := by
  rw [m_X11_at] at hm
  have hg : G l E b0 M_X11_at (fun _ => True) (ZM E b0 (some (vI r)) (ov [a_t, (a_t + 29)] [.inr (11, fsX11 a_t t_thrown t_taped t_p t_fault t_baseLow t_baseHigh t_newBaseLow t_newBaseHigh t_from t_knots t_lines t_chosen t_undos t_redos t_aimedMany t_fits t_fitOf t_sights t_systems t_own t_cross t_curveLong t_wallFirst), IA E 100 t_row] h) n (inI r) 0 0) 0 0 n (ov [a_t, (a_t + 29)] [.inr (11, fsX11 a_t t_thrown t_taped t_p t_fault t_baseLow t_baseHigh t_newBaseLow t_newBaseHigh t_from t_knots t_lines t_chosen t_undos t_redos t_aimedMany t_fits t_fitOf t_sights t_systems t_own t_cross t_curveLong t_wallFirst), IA E 100 t_row] h) 0 [some (.ref a_t), some (vI v1)] [] := by
    have hs := hm
    exact g_X11_at_0 ao ok_t_row ok_v1 hs
  rw [FA_id hf] at hg
  exact Ct_of [some (.ref a_t), some (vI v1)] ⟨by decide +kernel, rfl⟩ rfl (Nat.le_of_ble_eq_true rfl) hg

/-! ===== X11_feels_ ===== -/
theorem e_X11_feels__0 : DC cX11_feels_ 0 (.iload_n 1) 1 1 := ⟨by decide +kernel, rfl⟩
theorem e_X11_feels__1 : DC cX11_feels_ 1 (.iconst 0) 1 2 := ⟨by decide +kernel, rfl⟩
theorem e_X11_feels__2 : DC cX11_feels_ 2 (.bipush 99) 2 4 := ⟨by decide +kernel, rfl⟩
theorem e_X11_feels__4 : DC cX11_feels_ 4 (.invokestatic 226) 3 7 := ⟨by decide +kernel, rfl⟩
theorem e_X11_feels__7 : DB cX11_feels_ 7 (.ifCond .eq 25) (25) 3 10 32 := ⟨by decide +kernel, rfl, rfl⟩
theorem e_X11_feels__10 : DC cX11_feels_ 10 (.iload_n 2) 1 11 := ⟨by decide +kernel, rfl⟩
theorem e_X11_feels__11 : DC cX11_feels_ 11 (.sipush (-9999)) 3 14 := ⟨by decide +kernel, rfl⟩
theorem e_X11_feels__14 : DC cX11_feels_ 14 (.sipush 9999) 3 17 := ⟨by decide +kernel, rfl⟩
theorem e_X11_feels__17 : DC cX11_feels_ 17 (.invokestatic 226) 3 20 := ⟨by decide +kernel, rfl⟩
theorem e_X11_feels__20 : DB cX11_feels_ 20 (.ifCond .eq 12) (12) 3 23 32 := ⟨by decide +kernel, rfl, rfl⟩
theorem e_X11_feels__23 : DC cX11_feels_ 23 (.aload_n 0) 1 24 := ⟨by decide +kernel, rfl⟩
theorem e_X11_feels__24 : DC cX11_feels_ 24 (.getfield 97) 3 27 := ⟨by decide +kernel, rfl⟩
theorem e_X11_feels__27 : DC cX11_feels_ 27 (.iload_n 1) 1 28 := ⟨by decide +kernel, rfl⟩
theorem e_X11_feels__28 : DC cX11_feels_ 28 (.iaload) 1 29 := ⟨by decide +kernel, rfl⟩
theorem e_X11_feels__29 : DB cX11_feels_ 29 (.ifCond .ne 7) (7) 3 32 36 := ⟨by decide +kernel, rfl, rfl⟩
theorem e_X11_feels__32 : DC cX11_feels_ 32 (.ldc_w 301) 3 35 := ⟨by decide +kernel, rfl⟩
theorem e_X11_feels__35 : DC cX11_feels_ 35 (.ireturn) 1 36 := ⟨by decide +kernel, rfl⟩
theorem e_X11_feels__36 : DC cX11_feels_ 36 (.aload_n 0) 1 37 := ⟨by decide +kernel, rfl⟩
theorem e_X11_feels__37 : DC cX11_feels_ 37 (.invokevirtual 362) 3 40 := ⟨by decide +kernel, rfl⟩
theorem e_X11_feels__40 : DC cX11_feels_ 40 (.aload_n 0) 1 41 := ⟨by decide +kernel, rfl⟩
theorem e_X11_feels__41 : DC cX11_feels_ 41 (.iload_n 1) 1 42 := ⟨by decide +kernel, rfl⟩
theorem e_X11_feels__42 : DC cX11_feels_ 42 (.aload_n 0) 1 43 := ⟨by decide +kernel, rfl⟩
theorem e_X11_feels__43 : DC cX11_feels_ 43 (.getfield 97) 3 46 := ⟨by decide +kernel, rfl⟩
theorem e_X11_feels__46 : DC cX11_feels_ 46 (.iload_n 1) 1 47 := ⟨by decide +kernel, rfl⟩
theorem e_X11_feels__47 : DC cX11_feels_ 47 (.iaload) 1 48 := ⟨by decide +kernel, rfl⟩
theorem e_X11_feels__48 : DC cX11_feels_ 48 (.iload_n 2) 1 49 := ⟨by decide +kernel, rfl⟩
theorem e_X11_feels__49 : DC cX11_feels_ 49 (.invokevirtual 331) 3 52 := ⟨by decide +kernel, rfl⟩
theorem e_X11_feels__52 : DC cX11_feels_ 52 (.ireturn) 1 53 := ⟨by decide +kernel, rfl⟩
noncomputable def m_X11_feels__0 (t_push : Nat → Int) (t_cur : Nat → Int) (t_pushAt : Nat → Int) (t_curSum : Nat → Int) (t_row : Nat → Int) (t_sums : Nat → Int) (v1 : Int) (v2 : Int) : Option (Int × (Nat → Int) × (Nat → Int) × (Nat → Int)) :=
  (m_X11_in v1 0 99).bind (fun y1 => if y1 = 0 then (some ((-1000000000), t_cur, t_pushAt, t_curSum)) else ((m_X11_in v2 (-9999) 9999).bind (fun y2 => if y2 = 0 then (some ((-1000000000), t_cur, t_pushAt, t_curSum)) else (chk (inB v1 100) (if (t_row (Int.toNat v1)) = 0 then (some ((-1000000000), t_cur, t_pushAt, t_curSum)) else ((m_X11_atHand t_push t_cur t_pushAt t_curSum t_row t_sums).bind (fun y4 => chk (inB v1 100) ((m_X11_feels y4.1 y4.2.1 v1 (t_row (Int.toNat v1)) v2).bind (fun y6 => some (y6, y4.1, y4.2.1, y4.2.2))))))))))

set_option maxRecDepth 10000 in
set_option maxHeartbeats 8000000 in
theorem g_X11_feels__0 {l : Launch} {E : EE} {b0 n : Nat} {h : AH} {a_t : Nat} {t_thrown t_taped t_p t_fault t_baseLow t_baseHigh t_newBaseLow t_newBaseHigh t_from t_knots t_lines t_chosen t_undos t_redos t_aimedMany t_fits t_fitOf t_sights t_systems t_own t_cross t_curveLong t_wallFirst v1 v2 : Int} {t_push t_cur t_pushAt t_curSum t_row t_sums : Nat → Int} {r : Int × (Nat → Int) × (Nat → Int) × (Nat → Int)} (ao : AO b0 n [a_t, (a_t + 6), (a_t + 24), (a_t + 27), (a_t + 28), (a_t + 29), (a_t + 31)]) (ok_t_push : okA t_push) (ok_t_cur : okA t_cur) (ok_t_pushAt : okA t_pushAt) (ok_t_curSum : okJ t_curSum) (ok_t_row : okA t_row) (ok_t_sums : okJ t_sums) (ok_v1 : inI v1) (ok_v2 : inI v2) (hs : m_X11_feels__0 t_push t_cur t_pushAt t_curSum t_row t_sums v1 v2 = some r) : G l E b0 M_X11_feels_ (fun _ => True) (ZM E b0 (some (vI r.1)) (ov [a_t, (a_t + 6), (a_t + 24), (a_t + 27), (a_t + 28), (a_t + 29), (a_t + 31)] [.inr (11, fsX11 a_t t_thrown t_taped t_p t_fault t_baseLow t_baseHigh t_newBaseLow t_newBaseHigh t_from t_knots t_lines t_chosen t_undos t_redos t_aimedMany t_fits t_fitOf t_sights t_systems t_own t_cross t_curveLong t_wallFirst), IA E 21 t_push, IA E 100 r.2.1, IA E 21 r.2.2.1, JA E 6 r.2.2.2, IA E 100 t_row, JA E 6 t_sums] h) n (inI r.1 ∧ okA r.2.1 ∧ okA r.2.2.1 ∧ okJ r.2.2.2) 0 0) 0 0 n (ov [a_t, (a_t + 6), (a_t + 24), (a_t + 27), (a_t + 28), (a_t + 29), (a_t + 31)] [.inr (11, fsX11 a_t t_thrown t_taped t_p t_fault t_baseLow t_baseHigh t_newBaseLow t_newBaseHigh t_from t_knots t_lines t_chosen t_undos t_redos t_aimedMany t_fits t_fitOf t_sights t_systems t_own t_cross t_curveLong t_wallFirst), IA E 21 t_push, IA E 100 t_cur, IA E 21 t_pushAt, JA E 6 t_curSum, IA E 100 t_row, JA E 6 t_sums] h) 0 [some (.ref a_t), some (vI v1), some (vI v2)] [] := by
  rw [m_X11_feels__0] at hs
  refine g_iload_n e_X11_feels__0 rfl ?_
  refine g_iconst e_X11_feels__1 ?_
  refine g_bipush e_X11_feels__2 bp_99 ?_
  obtain ⟨y1, hy1, hs⟩ := bind_elim hs
  refine g_callSr [vI v1, vI 0, vI 99] cs_X11_226 ⟨rfl, rfl, Nat.le_of_ble_eq_true rfl, Nat.le_of_ble_eq_true rfl⟩ (ct_X11_in ⟨List.nodup_nil, fun i a h => by simp at h⟩ (fun i a e h => by simp at h) ok_v1 (by decide : inI 0) (by decide : inI 99) hy1) e_X11_feels__4 rfl rfl (Nat.le_of_ble_eq_true rfl) ⟨Nat.le_refl _, Nat.le_refl _⟩ (fun Py1 => ?_)
  refine g_if_eq e_X11_feels__7 (inZ_I Py1) hs (fun c7 hs => ?_) (fun c7 hs => ?_)
  · refine g_ldcw (a := -1000000000) e_X11_feels__32 k_X11_301 ?_
    obtain rfl := Option.some.inj hs
    exact g_iret rfl ⟨(by decide : inI (-1000000000)), ok_t_cur, ok_t_pushAt, ok_t_curSum⟩ e_X11_feels__35
  · refine g_iload_n e_X11_feels__10 rfl ?_
    refine g_sipush e_X11_feels__11 sp_m9999 ?_
    refine g_sipush e_X11_feels__14 sp_9999 ?_
    obtain ⟨y2, hy2, hs⟩ := bind_elim hs
    refine g_callSr [vI v2, vI (-9999), vI 9999] cs_X11_226 ⟨rfl, rfl, Nat.le_of_ble_eq_true rfl, Nat.le_of_ble_eq_true rfl⟩ (ct_X11_in ⟨List.nodup_nil, fun i a h => by simp at h⟩ (fun i a e h => by simp at h) ok_v2 (by decide : inI (-9999)) (by decide : inI 9999) hy2) e_X11_feels__17 rfl rfl (Nat.le_of_ble_eq_true rfl) ⟨Nat.le_refl _, Nat.le_refl _⟩ (fun Py2 => ?_)
    refine g_if_eq e_X11_feels__20 (inZ_I Py2) hs (fun c20 hs => ?_) (fun c20 hs => ?_)
    · refine g_ldcw (a := -1000000000) e_X11_feels__32 k_X11_301 ?_
      obtain rfl := Option.some.inj hs
      exact g_iret rfl ⟨(by decide : inI (-1000000000)), ok_t_cur, ok_t_pushAt, ok_t_curSum⟩ e_X11_feels__35
    · refine g_aload_n e_X11_feels__23 rfl ?_
      refine g_get 0 40 ao rfl rfl fsX11_g40 fl_X11_97 e_X11_feels__24 ?_
      refine g_iload_n e_X11_feels__27 rfl ?_
      refine g_iald 5 ao rfl rfl (Nat.le_of_ble_eq_true rfl) e_X11_feels__28 hs (fun hi3 hs => ?_)
      refine g_if_ne e_X11_feels__29 (ok_t_row _) hs (fun c29 hs => ?_) (fun c29 hs => ?_)
      · refine g_ldcw (a := -1000000000) e_X11_feels__32 k_X11_301 ?_
        obtain rfl := Option.some.inj hs
        exact g_iret rfl ⟨(by decide : inI (-1000000000)), ok_t_cur, ok_t_pushAt, ok_t_curSum⟩ e_X11_feels__35
      · refine g_aload_n e_X11_feels__36 rfl ?_
        obtain ⟨y4, hy4, hs⟩ := bind_elim hs
        refine g_callVv [] cv_X11_362 ⟨rfl, rfl, Nat.le_of_ble_eq_true rfl, Nat.le_of_ble_eq_true rfl⟩ (Ct_heap (ct_X11_atHand (a_t := a_t) (AO_call [0, 1, 2, 3, 4, 5, 6] ao (by decide) rfl) (FA_call [0, 1, 2, 3, 4, 5, 6] ao.1 rfl rfl) ok_t_push ok_t_cur ok_t_pushAt ok_t_curSum ok_t_row ok_t_sums hy4) (ov_call (esn := [.inr (11, fsX11 a_t t_thrown t_taped t_p t_fault t_baseLow t_baseHigh t_newBaseLow t_newBaseHigh t_from t_knots t_lines t_chosen t_undos t_redos t_aimedMany t_fits t_fitOf t_sights t_systems t_own t_cross t_curveLong t_wallFirst), IA E 21 t_push, IA E 100 y4.1, IA E 21 y4.2.1, JA E 6 y4.2.2, IA E 100 t_row, JA E 6 t_sums]) [0, 1, 2, 3, 4, 5, 6] ao.1 rfl rfl rfl rfl)) e_X11_feels__37 (ao.2 0 _ rfl) (ov_get 0 ao.1 rfl rfl) rfl rfl rfl (Nat.le_of_ble_eq_true rfl) ⟨Nat.le_refl _, Nat.le_refl _⟩ (fun Py4 => ?_)
        refine g_aload_n e_X11_feels__40 rfl ?_
        refine g_iload_n e_X11_feels__41 rfl ?_
        refine g_aload_n e_X11_feels__42 rfl ?_
        refine g_get 0 40 ao rfl rfl fsX11_g40 fl_X11_97 e_X11_feels__43 ?_
        refine g_iload_n e_X11_feels__46 rfl ?_
        refine g_iald 5 ao rfl rfl (Nat.le_of_ble_eq_true rfl) e_X11_feels__47 hs (fun hi5 hs => ?_)
        refine g_iload_n e_X11_feels__48 rfl ?_
        obtain ⟨y6, hy6, hs⟩ := bind_elim hs
        refine g_callVr [vI v1, vI (t_row (Int.toNat v1)), vI v2] cv_X11_331 ⟨rfl, rfl, Nat.le_of_ble_eq_true rfl, Nat.le_of_ble_eq_true rfl⟩ (ct_X11_feels (a_t := a_t) (AO_call [0, 2, 3] ao (by decide) rfl) (FA_call [0, 2, 3] ao.1 rfl rfl) Py4.1 Py4.2.1 ok_v1 (ok_t_row _) ok_v2 hy6) e_X11_feels__49 (ao.2 0 _ rfl) (ov_get 0 ao.1 rfl rfl) rfl rfl rfl (Nat.le_of_ble_eq_true rfl) ⟨Nat.le_refl _, Nat.le_refl _⟩ (fun Py6 => ?_)
        obtain rfl := Option.some.inj hs
        exact g_iret rfl ⟨Py6, Py4.1, Py4.2.1, Py4.2.2⟩ e_X11_feels__52

noncomputable def m_X11_feels_ (t_push : Nat → Int) (t_cur : Nat → Int) (t_pushAt : Nat → Int) (t_curSum : Nat → Int) (t_row : Nat → Int) (t_sums : Nat → Int) (v1 : Int) (v2 : Int) : Option (Int × (Nat → Int) × (Nat → Int) × (Nat → Int)) := m_X11_feels__0 t_push t_cur t_pushAt t_curSum t_row t_sums v1 v2

set_option maxRecDepth 10000 in
set_option maxHeartbeats 8000000 in
theorem ct_X11_feels_ {l : Launch} {E : EE} {b0 n : Nat} {h : AH} {a_t : Nat} {t_thrown t_taped t_p t_fault t_baseLow t_baseHigh t_newBaseLow t_newBaseHigh t_from t_knots t_lines t_chosen t_undos t_redos t_aimedMany t_fits t_fitOf t_sights t_systems t_own t_cross t_curveLong t_wallFirst : Int} {t_push t_cur t_pushAt t_curSum t_row t_sums : Nat → Int} {v1 v2 : Int} (ao : AO b0 n [a_t, (a_t + 6), (a_t + 24), (a_t + 27), (a_t + 28), (a_t + 29), (a_t + 31)]) (hf : FA h [a_t, (a_t + 6), (a_t + 24), (a_t + 27), (a_t + 28), (a_t + 29), (a_t + 31)] [.inr (11, fsX11 a_t t_thrown t_taped t_p t_fault t_baseLow t_baseHigh t_newBaseLow t_newBaseHigh t_from t_knots t_lines t_chosen t_undos t_redos t_aimedMany t_fits t_fitOf t_sights t_systems t_own t_cross t_curveLong t_wallFirst), IA E 21 t_push, IA E 100 t_cur, IA E 21 t_pushAt, JA E 6 t_curSum, IA E 100 t_row, JA E 6 t_sums]) (ok_t_push : okA t_push) (ok_t_cur : okA t_cur) (ok_t_pushAt : okA t_pushAt) (ok_t_curSum : okJ t_curSum) (ok_t_row : okA t_row) (ok_t_sums : okJ t_sums) (ok_v1 : inI v1) (ok_v2 : inI v2) {r : Int × (Nat → Int) × (Nat → Int) × (Nat → Int)} (hm : m_X11_feels_ t_push t_cur t_pushAt t_curSum t_row t_sums v1 v2 = some r) : Ct l E b0 M_X11_feels_ 0 0 [.ref a_t, vI v1, vI v2] h n (some (vI r.1)) (ov [a_t, (a_t + 6), (a_t + 24), (a_t + 27), (a_t + 28), (a_t + 29), (a_t + 31)] [.inr (11, fsX11 a_t t_thrown t_taped t_p t_fault t_baseLow t_baseHigh t_newBaseLow t_newBaseHigh t_from t_knots t_lines t_chosen t_undos t_redos t_aimedMany t_fits t_fitOf t_sights t_systems t_own t_cross t_curveLong t_wallFirst), IA E 21 t_push, IA E 100 r.2.1, IA E 21 r.2.2.1, JA E 6 r.2.2.2, IA E 100 t_row, JA E 6 t_sums] h) n (inI r.1 ∧ okA r.2.1 ∧ okA r.2.2.1 ∧ okJ r.2.2.2) := by
  rw [m_X11_feels_] at hm
  have hg : G l E b0 M_X11_feels_ (fun _ => True) (ZM E b0 (some (vI r.1)) (ov [a_t, (a_t + 6), (a_t + 24), (a_t + 27), (a_t + 28), (a_t + 29), (a_t + 31)] [.inr (11, fsX11 a_t t_thrown t_taped t_p t_fault t_baseLow t_baseHigh t_newBaseLow t_newBaseHigh t_from t_knots t_lines t_chosen t_undos t_redos t_aimedMany t_fits t_fitOf t_sights t_systems t_own t_cross t_curveLong t_wallFirst), IA E 21 t_push, IA E 100 r.2.1, IA E 21 r.2.2.1, JA E 6 r.2.2.2, IA E 100 t_row, JA E 6 t_sums] h) n (inI r.1 ∧ okA r.2.1 ∧ okA r.2.2.1 ∧ okJ r.2.2.2) 0 0) 0 0 n (ov [a_t, (a_t + 6), (a_t + 24), (a_t + 27), (a_t + 28), (a_t + 29), (a_t + 31)] [.inr (11, fsX11 a_t t_thrown t_taped t_p t_fault t_baseLow t_baseHigh t_newBaseLow t_newBaseHigh t_from t_knots t_lines t_chosen t_undos t_redos t_aimedMany t_fits t_fitOf t_sights t_systems t_own t_cross t_curveLong t_wallFirst), IA E 21 t_push, IA E 100 t_cur, IA E 21 t_pushAt, JA E 6 t_curSum, IA E 100 t_row, JA E 6 t_sums] h) 0 [some (.ref a_t), some (vI v1), some (vI v2)] [] := by
    have hs := hm
    exact g_X11_feels__0 ao ok_t_push ok_t_cur ok_t_pushAt ok_t_curSum ok_t_row ok_t_sums ok_v1 ok_v2 hs
  rw [FA_id hf] at hg
  exact Ct_of [some (.ref a_t), some (vI v1), some (vI v2)] ⟨by decide +kernel, rfl⟩ rfl (Nat.le_of_ble_eq_true rfl) hg

/-! ===== X11_clear ===== -/
theorem e_X11_clear_0 : DC cX11_clear 0 (.aload_n 0) 1 1 := ⟨by decide +kernel, rfl⟩
theorem e_X11_clear_1 : DC cX11_clear 1 (.invokevirtual 362) 3 4 := ⟨by decide +kernel, rfl⟩
theorem e_X11_clear_4 : DC cX11_clear 4 (.aload_n 0) 1 5 := ⟨by decide +kernel, rfl⟩
theorem e_X11_clear_5 : DC cX11_clear 5 (.invokevirtual 337) 3 8 := ⟨by decide +kernel, rfl⟩
theorem e_X11_clear_8 : DC cX11_clear 8 (.istore_n 1) 1 9 := ⟨by decide +kernel, rfl⟩
theorem e_X11_clear_9 : DC cX11_clear 9 (.aload_n 0) 1 10 := ⟨by decide +kernel, rfl⟩
theorem e_X11_clear_10 : DC cX11_clear 10 (.invokevirtual 365) 3 13 := ⟨by decide +kernel, rfl⟩
theorem e_X11_clear_13 : DC cX11_clear 13 (.iconst 0) 1 14 := ⟨by decide +kernel, rfl⟩
theorem e_X11_clear_14 : DC cX11_clear 14 (.istore_n 2) 1 15 := ⟨by decide +kernel, rfl⟩
theorem e_X11_clear_15 : DC cX11_clear 15 (.iload_n 2) 1 16 := ⟨by decide +kernel, rfl⟩
theorem e_X11_clear_16 : DC cX11_clear 16 (.bipush 100) 2 18 := ⟨by decide +kernel, rfl⟩
theorem e_X11_clear_18 : DB cX11_clear 18 (.if_icmp .ge 16) (16) 3 21 34 := ⟨by decide +kernel, rfl, rfl⟩
theorem e_X11_clear_21 : DC cX11_clear 21 (.aload_n 0) 1 22 := ⟨by decide +kernel, rfl⟩
theorem e_X11_clear_22 : DC cX11_clear 22 (.getfield 97) 3 25 := ⟨by decide +kernel, rfl⟩
theorem e_X11_clear_25 : DC cX11_clear 25 (.iload_n 2) 1 26 := ⟨by decide +kernel, rfl⟩
theorem e_X11_clear_26 : DC cX11_clear 26 (.iconst 0) 1 27 := ⟨by decide +kernel, rfl⟩
theorem e_X11_clear_27 : DC cX11_clear 27 (.iastore) 1 28 := ⟨by decide +kernel, rfl⟩
theorem e_X11_clear_28 : DC cX11_clear 28 (.iinc 2 1) 3 31 := ⟨by decide +kernel, rfl⟩
theorem e_X11_clear_31 : DB cX11_clear 31 (.goto (-16)) (-16) 3 34 15 := ⟨by decide +kernel, rfl, rfl⟩
theorem e_X11_clear_34 : DC cX11_clear 34 (.iconst 0) 1 35 := ⟨by decide +kernel, rfl⟩
theorem e_X11_clear_35 : DC cX11_clear 35 (.istore_n 2) 1 36 := ⟨by decide +kernel, rfl⟩
theorem e_X11_clear_36 : DC cX11_clear 36 (.iload_n 2) 1 37 := ⟨by decide +kernel, rfl⟩
theorem e_X11_clear_37 : DC cX11_clear 37 (.bipush 6) 2 39 := ⟨by decide +kernel, rfl⟩
theorem e_X11_clear_39 : DB cX11_clear 39 (.if_icmp .ge 16) (16) 3 42 55 := ⟨by decide +kernel, rfl, rfl⟩
theorem e_X11_clear_42 : DC cX11_clear 42 (.aload_n 0) 1 43 := ⟨by decide +kernel, rfl⟩
theorem e_X11_clear_43 : DC cX11_clear 43 (.getfield 103) 3 46 := ⟨by decide +kernel, rfl⟩
theorem e_X11_clear_46 : DC cX11_clear 46 (.iload_n 2) 1 47 := ⟨by decide +kernel, rfl⟩
theorem e_X11_clear_47 : DC cX11_clear 47 (.lconst 0) 1 48 := ⟨by decide +kernel, rfl⟩
theorem e_X11_clear_48 : DC cX11_clear 48 (.lastore) 1 49 := ⟨by decide +kernel, rfl⟩
theorem e_X11_clear_49 : DC cX11_clear 49 (.iinc 2 1) 3 52 := ⟨by decide +kernel, rfl⟩
theorem e_X11_clear_52 : DB cX11_clear 52 (.goto (-16)) (-16) 3 55 36 := ⟨by decide +kernel, rfl, rfl⟩
theorem e_X11_clear_55 : DC cX11_clear 55 (.iload_n 1) 1 56 := ⟨by decide +kernel, rfl⟩
theorem e_X11_clear_56 : DC cX11_clear 56 (.ireturn) 1 57 := ⟨by decide +kernel, rfl⟩
noncomputable def m_X11_clear_15 (k_34 : (Nat → Int) → Int → Option (Int × Int × Int × (Nat → Int) × (Nat → Int) × (Nat → Int) × (Nat → Int) × (Nat → Int) × (Nat → Int) × (Nat → Int))) : Nat → (Nat → Int) → Int → Option (Int × Int × Int × (Nat → Int) × (Nat → Int) × (Nat → Int) × (Nat → Int) × (Nat → Int) × (Nat → Int) × (Nat → Int))
  | 0, _, _ => none
  | F + 1, t_row, v2 => if 100 ≤ v2 then (k_34 t_row v2) else (chk (inB v2 100) (chk (inI (v2 + 1)) (m_X11_clear_15 k_34 F (up t_row (Int.toNat v2) 0) (v2 + 1))))

set_option maxRecDepth 10000 in
set_option maxHeartbeats 8000000 in
theorem g_X11_clear_15 {l : Launch} {E : EE} {b0 n : Nat} {h : AH} {a_t : Nat} {t_thrown t_taped t_p t_fault t_baseLow t_baseHigh t_newBaseLow t_newBaseHigh t_from t_knots t_lines t_chosen t_undos t_redos t_aimedMany t_fits t_fitOf t_sights t_systems t_own t_cross t_curveLong t_wallFirst v1 : Int} {t_push t_cur t_pushAt t_curSum t_sums t_undoRow t_undoSum : Nat → Int} {r : Int × Int × Int × (Nat → Int) × (Nat → Int) × (Nat → Int) × (Nat → Int) × (Nat → Int) × (Nat → Int) × (Nat → Int)} {k_34 : (Nat → Int) → Int → Option (Int × Int × Int × (Nat → Int) × (Nat → Int) × (Nat → Int) × (Nat → Int) × (Nat → Int) × (Nat → Int) × (Nat → Int))} (ao : AO b0 n [a_t, (a_t + 6), (a_t + 24), (a_t + 27), (a_t + 28), (a_t + 29), (a_t + 31), (a_t + 32), (a_t + 34)]) (ok_t_undos : inI t_undos) (ok_t_redos : inI t_redos) (ok_t_push : okA t_push) (ok_t_cur : okA t_cur) (ok_t_pushAt : okA t_pushAt) (ok_t_curSum : okJ t_curSum) (ok_t_sums : okJ t_sums) (ok_t_undoRow : okA t_undoRow) (ok_t_undoSum : okJ t_undoSum) (ok_v1 : inI v1) (hk_34 : ∀ (t_row_ : Nat → Int) (v2_ : Int), okA t_row_ → inI v2_ → k_34 t_row_ v2_ = some r → G l E b0 M_X11_clear (fun _ => True) (ZM E b0 (some (vI r.1)) (ov [a_t, (a_t + 6), (a_t + 24), (a_t + 27), (a_t + 28), (a_t + 29), (a_t + 31), (a_t + 32), (a_t + 34)] [.inr (11, fsX11 a_t t_thrown t_taped t_p t_fault t_baseLow t_baseHigh t_newBaseLow t_newBaseHigh t_from t_knots t_lines t_chosen r.2.1 r.2.2.1 t_aimedMany t_fits t_fitOf t_sights t_systems t_own t_cross t_curveLong t_wallFirst), IA E 21 t_push, IA E 100 r.2.2.2.1, IA E 21 r.2.2.2.2.1, JA E 6 r.2.2.2.2.2.1, IA E 100 r.2.2.2.2.2.2.1, JA E 6 r.2.2.2.2.2.2.2.1, IA E 5000 r.2.2.2.2.2.2.2.2.1, JA E 300 r.2.2.2.2.2.2.2.2.2] h) n (inI r.1 ∧ inI r.2.1 ∧ inI r.2.2.1 ∧ okA r.2.2.2.1 ∧ okA r.2.2.2.2.1 ∧ okJ r.2.2.2.2.2.1 ∧ okA r.2.2.2.2.2.2.1 ∧ okJ r.2.2.2.2.2.2.2.1 ∧ okA r.2.2.2.2.2.2.2.2.1 ∧ okJ r.2.2.2.2.2.2.2.2.2) 0 0) 0 0 n (ov [a_t, (a_t + 6), (a_t + 24), (a_t + 27), (a_t + 28), (a_t + 29), (a_t + 31), (a_t + 32), (a_t + 34)] [.inr (11, fsX11 a_t t_thrown t_taped t_p t_fault t_baseLow t_baseHigh t_newBaseLow t_newBaseHigh t_from t_knots t_lines t_chosen t_undos t_redos t_aimedMany t_fits t_fitOf t_sights t_systems t_own t_cross t_curveLong t_wallFirst), IA E 21 t_push, IA E 100 t_cur, IA E 21 t_pushAt, JA E 6 t_curSum, IA E 100 t_row_, JA E 6 t_sums, IA E 5000 t_undoRow, JA E 300 t_undoSum] h) 34 [some (.ref a_t), some (vI v1), none] []) :
    ∀ (F : Nat) (t_row : Nat → Int) (v2 : Int), okA t_row → inI v2 → m_X11_clear_15 k_34 F t_row v2 = some r → G l E b0 M_X11_clear (fun _ => True) (ZM E b0 (some (vI r.1)) (ov [a_t, (a_t + 6), (a_t + 24), (a_t + 27), (a_t + 28), (a_t + 29), (a_t + 31), (a_t + 32), (a_t + 34)] [.inr (11, fsX11 a_t t_thrown t_taped t_p t_fault t_baseLow t_baseHigh t_newBaseLow t_newBaseHigh t_from t_knots t_lines t_chosen r.2.1 r.2.2.1 t_aimedMany t_fits t_fitOf t_sights t_systems t_own t_cross t_curveLong t_wallFirst), IA E 21 t_push, IA E 100 r.2.2.2.1, IA E 21 r.2.2.2.2.1, JA E 6 r.2.2.2.2.2.1, IA E 100 r.2.2.2.2.2.2.1, JA E 6 r.2.2.2.2.2.2.2.1, IA E 5000 r.2.2.2.2.2.2.2.2.1, JA E 300 r.2.2.2.2.2.2.2.2.2] h) n (inI r.1 ∧ inI r.2.1 ∧ inI r.2.2.1 ∧ okA r.2.2.2.1 ∧ okA r.2.2.2.2.1 ∧ okJ r.2.2.2.2.2.1 ∧ okA r.2.2.2.2.2.2.1 ∧ okJ r.2.2.2.2.2.2.2.1 ∧ okA r.2.2.2.2.2.2.2.2.1 ∧ okJ r.2.2.2.2.2.2.2.2.2) 0 0) 0 0 n (ov [a_t, (a_t + 6), (a_t + 24), (a_t + 27), (a_t + 28), (a_t + 29), (a_t + 31), (a_t + 32), (a_t + 34)] [.inr (11, fsX11 a_t t_thrown t_taped t_p t_fault t_baseLow t_baseHigh t_newBaseLow t_newBaseHigh t_from t_knots t_lines t_chosen t_undos t_redos t_aimedMany t_fits t_fitOf t_sights t_systems t_own t_cross t_curveLong t_wallFirst), IA E 21 t_push, IA E 100 t_cur, IA E 21 t_pushAt, JA E 6 t_curSum, IA E 100 t_row, JA E 6 t_sums, IA E 5000 t_undoRow, JA E 300 t_undoSum] h) 15 [some (.ref a_t), some (vI v1), some (vI v2)] [] := by
  intro F
  induction F with
  | zero =>
    intro t_row v2 ok_t_row ok_v2 hs
    rw [m_X11_clear_15] at hs
    cases hs
  | succ F ih =>
    intro t_row v2 ok_t_row ok_v2 hs
    rw [m_X11_clear_15] at hs
    refine g_iload_n e_X11_clear_15 rfl ?_
    refine g_bipush e_X11_clear_16 bp_100 ?_
    refine g_icmp_ge e_X11_clear_18 ok_v2 (by decide : inI 100) hs (fun c18 hs => ?_) (fun c18 hs => ?_)
    · exact g_mask [true, true, false] (hk_34 _ _ ok_t_row ok_v2 hs)
    · refine g_aload_n e_X11_clear_21 rfl ?_
      refine g_get 0 40 ao rfl rfl fsX11_g40 fl_X11_97 e_X11_clear_22 ?_
      refine g_iload_n e_X11_clear_25 rfl ?_
      refine g_iconst e_X11_clear_26 ?_
      refine g_iast 5 ao rfl rfl ls_5 (Nat.le_of_ble_eq_true rfl) e_X11_clear_27 hs (fun hi4 hs => ?_)
      refine g_iinc e_X11_clear_28 rfl st1_2 rfl ?_
      refine g_goto e_X11_clear_31 ?_
      obtain ⟨hc5, hs⟩ := chk_elim hs
      exact ih _ _ (okA_up ok_t_row (by decide : inI 0)) hc5 hs

noncomputable def m_X11_clear_36 (k_55 : (Nat → Int) → Int → Option (Int × Int × Int × (Nat → Int) × (Nat → Int) × (Nat → Int) × (Nat → Int) × (Nat → Int) × (Nat → Int) × (Nat → Int))) : Nat → (Nat → Int) → Int → Option (Int × Int × Int × (Nat → Int) × (Nat → Int) × (Nat → Int) × (Nat → Int) × (Nat → Int) × (Nat → Int) × (Nat → Int))
  | 0, _, _ => none
  | F + 1, t_sums, v2 => if 6 ≤ v2 then (k_55 t_sums v2) else (chk (inB v2 6) (chk (inI (v2 + 1)) (m_X11_clear_36 k_55 F (up t_sums (Int.toNat v2) 0) (v2 + 1))))

set_option maxRecDepth 10000 in
set_option maxHeartbeats 8000000 in
theorem g_X11_clear_36 {l : Launch} {E : EE} {b0 n : Nat} {h : AH} {a_t : Nat} {t_thrown t_taped t_p t_fault t_baseLow t_baseHigh t_newBaseLow t_newBaseHigh t_from t_knots t_lines t_chosen t_undos t_redos t_aimedMany t_fits t_fitOf t_sights t_systems t_own t_cross t_curveLong t_wallFirst v1 : Int} {t_push t_cur t_pushAt t_curSum t_row t_undoRow t_undoSum : Nat → Int} {r : Int × Int × Int × (Nat → Int) × (Nat → Int) × (Nat → Int) × (Nat → Int) × (Nat → Int) × (Nat → Int) × (Nat → Int)} {k_55 : (Nat → Int) → Int → Option (Int × Int × Int × (Nat → Int) × (Nat → Int) × (Nat → Int) × (Nat → Int) × (Nat → Int) × (Nat → Int) × (Nat → Int))} (ao : AO b0 n [a_t, (a_t + 6), (a_t + 24), (a_t + 27), (a_t + 28), (a_t + 29), (a_t + 31), (a_t + 32), (a_t + 34)]) (ok_t_undos : inI t_undos) (ok_t_redos : inI t_redos) (ok_t_push : okA t_push) (ok_t_cur : okA t_cur) (ok_t_pushAt : okA t_pushAt) (ok_t_curSum : okJ t_curSum) (ok_t_row : okA t_row) (ok_t_undoRow : okA t_undoRow) (ok_t_undoSum : okJ t_undoSum) (ok_v1 : inI v1) (hk_55 : ∀ (t_sums_ : Nat → Int) (v2_ : Int), okJ t_sums_ → inI v2_ → k_55 t_sums_ v2_ = some r → G l E b0 M_X11_clear (fun _ => True) (ZM E b0 (some (vI r.1)) (ov [a_t, (a_t + 6), (a_t + 24), (a_t + 27), (a_t + 28), (a_t + 29), (a_t + 31), (a_t + 32), (a_t + 34)] [.inr (11, fsX11 a_t t_thrown t_taped t_p t_fault t_baseLow t_baseHigh t_newBaseLow t_newBaseHigh t_from t_knots t_lines t_chosen r.2.1 r.2.2.1 t_aimedMany t_fits t_fitOf t_sights t_systems t_own t_cross t_curveLong t_wallFirst), IA E 21 t_push, IA E 100 r.2.2.2.1, IA E 21 r.2.2.2.2.1, JA E 6 r.2.2.2.2.2.1, IA E 100 r.2.2.2.2.2.2.1, JA E 6 r.2.2.2.2.2.2.2.1, IA E 5000 r.2.2.2.2.2.2.2.2.1, JA E 300 r.2.2.2.2.2.2.2.2.2] h) n (inI r.1 ∧ inI r.2.1 ∧ inI r.2.2.1 ∧ okA r.2.2.2.1 ∧ okA r.2.2.2.2.1 ∧ okJ r.2.2.2.2.2.1 ∧ okA r.2.2.2.2.2.2.1 ∧ okJ r.2.2.2.2.2.2.2.1 ∧ okA r.2.2.2.2.2.2.2.2.1 ∧ okJ r.2.2.2.2.2.2.2.2.2) 0 0) 0 0 n (ov [a_t, (a_t + 6), (a_t + 24), (a_t + 27), (a_t + 28), (a_t + 29), (a_t + 31), (a_t + 32), (a_t + 34)] [.inr (11, fsX11 a_t t_thrown t_taped t_p t_fault t_baseLow t_baseHigh t_newBaseLow t_newBaseHigh t_from t_knots t_lines t_chosen t_undos t_redos t_aimedMany t_fits t_fitOf t_sights t_systems t_own t_cross t_curveLong t_wallFirst), IA E 21 t_push, IA E 100 t_cur, IA E 21 t_pushAt, JA E 6 t_curSum, IA E 100 t_row, JA E 6 t_sums_, IA E 5000 t_undoRow, JA E 300 t_undoSum] h) 55 [none, some (vI v1), none] []) :
    ∀ (F : Nat) (t_sums : Nat → Int) (v2 : Int), okJ t_sums → inI v2 → m_X11_clear_36 k_55 F t_sums v2 = some r → G l E b0 M_X11_clear (fun _ => True) (ZM E b0 (some (vI r.1)) (ov [a_t, (a_t + 6), (a_t + 24), (a_t + 27), (a_t + 28), (a_t + 29), (a_t + 31), (a_t + 32), (a_t + 34)] [.inr (11, fsX11 a_t t_thrown t_taped t_p t_fault t_baseLow t_baseHigh t_newBaseLow t_newBaseHigh t_from t_knots t_lines t_chosen r.2.1 r.2.2.1 t_aimedMany t_fits t_fitOf t_sights t_systems t_own t_cross t_curveLong t_wallFirst), IA E 21 t_push, IA E 100 r.2.2.2.1, IA E 21 r.2.2.2.2.1, JA E 6 r.2.2.2.2.2.1, IA E 100 r.2.2.2.2.2.2.1, JA E 6 r.2.2.2.2.2.2.2.1, IA E 5000 r.2.2.2.2.2.2.2.2.1, JA E 300 r.2.2.2.2.2.2.2.2.2] h) n (inI r.1 ∧ inI r.2.1 ∧ inI r.2.2.1 ∧ okA r.2.2.2.1 ∧ okA r.2.2.2.2.1 ∧ okJ r.2.2.2.2.2.1 ∧ okA r.2.2.2.2.2.2.1 ∧ okJ r.2.2.2.2.2.2.2.1 ∧ okA r.2.2.2.2.2.2.2.2.1 ∧ okJ r.2.2.2.2.2.2.2.2.2) 0 0) 0 0 n (ov [a_t, (a_t + 6), (a_t + 24), (a_t + 27), (a_t + 28), (a_t + 29), (a_t + 31), (a_t + 32), (a_t + 34)] [.inr (11, fsX11 a_t t_thrown t_taped t_p t_fault t_baseLow t_baseHigh t_newBaseLow t_newBaseHigh t_from t_knots t_lines t_chosen t_undos t_redos t_aimedMany t_fits t_fitOf t_sights t_systems t_own t_cross t_curveLong t_wallFirst), IA E 21 t_push, IA E 100 t_cur, IA E 21 t_pushAt, JA E 6 t_curSum, IA E 100 t_row, JA E 6 t_sums, IA E 5000 t_undoRow, JA E 300 t_undoSum] h) 36 [some (.ref a_t), some (vI v1), some (vI v2)] [] := by
  intro F
  induction F with
  | zero =>
    intro t_sums v2 ok_t_sums ok_v2 hs
    rw [m_X11_clear_36] at hs
    cases hs
  | succ F ih =>
    intro t_sums v2 ok_t_sums ok_v2 hs
    rw [m_X11_clear_36] at hs
    refine g_iload_n e_X11_clear_36 rfl ?_
    refine g_bipush e_X11_clear_37 bp_6 ?_
    refine g_icmp_ge e_X11_clear_39 ok_v2 (by decide : inI 6) hs (fun c39 hs => ?_) (fun c39 hs => ?_)
    · exact g_mask [false, true, false] (hk_55 _ _ ok_t_sums ok_v2 hs)
    · refine g_aload_n e_X11_clear_42 rfl ?_
      refine g_get 0 42 ao rfl rfl fsX11_g42 fl_X11_103 e_X11_clear_43 ?_
      refine g_iload_n e_X11_clear_46 rfl ?_
      refine g_lconst (a := 0) e_X11_clear_47 rfl ?_
      refine g_last 6 ao rfl rfl ls_6 (Nat.le_of_ble_eq_true rfl) e_X11_clear_48 hs (fun hi6 hs => ?_)
      refine g_iinc e_X11_clear_49 rfl st1_2 rfl ?_
      refine g_goto e_X11_clear_52 ?_
      obtain ⟨hc7, hs⟩ := chk_elim hs
      exact ih _ _ (okJ_up ok_t_sums (by decide : inJ 0)) hc7 hs

noncomputable def m_X11_clear_55 (t_undos : Int) (t_redos : Int) (t_cur : Nat → Int) (t_pushAt : Nat → Int) (t_curSum : Nat → Int) (t_row : Nat → Int) (t_sums : Nat → Int) (t_undoRow : Nat → Int) (t_undoSum : Nat → Int) (v1 : Int) : Option (Int × Int × Int × (Nat → Int) × (Nat → Int) × (Nat → Int) × (Nat → Int) × (Nat → Int) × (Nat → Int) × (Nat → Int)) :=
  some (v1, t_undos, t_redos, t_cur, t_pushAt, t_curSum, t_row, t_sums, t_undoRow, t_undoSum)

set_option maxRecDepth 10000 in
set_option maxHeartbeats 8000000 in
theorem g_X11_clear_55 {l : Launch} {E : EE} {b0 n : Nat} {h : AH} {a_t : Nat} {t_thrown t_taped t_p t_fault t_baseLow t_baseHigh t_newBaseLow t_newBaseHigh t_from t_knots t_lines t_chosen t_undos t_redos t_aimedMany t_fits t_fitOf t_sights t_systems t_own t_cross t_curveLong t_wallFirst v1 : Int} {t_push t_cur t_pushAt t_curSum t_row t_sums t_undoRow t_undoSum : Nat → Int} {r : Int × Int × Int × (Nat → Int) × (Nat → Int) × (Nat → Int) × (Nat → Int) × (Nat → Int) × (Nat → Int) × (Nat → Int)} (ao : AO b0 n [a_t, (a_t + 6), (a_t + 24), (a_t + 27), (a_t + 28), (a_t + 29), (a_t + 31), (a_t + 32), (a_t + 34)]) (ok_t_undos : inI t_undos) (ok_t_redos : inI t_redos) (ok_t_push : okA t_push) (ok_t_cur : okA t_cur) (ok_t_pushAt : okA t_pushAt) (ok_t_curSum : okJ t_curSum) (ok_t_row : okA t_row) (ok_t_sums : okJ t_sums) (ok_t_undoRow : okA t_undoRow) (ok_t_undoSum : okJ t_undoSum) (ok_v1 : inI v1) (hs : m_X11_clear_55 t_undos t_redos t_cur t_pushAt t_curSum t_row t_sums t_undoRow t_undoSum v1 = some r) : G l E b0 M_X11_clear (fun _ => True) (ZM E b0 (some (vI r.1)) (ov [a_t, (a_t + 6), (a_t + 24), (a_t + 27), (a_t + 28), (a_t + 29), (a_t + 31), (a_t + 32), (a_t + 34)] [.inr (11, fsX11 a_t t_thrown t_taped t_p t_fault t_baseLow t_baseHigh t_newBaseLow t_newBaseHigh t_from t_knots t_lines t_chosen r.2.1 r.2.2.1 t_aimedMany t_fits t_fitOf t_sights t_systems t_own t_cross t_curveLong t_wallFirst), IA E 21 t_push, IA E 100 r.2.2.2.1, IA E 21 r.2.2.2.2.1, JA E 6 r.2.2.2.2.2.1, IA E 100 r.2.2.2.2.2.2.1, JA E 6 r.2.2.2.2.2.2.2.1, IA E 5000 r.2.2.2.2.2.2.2.2.1, JA E 300 r.2.2.2.2.2.2.2.2.2] h) n (inI r.1 ∧ inI r.2.1 ∧ inI r.2.2.1 ∧ okA r.2.2.2.1 ∧ okA r.2.2.2.2.1 ∧ okJ r.2.2.2.2.2.1 ∧ okA r.2.2.2.2.2.2.1 ∧ okJ r.2.2.2.2.2.2.2.1 ∧ okA r.2.2.2.2.2.2.2.2.1 ∧ okJ r.2.2.2.2.2.2.2.2.2) 0 0) 0 0 n (ov [a_t, (a_t + 6), (a_t + 24), (a_t + 27), (a_t + 28), (a_t + 29), (a_t + 31), (a_t + 32), (a_t + 34)] [.inr (11, fsX11 a_t t_thrown t_taped t_p t_fault t_baseLow t_baseHigh t_newBaseLow t_newBaseHigh t_from t_knots t_lines t_chosen t_undos t_redos t_aimedMany t_fits t_fitOf t_sights t_systems t_own t_cross t_curveLong t_wallFirst), IA E 21 t_push, IA E 100 t_cur, IA E 21 t_pushAt, JA E 6 t_curSum, IA E 100 t_row, JA E 6 t_sums, IA E 5000 t_undoRow, JA E 300 t_undoSum] h) 55 [none, some (vI v1), none] [] := by
  rw [m_X11_clear_55] at hs
  refine g_iload_n e_X11_clear_55 rfl ?_
  obtain rfl := Option.some.inj hs
  exact g_iret rfl ⟨ok_v1, ok_t_undos, ok_t_redos, ok_t_cur, ok_t_pushAt, ok_t_curSum, ok_t_row, ok_t_sums, ok_t_undoRow, ok_t_undoSum⟩ e_X11_clear_56

noncomputable def m_X11_clear_34 (t_undos : Int) (t_redos : Int) (t_cur : Nat → Int) (t_pushAt : Nat → Int) (t_curSum : Nat → Int) (t_row : Nat → Int) (t_sums : Nat → Int) (t_undoRow : Nat → Int) (t_undoSum : Nat → Int) (v1 : Int) : Option (Int × Int × Int × (Nat → Int) × (Nat → Int) × (Nat → Int) × (Nat → Int) × (Nat → Int) × (Nat → Int) × (Nat → Int)) :=
  m_X11_clear_36 (fun t_sums' v2' => m_X11_clear_55 t_undos t_redos t_cur t_pushAt t_curSum t_row t_sums' t_undoRow t_undoSum v1) FU t_sums 0

set_option maxRecDepth 10000 in
set_option maxHeartbeats 8000000 in
theorem g_X11_clear_34 {l : Launch} {E : EE} {b0 n : Nat} {h : AH} {a_t : Nat} {t_thrown t_taped t_p t_fault t_baseLow t_baseHigh t_newBaseLow t_newBaseHigh t_from t_knots t_lines t_chosen t_undos t_redos t_aimedMany t_fits t_fitOf t_sights t_systems t_own t_cross t_curveLong t_wallFirst v1 : Int} {t_push t_cur t_pushAt t_curSum t_row t_sums t_undoRow t_undoSum : Nat → Int} {r : Int × Int × Int × (Nat → Int) × (Nat → Int) × (Nat → Int) × (Nat → Int) × (Nat → Int) × (Nat → Int) × (Nat → Int)} (ao : AO b0 n [a_t, (a_t + 6), (a_t + 24), (a_t + 27), (a_t + 28), (a_t + 29), (a_t + 31), (a_t + 32), (a_t + 34)]) (ok_t_undos : inI t_undos) (ok_t_redos : inI t_redos) (ok_t_push : okA t_push) (ok_t_cur : okA t_cur) (ok_t_pushAt : okA t_pushAt) (ok_t_curSum : okJ t_curSum) (ok_t_row : okA t_row) (ok_t_sums : okJ t_sums) (ok_t_undoRow : okA t_undoRow) (ok_t_undoSum : okJ t_undoSum) (ok_v1 : inI v1) (hs : m_X11_clear_34 t_undos t_redos t_cur t_pushAt t_curSum t_row t_sums t_undoRow t_undoSum v1 = some r) : G l E b0 M_X11_clear (fun _ => True) (ZM E b0 (some (vI r.1)) (ov [a_t, (a_t + 6), (a_t + 24), (a_t + 27), (a_t + 28), (a_t + 29), (a_t + 31), (a_t + 32), (a_t + 34)] [.inr (11, fsX11 a_t t_thrown t_taped t_p t_fault t_baseLow t_baseHigh t_newBaseLow t_newBaseHigh t_from t_knots t_lines t_chosen r.2.1 r.2.2.1 t_aimedMany t_fits t_fitOf t_sights t_systems t_own t_cross t_curveLong t_wallFirst), IA E 21 t_push, IA E 100 r.2.2.2.1, IA E 21 r.2.2.2.2.1, JA E 6 r.2.2.2.2.2.1, IA E 100 r.2.2.2.2.2.2.1, JA E 6 r.2.2.2.2.2.2.2.1, IA E 5000 r.2.2.2.2.2.2.2.2.1, JA E 300 r.2.2.2.2.2.2.2.2.2] h) n (inI r.1 ∧ inI r.2.1 ∧ inI r.2.2.1 ∧ okA r.2.2.2.1 ∧ okA r.2.2.2.2.1 ∧ okJ r.2.2.2.2.2.1 ∧ okA r.2.2.2.2.2.2.1 ∧ okJ r.2.2.2.2.2.2.2.1 ∧ okA r.2.2.2.2.2.2.2.2.1 ∧ okJ r.2.2.2.2.2.2.2.2.2) 0 0) 0 0 n (ov [a_t, (a_t + 6), (a_t + 24), (a_t + 27), (a_t + 28), (a_t + 29), (a_t + 31), (a_t + 32), (a_t + 34)] [.inr (11, fsX11 a_t t_thrown t_taped t_p t_fault t_baseLow t_baseHigh t_newBaseLow t_newBaseHigh t_from t_knots t_lines t_chosen t_undos t_redos t_aimedMany t_fits t_fitOf t_sights t_systems t_own t_cross t_curveLong t_wallFirst), IA E 21 t_push, IA E 100 t_cur, IA E 21 t_pushAt, JA E 6 t_curSum, IA E 100 t_row, JA E 6 t_sums, IA E 5000 t_undoRow, JA E 300 t_undoSum] h) 34 [some (.ref a_t), some (vI v1), none] [] := by
  rw [m_X11_clear_34] at hs
  refine g_iconst e_X11_clear_34 ?_
  refine g_istore_n e_X11_clear_35 st1_2 rfl ?_
  exact g_X11_clear_36 ao ok_t_undos ok_t_redos ok_t_push ok_t_cur ok_t_pushAt ok_t_curSum ok_t_row ok_t_undoRow ok_t_undoSum ok_v1 (hk_55 := by
      intro t_sums' v2' ok_t_sums' ok_v2' hs
      exact g_X11_clear_55 ao ok_t_undos ok_t_redos ok_t_push ok_t_cur ok_t_pushAt ok_t_curSum ok_t_row ok_t_sums' ok_t_undoRow ok_t_undoSum ok_v1 hs) FU _ _ ok_t_sums (by decide : inI 0) hs

noncomputable def m_X11_clear_0 (t_undos : Int) (t_redos : Int) (t_push : Nat → Int) (t_cur : Nat → Int) (t_pushAt : Nat → Int) (t_curSum : Nat → Int) (t_row : Nat → Int) (t_sums : Nat → Int) (t_undoRow : Nat → Int) (t_undoSum : Nat → Int) : Option (Int × Int × Int × (Nat → Int) × (Nat → Int) × (Nat → Int) × (Nat → Int) × (Nat → Int) × (Nat → Int) × (Nat → Int)) :=
  (m_X11_atHand t_push t_cur t_pushAt t_curSum t_row t_sums).bind (fun y1 => (m_X11_flaws y1.1).bind (fun y2 => (m_X11_act t_undos t_redos y1.1 y1.2.2 t_row t_sums t_undoRow t_undoSum).bind (fun y3 => m_X11_clear_15 (fun t_row' v2' => m_X11_clear_34 y3.1 y3.2.1 y3.2.2.1 y1.2.1 y3.2.2.2.1 t_row' t_sums y3.2.2.2.2.1 y3.2.2.2.2.2 y2) FU t_row 0)))

set_option maxRecDepth 10000 in
set_option maxHeartbeats 8000000 in
theorem g_X11_clear_0 {l : Launch} {E : EE} {b0 n : Nat} {h : AH} {a_t : Nat} {t_thrown t_taped t_p t_fault t_baseLow t_baseHigh t_newBaseLow t_newBaseHigh t_from t_knots t_lines t_chosen t_undos t_redos t_aimedMany t_fits t_fitOf t_sights t_systems t_own t_cross t_curveLong t_wallFirst : Int} {t_push t_cur t_pushAt t_curSum t_row t_sums t_undoRow t_undoSum : Nat → Int} {r : Int × Int × Int × (Nat → Int) × (Nat → Int) × (Nat → Int) × (Nat → Int) × (Nat → Int) × (Nat → Int) × (Nat → Int)} (ao : AO b0 n [a_t, (a_t + 6), (a_t + 24), (a_t + 27), (a_t + 28), (a_t + 29), (a_t + 31), (a_t + 32), (a_t + 34)]) (ok_t_undos : inI t_undos) (ok_t_redos : inI t_redos) (ok_t_push : okA t_push) (ok_t_cur : okA t_cur) (ok_t_pushAt : okA t_pushAt) (ok_t_curSum : okJ t_curSum) (ok_t_row : okA t_row) (ok_t_sums : okJ t_sums) (ok_t_undoRow : okA t_undoRow) (ok_t_undoSum : okJ t_undoSum) (hs : m_X11_clear_0 t_undos t_redos t_push t_cur t_pushAt t_curSum t_row t_sums t_undoRow t_undoSum = some r) : G l E b0 M_X11_clear (fun _ => True) (ZM E b0 (some (vI r.1)) (ov [a_t, (a_t + 6), (a_t + 24), (a_t + 27), (a_t + 28), (a_t + 29), (a_t + 31), (a_t + 32), (a_t + 34)] [.inr (11, fsX11 a_t t_thrown t_taped t_p t_fault t_baseLow t_baseHigh t_newBaseLow t_newBaseHigh t_from t_knots t_lines t_chosen r.2.1 r.2.2.1 t_aimedMany t_fits t_fitOf t_sights t_systems t_own t_cross t_curveLong t_wallFirst), IA E 21 t_push, IA E 100 r.2.2.2.1, IA E 21 r.2.2.2.2.1, JA E 6 r.2.2.2.2.2.1, IA E 100 r.2.2.2.2.2.2.1, JA E 6 r.2.2.2.2.2.2.2.1, IA E 5000 r.2.2.2.2.2.2.2.2.1, JA E 300 r.2.2.2.2.2.2.2.2.2] h) n (inI r.1 ∧ inI r.2.1 ∧ inI r.2.2.1 ∧ okA r.2.2.2.1 ∧ okA r.2.2.2.2.1 ∧ okJ r.2.2.2.2.2.1 ∧ okA r.2.2.2.2.2.2.1 ∧ okJ r.2.2.2.2.2.2.2.1 ∧ okA r.2.2.2.2.2.2.2.2.1 ∧ okJ r.2.2.2.2.2.2.2.2.2) 0 0) 0 0 n (ov [a_t, (a_t + 6), (a_t + 24), (a_t + 27), (a_t + 28), (a_t + 29), (a_t + 31), (a_t + 32), (a_t + 34)] [.inr (11, fsX11 a_t t_thrown t_taped t_p t_fault t_baseLow t_baseHigh t_newBaseLow t_newBaseHigh t_from t_knots t_lines t_chosen t_undos t_redos t_aimedMany t_fits t_fitOf t_sights t_systems t_own t_cross t_curveLong t_wallFirst), IA E 21 t_push, IA E 100 t_cur, IA E 21 t_pushAt, JA E 6 t_curSum, IA E 100 t_row, JA E 6 t_sums, IA E 5000 t_undoRow, JA E 300 t_undoSum] h) 0 [some (.ref a_t), none, none] [] := by
  rw [m_X11_clear_0] at hs
  refine g_aload_n e_X11_clear_0 rfl ?_
  obtain ⟨y1, hy1, hs⟩ := bind_elim hs
  refine g_callVv [] cv_X11_362 ⟨rfl, rfl, Nat.le_of_ble_eq_true rfl, Nat.le_of_ble_eq_true rfl⟩ (Ct_heap (ct_X11_atHand (a_t := a_t) (AO_call [0, 1, 2, 3, 4, 5, 6] ao (by decide) rfl) (FA_call [0, 1, 2, 3, 4, 5, 6] ao.1 rfl rfl) ok_t_push ok_t_cur ok_t_pushAt ok_t_curSum ok_t_row ok_t_sums hy1) (ov_call (esn := [.inr (11, fsX11 a_t t_thrown t_taped t_p t_fault t_baseLow t_baseHigh t_newBaseLow t_newBaseHigh t_from t_knots t_lines t_chosen t_undos t_redos t_aimedMany t_fits t_fitOf t_sights t_systems t_own t_cross t_curveLong t_wallFirst), IA E 21 t_push, IA E 100 y1.1, IA E 21 y1.2.1, JA E 6 y1.2.2, IA E 100 t_row, JA E 6 t_sums, IA E 5000 t_undoRow, JA E 300 t_undoSum]) [0, 1, 2, 3, 4, 5, 6] ao.1 rfl rfl rfl rfl)) e_X11_clear_1 (ao.2 0 _ rfl) (ov_get 0 ao.1 rfl rfl) rfl rfl rfl (Nat.le_of_ble_eq_true rfl) ⟨Nat.le_refl _, Nat.le_refl _⟩ (fun Py1 => ?_)
  refine g_aload_n e_X11_clear_4 rfl ?_
  obtain ⟨y2, hy2, hs⟩ := bind_elim hs
  refine g_callVr [] cv_X11_337 ⟨rfl, rfl, Nat.le_of_ble_eq_true rfl, Nat.le_of_ble_eq_true rfl⟩ (ct_X11_flaws (a_t := a_t) (AO_call [0, 2] ao (by decide) rfl) (FA_call [0, 2] ao.1 rfl rfl) Py1.1 hy2) e_X11_clear_5 (ao.2 0 _ rfl) (ov_get 0 ao.1 rfl rfl) rfl rfl rfl (Nat.le_of_ble_eq_true rfl) ⟨Nat.le_refl _, Nat.le_refl _⟩ (fun Py2 => ?_)
  refine g_istore_n e_X11_clear_8 st1_1 rfl ?_
  refine g_aload_n e_X11_clear_9 rfl ?_
  obtain ⟨y3, hy3, hs⟩ := bind_elim hs
  refine g_callVv [] cv_X11_365 ⟨rfl, rfl, Nat.le_of_ble_eq_true rfl, Nat.le_of_ble_eq_true rfl⟩ (Ct_heap (ct_X11_act (a_t := a_t) (AO_call [0, 2, 4, 5, 6, 7, 8] ao (by decide) rfl) (FA_call [0, 2, 4, 5, 6, 7, 8] ao.1 rfl rfl) ok_t_undos ok_t_redos Py1.1 Py1.2.2 ok_t_row ok_t_sums ok_t_undoRow ok_t_undoSum hy3) (ov_call (esn := [.inr (11, fsX11 a_t t_thrown t_taped t_p t_fault t_baseLow t_baseHigh t_newBaseLow t_newBaseHigh t_from t_knots t_lines t_chosen y3.1 y3.2.1 t_aimedMany t_fits t_fitOf t_sights t_systems t_own t_cross t_curveLong t_wallFirst), IA E 21 t_push, IA E 100 y3.2.2.1, IA E 21 y1.2.1, JA E 6 y3.2.2.2.1, IA E 100 t_row, JA E 6 t_sums, IA E 5000 y3.2.2.2.2.1, JA E 300 y3.2.2.2.2.2]) [0, 2, 4, 5, 6, 7, 8] ao.1 rfl rfl rfl rfl)) e_X11_clear_10 (ao.2 0 _ rfl) (ov_get 0 ao.1 rfl rfl) rfl rfl rfl (Nat.le_of_ble_eq_true rfl) ⟨Nat.le_refl _, Nat.le_refl _⟩ (fun Py3 => ?_)
  refine g_iconst e_X11_clear_13 ?_
  refine g_istore_n e_X11_clear_14 st1_2 rfl ?_
  exact g_X11_clear_15 ao Py3.1 Py3.2.1 ok_t_push Py3.2.2.1 Py1.2.1 Py3.2.2.2.1 ok_t_sums Py3.2.2.2.2.1 Py3.2.2.2.2.2 Py2 (hk_34 := by
      intro t_row' v2' ok_t_row' ok_v2' hs
      exact g_X11_clear_34 ao Py3.1 Py3.2.1 ok_t_push Py3.2.2.1 Py1.2.1 Py3.2.2.2.1 ok_t_row' ok_t_sums Py3.2.2.2.2.1 Py3.2.2.2.2.2 Py2 hs) FU _ _ ok_t_row (by decide : inI 0) hs

noncomputable def m_X11_clear (t_undos : Int) (t_redos : Int) (t_push : Nat → Int) (t_cur : Nat → Int) (t_pushAt : Nat → Int) (t_curSum : Nat → Int) (t_row : Nat → Int) (t_sums : Nat → Int) (t_undoRow : Nat → Int) (t_undoSum : Nat → Int) : Option (Int × Int × Int × (Nat → Int) × (Nat → Int) × (Nat → Int) × (Nat → Int) × (Nat → Int) × (Nat → Int) × (Nat → Int)) := m_X11_clear_0 t_undos t_redos t_push t_cur t_pushAt t_curSum t_row t_sums t_undoRow t_undoSum

set_option maxRecDepth 10000 in
set_option maxHeartbeats 8000000 in
theorem ct_X11_clear {l : Launch} {E : EE} {b0 n : Nat} {h : AH} {a_t : Nat} {t_thrown t_taped t_p t_fault t_baseLow t_baseHigh t_newBaseLow t_newBaseHigh t_from t_knots t_lines t_chosen t_undos t_redos t_aimedMany t_fits t_fitOf t_sights t_systems t_own t_cross t_curveLong t_wallFirst : Int} {t_push t_cur t_pushAt t_curSum t_row t_sums t_undoRow t_undoSum : Nat → Int} (ao : AO b0 n [a_t, (a_t + 6), (a_t + 24), (a_t + 27), (a_t + 28), (a_t + 29), (a_t + 31), (a_t + 32), (a_t + 34)]) (hf : FA h [a_t, (a_t + 6), (a_t + 24), (a_t + 27), (a_t + 28), (a_t + 29), (a_t + 31), (a_t + 32), (a_t + 34)] [.inr (11, fsX11 a_t t_thrown t_taped t_p t_fault t_baseLow t_baseHigh t_newBaseLow t_newBaseHigh t_from t_knots t_lines t_chosen t_undos t_redos t_aimedMany t_fits t_fitOf t_sights t_systems t_own t_cross t_curveLong t_wallFirst), IA E 21 t_push, IA E 100 t_cur, IA E 21 t_pushAt, JA E 6 t_curSum, IA E 100 t_row, JA E 6 t_sums, IA E 5000 t_undoRow, JA E 300 t_undoSum]) (ok_t_undos : inI t_undos) (ok_t_redos : inI t_redos) (ok_t_push : okA t_push) (ok_t_cur : okA t_cur) (ok_t_pushAt : okA t_pushAt) (ok_t_curSum : okJ t_curSum) (ok_t_row : okA t_row) (ok_t_sums : okJ t_sums) (ok_t_undoRow : okA t_undoRow) (ok_t_undoSum : okJ t_undoSum) {r : Int × Int × Int × (Nat → Int) × (Nat → Int) × (Nat → Int) × (Nat → Int) × (Nat → Int) × (Nat → Int) × (Nat → Int)} (hm : m_X11_clear t_undos t_redos t_push t_cur t_pushAt t_curSum t_row t_sums t_undoRow t_undoSum = some r) : Ct l E b0 M_X11_clear 0 0 [.ref a_t] h n (some (vI r.1)) (ov [a_t, (a_t + 6), (a_t + 24), (a_t + 27), (a_t + 28), (a_t + 29), (a_t + 31), (a_t + 32), (a_t + 34)] [.inr (11, fsX11 a_t t_thrown t_taped t_p t_fault t_baseLow t_baseHigh t_newBaseLow t_newBaseHigh t_from t_knots t_lines t_chosen r.2.1 r.2.2.1 t_aimedMany t_fits t_fitOf t_sights t_systems t_own t_cross t_curveLong t_wallFirst), IA E 21 t_push, IA E 100 r.2.2.2.1, IA E 21 r.2.2.2.2.1, JA E 6 r.2.2.2.2.2.1, IA E 100 r.2.2.2.2.2.2.1, JA E 6 r.2.2.2.2.2.2.2.1, IA E 5000 r.2.2.2.2.2.2.2.2.1, JA E 300 r.2.2.2.2.2.2.2.2.2] h) n (inI r.1 ∧ inI r.2.1 ∧ inI r.2.2.1 ∧ okA r.2.2.2.1 ∧ okA r.2.2.2.2.1 ∧ okJ r.2.2.2.2.2.1 ∧ okA r.2.2.2.2.2.2.1 ∧ okJ r.2.2.2.2.2.2.2.1 ∧ okA r.2.2.2.2.2.2.2.2.1 ∧ okJ r.2.2.2.2.2.2.2.2.2) := by
  rw [m_X11_clear] at hm
  have hg : G l E b0 M_X11_clear (fun _ => True) (ZM E b0 (some (vI r.1)) (ov [a_t, (a_t + 6), (a_t + 24), (a_t + 27), (a_t + 28), (a_t + 29), (a_t + 31), (a_t + 32), (a_t + 34)] [.inr (11, fsX11 a_t t_thrown t_taped t_p t_fault t_baseLow t_baseHigh t_newBaseLow t_newBaseHigh t_from t_knots t_lines t_chosen r.2.1 r.2.2.1 t_aimedMany t_fits t_fitOf t_sights t_systems t_own t_cross t_curveLong t_wallFirst), IA E 21 t_push, IA E 100 r.2.2.2.1, IA E 21 r.2.2.2.2.1, JA E 6 r.2.2.2.2.2.1, IA E 100 r.2.2.2.2.2.2.1, JA E 6 r.2.2.2.2.2.2.2.1, IA E 5000 r.2.2.2.2.2.2.2.2.1, JA E 300 r.2.2.2.2.2.2.2.2.2] h) n (inI r.1 ∧ inI r.2.1 ∧ inI r.2.2.1 ∧ okA r.2.2.2.1 ∧ okA r.2.2.2.2.1 ∧ okJ r.2.2.2.2.2.1 ∧ okA r.2.2.2.2.2.2.1 ∧ okJ r.2.2.2.2.2.2.2.1 ∧ okA r.2.2.2.2.2.2.2.2.1 ∧ okJ r.2.2.2.2.2.2.2.2.2) 0 0) 0 0 n (ov [a_t, (a_t + 6), (a_t + 24), (a_t + 27), (a_t + 28), (a_t + 29), (a_t + 31), (a_t + 32), (a_t + 34)] [.inr (11, fsX11 a_t t_thrown t_taped t_p t_fault t_baseLow t_baseHigh t_newBaseLow t_newBaseHigh t_from t_knots t_lines t_chosen t_undos t_redos t_aimedMany t_fits t_fitOf t_sights t_systems t_own t_cross t_curveLong t_wallFirst), IA E 21 t_push, IA E 100 t_cur, IA E 21 t_pushAt, JA E 6 t_curSum, IA E 100 t_row, JA E 6 t_sums, IA E 5000 t_undoRow, JA E 300 t_undoSum] h) 0 [some (.ref a_t), none, none] [] := by
    have hs := hm
    exact g_X11_clear_0 ao ok_t_undos ok_t_redos ok_t_push ok_t_cur ok_t_pushAt ok_t_curSum ok_t_row ok_t_sums ok_t_undoRow ok_t_undoSum hs
  rw [FA_id hf] at hg
  exact Ct_of [some (.ref a_t), none, none] ⟨by decide +kernel, rfl⟩ rfl (Nat.le_of_ble_eq_true rfl) hg

/-! ===== X11_mark ===== -/
theorem e_X11_mark_0 : DC cX11_mark 0 (.iconst 0) 1 1 := ⟨by decide +kernel, rfl⟩
theorem e_X11_mark_1 : DC cX11_mark 1 (.istore_n 1) 1 2 := ⟨by decide +kernel, rfl⟩
theorem e_X11_mark_2 : DC cX11_mark 2 (.iload_n 1) 1 3 := ⟨by decide +kernel, rfl⟩
theorem e_X11_mark_3 : DC cX11_mark 3 (.bipush 100) 2 5 := ⟨by decide +kernel, rfl⟩
theorem e_X11_mark_5 : DB cX11_mark 5 (.if_icmp .ge 21) (21) 3 8 26 := ⟨by decide +kernel, rfl, rfl⟩
theorem e_X11_mark_8 : DC cX11_mark 8 (.aload_n 0) 1 9 := ⟨by decide +kernel, rfl⟩
theorem e_X11_mark_9 : DC cX11_mark 9 (.getfield 100) 3 12 := ⟨by decide +kernel, rfl⟩
theorem e_X11_mark_12 : DC cX11_mark 12 (.iload_n 1) 1 13 := ⟨by decide +kernel, rfl⟩
theorem e_X11_mark_13 : DC cX11_mark 13 (.aload_n 0) 1 14 := ⟨by decide +kernel, rfl⟩
theorem e_X11_mark_14 : DC cX11_mark 14 (.getfield 97) 3 17 := ⟨by decide +kernel, rfl⟩
theorem e_X11_mark_17 : DC cX11_mark 17 (.iload_n 1) 1 18 := ⟨by decide +kernel, rfl⟩
theorem e_X11_mark_18 : DC cX11_mark 18 (.iaload) 1 19 := ⟨by decide +kernel, rfl⟩
theorem e_X11_mark_19 : DC cX11_mark 19 (.iastore) 1 20 := ⟨by decide +kernel, rfl⟩
theorem e_X11_mark_20 : DC cX11_mark 20 (.iinc 1 1) 3 23 := ⟨by decide +kernel, rfl⟩
theorem e_X11_mark_23 : DB cX11_mark 23 (.goto (-21)) (-21) 3 26 2 := ⟨by decide +kernel, rfl, rfl⟩
theorem e_X11_mark_26 : DC cX11_mark 26 (.return_) 1 27 := ⟨by decide +kernel, rfl⟩
noncomputable def m_X11_mark_2 (t_row : Nat → Int) (k_26 : (Nat → Int) → Int → Option ((Nat → Int))) : Nat → (Nat → Int) → Int → Option ((Nat → Int))
  | 0, _, _ => none
  | F + 1, t_marked, v1 => if 100 ≤ v1 then (some (t_marked)) else (chk (inB v1 100) (chk (inB v1 100) (chk (inI (v1 + 1)) (m_X11_mark_2 t_row k_26 F (up t_marked (Int.toNat v1) (t_row (Int.toNat v1))) (v1 + 1)))))

set_option maxRecDepth 10000 in
set_option maxHeartbeats 8000000 in
theorem g_X11_mark_2 {l : Launch} {E : EE} {b0 n : Nat} {h : AH} {a_t : Nat} {t_thrown t_taped t_p t_fault t_baseLow t_baseHigh t_newBaseLow t_newBaseHigh t_from t_knots t_lines t_chosen t_undos t_redos t_aimedMany t_fits t_fitOf t_sights t_systems t_own t_cross t_curveLong t_wallFirst : Int} {t_row : Nat → Int} {r : (Nat → Int)} {k_26 : (Nat → Int) → Int → Option ((Nat → Int))} (ao : AO b0 n [a_t, (a_t + 29), (a_t + 30)]) (ok_t_row : okA t_row) (hk_26 : ∀ (t_marked_ : Nat → Int) (v1_ : Int), okA t_marked_ → inI v1_ → k_26 t_marked_ v1_ = some r → G l E b0 M_X11_mark (fun _ => True) (ZM E b0 (none) (ov [a_t, (a_t + 29), (a_t + 30)] [.inr (11, fsX11 a_t t_thrown t_taped t_p t_fault t_baseLow t_baseHigh t_newBaseLow t_newBaseHigh t_from t_knots t_lines t_chosen t_undos t_redos t_aimedMany t_fits t_fitOf t_sights t_systems t_own t_cross t_curveLong t_wallFirst), IA E 100 t_row, IA E 100 r] h) n (okA r) 0 0) 0 0 n (ov [a_t, (a_t + 29), (a_t + 30)] [.inr (11, fsX11 a_t t_thrown t_taped t_p t_fault t_baseLow t_baseHigh t_newBaseLow t_newBaseHigh t_from t_knots t_lines t_chosen t_undos t_redos t_aimedMany t_fits t_fitOf t_sights t_systems t_own t_cross t_curveLong t_wallFirst), IA E 100 t_row, IA E 100 t_marked_] h) 26 [none, none] []) :
    ∀ (F : Nat) (t_marked : Nat → Int) (v1 : Int), okA t_marked → inI v1 → m_X11_mark_2 t_row k_26 F t_marked v1 = some r → G l E b0 M_X11_mark (fun _ => True) (ZM E b0 (none) (ov [a_t, (a_t + 29), (a_t + 30)] [.inr (11, fsX11 a_t t_thrown t_taped t_p t_fault t_baseLow t_baseHigh t_newBaseLow t_newBaseHigh t_from t_knots t_lines t_chosen t_undos t_redos t_aimedMany t_fits t_fitOf t_sights t_systems t_own t_cross t_curveLong t_wallFirst), IA E 100 t_row, IA E 100 r] h) n (okA r) 0 0) 0 0 n (ov [a_t, (a_t + 29), (a_t + 30)] [.inr (11, fsX11 a_t t_thrown t_taped t_p t_fault t_baseLow t_baseHigh t_newBaseLow t_newBaseHigh t_from t_knots t_lines t_chosen t_undos t_redos t_aimedMany t_fits t_fitOf t_sights t_systems t_own t_cross t_curveLong t_wallFirst), IA E 100 t_row, IA E 100 t_marked] h) 2 [some (.ref a_t), some (vI v1)] [] := by
  intro F
  induction F with
  | zero =>
    intro t_marked v1 ok_t_marked ok_v1 hs
    rw [m_X11_mark_2] at hs
    cases hs
  | succ F ih =>
    intro t_marked v1 ok_t_marked ok_v1 hs
    rw [m_X11_mark_2] at hs
    refine g_iload_n e_X11_mark_2 rfl ?_
    refine g_bipush e_X11_mark_3 bp_100 ?_
    refine g_icmp_ge e_X11_mark_5 ok_v1 (by decide : inI 100) hs (fun c5 hs => ?_) (fun c5 hs => ?_)
    · obtain rfl := Option.some.inj hs
      exact g_vret rfl ok_t_marked e_X11_mark_26
    · refine g_aload_n e_X11_mark_8 rfl ?_
      refine g_get 0 41 ao rfl rfl fsX11_g41 fl_X11_100 e_X11_mark_9 ?_
      refine g_iload_n e_X11_mark_12 rfl ?_
      refine g_aload_n e_X11_mark_13 rfl ?_
      refine g_get 0 40 ao rfl rfl fsX11_g40 fl_X11_97 e_X11_mark_14 ?_
      refine g_iload_n e_X11_mark_17 rfl ?_
      refine g_iald 1 ao rfl rfl (Nat.le_of_ble_eq_true rfl) e_X11_mark_18 hs (fun hi1 hs => ?_)
      refine g_iast 2 ao rfl rfl ls_2 (Nat.le_of_ble_eq_true rfl) e_X11_mark_19 hs (fun hi2 hs => ?_)
      refine g_iinc e_X11_mark_20 rfl st1_1 rfl ?_
      refine g_goto e_X11_mark_23 ?_
      obtain ⟨hc3, hs⟩ := chk_elim hs
      exact ih _ _ (okA_up ok_t_marked (ok_t_row _)) hc3 hs

noncomputable def m_X11_mark_26 (t_marked : Nat → Int) : Option ((Nat → Int)) :=
  some (t_marked)

set_option maxRecDepth 10000 in
set_option maxHeartbeats 8000000 in
theorem g_X11_mark_26 {l : Launch} {E : EE} {b0 n : Nat} {h : AH} {a_t : Nat} {t_thrown t_taped t_p t_fault t_baseLow t_baseHigh t_newBaseLow t_newBaseHigh t_from t_knots t_lines t_chosen t_undos t_redos t_aimedMany t_fits t_fitOf t_sights t_systems t_own t_cross t_curveLong t_wallFirst : Int} {t_row t_marked : Nat → Int} {r : (Nat → Int)} (ao : AO b0 n [a_t, (a_t + 29), (a_t + 30)]) (ok_t_row : okA t_row) (ok_t_marked : okA t_marked) (hs : m_X11_mark_26 t_marked = some r) : G l E b0 M_X11_mark (fun _ => True) (ZM E b0 (none) (ov [a_t, (a_t + 29), (a_t + 30)] [.inr (11, fsX11 a_t t_thrown t_taped t_p t_fault t_baseLow t_baseHigh t_newBaseLow t_newBaseHigh t_from t_knots t_lines t_chosen t_undos t_redos t_aimedMany t_fits t_fitOf t_sights t_systems t_own t_cross t_curveLong t_wallFirst), IA E 100 t_row, IA E 100 r] h) n (okA r) 0 0) 0 0 n (ov [a_t, (a_t + 29), (a_t + 30)] [.inr (11, fsX11 a_t t_thrown t_taped t_p t_fault t_baseLow t_baseHigh t_newBaseLow t_newBaseHigh t_from t_knots t_lines t_chosen t_undos t_redos t_aimedMany t_fits t_fitOf t_sights t_systems t_own t_cross t_curveLong t_wallFirst), IA E 100 t_row, IA E 100 t_marked] h) 26 [none, none] [] := by
  rw [m_X11_mark_26] at hs
  obtain rfl := Option.some.inj hs
  exact g_vret rfl ok_t_marked e_X11_mark_26

noncomputable def m_X11_mark_0 (t_row : Nat → Int) (t_marked : Nat → Int) : Option ((Nat → Int)) :=
  m_X11_mark_2 t_row (fun t_marked' v1' => m_X11_mark_26 t_marked') FU t_marked 0

set_option maxRecDepth 10000 in
set_option maxHeartbeats 8000000 in
theorem g_X11_mark_0 {l : Launch} {E : EE} {b0 n : Nat} {h : AH} {a_t : Nat} {t_thrown t_taped t_p t_fault t_baseLow t_baseHigh t_newBaseLow t_newBaseHigh t_from t_knots t_lines t_chosen t_undos t_redos t_aimedMany t_fits t_fitOf t_sights t_systems t_own t_cross t_curveLong t_wallFirst : Int} {t_row t_marked : Nat → Int} {r : (Nat → Int)} (ao : AO b0 n [a_t, (a_t + 29), (a_t + 30)]) (ok_t_row : okA t_row) (ok_t_marked : okA t_marked) (hs : m_X11_mark_0 t_row t_marked = some r) : G l E b0 M_X11_mark (fun _ => True) (ZM E b0 (none) (ov [a_t, (a_t + 29), (a_t + 30)] [.inr (11, fsX11 a_t t_thrown t_taped t_p t_fault t_baseLow t_baseHigh t_newBaseLow t_newBaseHigh t_from t_knots t_lines t_chosen t_undos t_redos t_aimedMany t_fits t_fitOf t_sights t_systems t_own t_cross t_curveLong t_wallFirst), IA E 100 t_row, IA E 100 r] h) n (okA r) 0 0) 0 0 n (ov [a_t, (a_t + 29), (a_t + 30)] [.inr (11, fsX11 a_t t_thrown t_taped t_p t_fault t_baseLow t_baseHigh t_newBaseLow t_newBaseHigh t_from t_knots t_lines t_chosen t_undos t_redos t_aimedMany t_fits t_fitOf t_sights t_systems t_own t_cross t_curveLong t_wallFirst), IA E 100 t_row, IA E 100 t_marked] h) 0 [some (.ref a_t), none] [] := by
  rw [m_X11_mark_0] at hs
  refine g_iconst e_X11_mark_0 ?_
  refine g_istore_n e_X11_mark_1 st1_1 rfl ?_
  exact g_X11_mark_2 ao ok_t_row (hk_26 := by
      intro t_marked' v1' ok_t_marked' ok_v1' hs
      exact g_X11_mark_26 ao ok_t_row ok_t_marked' hs) FU _ _ ok_t_marked (by decide : inI 0) hs

noncomputable def m_X11_mark (t_row : Nat → Int) (t_marked : Nat → Int) : Option ((Nat → Int)) := m_X11_mark_0 t_row t_marked

set_option maxRecDepth 10000 in
set_option maxHeartbeats 8000000 in
theorem ct_X11_mark {l : Launch} {E : EE} {b0 n : Nat} {h : AH} {a_t : Nat} {t_thrown t_taped t_p t_fault t_baseLow t_baseHigh t_newBaseLow t_newBaseHigh t_from t_knots t_lines t_chosen t_undos t_redos t_aimedMany t_fits t_fitOf t_sights t_systems t_own t_cross t_curveLong t_wallFirst : Int} {t_row t_marked : Nat → Int} (ao : AO b0 n [a_t, (a_t + 29), (a_t + 30)]) (hf : FA h [a_t, (a_t + 29), (a_t + 30)] [.inr (11, fsX11 a_t t_thrown t_taped t_p t_fault t_baseLow t_baseHigh t_newBaseLow t_newBaseHigh t_from t_knots t_lines t_chosen t_undos t_redos t_aimedMany t_fits t_fitOf t_sights t_systems t_own t_cross t_curveLong t_wallFirst), IA E 100 t_row, IA E 100 t_marked]) (ok_t_row : okA t_row) (ok_t_marked : okA t_marked) {r : (Nat → Int)} (hm : m_X11_mark t_row t_marked = some r) : Ct l E b0 M_X11_mark 0 0 [.ref a_t] h n (none) (ov [a_t, (a_t + 29), (a_t + 30)] [.inr (11, fsX11 a_t t_thrown t_taped t_p t_fault t_baseLow t_baseHigh t_newBaseLow t_newBaseHigh t_from t_knots t_lines t_chosen t_undos t_redos t_aimedMany t_fits t_fitOf t_sights t_systems t_own t_cross t_curveLong t_wallFirst), IA E 100 t_row, IA E 100 r] h) n (okA r) := by
  rw [m_X11_mark] at hm
  have hg : G l E b0 M_X11_mark (fun _ => True) (ZM E b0 (none) (ov [a_t, (a_t + 29), (a_t + 30)] [.inr (11, fsX11 a_t t_thrown t_taped t_p t_fault t_baseLow t_baseHigh t_newBaseLow t_newBaseHigh t_from t_knots t_lines t_chosen t_undos t_redos t_aimedMany t_fits t_fitOf t_sights t_systems t_own t_cross t_curveLong t_wallFirst), IA E 100 t_row, IA E 100 r] h) n (okA r) 0 0) 0 0 n (ov [a_t, (a_t + 29), (a_t + 30)] [.inr (11, fsX11 a_t t_thrown t_taped t_p t_fault t_baseLow t_baseHigh t_newBaseLow t_newBaseHigh t_from t_knots t_lines t_chosen t_undos t_redos t_aimedMany t_fits t_fitOf t_sights t_systems t_own t_cross t_curveLong t_wallFirst), IA E 100 t_row, IA E 100 t_marked] h) 0 [some (.ref a_t), none] [] := by
    have hs := hm
    exact g_X11_mark_0 ao ok_t_row ok_t_marked hs
  rw [FA_id hf] at hg
  exact Ct_of [some (.ref a_t), none] ⟨by decide +kernel, rfl⟩ rfl (Nat.le_of_ble_eq_true rfl) hg

/-! ===== X11_back ===== -/
theorem e_X11_back_0 : DC cX11_back 0 (.aload_n 0) 1 1 := ⟨by decide +kernel, rfl⟩
theorem e_X11_back_1 : DC cX11_back 1 (.invokevirtual 365) 3 4 := ⟨by decide +kernel, rfl⟩
theorem e_X11_back_4 : DC cX11_back 4 (.iconst 0) 1 5 := ⟨by decide +kernel, rfl⟩
theorem e_X11_back_5 : DC cX11_back 5 (.istore_n 1) 1 6 := ⟨by decide +kernel, rfl⟩
theorem e_X11_back_6 : DC cX11_back 6 (.iload_n 1) 1 7 := ⟨by decide +kernel, rfl⟩
theorem e_X11_back_7 : DC cX11_back 7 (.bipush 100) 2 9 := ⟨by decide +kernel, rfl⟩
theorem e_X11_back_9 : DB cX11_back 9 (.if_icmp .ge 21) (21) 3 12 30 := ⟨by decide +kernel, rfl, rfl⟩
theorem e_X11_back_12 : DC cX11_back 12 (.aload_n 0) 1 13 := ⟨by decide +kernel, rfl⟩
theorem e_X11_back_13 : DC cX11_back 13 (.getfield 97) 3 16 := ⟨by decide +kernel, rfl⟩
theorem e_X11_back_16 : DC cX11_back 16 (.iload_n 1) 1 17 := ⟨by decide +kernel, rfl⟩
theorem e_X11_back_17 : DC cX11_back 17 (.aload_n 0) 1 18 := ⟨by decide +kernel, rfl⟩
theorem e_X11_back_18 : DC cX11_back 18 (.getfield 100) 3 21 := ⟨by decide +kernel, rfl⟩
theorem e_X11_back_21 : DC cX11_back 21 (.iload_n 1) 1 22 := ⟨by decide +kernel, rfl⟩
theorem e_X11_back_22 : DC cX11_back 22 (.iaload) 1 23 := ⟨by decide +kernel, rfl⟩
theorem e_X11_back_23 : DC cX11_back 23 (.iastore) 1 24 := ⟨by decide +kernel, rfl⟩
theorem e_X11_back_24 : DC cX11_back 24 (.iinc 1 1) 3 27 := ⟨by decide +kernel, rfl⟩
theorem e_X11_back_27 : DB cX11_back 27 (.goto (-21)) (-21) 3 30 6 := ⟨by decide +kernel, rfl, rfl⟩
theorem e_X11_back_30 : DC cX11_back 30 (.aload_n 0) 1 31 := ⟨by decide +kernel, rfl⟩
theorem e_X11_back_31 : DC cX11_back 31 (.invokevirtual 362) 3 34 := ⟨by decide +kernel, rfl⟩
theorem e_X11_back_34 : DC cX11_back 34 (.aload_n 0) 1 35 := ⟨by decide +kernel, rfl⟩
theorem e_X11_back_35 : DC cX11_back 35 (.invokevirtual 337) 3 38 := ⟨by decide +kernel, rfl⟩
theorem e_X11_back_38 : DC cX11_back 38 (.ireturn) 1 39 := ⟨by decide +kernel, rfl⟩
noncomputable def m_X11_back_6 (t_marked : Nat → Int) (k_30 : (Nat → Int) → Int → Option (Int × Int × Int × (Nat → Int) × (Nat → Int) × (Nat → Int) × (Nat → Int) × (Nat → Int) × (Nat → Int))) : Nat → (Nat → Int) → Int → Option (Int × Int × Int × (Nat → Int) × (Nat → Int) × (Nat → Int) × (Nat → Int) × (Nat → Int) × (Nat → Int))
  | 0, _, _ => none
  | F + 1, t_row, v1 => if 100 ≤ v1 then (k_30 t_row v1) else (chk (inB v1 100) (chk (inB v1 100) (chk (inI (v1 + 1)) (m_X11_back_6 t_marked k_30 F (up t_row (Int.toNat v1) (t_marked (Int.toNat v1))) (v1 + 1)))))

set_option maxRecDepth 10000 in
set_option maxHeartbeats 8000000 in
theorem g_X11_back_6 {l : Launch} {E : EE} {b0 n : Nat} {h : AH} {a_t : Nat} {t_thrown t_taped t_p t_fault t_baseLow t_baseHigh t_newBaseLow t_newBaseHigh t_from t_knots t_lines t_chosen t_undos t_redos t_aimedMany t_fits t_fitOf t_sights t_systems t_own t_cross t_curveLong t_wallFirst : Int} {t_push t_cur t_pushAt t_curSum t_marked t_sums t_undoRow t_undoSum : Nat → Int} {r : Int × Int × Int × (Nat → Int) × (Nat → Int) × (Nat → Int) × (Nat → Int) × (Nat → Int) × (Nat → Int)} {k_30 : (Nat → Int) → Int → Option (Int × Int × Int × (Nat → Int) × (Nat → Int) × (Nat → Int) × (Nat → Int) × (Nat → Int) × (Nat → Int))} (ao : AO b0 n [a_t, (a_t + 6), (a_t + 24), (a_t + 27), (a_t + 28), (a_t + 29), (a_t + 30), (a_t + 31), (a_t + 32), (a_t + 34)]) (ok_t_undos : inI t_undos) (ok_t_redos : inI t_redos) (ok_t_push : okA t_push) (ok_t_cur : okA t_cur) (ok_t_pushAt : okA t_pushAt) (ok_t_curSum : okJ t_curSum) (ok_t_marked : okA t_marked) (ok_t_sums : okJ t_sums) (ok_t_undoRow : okA t_undoRow) (ok_t_undoSum : okJ t_undoSum) (hk_30 : ∀ (t_row_ : Nat → Int) (v1_ : Int), okA t_row_ → inI v1_ → k_30 t_row_ v1_ = some r → G l E b0 M_X11_back (fun _ => True) (ZM E b0 (some (vI r.1)) (ov [a_t, (a_t + 6), (a_t + 24), (a_t + 27), (a_t + 28), (a_t + 29), (a_t + 30), (a_t + 31), (a_t + 32), (a_t + 34)] [.inr (11, fsX11 a_t t_thrown t_taped t_p t_fault t_baseLow t_baseHigh t_newBaseLow t_newBaseHigh t_from t_knots t_lines t_chosen r.2.1 r.2.2.1 t_aimedMany t_fits t_fitOf t_sights t_systems t_own t_cross t_curveLong t_wallFirst), IA E 21 t_push, IA E 100 r.2.2.2.1, IA E 21 r.2.2.2.2.1, JA E 6 r.2.2.2.2.2.1, IA E 100 r.2.2.2.2.2.2.1, IA E 100 t_marked, JA E 6 t_sums, IA E 5000 r.2.2.2.2.2.2.2.1, JA E 300 r.2.2.2.2.2.2.2.2] h) n (inI r.1 ∧ inI r.2.1 ∧ inI r.2.2.1 ∧ okA r.2.2.2.1 ∧ okA r.2.2.2.2.1 ∧ okJ r.2.2.2.2.2.1 ∧ okA r.2.2.2.2.2.2.1 ∧ okA r.2.2.2.2.2.2.2.1 ∧ okJ r.2.2.2.2.2.2.2.2) 0 0) 0 0 n (ov [a_t, (a_t + 6), (a_t + 24), (a_t + 27), (a_t + 28), (a_t + 29), (a_t + 30), (a_t + 31), (a_t + 32), (a_t + 34)] [.inr (11, fsX11 a_t t_thrown t_taped t_p t_fault t_baseLow t_baseHigh t_newBaseLow t_newBaseHigh t_from t_knots t_lines t_chosen t_undos t_redos t_aimedMany t_fits t_fitOf t_sights t_systems t_own t_cross t_curveLong t_wallFirst), IA E 21 t_push, IA E 100 t_cur, IA E 21 t_pushAt, JA E 6 t_curSum, IA E 100 t_row_, IA E 100 t_marked, JA E 6 t_sums, IA E 5000 t_undoRow, JA E 300 t_undoSum] h) 30 [some (.ref a_t), none] []) :
    ∀ (F : Nat) (t_row : Nat → Int) (v1 : Int), okA t_row → inI v1 → m_X11_back_6 t_marked k_30 F t_row v1 = some r → G l E b0 M_X11_back (fun _ => True) (ZM E b0 (some (vI r.1)) (ov [a_t, (a_t + 6), (a_t + 24), (a_t + 27), (a_t + 28), (a_t + 29), (a_t + 30), (a_t + 31), (a_t + 32), (a_t + 34)] [.inr (11, fsX11 a_t t_thrown t_taped t_p t_fault t_baseLow t_baseHigh t_newBaseLow t_newBaseHigh t_from t_knots t_lines t_chosen r.2.1 r.2.2.1 t_aimedMany t_fits t_fitOf t_sights t_systems t_own t_cross t_curveLong t_wallFirst), IA E 21 t_push, IA E 100 r.2.2.2.1, IA E 21 r.2.2.2.2.1, JA E 6 r.2.2.2.2.2.1, IA E 100 r.2.2.2.2.2.2.1, IA E 100 t_marked, JA E 6 t_sums, IA E 5000 r.2.2.2.2.2.2.2.1, JA E 300 r.2.2.2.2.2.2.2.2] h) n (inI r.1 ∧ inI r.2.1 ∧ inI r.2.2.1 ∧ okA r.2.2.2.1 ∧ okA r.2.2.2.2.1 ∧ okJ r.2.2.2.2.2.1 ∧ okA r.2.2.2.2.2.2.1 ∧ okA r.2.2.2.2.2.2.2.1 ∧ okJ r.2.2.2.2.2.2.2.2) 0 0) 0 0 n (ov [a_t, (a_t + 6), (a_t + 24), (a_t + 27), (a_t + 28), (a_t + 29), (a_t + 30), (a_t + 31), (a_t + 32), (a_t + 34)] [.inr (11, fsX11 a_t t_thrown t_taped t_p t_fault t_baseLow t_baseHigh t_newBaseLow t_newBaseHigh t_from t_knots t_lines t_chosen t_undos t_redos t_aimedMany t_fits t_fitOf t_sights t_systems t_own t_cross t_curveLong t_wallFirst), IA E 21 t_push, IA E 100 t_cur, IA E 21 t_pushAt, JA E 6 t_curSum, IA E 100 t_row, IA E 100 t_marked, JA E 6 t_sums, IA E 5000 t_undoRow, JA E 300 t_undoSum] h) 6 [some (.ref a_t), some (vI v1)] [] := by
  intro F
  induction F with
  | zero =>
    intro t_row v1 ok_t_row ok_v1 hs
    rw [m_X11_back_6] at hs
    cases hs
  | succ F ih =>
    intro t_row v1 ok_t_row ok_v1 hs
    rw [m_X11_back_6] at hs
    refine g_iload_n e_X11_back_6 rfl ?_
    refine g_bipush e_X11_back_7 bp_100 ?_
    refine g_icmp_ge e_X11_back_9 ok_v1 (by decide : inI 100) hs (fun c9 hs => ?_) (fun c9 hs => ?_)
    · exact g_mask [true, false] (hk_30 _ _ ok_t_row ok_v1 hs)
    · refine g_aload_n e_X11_back_12 rfl ?_
      refine g_get 0 40 ao rfl rfl fsX11_g40 fl_X11_97 e_X11_back_13 ?_
      refine g_iload_n e_X11_back_16 rfl ?_
      refine g_aload_n e_X11_back_17 rfl ?_
      refine g_get 0 41 ao rfl rfl fsX11_g41 fl_X11_100 e_X11_back_18 ?_
      refine g_iload_n e_X11_back_21 rfl ?_
      refine g_iald 6 ao rfl rfl (Nat.le_of_ble_eq_true rfl) e_X11_back_22 hs (fun hi2 hs => ?_)
      refine g_iast 5 ao rfl rfl ls_5 (Nat.le_of_ble_eq_true rfl) e_X11_back_23 hs (fun hi3 hs => ?_)
      refine g_iinc e_X11_back_24 rfl st1_1 rfl ?_
      refine g_goto e_X11_back_27 ?_
      obtain ⟨hc4, hs⟩ := chk_elim hs
      exact ih _ _ (okA_up ok_t_row (ok_t_marked _)) hc4 hs

noncomputable def m_X11_back_30 (t_undos : Int) (t_redos : Int) (t_push : Nat → Int) (t_cur : Nat → Int) (t_pushAt : Nat → Int) (t_curSum : Nat → Int) (t_row : Nat → Int) (t_sums : Nat → Int) (t_undoRow : Nat → Int) (t_undoSum : Nat → Int) : Option (Int × Int × Int × (Nat → Int) × (Nat → Int) × (Nat → Int) × (Nat → Int) × (Nat → Int) × (Nat → Int)) :=
  (m_X11_atHand t_push t_cur t_pushAt t_curSum t_row t_sums).bind (fun y5 => (m_X11_flaws y5.1).bind (fun y6 => some (y6, t_undos, t_redos, y5.1, y5.2.1, y5.2.2, t_row, t_undoRow, t_undoSum)))

set_option maxRecDepth 10000 in
set_option maxHeartbeats 8000000 in
theorem g_X11_back_30 {l : Launch} {E : EE} {b0 n : Nat} {h : AH} {a_t : Nat} {t_thrown t_taped t_p t_fault t_baseLow t_baseHigh t_newBaseLow t_newBaseHigh t_from t_knots t_lines t_chosen t_undos t_redos t_aimedMany t_fits t_fitOf t_sights t_systems t_own t_cross t_curveLong t_wallFirst : Int} {t_push t_cur t_pushAt t_curSum t_row t_marked t_sums t_undoRow t_undoSum : Nat → Int} {r : Int × Int × Int × (Nat → Int) × (Nat → Int) × (Nat → Int) × (Nat → Int) × (Nat → Int) × (Nat → Int)} (ao : AO b0 n [a_t, (a_t + 6), (a_t + 24), (a_t + 27), (a_t + 28), (a_t + 29), (a_t + 30), (a_t + 31), (a_t + 32), (a_t + 34)]) (ok_t_undos : inI t_undos) (ok_t_redos : inI t_redos) (ok_t_push : okA t_push) (ok_t_cur : okA t_cur) (ok_t_pushAt : okA t_pushAt) (ok_t_curSum : okJ t_curSum) (ok_t_row : okA t_row) (ok_t_marked : okA t_marked) (ok_t_sums : okJ t_sums) (ok_t_undoRow : okA t_undoRow) (ok_t_undoSum : okJ t_undoSum) (hs : m_X11_back_30 t_undos t_redos t_push t_cur t_pushAt t_curSum t_row t_sums t_undoRow t_undoSum = some r) : G l E b0 M_X11_back (fun _ => True) (ZM E b0 (some (vI r.1)) (ov [a_t, (a_t + 6), (a_t + 24), (a_t + 27), (a_t + 28), (a_t + 29), (a_t + 30), (a_t + 31), (a_t + 32), (a_t + 34)] [.inr (11, fsX11 a_t t_thrown t_taped t_p t_fault t_baseLow t_baseHigh t_newBaseLow t_newBaseHigh t_from t_knots t_lines t_chosen r.2.1 r.2.2.1 t_aimedMany t_fits t_fitOf t_sights t_systems t_own t_cross t_curveLong t_wallFirst), IA E 21 t_push, IA E 100 r.2.2.2.1, IA E 21 r.2.2.2.2.1, JA E 6 r.2.2.2.2.2.1, IA E 100 r.2.2.2.2.2.2.1, IA E 100 t_marked, JA E 6 t_sums, IA E 5000 r.2.2.2.2.2.2.2.1, JA E 300 r.2.2.2.2.2.2.2.2] h) n (inI r.1 ∧ inI r.2.1 ∧ inI r.2.2.1 ∧ okA r.2.2.2.1 ∧ okA r.2.2.2.2.1 ∧ okJ r.2.2.2.2.2.1 ∧ okA r.2.2.2.2.2.2.1 ∧ okA r.2.2.2.2.2.2.2.1 ∧ okJ r.2.2.2.2.2.2.2.2) 0 0) 0 0 n (ov [a_t, (a_t + 6), (a_t + 24), (a_t + 27), (a_t + 28), (a_t + 29), (a_t + 30), (a_t + 31), (a_t + 32), (a_t + 34)] [.inr (11, fsX11 a_t t_thrown t_taped t_p t_fault t_baseLow t_baseHigh t_newBaseLow t_newBaseHigh t_from t_knots t_lines t_chosen t_undos t_redos t_aimedMany t_fits t_fitOf t_sights t_systems t_own t_cross t_curveLong t_wallFirst), IA E 21 t_push, IA E 100 t_cur, IA E 21 t_pushAt, JA E 6 t_curSum, IA E 100 t_row, IA E 100 t_marked, JA E 6 t_sums, IA E 5000 t_undoRow, JA E 300 t_undoSum] h) 30 [some (.ref a_t), none] [] := by
  rw [m_X11_back_30] at hs
  refine g_aload_n e_X11_back_30 rfl ?_
  obtain ⟨y5, hy5, hs⟩ := bind_elim hs
  refine g_callVv [] cv_X11_362 ⟨rfl, rfl, Nat.le_of_ble_eq_true rfl, Nat.le_of_ble_eq_true rfl⟩ (Ct_heap (ct_X11_atHand (a_t := a_t) (AO_call [0, 1, 2, 3, 4, 5, 7] ao (by decide) rfl) (FA_call [0, 1, 2, 3, 4, 5, 7] ao.1 rfl rfl) ok_t_push ok_t_cur ok_t_pushAt ok_t_curSum ok_t_row ok_t_sums hy5) (ov_call (esn := [.inr (11, fsX11 a_t t_thrown t_taped t_p t_fault t_baseLow t_baseHigh t_newBaseLow t_newBaseHigh t_from t_knots t_lines t_chosen t_undos t_redos t_aimedMany t_fits t_fitOf t_sights t_systems t_own t_cross t_curveLong t_wallFirst), IA E 21 t_push, IA E 100 y5.1, IA E 21 y5.2.1, JA E 6 y5.2.2, IA E 100 t_row, IA E 100 t_marked, JA E 6 t_sums, IA E 5000 t_undoRow, JA E 300 t_undoSum]) [0, 1, 2, 3, 4, 5, 7] ao.1 rfl rfl rfl rfl)) e_X11_back_31 (ao.2 0 _ rfl) (ov_get 0 ao.1 rfl rfl) rfl rfl rfl (Nat.le_of_ble_eq_true rfl) ⟨Nat.le_refl _, Nat.le_refl _⟩ (fun Py5 => ?_)
  refine g_aload_n e_X11_back_34 rfl ?_
  obtain ⟨y6, hy6, hs⟩ := bind_elim hs
  refine g_callVr [] cv_X11_337 ⟨rfl, rfl, Nat.le_of_ble_eq_true rfl, Nat.le_of_ble_eq_true rfl⟩ (ct_X11_flaws (a_t := a_t) (AO_call [0, 2] ao (by decide) rfl) (FA_call [0, 2] ao.1 rfl rfl) Py5.1 hy6) e_X11_back_35 (ao.2 0 _ rfl) (ov_get 0 ao.1 rfl rfl) rfl rfl rfl (Nat.le_of_ble_eq_true rfl) ⟨Nat.le_refl _, Nat.le_refl _⟩ (fun Py6 => ?_)
  obtain rfl := Option.some.inj hs
  exact g_iret rfl ⟨Py6, ok_t_undos, ok_t_redos, Py5.1, Py5.2.1, Py5.2.2, ok_t_row, ok_t_undoRow, ok_t_undoSum⟩ e_X11_back_38

noncomputable def m_X11_back_0 (t_undos : Int) (t_redos : Int) (t_push : Nat → Int) (t_cur : Nat → Int) (t_pushAt : Nat → Int) (t_curSum : Nat → Int) (t_row : Nat → Int) (t_marked : Nat → Int) (t_sums : Nat → Int) (t_undoRow : Nat → Int) (t_undoSum : Nat → Int) : Option (Int × Int × Int × (Nat → Int) × (Nat → Int) × (Nat → Int) × (Nat → Int) × (Nat → Int) × (Nat → Int)) :=
  (m_X11_act t_undos t_redos t_cur t_curSum t_row t_sums t_undoRow t_undoSum).bind (fun y1 => m_X11_back_6 t_marked (fun t_row' v1' => m_X11_back_30 y1.1 y1.2.1 t_push y1.2.2.1 t_pushAt y1.2.2.2.1 t_row' t_sums y1.2.2.2.2.1 y1.2.2.2.2.2) FU t_row 0)

set_option maxRecDepth 10000 in
set_option maxHeartbeats 8000000 in
theorem g_X11_back_0 {l : Launch} {E : EE} {b0 n : Nat} {h : AH} {a_t : Nat} {t_thrown t_taped t_p t_fault t_baseLow t_baseHigh t_newBaseLow t_newBaseHigh t_from t_knots t_lines t_chosen t_undos t_redos t_aimedMany t_fits t_fitOf t_sights t_systems t_own t_cross t_curveLong t_wallFirst : Int} {t_push t_cur t_pushAt t_curSum t_row t_marked t_sums t_undoRow t_undoSum : Nat → Int} {r : Int × Int × Int × (Nat → Int) × (Nat → Int) × (Nat → Int) × (Nat → Int) × (Nat → Int) × (Nat → Int)} (ao : AO b0 n [a_t, (a_t + 6), (a_t + 24), (a_t + 27), (a_t + 28), (a_t + 29), (a_t + 30), (a_t + 31), (a_t + 32), (a_t + 34)]) (ok_t_undos : inI t_undos) (ok_t_redos : inI t_redos) (ok_t_push : okA t_push) (ok_t_cur : okA t_cur) (ok_t_pushAt : okA t_pushAt) (ok_t_curSum : okJ t_curSum) (ok_t_row : okA t_row) (ok_t_marked : okA t_marked) (ok_t_sums : okJ t_sums) (ok_t_undoRow : okA t_undoRow) (ok_t_undoSum : okJ t_undoSum) (hs : m_X11_back_0 t_undos t_redos t_push t_cur t_pushAt t_curSum t_row t_marked t_sums t_undoRow t_undoSum = some r) : G l E b0 M_X11_back (fun _ => True) (ZM E b0 (some (vI r.1)) (ov [a_t, (a_t + 6), (a_t + 24), (a_t + 27), (a_t + 28), (a_t + 29), (a_t + 30), (a_t + 31), (a_t + 32), (a_t + 34)] [.inr (11, fsX11 a_t t_thrown t_taped t_p t_fault t_baseLow t_baseHigh t_newBaseLow t_newBaseHigh t_from t_knots t_lines t_chosen r.2.1 r.2.2.1 t_aimedMany t_fits t_fitOf t_sights t_systems t_own t_cross t_curveLong t_wallFirst), IA E 21 t_push, IA E 100 r.2.2.2.1, IA E 21 r.2.2.2.2.1, JA E 6 r.2.2.2.2.2.1, IA E 100 r.2.2.2.2.2.2.1, IA E 100 t_marked, JA E 6 t_sums, IA E 5000 r.2.2.2.2.2.2.2.1, JA E 300 r.2.2.2.2.2.2.2.2] h) n (inI r.1 ∧ inI r.2.1 ∧ inI r.2.2.1 ∧ okA r.2.2.2.1 ∧ okA r.2.2.2.2.1 ∧ okJ r.2.2.2.2.2.1 ∧ okA r.2.2.2.2.2.2.1 ∧ okA r.2.2.2.2.2.2.2.1 ∧ okJ r.2.2.2.2.2.2.2.2) 0 0) 0 0 n (ov [a_t, (a_t + 6), (a_t + 24), (a_t + 27), (a_t + 28), (a_t + 29), (a_t + 30), (a_t + 31), (a_t + 32), (a_t + 34)] [.inr (11, fsX11 a_t t_thrown t_taped t_p t_fault t_baseLow t_baseHigh t_newBaseLow t_newBaseHigh t_from t_knots t_lines t_chosen t_undos t_redos t_aimedMany t_fits t_fitOf t_sights t_systems t_own t_cross t_curveLong t_wallFirst), IA E 21 t_push, IA E 100 t_cur, IA E 21 t_pushAt, JA E 6 t_curSum, IA E 100 t_row, IA E 100 t_marked, JA E 6 t_sums, IA E 5000 t_undoRow, JA E 300 t_undoSum] h) 0 [some (.ref a_t), none] [] := by
  rw [m_X11_back_0] at hs
  refine g_aload_n e_X11_back_0 rfl ?_
  obtain ⟨y1, hy1, hs⟩ := bind_elim hs
  refine g_callVv [] cv_X11_365 ⟨rfl, rfl, Nat.le_of_ble_eq_true rfl, Nat.le_of_ble_eq_true rfl⟩ (Ct_heap (ct_X11_act (a_t := a_t) (AO_call [0, 2, 4, 5, 7, 8, 9] ao (by decide) rfl) (FA_call [0, 2, 4, 5, 7, 8, 9] ao.1 rfl rfl) ok_t_undos ok_t_redos ok_t_cur ok_t_curSum ok_t_row ok_t_sums ok_t_undoRow ok_t_undoSum hy1) (ov_call (esn := [.inr (11, fsX11 a_t t_thrown t_taped t_p t_fault t_baseLow t_baseHigh t_newBaseLow t_newBaseHigh t_from t_knots t_lines t_chosen y1.1 y1.2.1 t_aimedMany t_fits t_fitOf t_sights t_systems t_own t_cross t_curveLong t_wallFirst), IA E 21 t_push, IA E 100 y1.2.2.1, IA E 21 t_pushAt, JA E 6 y1.2.2.2.1, IA E 100 t_row, IA E 100 t_marked, JA E 6 t_sums, IA E 5000 y1.2.2.2.2.1, JA E 300 y1.2.2.2.2.2]) [0, 2, 4, 5, 7, 8, 9] ao.1 rfl rfl rfl rfl)) e_X11_back_1 (ao.2 0 _ rfl) (ov_get 0 ao.1 rfl rfl) rfl rfl rfl (Nat.le_of_ble_eq_true rfl) ⟨Nat.le_refl _, Nat.le_refl _⟩ (fun Py1 => ?_)
  refine g_iconst e_X11_back_4 ?_
  refine g_istore_n e_X11_back_5 st1_1 rfl ?_
  exact g_X11_back_6 ao Py1.1 Py1.2.1 ok_t_push Py1.2.2.1 ok_t_pushAt Py1.2.2.2.1 ok_t_marked ok_t_sums Py1.2.2.2.2.1 Py1.2.2.2.2.2 (hk_30 := by
      intro t_row' v1' ok_t_row' ok_v1' hs
      exact g_X11_back_30 ao Py1.1 Py1.2.1 ok_t_push Py1.2.2.1 ok_t_pushAt Py1.2.2.2.1 ok_t_row' ok_t_marked ok_t_sums Py1.2.2.2.2.1 Py1.2.2.2.2.2 hs) FU _ _ ok_t_row (by decide : inI 0) hs

noncomputable def m_X11_back (t_undos : Int) (t_redos : Int) (t_push : Nat → Int) (t_cur : Nat → Int) (t_pushAt : Nat → Int) (t_curSum : Nat → Int) (t_row : Nat → Int) (t_marked : Nat → Int) (t_sums : Nat → Int) (t_undoRow : Nat → Int) (t_undoSum : Nat → Int) : Option (Int × Int × Int × (Nat → Int) × (Nat → Int) × (Nat → Int) × (Nat → Int) × (Nat → Int) × (Nat → Int)) := m_X11_back_0 t_undos t_redos t_push t_cur t_pushAt t_curSum t_row t_marked t_sums t_undoRow t_undoSum

set_option maxRecDepth 10000 in
set_option maxHeartbeats 8000000 in
theorem ct_X11_back {l : Launch} {E : EE} {b0 n : Nat} {h : AH} {a_t : Nat} {t_thrown t_taped t_p t_fault t_baseLow t_baseHigh t_newBaseLow t_newBaseHigh t_from t_knots t_lines t_chosen t_undos t_redos t_aimedMany t_fits t_fitOf t_sights t_systems t_own t_cross t_curveLong t_wallFirst : Int} {t_push t_cur t_pushAt t_curSum t_row t_marked t_sums t_undoRow t_undoSum : Nat → Int} (ao : AO b0 n [a_t, (a_t + 6), (a_t + 24), (a_t + 27), (a_t + 28), (a_t + 29), (a_t + 30), (a_t + 31), (a_t + 32), (a_t + 34)]) (hf : FA h [a_t, (a_t + 6), (a_t + 24), (a_t + 27), (a_t + 28), (a_t + 29), (a_t + 30), (a_t + 31), (a_t + 32), (a_t + 34)] [.inr (11, fsX11 a_t t_thrown t_taped t_p t_fault t_baseLow t_baseHigh t_newBaseLow t_newBaseHigh t_from t_knots t_lines t_chosen t_undos t_redos t_aimedMany t_fits t_fitOf t_sights t_systems t_own t_cross t_curveLong t_wallFirst), IA E 21 t_push, IA E 100 t_cur, IA E 21 t_pushAt, JA E 6 t_curSum, IA E 100 t_row, IA E 100 t_marked, JA E 6 t_sums, IA E 5000 t_undoRow, JA E 300 t_undoSum]) (ok_t_undos : inI t_undos) (ok_t_redos : inI t_redos) (ok_t_push : okA t_push) (ok_t_cur : okA t_cur) (ok_t_pushAt : okA t_pushAt) (ok_t_curSum : okJ t_curSum) (ok_t_row : okA t_row) (ok_t_marked : okA t_marked) (ok_t_sums : okJ t_sums) (ok_t_undoRow : okA t_undoRow) (ok_t_undoSum : okJ t_undoSum) {r : Int × Int × Int × (Nat → Int) × (Nat → Int) × (Nat → Int) × (Nat → Int) × (Nat → Int) × (Nat → Int)} (hm : m_X11_back t_undos t_redos t_push t_cur t_pushAt t_curSum t_row t_marked t_sums t_undoRow t_undoSum = some r) : Ct l E b0 M_X11_back 0 0 [.ref a_t] h n (some (vI r.1)) (ov [a_t, (a_t + 6), (a_t + 24), (a_t + 27), (a_t + 28), (a_t + 29), (a_t + 30), (a_t + 31), (a_t + 32), (a_t + 34)] [.inr (11, fsX11 a_t t_thrown t_taped t_p t_fault t_baseLow t_baseHigh t_newBaseLow t_newBaseHigh t_from t_knots t_lines t_chosen r.2.1 r.2.2.1 t_aimedMany t_fits t_fitOf t_sights t_systems t_own t_cross t_curveLong t_wallFirst), IA E 21 t_push, IA E 100 r.2.2.2.1, IA E 21 r.2.2.2.2.1, JA E 6 r.2.2.2.2.2.1, IA E 100 r.2.2.2.2.2.2.1, IA E 100 t_marked, JA E 6 t_sums, IA E 5000 r.2.2.2.2.2.2.2.1, JA E 300 r.2.2.2.2.2.2.2.2] h) n (inI r.1 ∧ inI r.2.1 ∧ inI r.2.2.1 ∧ okA r.2.2.2.1 ∧ okA r.2.2.2.2.1 ∧ okJ r.2.2.2.2.2.1 ∧ okA r.2.2.2.2.2.2.1 ∧ okA r.2.2.2.2.2.2.2.1 ∧ okJ r.2.2.2.2.2.2.2.2) := by
  rw [m_X11_back] at hm
  have hg : G l E b0 M_X11_back (fun _ => True) (ZM E b0 (some (vI r.1)) (ov [a_t, (a_t + 6), (a_t + 24), (a_t + 27), (a_t + 28), (a_t + 29), (a_t + 30), (a_t + 31), (a_t + 32), (a_t + 34)] [.inr (11, fsX11 a_t t_thrown t_taped t_p t_fault t_baseLow t_baseHigh t_newBaseLow t_newBaseHigh t_from t_knots t_lines t_chosen r.2.1 r.2.2.1 t_aimedMany t_fits t_fitOf t_sights t_systems t_own t_cross t_curveLong t_wallFirst), IA E 21 t_push, IA E 100 r.2.2.2.1, IA E 21 r.2.2.2.2.1, JA E 6 r.2.2.2.2.2.1, IA E 100 r.2.2.2.2.2.2.1, IA E 100 t_marked, JA E 6 t_sums, IA E 5000 r.2.2.2.2.2.2.2.1, JA E 300 r.2.2.2.2.2.2.2.2] h) n (inI r.1 ∧ inI r.2.1 ∧ inI r.2.2.1 ∧ okA r.2.2.2.1 ∧ okA r.2.2.2.2.1 ∧ okJ r.2.2.2.2.2.1 ∧ okA r.2.2.2.2.2.2.1 ∧ okA r.2.2.2.2.2.2.2.1 ∧ okJ r.2.2.2.2.2.2.2.2) 0 0) 0 0 n (ov [a_t, (a_t + 6), (a_t + 24), (a_t + 27), (a_t + 28), (a_t + 29), (a_t + 30), (a_t + 31), (a_t + 32), (a_t + 34)] [.inr (11, fsX11 a_t t_thrown t_taped t_p t_fault t_baseLow t_baseHigh t_newBaseLow t_newBaseHigh t_from t_knots t_lines t_chosen t_undos t_redos t_aimedMany t_fits t_fitOf t_sights t_systems t_own t_cross t_curveLong t_wallFirst), IA E 21 t_push, IA E 100 t_cur, IA E 21 t_pushAt, JA E 6 t_curSum, IA E 100 t_row, IA E 100 t_marked, JA E 6 t_sums, IA E 5000 t_undoRow, JA E 300 t_undoSum] h) 0 [some (.ref a_t), none] [] := by
    have hs := hm
    exact g_X11_back_0 ao ok_t_undos ok_t_redos ok_t_push ok_t_cur ok_t_pushAt ok_t_curSum ok_t_row ok_t_marked ok_t_sums ok_t_undoRow ok_t_undoSum hs
  rw [FA_id hf] at hg
  exact Ct_of [some (.ref a_t), none] ⟨by decide +kernel, rfl⟩ rfl (Nat.le_of_ble_eq_true rfl) hg

/-! ===== X11_run ===== -/
theorem e_X11_run_0 : DC cX11_run 0 (.iload_n 1) 1 1 := ⟨by decide +kernel, rfl⟩
theorem e_X11_run_1 : DC cX11_run 1 (.sipush (-9999)) 3 4 := ⟨by decide +kernel, rfl⟩
theorem e_X11_run_4 : DC cX11_run 4 (.sipush 9999) 3 7 := ⟨by decide +kernel, rfl⟩
theorem e_X11_run_7 : DC cX11_run 7 (.invokestatic 226) 3 10 := ⟨by decide +kernel, rfl⟩
theorem e_X11_run_10 : DB cX11_run 10 (.ifCond .eq 23) (23) 3 13 33 := ⟨by decide +kernel, rfl, rfl⟩
theorem e_X11_run_13 : DC cX11_run 13 (.iload_n 2) 1 14 := ⟨by decide +kernel, rfl⟩
theorem e_X11_run_14 : DC cX11_run 14 (.iconst 0) 1 15 := ⟨by decide +kernel, rfl⟩
theorem e_X11_run_15 : DC cX11_run 15 (.sipush 200) 3 18 := ⟨by decide +kernel, rfl⟩
theorem e_X11_run_18 : DC cX11_run 18 (.invokestatic 226) 3 21 := ⟨by decide +kernel, rfl⟩
theorem e_X11_run_21 : DB cX11_run 21 (.ifCond .eq 12) (12) 3 24 33 := ⟨by decide +kernel, rfl, rfl⟩
theorem e_X11_run_24 : DC cX11_run 24 (.iload_n 3) 1 25 := ⟨by decide +kernel, rfl⟩
theorem e_X11_run_25 : DC cX11_run 25 (.iconst 0) 1 26 := ⟨by decide +kernel, rfl⟩
theorem e_X11_run_26 : DC cX11_run 26 (.iconst 1) 1 27 := ⟨by decide +kernel, rfl⟩
theorem e_X11_run_27 : DC cX11_run 27 (.invokestatic 226) 3 30 := ⟨by decide +kernel, rfl⟩
theorem e_X11_run_30 : DB cX11_run 30 (.ifCond .ne 5) (5) 3 33 35 := ⟨by decide +kernel, rfl, rfl⟩
theorem e_X11_run_33 : DC cX11_run 33 (.iconst (-1)) 1 34 := ⟨by decide +kernel, rfl⟩
theorem e_X11_run_34 : DC cX11_run 34 (.ireturn) 1 35 := ⟨by decide +kernel, rfl⟩
theorem e_X11_run_35 : DC cX11_run 35 (.aload_n 0) 1 36 := ⟨by decide +kernel, rfl⟩
theorem e_X11_run_36 : DC cX11_run 36 (.invokevirtual 365) 3 39 := ⟨by decide +kernel, rfl⟩
theorem e_X11_run_39 : DC cX11_run 39 (.aload_n 0) 1 40 := ⟨by decide +kernel, rfl⟩
theorem e_X11_run_40 : DC cX11_run 40 (.invokevirtual 362) 3 43 := ⟨by decide +kernel, rfl⟩
theorem e_X11_run_43 : DC cX11_run 43 (.aload_n 0) 1 44 := ⟨by decide +kernel, rfl⟩
theorem e_X11_run_44 : DC cX11_run 44 (.iload_n 1) 1 45 := ⟨by decide +kernel, rfl⟩
theorem e_X11_run_45 : DC cX11_run 45 (.iload_n 2) 1 46 := ⟨by decide +kernel, rfl⟩
theorem e_X11_run_46 : DC cX11_run 46 (.iload_n 3) 1 47 := ⟨by decide +kernel, rfl⟩
theorem e_X11_run_47 : DC cX11_run 47 (.invokevirtual 368) 3 50 := ⟨by decide +kernel, rfl⟩
theorem e_X11_run_50 : DC cX11_run 50 (.istore 4) 2 52 := ⟨by decide +kernel, rfl⟩
theorem e_X11_run_52 : DC cX11_run 52 (.aload_n 0) 1 53 := ⟨by decide +kernel, rfl⟩
theorem e_X11_run_53 : DC cX11_run 53 (.aload_n 0) 1 54 := ⟨by decide +kernel, rfl⟩
theorem e_X11_run_54 : DC cX11_run 54 (.getfield 97) 3 57 := ⟨by decide +kernel, rfl⟩
theorem e_X11_run_57 : DC cX11_run 57 (.iconst 0) 1 58 := ⟨by decide +kernel, rfl⟩
theorem e_X11_run_58 : DC cX11_run 58 (.aload_n 0) 1 59 := ⟨by decide +kernel, rfl⟩
theorem e_X11_run_59 : DC cX11_run 59 (.getfield 103) 3 62 := ⟨by decide +kernel, rfl⟩
theorem e_X11_run_62 : DC cX11_run 62 (.iconst 0) 1 63 := ⟨by decide +kernel, rfl⟩
theorem e_X11_run_63 : DC cX11_run 63 (.invokevirtual 353) 3 66 := ⟨by decide +kernel, rfl⟩
theorem e_X11_run_66 : DC cX11_run 66 (.iload 4) 2 68 := ⟨by decide +kernel, rfl⟩
theorem e_X11_run_68 : DC cX11_run 68 (.ireturn) 1 69 := ⟨by decide +kernel, rfl⟩
noncomputable def m_X11_run_0 (t_baseLow : Int) (t_baseHigh : Int) (t_undos : Int) (t_redos : Int) (t_push : Nat → Int) (t_speckLow : Nat → Int) (t_speckHigh : Nat → Int) (t_sourceHold : Nat → Int) (t_cur : Nat → Int) (t_was : Nat → Int) (t_feel : Nat → Int) (t_pushAt : Nat → Int) (t_curSum : Nat → Int) (t_row : Nat → Int) (t_sums : Nat → Int) (t_undoRow : Nat → Int) (t_undoSum : Nat → Int) (v1 : Int) (v2 : Int) (v3 : Int) : Option (Int × Int × Int × (Nat → Int) × (Nat → Int) × (Nat → Int) × (Nat → Int) × (Nat → Int) × (Nat → Int) × (Nat → Int) × (Nat → Int) × (Nat → Int)) :=
  (m_X11_in v1 (-9999) 9999).bind (fun y1 => if y1 = 0 then (some ((-1), t_undos, t_redos, t_cur, t_was, t_feel, t_pushAt, t_curSum, t_row, t_sums, t_undoRow, t_undoSum)) else ((m_X11_in v2 0 200).bind (fun y2 => if y2 = 0 then (some ((-1), t_undos, t_redos, t_cur, t_was, t_feel, t_pushAt, t_curSum, t_row, t_sums, t_undoRow, t_undoSum)) else ((m_X11_in v3 0 1).bind (fun y3 => if y3 = 0 then (some ((-1), t_undos, t_redos, t_cur, t_was, t_feel, t_pushAt, t_curSum, t_row, t_sums, t_undoRow, t_undoSum)) else ((m_X11_act t_undos t_redos t_cur t_curSum t_row t_sums t_undoRow t_undoSum).bind (fun y4 => (m_X11_atHand t_push y4.2.2.1 t_pushAt y4.2.2.2.1 t_row t_sums).bind (fun y5 => (m_X11_runs t_baseLow t_baseHigh t_speckLow t_speckHigh t_sourceHold y5.1 t_was t_feel y5.2.1 y5.2.2 v1 v2 v3).bind (fun y6 => (m_X11_keeps 100 6 y6.2.1 y6.2.2.2.2 t_row t_sums 0 0).bind (fun y7 => some (y6.1, y4.1, y4.2.1, y6.2.1, y6.2.2.1, y6.2.2.2.1, y5.2.1, y6.2.2.2.2, y7.1, y7.2, y4.2.2.2.2.1, y4.2.2.2.2.2)))))))))))

set_option maxRecDepth 10000 in
set_option maxHeartbeats 8000000 in
theorem g_X11_run_0 {l : Launch} {E : EE} {b0 n : Nat} {h : AH} {a_t : Nat} {t_thrown t_taped t_p t_fault t_baseLow t_baseHigh t_newBaseLow t_newBaseHigh t_from t_knots t_lines t_chosen t_undos t_redos t_aimedMany t_fits t_fitOf t_sights t_systems t_own t_cross t_curveLong t_wallFirst v1 v2 v3 : Int} {t_push t_speckLow t_speckHigh t_sourceHold t_cur t_was t_feel t_pushAt t_curSum t_row t_sums t_undoRow t_undoSum : Nat → Int} {r : Int × Int × Int × (Nat → Int) × (Nat → Int) × (Nat → Int) × (Nat → Int) × (Nat → Int) × (Nat → Int) × (Nat → Int) × (Nat → Int) × (Nat → Int)} (ao : AO b0 n [a_t, (a_t + 6), (a_t + 8), (a_t + 9), (a_t + 10), (a_t + 24), (a_t + 25), (a_t + 26), (a_t + 27), (a_t + 28), (a_t + 29), (a_t + 31), (a_t + 32), (a_t + 34)]) (ok_t_baseLow : inI t_baseLow) (ok_t_baseHigh : inI t_baseHigh) (ok_t_undos : inI t_undos) (ok_t_redos : inI t_redos) (ok_t_push : okA t_push) (ok_t_speckLow : okA t_speckLow) (ok_t_speckHigh : okA t_speckHigh) (ok_t_sourceHold : okA t_sourceHold) (ok_t_cur : okA t_cur) (ok_t_was : okA t_was) (ok_t_feel : okA t_feel) (ok_t_pushAt : okA t_pushAt) (ok_t_curSum : okJ t_curSum) (ok_t_row : okA t_row) (ok_t_sums : okJ t_sums) (ok_t_undoRow : okA t_undoRow) (ok_t_undoSum : okJ t_undoSum) (ok_v1 : inI v1) (ok_v2 : inI v2) (ok_v3 : inI v3) (hs : m_X11_run_0 t_baseLow t_baseHigh t_undos t_redos t_push t_speckLow t_speckHigh t_sourceHold t_cur t_was t_feel t_pushAt t_curSum t_row t_sums t_undoRow t_undoSum v1 v2 v3 = some r) : G l E b0 M_X11_run (fun _ => True) (ZM E b0 (some (vI r.1)) (ov [a_t, (a_t + 6), (a_t + 8), (a_t + 9), (a_t + 10), (a_t + 24), (a_t + 25), (a_t + 26), (a_t + 27), (a_t + 28), (a_t + 29), (a_t + 31), (a_t + 32), (a_t + 34)] [.inr (11, fsX11 a_t t_thrown t_taped t_p t_fault t_baseLow t_baseHigh t_newBaseLow t_newBaseHigh t_from t_knots t_lines t_chosen r.2.1 r.2.2.1 t_aimedMany t_fits t_fitOf t_sights t_systems t_own t_cross t_curveLong t_wallFirst), IA E 21 t_push, IA E 100 t_speckLow, IA E 100 t_speckHigh, IA E 100 t_sourceHold, IA E 100 r.2.2.2.1, IA E 100 r.2.2.2.2.1, IA E 100 r.2.2.2.2.2.1, IA E 21 r.2.2.2.2.2.2.1, JA E 6 r.2.2.2.2.2.2.2.1, IA E 100 r.2.2.2.2.2.2.2.2.1, JA E 6 r.2.2.2.2.2.2.2.2.2.1, IA E 5000 r.2.2.2.2.2.2.2.2.2.2.1, JA E 300 r.2.2.2.2.2.2.2.2.2.2.2] h) n (inI r.1 ∧ inI r.2.1 ∧ inI r.2.2.1 ∧ okA r.2.2.2.1 ∧ okA r.2.2.2.2.1 ∧ okA r.2.2.2.2.2.1 ∧ okA r.2.2.2.2.2.2.1 ∧ okJ r.2.2.2.2.2.2.2.1 ∧ okA r.2.2.2.2.2.2.2.2.1 ∧ okJ r.2.2.2.2.2.2.2.2.2.1 ∧ okA r.2.2.2.2.2.2.2.2.2.2.1 ∧ okJ r.2.2.2.2.2.2.2.2.2.2.2) 0 0) 0 0 n (ov [a_t, (a_t + 6), (a_t + 8), (a_t + 9), (a_t + 10), (a_t + 24), (a_t + 25), (a_t + 26), (a_t + 27), (a_t + 28), (a_t + 29), (a_t + 31), (a_t + 32), (a_t + 34)] [.inr (11, fsX11 a_t t_thrown t_taped t_p t_fault t_baseLow t_baseHigh t_newBaseLow t_newBaseHigh t_from t_knots t_lines t_chosen t_undos t_redos t_aimedMany t_fits t_fitOf t_sights t_systems t_own t_cross t_curveLong t_wallFirst), IA E 21 t_push, IA E 100 t_speckLow, IA E 100 t_speckHigh, IA E 100 t_sourceHold, IA E 100 t_cur, IA E 100 t_was, IA E 100 t_feel, IA E 21 t_pushAt, JA E 6 t_curSum, IA E 100 t_row, JA E 6 t_sums, IA E 5000 t_undoRow, JA E 300 t_undoSum] h) 0 [some (.ref a_t), some (vI v1), some (vI v2), some (vI v3), none] [] := by
  rw [m_X11_run_0] at hs
  refine g_iload_n e_X11_run_0 rfl ?_
  refine g_sipush e_X11_run_1 sp_m9999 ?_
  refine g_sipush e_X11_run_4 sp_9999 ?_
  obtain ⟨y1, hy1, hs⟩ := bind_elim hs
  refine g_callSr [vI v1, vI (-9999), vI 9999] cs_X11_226 ⟨rfl, rfl, Nat.le_of_ble_eq_true rfl, Nat.le_of_ble_eq_true rfl⟩ (ct_X11_in ⟨List.nodup_nil, fun i a h => by simp at h⟩ (fun i a e h => by simp at h) ok_v1 (by decide : inI (-9999)) (by decide : inI 9999) hy1) e_X11_run_7 rfl rfl (Nat.le_of_ble_eq_true rfl) ⟨Nat.le_refl _, Nat.le_refl _⟩ (fun Py1 => ?_)
  refine g_if_eq e_X11_run_10 (inZ_I Py1) hs (fun c10 hs => ?_) (fun c10 hs => ?_)
  · refine g_iconst e_X11_run_33 ?_
    obtain rfl := Option.some.inj hs
    exact g_iret rfl ⟨(by decide : inI (-1)), ok_t_undos, ok_t_redos, ok_t_cur, ok_t_was, ok_t_feel, ok_t_pushAt, ok_t_curSum, ok_t_row, ok_t_sums, ok_t_undoRow, ok_t_undoSum⟩ e_X11_run_34
  · refine g_iload_n e_X11_run_13 rfl ?_
    refine g_iconst e_X11_run_14 ?_
    refine g_sipush e_X11_run_15 sp_200 ?_
    obtain ⟨y2, hy2, hs⟩ := bind_elim hs
    refine g_callSr [vI v2, vI 0, vI 200] cs_X11_226 ⟨rfl, rfl, Nat.le_of_ble_eq_true rfl, Nat.le_of_ble_eq_true rfl⟩ (ct_X11_in ⟨List.nodup_nil, fun i a h => by simp at h⟩ (fun i a e h => by simp at h) ok_v2 (by decide : inI 0) (by decide : inI 200) hy2) e_X11_run_18 rfl rfl (Nat.le_of_ble_eq_true rfl) ⟨Nat.le_refl _, Nat.le_refl _⟩ (fun Py2 => ?_)
    refine g_if_eq e_X11_run_21 (inZ_I Py2) hs (fun c21 hs => ?_) (fun c21 hs => ?_)
    · refine g_iconst e_X11_run_33 ?_
      obtain rfl := Option.some.inj hs
      exact g_iret rfl ⟨(by decide : inI (-1)), ok_t_undos, ok_t_redos, ok_t_cur, ok_t_was, ok_t_feel, ok_t_pushAt, ok_t_curSum, ok_t_row, ok_t_sums, ok_t_undoRow, ok_t_undoSum⟩ e_X11_run_34
    · refine g_iload_n e_X11_run_24 rfl ?_
      refine g_iconst e_X11_run_25 ?_
      refine g_iconst e_X11_run_26 ?_
      obtain ⟨y3, hy3, hs⟩ := bind_elim hs
      refine g_callSr [vI v3, vI 0, vI 1] cs_X11_226 ⟨rfl, rfl, Nat.le_of_ble_eq_true rfl, Nat.le_of_ble_eq_true rfl⟩ (ct_X11_in ⟨List.nodup_nil, fun i a h => by simp at h⟩ (fun i a e h => by simp at h) ok_v3 (by decide : inI 0) (by decide : inI 1) hy3) e_X11_run_27 rfl rfl (Nat.le_of_ble_eq_true rfl) ⟨Nat.le_refl _, Nat.le_refl _⟩ (fun Py3 => ?_)
      refine g_if_ne e_X11_run_30 (inZ_I Py3) hs (fun c30 hs => ?_) (fun c30 hs => ?_)
      · refine g_iconst e_X11_run_33 ?_
        obtain rfl := Option.some.inj hs
        exact g_iret rfl ⟨(by decide : inI (-1)), ok_t_undos, ok_t_redos, ok_t_cur, ok_t_was, ok_t_feel, ok_t_pushAt, ok_t_curSum, ok_t_row, ok_t_sums, ok_t_undoRow, ok_t_undoSum⟩ e_X11_run_34
      · refine g_aload_n e_X11_run_35 rfl ?_
        obtain ⟨y4, hy4, hs⟩ := bind_elim hs
        refine g_callVv [] cv_X11_365 ⟨rfl, rfl, Nat.le_of_ble_eq_true rfl, Nat.le_of_ble_eq_true rfl⟩ (Ct_heap (ct_X11_act (a_t := a_t) (AO_call [0, 5, 9, 10, 11, 12, 13] ao (by decide) rfl) (FA_call [0, 5, 9, 10, 11, 12, 13] ao.1 rfl rfl) ok_t_undos ok_t_redos ok_t_cur ok_t_curSum ok_t_row ok_t_sums ok_t_undoRow ok_t_undoSum hy4) (ov_call (esn := [.inr (11, fsX11 a_t t_thrown t_taped t_p t_fault t_baseLow t_baseHigh t_newBaseLow t_newBaseHigh t_from t_knots t_lines t_chosen y4.1 y4.2.1 t_aimedMany t_fits t_fitOf t_sights t_systems t_own t_cross t_curveLong t_wallFirst), IA E 21 t_push, IA E 100 t_speckLow, IA E 100 t_speckHigh, IA E 100 t_sourceHold, IA E 100 y4.2.2.1, IA E 100 t_was, IA E 100 t_feel, IA E 21 t_pushAt, JA E 6 y4.2.2.2.1, IA E 100 t_row, JA E 6 t_sums, IA E 5000 y4.2.2.2.2.1, JA E 300 y4.2.2.2.2.2]) [0, 5, 9, 10, 11, 12, 13] ao.1 rfl rfl rfl rfl)) e_X11_run_36 (ao.2 0 _ rfl) (ov_get 0 ao.1 rfl rfl) rfl rfl rfl (Nat.le_of_ble_eq_true rfl) ⟨Nat.le_refl _, Nat.le_refl _⟩ (fun Py4 => ?_)
        refine g_aload_n e_X11_run_39 rfl ?_
        obtain ⟨y5, hy5, hs⟩ := bind_elim hs
        refine g_callVv [] cv_X11_362 ⟨rfl, rfl, Nat.le_of_ble_eq_true rfl, Nat.le_of_ble_eq_true rfl⟩ (Ct_heap (ct_X11_atHand (a_t := a_t) (AO_call [0, 1, 5, 8, 9, 10, 11] ao (by decide) rfl) (FA_call [0, 1, 5, 8, 9, 10, 11] ao.1 rfl rfl) ok_t_push Py4.2.2.1 ok_t_pushAt Py4.2.2.2.1 ok_t_row ok_t_sums hy5) (ov_call (esn := [.inr (11, fsX11 a_t t_thrown t_taped t_p t_fault t_baseLow t_baseHigh t_newBaseLow t_newBaseHigh t_from t_knots t_lines t_chosen y4.1 y4.2.1 t_aimedMany t_fits t_fitOf t_sights t_systems t_own t_cross t_curveLong t_wallFirst), IA E 21 t_push, IA E 100 t_speckLow, IA E 100 t_speckHigh, IA E 100 t_sourceHold, IA E 100 y5.1, IA E 100 t_was, IA E 100 t_feel, IA E 21 y5.2.1, JA E 6 y5.2.2, IA E 100 t_row, JA E 6 t_sums, IA E 5000 y4.2.2.2.2.1, JA E 300 y4.2.2.2.2.2]) [0, 1, 5, 8, 9, 10, 11] ao.1 rfl rfl rfl rfl)) e_X11_run_40 (ao.2 0 _ rfl) (ov_get 0 ao.1 rfl rfl) rfl rfl rfl (Nat.le_of_ble_eq_true rfl) ⟨Nat.le_refl _, Nat.le_refl _⟩ (fun Py5 => ?_)
        refine g_aload_n e_X11_run_43 rfl ?_
        refine g_iload_n e_X11_run_44 rfl ?_
        refine g_iload_n e_X11_run_45 rfl ?_
        refine g_iload_n e_X11_run_46 rfl ?_
        obtain ⟨y6, hy6, hs⟩ := bind_elim hs
        refine g_callVr [vI v1, vI v2, vI v3] cv_X11_368 ⟨rfl, rfl, Nat.le_of_ble_eq_true rfl, Nat.le_of_ble_eq_true rfl⟩ (Ct_heap (ct_X11_runs (a_t := a_t) (AO_call [0, 2, 3, 4, 5, 6, 7, 8, 9] ao (by decide) rfl) (FA_call [0, 2, 3, 4, 5, 6, 7, 8, 9] ao.1 rfl rfl) ok_t_baseLow ok_t_baseHigh ok_t_speckLow ok_t_speckHigh ok_t_sourceHold Py5.1 ok_t_was ok_t_feel Py5.2.1 Py5.2.2 ok_v1 ok_v2 ok_v3 hy6) (ov_call (esn := [.inr (11, fsX11 a_t t_thrown t_taped t_p t_fault t_baseLow t_baseHigh t_newBaseLow t_newBaseHigh t_from t_knots t_lines t_chosen y4.1 y4.2.1 t_aimedMany t_fits t_fitOf t_sights t_systems t_own t_cross t_curveLong t_wallFirst), IA E 21 t_push, IA E 100 t_speckLow, IA E 100 t_speckHigh, IA E 100 t_sourceHold, IA E 100 y6.2.1, IA E 100 y6.2.2.1, IA E 100 y6.2.2.2.1, IA E 21 y5.2.1, JA E 6 y6.2.2.2.2, IA E 100 t_row, JA E 6 t_sums, IA E 5000 y4.2.2.2.2.1, JA E 300 y4.2.2.2.2.2]) [0, 2, 3, 4, 5, 6, 7, 8, 9] ao.1 rfl rfl rfl rfl)) e_X11_run_47 (ao.2 0 _ rfl) (ov_get 0 ao.1 rfl rfl) rfl rfl rfl (Nat.le_of_ble_eq_true rfl) ⟨Nat.le_refl _, Nat.le_refl _⟩ (fun Py6 => ?_)
        refine g_istore e_X11_run_50 st1_4 rfl ?_
        refine g_aload_n e_X11_run_52 rfl ?_
        refine g_aload_n e_X11_run_53 rfl ?_
        refine g_get 0 40 ao rfl rfl fsX11_g40 fl_X11_97 e_X11_run_54 ?_
        refine g_iconst e_X11_run_57 ?_
        refine g_aload_n e_X11_run_58 rfl ?_
        refine g_get 0 42 ao rfl rfl fsX11_g42 fl_X11_103 e_X11_run_59 ?_
        refine g_iconst e_X11_run_62 ?_
        obtain ⟨y7, hy7, hs⟩ := bind_elim hs
        refine g_callVv [.ref (a_t + 29), vI 0, .ref (a_t + 31), vI 0] cv_X11_353 ⟨rfl, rfl, Nat.le_of_ble_eq_true rfl, Nat.le_of_ble_eq_true rfl⟩ (Ct_heap (ct_X11_keeps (a_t := a_t) (a_p1 := (a_t + 29)) (a_p3 := (a_t + 31)) (AO_call [0, 5, 9, 10, 11] ao (by decide) rfl) (by omega) (by omega) (FA_call [0, 5, 9, 10, 11] ao.1 rfl rfl) Py6.2.1 Py6.2.2.2.2 ok_t_row ok_t_sums (by decide : inI 0) (by decide : inI 0) hy7) (ov_call (esn := [.inr (11, fsX11 a_t t_thrown t_taped t_p t_fault t_baseLow t_baseHigh t_newBaseLow t_newBaseHigh t_from t_knots t_lines t_chosen y4.1 y4.2.1 t_aimedMany t_fits t_fitOf t_sights t_systems t_own t_cross t_curveLong t_wallFirst), IA E 21 t_push, IA E 100 t_speckLow, IA E 100 t_speckHigh, IA E 100 t_sourceHold, IA E 100 y6.2.1, IA E 100 y6.2.2.1, IA E 100 y6.2.2.2.1, IA E 21 y5.2.1, JA E 6 y6.2.2.2.2, IA E 100 y7.1, JA E 6 y7.2, IA E 5000 y4.2.2.2.2.1, JA E 300 y4.2.2.2.2.2]) [0, 5, 9, 10, 11] ao.1 rfl rfl rfl rfl)) e_X11_run_63 (ao.2 0 _ rfl) (ov_get 0 ao.1 rfl rfl) rfl rfl rfl (Nat.le_of_ble_eq_true rfl) ⟨Nat.le_refl _, Nat.le_refl _⟩ (fun Py7 => ?_)
        refine g_iload e_X11_run_66 rfl ?_
        obtain rfl := Option.some.inj hs
        exact g_iret rfl ⟨Py6.1, Py4.1, Py4.2.1, Py6.2.1, Py6.2.2.1, Py6.2.2.2.1, Py5.2.1, Py6.2.2.2.2, Py7.1, Py7.2, Py4.2.2.2.2.1, Py4.2.2.2.2.2⟩ e_X11_run_68

noncomputable def m_X11_run (t_baseLow : Int) (t_baseHigh : Int) (t_undos : Int) (t_redos : Int) (t_push : Nat → Int) (t_speckLow : Nat → Int) (t_speckHigh : Nat → Int) (t_sourceHold : Nat → Int) (t_cur : Nat → Int) (t_was : Nat → Int) (t_feel : Nat → Int) (t_pushAt : Nat → Int) (t_curSum : Nat → Int) (t_row : Nat → Int) (t_sums : Nat → Int) (t_undoRow : Nat → Int) (t_undoSum : Nat → Int) (v1 : Int) (v2 : Int) (v3 : Int) : Option (Int × Int × Int × (Nat → Int) × (Nat → Int) × (Nat → Int) × (Nat → Int) × (Nat → Int) × (Nat → Int) × (Nat → Int) × (Nat → Int) × (Nat → Int)) := m_X11_run_0 t_baseLow t_baseHigh t_undos t_redos t_push t_speckLow t_speckHigh t_sourceHold t_cur t_was t_feel t_pushAt t_curSum t_row t_sums t_undoRow t_undoSum v1 v2 v3

set_option maxRecDepth 10000 in
set_option maxHeartbeats 8000000 in
theorem ct_X11_run {l : Launch} {E : EE} {b0 n : Nat} {h : AH} {a_t : Nat} {t_thrown t_taped t_p t_fault t_baseLow t_baseHigh t_newBaseLow t_newBaseHigh t_from t_knots t_lines t_chosen t_undos t_redos t_aimedMany t_fits t_fitOf t_sights t_systems t_own t_cross t_curveLong t_wallFirst : Int} {t_push t_speckLow t_speckHigh t_sourceHold t_cur t_was t_feel t_pushAt t_curSum t_row t_sums t_undoRow t_undoSum : Nat → Int} {v1 v2 v3 : Int} (ao : AO b0 n [a_t, (a_t + 6), (a_t + 8), (a_t + 9), (a_t + 10), (a_t + 24), (a_t + 25), (a_t + 26), (a_t + 27), (a_t + 28), (a_t + 29), (a_t + 31), (a_t + 32), (a_t + 34)]) (hf : FA h [a_t, (a_t + 6), (a_t + 8), (a_t + 9), (a_t + 10), (a_t + 24), (a_t + 25), (a_t + 26), (a_t + 27), (a_t + 28), (a_t + 29), (a_t + 31), (a_t + 32), (a_t + 34)] [.inr (11, fsX11 a_t t_thrown t_taped t_p t_fault t_baseLow t_baseHigh t_newBaseLow t_newBaseHigh t_from t_knots t_lines t_chosen t_undos t_redos t_aimedMany t_fits t_fitOf t_sights t_systems t_own t_cross t_curveLong t_wallFirst), IA E 21 t_push, IA E 100 t_speckLow, IA E 100 t_speckHigh, IA E 100 t_sourceHold, IA E 100 t_cur, IA E 100 t_was, IA E 100 t_feel, IA E 21 t_pushAt, JA E 6 t_curSum, IA E 100 t_row, JA E 6 t_sums, IA E 5000 t_undoRow, JA E 300 t_undoSum]) (ok_t_baseLow : inI t_baseLow) (ok_t_baseHigh : inI t_baseHigh) (ok_t_undos : inI t_undos) (ok_t_redos : inI t_redos) (ok_t_push : okA t_push) (ok_t_speckLow : okA t_speckLow) (ok_t_speckHigh : okA t_speckHigh) (ok_t_sourceHold : okA t_sourceHold) (ok_t_cur : okA t_cur) (ok_t_was : okA t_was) (ok_t_feel : okA t_feel) (ok_t_pushAt : okA t_pushAt) (ok_t_curSum : okJ t_curSum) (ok_t_row : okA t_row) (ok_t_sums : okJ t_sums) (ok_t_undoRow : okA t_undoRow) (ok_t_undoSum : okJ t_undoSum) (ok_v1 : inI v1) (ok_v2 : inI v2) (ok_v3 : inI v3) {r : Int × Int × Int × (Nat → Int) × (Nat → Int) × (Nat → Int) × (Nat → Int) × (Nat → Int) × (Nat → Int) × (Nat → Int) × (Nat → Int) × (Nat → Int)} (hm : m_X11_run t_baseLow t_baseHigh t_undos t_redos t_push t_speckLow t_speckHigh t_sourceHold t_cur t_was t_feel t_pushAt t_curSum t_row t_sums t_undoRow t_undoSum v1 v2 v3 = some r) : Ct l E b0 M_X11_run 0 0 [.ref a_t, vI v1, vI v2, vI v3] h n (some (vI r.1)) (ov [a_t, (a_t + 6), (a_t + 8), (a_t + 9), (a_t + 10), (a_t + 24), (a_t + 25), (a_t + 26), (a_t + 27), (a_t + 28), (a_t + 29), (a_t + 31), (a_t + 32), (a_t + 34)] [.inr (11, fsX11 a_t t_thrown t_taped t_p t_fault t_baseLow t_baseHigh t_newBaseLow t_newBaseHigh t_from t_knots t_lines t_chosen r.2.1 r.2.2.1 t_aimedMany t_fits t_fitOf t_sights t_systems t_own t_cross t_curveLong t_wallFirst), IA E 21 t_push, IA E 100 t_speckLow, IA E 100 t_speckHigh, IA E 100 t_sourceHold, IA E 100 r.2.2.2.1, IA E 100 r.2.2.2.2.1, IA E 100 r.2.2.2.2.2.1, IA E 21 r.2.2.2.2.2.2.1, JA E 6 r.2.2.2.2.2.2.2.1, IA E 100 r.2.2.2.2.2.2.2.2.1, JA E 6 r.2.2.2.2.2.2.2.2.2.1, IA E 5000 r.2.2.2.2.2.2.2.2.2.2.1, JA E 300 r.2.2.2.2.2.2.2.2.2.2.2] h) n (inI r.1 ∧ inI r.2.1 ∧ inI r.2.2.1 ∧ okA r.2.2.2.1 ∧ okA r.2.2.2.2.1 ∧ okA r.2.2.2.2.2.1 ∧ okA r.2.2.2.2.2.2.1 ∧ okJ r.2.2.2.2.2.2.2.1 ∧ okA r.2.2.2.2.2.2.2.2.1 ∧ okJ r.2.2.2.2.2.2.2.2.2.1 ∧ okA r.2.2.2.2.2.2.2.2.2.2.1 ∧ okJ r.2.2.2.2.2.2.2.2.2.2.2) := by
  rw [m_X11_run] at hm
  have hg : G l E b0 M_X11_run (fun _ => True) (ZM E b0 (some (vI r.1)) (ov [a_t, (a_t + 6), (a_t + 8), (a_t + 9), (a_t + 10), (a_t + 24), (a_t + 25), (a_t + 26), (a_t + 27), (a_t + 28), (a_t + 29), (a_t + 31), (a_t + 32), (a_t + 34)] [.inr (11, fsX11 a_t t_thrown t_taped t_p t_fault t_baseLow t_baseHigh t_newBaseLow t_newBaseHigh t_from t_knots t_lines t_chosen r.2.1 r.2.2.1 t_aimedMany t_fits t_fitOf t_sights t_systems t_own t_cross t_curveLong t_wallFirst), IA E 21 t_push, IA E 100 t_speckLow, IA E 100 t_speckHigh, IA E 100 t_sourceHold, IA E 100 r.2.2.2.1, IA E 100 r.2.2.2.2.1, IA E 100 r.2.2.2.2.2.1, IA E 21 r.2.2.2.2.2.2.1, JA E 6 r.2.2.2.2.2.2.2.1, IA E 100 r.2.2.2.2.2.2.2.2.1, JA E 6 r.2.2.2.2.2.2.2.2.2.1, IA E 5000 r.2.2.2.2.2.2.2.2.2.2.1, JA E 300 r.2.2.2.2.2.2.2.2.2.2.2] h) n (inI r.1 ∧ inI r.2.1 ∧ inI r.2.2.1 ∧ okA r.2.2.2.1 ∧ okA r.2.2.2.2.1 ∧ okA r.2.2.2.2.2.1 ∧ okA r.2.2.2.2.2.2.1 ∧ okJ r.2.2.2.2.2.2.2.1 ∧ okA r.2.2.2.2.2.2.2.2.1 ∧ okJ r.2.2.2.2.2.2.2.2.2.1 ∧ okA r.2.2.2.2.2.2.2.2.2.2.1 ∧ okJ r.2.2.2.2.2.2.2.2.2.2.2) 0 0) 0 0 n (ov [a_t, (a_t + 6), (a_t + 8), (a_t + 9), (a_t + 10), (a_t + 24), (a_t + 25), (a_t + 26), (a_t + 27), (a_t + 28), (a_t + 29), (a_t + 31), (a_t + 32), (a_t + 34)] [.inr (11, fsX11 a_t t_thrown t_taped t_p t_fault t_baseLow t_baseHigh t_newBaseLow t_newBaseHigh t_from t_knots t_lines t_chosen t_undos t_redos t_aimedMany t_fits t_fitOf t_sights t_systems t_own t_cross t_curveLong t_wallFirst), IA E 21 t_push, IA E 100 t_speckLow, IA E 100 t_speckHigh, IA E 100 t_sourceHold, IA E 100 t_cur, IA E 100 t_was, IA E 100 t_feel, IA E 21 t_pushAt, JA E 6 t_curSum, IA E 100 t_row, JA E 6 t_sums, IA E 5000 t_undoRow, JA E 300 t_undoSum] h) 0 [some (.ref a_t), some (vI v1), some (vI v2), some (vI v3), none] [] := by
    have hs := hm
    exact g_X11_run_0 ao ok_t_baseLow ok_t_baseHigh ok_t_undos ok_t_redos ok_t_push ok_t_speckLow ok_t_speckHigh ok_t_sourceHold ok_t_cur ok_t_was ok_t_feel ok_t_pushAt ok_t_curSum ok_t_row ok_t_sums ok_t_undoRow ok_t_undoSum ok_v1 ok_v2 ok_v3 hs
  rw [FA_id hf] at hg
  exact Ct_of [some (.ref a_t), some (vI v1), some (vI v2), some (vI v3), none] ⟨by decide +kernel, rfl⟩ rfl (Nat.le_of_ble_eq_true rfl) hg

/-! ===== X11_sure ===== -/
theorem e_X11_sure_0 : DC cX11_sure 0 (.iload_n 1) 1 1 := ⟨by decide +kernel, rfl⟩
theorem e_X11_sure_1 : DC cX11_sure 1 (.sipush (-9999)) 3 4 := ⟨by decide +kernel, rfl⟩
theorem e_X11_sure_4 : DC cX11_sure 4 (.sipush 9999) 3 7 := ⟨by decide +kernel, rfl⟩
theorem e_X11_sure_7 : DC cX11_sure 7 (.invokestatic 226) 3 10 := ⟨by decide +kernel, rfl⟩
theorem e_X11_sure_10 : DB cX11_sure 10 (.ifCond .eq 14) (14) 3 13 24 := ⟨by decide +kernel, rfl, rfl⟩
theorem e_X11_sure_13 : DC cX11_sure 13 (.iload_n 2) 1 14 := ⟨by decide +kernel, rfl⟩
theorem e_X11_sure_14 : DC cX11_sure 14 (.iconst 0) 1 15 := ⟨by decide +kernel, rfl⟩
theorem e_X11_sure_15 : DC cX11_sure 15 (.sipush 200) 3 18 := ⟨by decide +kernel, rfl⟩
theorem e_X11_sure_18 : DC cX11_sure 18 (.invokestatic 226) 3 21 := ⟨by decide +kernel, rfl⟩
theorem e_X11_sure_21 : DB cX11_sure 21 (.ifCond .ne 5) (5) 3 24 26 := ⟨by decide +kernel, rfl, rfl⟩
theorem e_X11_sure_24 : DC cX11_sure 24 (.iconst (-1)) 1 25 := ⟨by decide +kernel, rfl⟩
theorem e_X11_sure_25 : DC cX11_sure 25 (.ireturn) 1 26 := ⟨by decide +kernel, rfl⟩
theorem e_X11_sure_26 : DC cX11_sure 26 (.aload_n 0) 1 27 := ⟨by decide +kernel, rfl⟩
theorem e_X11_sure_27 : DC cX11_sure 27 (.invokevirtual 362) 3 30 := ⟨by decide +kernel, rfl⟩
theorem e_X11_sure_30 : DC cX11_sure 30 (.aload_n 0) 1 31 := ⟨by decide +kernel, rfl⟩
theorem e_X11_sure_31 : DC cX11_sure 31 (.iload_n 1) 1 32 := ⟨by decide +kernel, rfl⟩
theorem e_X11_sure_32 : DC cX11_sure 32 (.iload_n 2) 1 33 := ⟨by decide +kernel, rfl⟩
theorem e_X11_sure_33 : DC cX11_sure 33 (.iconst 0) 1 34 := ⟨by decide +kernel, rfl⟩
theorem e_X11_sure_34 : DC cX11_sure 34 (.invokevirtual 368) 3 37 := ⟨by decide +kernel, rfl⟩
theorem e_X11_sure_37 : DC cX11_sure 37 (.istore_n 3) 1 38 := ⟨by decide +kernel, rfl⟩
theorem e_X11_sure_38 : DC cX11_sure 38 (.aload_n 0) 1 39 := ⟨by decide +kernel, rfl⟩
theorem e_X11_sure_39 : DC cX11_sure 39 (.aload_n 0) 1 40 := ⟨by decide +kernel, rfl⟩
theorem e_X11_sure_40 : DC cX11_sure 40 (.getfield 118) 3 43 := ⟨by decide +kernel, rfl⟩
theorem e_X11_sure_43 : DC cX11_sure 43 (.iconst 0) 1 44 := ⟨by decide +kernel, rfl⟩
theorem e_X11_sure_44 : DC cX11_sure 44 (.aload_n 0) 1 45 := ⟨by decide +kernel, rfl⟩
theorem e_X11_sure_45 : DC cX11_sure 45 (.getfield 121) 3 48 := ⟨by decide +kernel, rfl⟩
theorem e_X11_sure_48 : DC cX11_sure 48 (.iconst 0) 1 49 := ⟨by decide +kernel, rfl⟩
theorem e_X11_sure_49 : DC cX11_sure 49 (.invokevirtual 353) 3 52 := ⟨by decide +kernel, rfl⟩
theorem e_X11_sure_52 : DC cX11_sure 52 (.aload_n 0) 1 53 := ⟨by decide +kernel, rfl⟩
theorem e_X11_sure_53 : DC cX11_sure 53 (.invokevirtual 362) 3 56 := ⟨by decide +kernel, rfl⟩
theorem e_X11_sure_56 : DC cX11_sure 56 (.aload_n 0) 1 57 := ⟨by decide +kernel, rfl⟩
theorem e_X11_sure_57 : DC cX11_sure 57 (.iload_n 1) 1 58 := ⟨by decide +kernel, rfl⟩
theorem e_X11_sure_58 : DC cX11_sure 58 (.iload_n 2) 1 59 := ⟨by decide +kernel, rfl⟩
theorem e_X11_sure_59 : DC cX11_sure 59 (.iconst 1) 1 60 := ⟨by decide +kernel, rfl⟩
theorem e_X11_sure_60 : DC cX11_sure 60 (.invokevirtual 368) 3 63 := ⟨by decide +kernel, rfl⟩
theorem e_X11_sure_63 : DC cX11_sure 63 (.istore 4) 2 65 := ⟨by decide +kernel, rfl⟩
theorem e_X11_sure_65 : DC cX11_sure 65 (.aload_n 0) 1 66 := ⟨by decide +kernel, rfl⟩
theorem e_X11_sure_66 : DC cX11_sure 66 (.aload_n 0) 1 67 := ⟨by decide +kernel, rfl⟩
theorem e_X11_sure_67 : DC cX11_sure 67 (.getfield 118) 3 70 := ⟨by decide +kernel, rfl⟩
theorem e_X11_sure_70 : DC cX11_sure 70 (.invokevirtual 371) 3 73 := ⟨by decide +kernel, rfl⟩
theorem e_X11_sure_73 : DB cX11_sure 73 (.ifCond .eq 7) (7) 3 76 80 := ⟨by decide +kernel, rfl, rfl⟩
theorem e_X11_sure_76 : DC cX11_sure 76 (.iconst 1) 1 77 := ⟨by decide +kernel, rfl⟩
theorem e_X11_sure_77 : DB cX11_sure 77 (.goto 4) (4) 3 80 81 := ⟨by decide +kernel, rfl, rfl⟩
theorem e_X11_sure_80 : DC cX11_sure 80 (.iconst 0) 1 81 := ⟨by decide +kernel, rfl⟩
theorem e_X11_sure_81 : DC cX11_sure 81 (.ireturn) 1 82 := ⟨by decide +kernel, rfl⟩
noncomputable def m_X11_sure_0 (t_baseLow : Int) (t_baseHigh : Int) (t_push : Nat → Int) (t_speckLow : Nat → Int) (t_speckHigh : Nat → Int) (t_sourceHold : Nat → Int) (t_cur : Nat → Int) (t_was : Nat → Int) (t_feel : Nat → Int) (t_pushAt : Nat → Int) (t_curSum : Nat → Int) (t_row : Nat → Int) (t_sums : Nat → Int) (t_other : Nat → Int) (t_otherSum : Nat → Int) (v1 : Int) (v2 : Int) : Option (Int × (Nat → Int) × (Nat → Int) × (Nat → Int) × (Nat → Int) × (Nat → Int) × (Nat → Int) × (Nat → Int)) :=
  (m_X11_in v1 (-9999) 9999).bind (fun y1 => if y1 = 0 then (some ((-1), t_cur, t_was, t_feel, t_pushAt, t_curSum, t_other, t_otherSum)) else ((m_X11_in v2 0 200).bind (fun y2 => if y2 = 0 then (some ((-1), t_cur, t_was, t_feel, t_pushAt, t_curSum, t_other, t_otherSum)) else ((m_X11_atHand t_push t_cur t_pushAt t_curSum t_row t_sums).bind (fun y3 => (m_X11_runs t_baseLow t_baseHigh t_speckLow t_speckHigh t_sourceHold y3.1 t_was t_feel y3.2.1 y3.2.2 v1 v2 0).bind (fun y4 => (m_X11_keeps 100 6 y4.2.1 y4.2.2.2.2 t_other t_otherSum 0 0).bind (fun y5 => (m_X11_atHand t_push y4.2.1 y3.2.1 y4.2.2.2.2 t_row t_sums).bind (fun y6 => (m_X11_runs t_baseLow t_baseHigh t_speckLow t_speckHigh t_sourceHold y6.1 y4.2.2.1 y4.2.2.2.1 y6.2.1 y6.2.2 v1 v2 1).bind (fun y7 => (m_X11_isAs 100 y7.2.1 y5.1).bind (fun y8 => if y8 = 0 then (some (0, y7.2.1, y7.2.2.1, y7.2.2.2.1, y6.2.1, y7.2.2.2.2, y5.1, y5.2)) else (some (1, y7.2.1, y7.2.2.1, y7.2.2.2.1, y6.2.1, y7.2.2.2.2, y5.1, y5.2))))))))))))

set_option maxRecDepth 10000 in
set_option maxHeartbeats 8000000 in
theorem g_X11_sure_0 {l : Launch} {E : EE} {b0 n : Nat} {h : AH} {a_t : Nat} {t_thrown t_taped t_p t_fault t_baseLow t_baseHigh t_newBaseLow t_newBaseHigh t_from t_knots t_lines t_chosen t_undos t_redos t_aimedMany t_fits t_fitOf t_sights t_systems t_own t_cross t_curveLong t_wallFirst v1 v2 : Int} {t_push t_speckLow t_speckHigh t_sourceHold t_cur t_was t_feel t_pushAt t_curSum t_row t_sums t_other t_otherSum : Nat → Int} {r : Int × (Nat → Int) × (Nat → Int) × (Nat → Int) × (Nat → Int) × (Nat → Int) × (Nat → Int) × (Nat → Int)} (ao : AO b0 n [a_t, (a_t + 6), (a_t + 8), (a_t + 9), (a_t + 10), (a_t + 24), (a_t + 25), (a_t + 26), (a_t + 27), (a_t + 28), (a_t + 29), (a_t + 31), (a_t + 36), (a_t + 37)]) (ok_t_baseLow : inI t_baseLow) (ok_t_baseHigh : inI t_baseHigh) (ok_t_push : okA t_push) (ok_t_speckLow : okA t_speckLow) (ok_t_speckHigh : okA t_speckHigh) (ok_t_sourceHold : okA t_sourceHold) (ok_t_cur : okA t_cur) (ok_t_was : okA t_was) (ok_t_feel : okA t_feel) (ok_t_pushAt : okA t_pushAt) (ok_t_curSum : okJ t_curSum) (ok_t_row : okA t_row) (ok_t_sums : okJ t_sums) (ok_t_other : okA t_other) (ok_t_otherSum : okJ t_otherSum) (ok_v1 : inI v1) (ok_v2 : inI v2) (hs : m_X11_sure_0 t_baseLow t_baseHigh t_push t_speckLow t_speckHigh t_sourceHold t_cur t_was t_feel t_pushAt t_curSum t_row t_sums t_other t_otherSum v1 v2 = some r) : G l E b0 M_X11_sure (fun _ => True) (ZM E b0 (some (vI r.1)) (ov [a_t, (a_t + 6), (a_t + 8), (a_t + 9), (a_t + 10), (a_t + 24), (a_t + 25), (a_t + 26), (a_t + 27), (a_t + 28), (a_t + 29), (a_t + 31), (a_t + 36), (a_t + 37)] [.inr (11, fsX11 a_t t_thrown t_taped t_p t_fault t_baseLow t_baseHigh t_newBaseLow t_newBaseHigh t_from t_knots t_lines t_chosen t_undos t_redos t_aimedMany t_fits t_fitOf t_sights t_systems t_own t_cross t_curveLong t_wallFirst), IA E 21 t_push, IA E 100 t_speckLow, IA E 100 t_speckHigh, IA E 100 t_sourceHold, IA E 100 r.2.1, IA E 100 r.2.2.1, IA E 100 r.2.2.2.1, IA E 21 r.2.2.2.2.1, JA E 6 r.2.2.2.2.2.1, IA E 100 t_row, JA E 6 t_sums, IA E 100 r.2.2.2.2.2.2.1, JA E 6 r.2.2.2.2.2.2.2] h) n (inI r.1 ∧ okA r.2.1 ∧ okA r.2.2.1 ∧ okA r.2.2.2.1 ∧ okA r.2.2.2.2.1 ∧ okJ r.2.2.2.2.2.1 ∧ okA r.2.2.2.2.2.2.1 ∧ okJ r.2.2.2.2.2.2.2) 0 0) 0 0 n (ov [a_t, (a_t + 6), (a_t + 8), (a_t + 9), (a_t + 10), (a_t + 24), (a_t + 25), (a_t + 26), (a_t + 27), (a_t + 28), (a_t + 29), (a_t + 31), (a_t + 36), (a_t + 37)] [.inr (11, fsX11 a_t t_thrown t_taped t_p t_fault t_baseLow t_baseHigh t_newBaseLow t_newBaseHigh t_from t_knots t_lines t_chosen t_undos t_redos t_aimedMany t_fits t_fitOf t_sights t_systems t_own t_cross t_curveLong t_wallFirst), IA E 21 t_push, IA E 100 t_speckLow, IA E 100 t_speckHigh, IA E 100 t_sourceHold, IA E 100 t_cur, IA E 100 t_was, IA E 100 t_feel, IA E 21 t_pushAt, JA E 6 t_curSum, IA E 100 t_row, JA E 6 t_sums, IA E 100 t_other, JA E 6 t_otherSum] h) 0 [some (.ref a_t), some (vI v1), some (vI v2), none, none] [] := by
  rw [m_X11_sure_0] at hs
  refine g_iload_n e_X11_sure_0 rfl ?_
  refine g_sipush e_X11_sure_1 sp_m9999 ?_
  refine g_sipush e_X11_sure_4 sp_9999 ?_
  obtain ⟨y1, hy1, hs⟩ := bind_elim hs
  refine g_callSr [vI v1, vI (-9999), vI 9999] cs_X11_226 ⟨rfl, rfl, Nat.le_of_ble_eq_true rfl, Nat.le_of_ble_eq_true rfl⟩ (ct_X11_in ⟨List.nodup_nil, fun i a h => by simp at h⟩ (fun i a e h => by simp at h) ok_v1 (by decide : inI (-9999)) (by decide : inI 9999) hy1) e_X11_sure_7 rfl rfl (Nat.le_of_ble_eq_true rfl) ⟨Nat.le_refl _, Nat.le_refl _⟩ (fun Py1 => ?_)
  refine g_if_eq e_X11_sure_10 (inZ_I Py1) hs (fun c10 hs => ?_) (fun c10 hs => ?_)
  · refine g_iconst e_X11_sure_24 ?_
    obtain rfl := Option.some.inj hs
    exact g_iret rfl ⟨(by decide : inI (-1)), ok_t_cur, ok_t_was, ok_t_feel, ok_t_pushAt, ok_t_curSum, ok_t_other, ok_t_otherSum⟩ e_X11_sure_25
  · refine g_iload_n e_X11_sure_13 rfl ?_
    refine g_iconst e_X11_sure_14 ?_
    refine g_sipush e_X11_sure_15 sp_200 ?_
    obtain ⟨y2, hy2, hs⟩ := bind_elim hs
    refine g_callSr [vI v2, vI 0, vI 200] cs_X11_226 ⟨rfl, rfl, Nat.le_of_ble_eq_true rfl, Nat.le_of_ble_eq_true rfl⟩ (ct_X11_in ⟨List.nodup_nil, fun i a h => by simp at h⟩ (fun i a e h => by simp at h) ok_v2 (by decide : inI 0) (by decide : inI 200) hy2) e_X11_sure_18 rfl rfl (Nat.le_of_ble_eq_true rfl) ⟨Nat.le_refl _, Nat.le_refl _⟩ (fun Py2 => ?_)
    refine g_if_ne e_X11_sure_21 (inZ_I Py2) hs (fun c21 hs => ?_) (fun c21 hs => ?_)
    · refine g_iconst e_X11_sure_24 ?_
      obtain rfl := Option.some.inj hs
      exact g_iret rfl ⟨(by decide : inI (-1)), ok_t_cur, ok_t_was, ok_t_feel, ok_t_pushAt, ok_t_curSum, ok_t_other, ok_t_otherSum⟩ e_X11_sure_25
    · refine g_aload_n e_X11_sure_26 rfl ?_
      obtain ⟨y3, hy3, hs⟩ := bind_elim hs
      refine g_callVv [] cv_X11_362 ⟨rfl, rfl, Nat.le_of_ble_eq_true rfl, Nat.le_of_ble_eq_true rfl⟩ (Ct_heap (ct_X11_atHand (a_t := a_t) (AO_call [0, 1, 5, 8, 9, 10, 11] ao (by decide) rfl) (FA_call [0, 1, 5, 8, 9, 10, 11] ao.1 rfl rfl) ok_t_push ok_t_cur ok_t_pushAt ok_t_curSum ok_t_row ok_t_sums hy3) (ov_call (esn := [.inr (11, fsX11 a_t t_thrown t_taped t_p t_fault t_baseLow t_baseHigh t_newBaseLow t_newBaseHigh t_from t_knots t_lines t_chosen t_undos t_redos t_aimedMany t_fits t_fitOf t_sights t_systems t_own t_cross t_curveLong t_wallFirst), IA E 21 t_push, IA E 100 t_speckLow, IA E 100 t_speckHigh, IA E 100 t_sourceHold, IA E 100 y3.1, IA E 100 t_was, IA E 100 t_feel, IA E 21 y3.2.1, JA E 6 y3.2.2, IA E 100 t_row, JA E 6 t_sums, IA E 100 t_other, JA E 6 t_otherSum]) [0, 1, 5, 8, 9, 10, 11] ao.1 rfl rfl rfl rfl)) e_X11_sure_27 (ao.2 0 _ rfl) (ov_get 0 ao.1 rfl rfl) rfl rfl rfl (Nat.le_of_ble_eq_true rfl) ⟨Nat.le_refl _, Nat.le_refl _⟩ (fun Py3 => ?_)
      refine g_aload_n e_X11_sure_30 rfl ?_
      refine g_iload_n e_X11_sure_31 rfl ?_
      refine g_iload_n e_X11_sure_32 rfl ?_
      refine g_iconst e_X11_sure_33 ?_
      obtain ⟨y4, hy4, hs⟩ := bind_elim hs
      refine g_callVr [vI v1, vI v2, vI 0] cv_X11_368 ⟨rfl, rfl, Nat.le_of_ble_eq_true rfl, Nat.le_of_ble_eq_true rfl⟩ (Ct_heap (ct_X11_runs (a_t := a_t) (AO_call [0, 2, 3, 4, 5, 6, 7, 8, 9] ao (by decide) rfl) (FA_call [0, 2, 3, 4, 5, 6, 7, 8, 9] ao.1 rfl rfl) ok_t_baseLow ok_t_baseHigh ok_t_speckLow ok_t_speckHigh ok_t_sourceHold Py3.1 ok_t_was ok_t_feel Py3.2.1 Py3.2.2 ok_v1 ok_v2 (by decide : inI 0) hy4) (ov_call (esn := [.inr (11, fsX11 a_t t_thrown t_taped t_p t_fault t_baseLow t_baseHigh t_newBaseLow t_newBaseHigh t_from t_knots t_lines t_chosen t_undos t_redos t_aimedMany t_fits t_fitOf t_sights t_systems t_own t_cross t_curveLong t_wallFirst), IA E 21 t_push, IA E 100 t_speckLow, IA E 100 t_speckHigh, IA E 100 t_sourceHold, IA E 100 y4.2.1, IA E 100 y4.2.2.1, IA E 100 y4.2.2.2.1, IA E 21 y3.2.1, JA E 6 y4.2.2.2.2, IA E 100 t_row, JA E 6 t_sums, IA E 100 t_other, JA E 6 t_otherSum]) [0, 2, 3, 4, 5, 6, 7, 8, 9] ao.1 rfl rfl rfl rfl)) e_X11_sure_34 (ao.2 0 _ rfl) (ov_get 0 ao.1 rfl rfl) rfl rfl rfl (Nat.le_of_ble_eq_true rfl) ⟨Nat.le_refl _, Nat.le_refl _⟩ (fun Py4 => ?_)
      refine g_istore_n e_X11_sure_37 st1_3 rfl ?_
      refine g_aload_n e_X11_sure_38 rfl ?_
      refine g_aload_n e_X11_sure_39 rfl ?_
      refine g_get 0 49 ao rfl rfl fsX11_g49 fl_X11_118 e_X11_sure_40 ?_
      refine g_iconst e_X11_sure_43 ?_
      refine g_aload_n e_X11_sure_44 rfl ?_
      refine g_get 0 50 ao rfl rfl fsX11_g50 fl_X11_121 e_X11_sure_45 ?_
      refine g_iconst e_X11_sure_48 ?_
      obtain ⟨y5, hy5, hs⟩ := bind_elim hs
      refine g_callVv [.ref (a_t + 36), vI 0, .ref (a_t + 37), vI 0] cv_X11_353 ⟨rfl, rfl, Nat.le_of_ble_eq_true rfl, Nat.le_of_ble_eq_true rfl⟩ (Ct_heap (ct_X11_keeps (a_t := a_t) (a_p1 := (a_t + 36)) (a_p3 := (a_t + 37)) (AO_call [0, 5, 9, 12, 13] ao (by decide) rfl) (by omega) (by omega) (FA_call [0, 5, 9, 12, 13] ao.1 rfl rfl) Py4.2.1 Py4.2.2.2.2 ok_t_other ok_t_otherSum (by decide : inI 0) (by decide : inI 0) hy5) (ov_call (esn := [.inr (11, fsX11 a_t t_thrown t_taped t_p t_fault t_baseLow t_baseHigh t_newBaseLow t_newBaseHigh t_from t_knots t_lines t_chosen t_undos t_redos t_aimedMany t_fits t_fitOf t_sights t_systems t_own t_cross t_curveLong t_wallFirst), IA E 21 t_push, IA E 100 t_speckLow, IA E 100 t_speckHigh, IA E 100 t_sourceHold, IA E 100 y4.2.1, IA E 100 y4.2.2.1, IA E 100 y4.2.2.2.1, IA E 21 y3.2.1, JA E 6 y4.2.2.2.2, IA E 100 t_row, JA E 6 t_sums, IA E 100 y5.1, JA E 6 y5.2]) [0, 5, 9, 12, 13] ao.1 rfl rfl rfl rfl)) e_X11_sure_49 (ao.2 0 _ rfl) (ov_get 0 ao.1 rfl rfl) rfl rfl rfl (Nat.le_of_ble_eq_true rfl) ⟨Nat.le_refl _, Nat.le_refl _⟩ (fun Py5 => ?_)
      refine g_aload_n e_X11_sure_52 rfl ?_
      obtain ⟨y6, hy6, hs⟩ := bind_elim hs
      refine g_callVv [] cv_X11_362 ⟨rfl, rfl, Nat.le_of_ble_eq_true rfl, Nat.le_of_ble_eq_true rfl⟩ (Ct_heap (ct_X11_atHand (a_t := a_t) (AO_call [0, 1, 5, 8, 9, 10, 11] ao (by decide) rfl) (FA_call [0, 1, 5, 8, 9, 10, 11] ao.1 rfl rfl) ok_t_push Py4.2.1 Py3.2.1 Py4.2.2.2.2 ok_t_row ok_t_sums hy6) (ov_call (esn := [.inr (11, fsX11 a_t t_thrown t_taped t_p t_fault t_baseLow t_baseHigh t_newBaseLow t_newBaseHigh t_from t_knots t_lines t_chosen t_undos t_redos t_aimedMany t_fits t_fitOf t_sights t_systems t_own t_cross t_curveLong t_wallFirst), IA E 21 t_push, IA E 100 t_speckLow, IA E 100 t_speckHigh, IA E 100 t_sourceHold, IA E 100 y6.1, IA E 100 y4.2.2.1, IA E 100 y4.2.2.2.1, IA E 21 y6.2.1, JA E 6 y6.2.2, IA E 100 t_row, JA E 6 t_sums, IA E 100 y5.1, JA E 6 y5.2]) [0, 1, 5, 8, 9, 10, 11] ao.1 rfl rfl rfl rfl)) e_X11_sure_53 (ao.2 0 _ rfl) (ov_get 0 ao.1 rfl rfl) rfl rfl rfl (Nat.le_of_ble_eq_true rfl) ⟨Nat.le_refl _, Nat.le_refl _⟩ (fun Py6 => ?_)
      refine g_aload_n e_X11_sure_56 rfl ?_
      refine g_iload_n e_X11_sure_57 rfl ?_
      refine g_iload_n e_X11_sure_58 rfl ?_
      refine g_iconst e_X11_sure_59 ?_
      obtain ⟨y7, hy7, hs⟩ := bind_elim hs
      refine g_callVr [vI v1, vI v2, vI 1] cv_X11_368 ⟨rfl, rfl, Nat.le_of_ble_eq_true rfl, Nat.le_of_ble_eq_true rfl⟩ (Ct_heap (ct_X11_runs (a_t := a_t) (AO_call [0, 2, 3, 4, 5, 6, 7, 8, 9] ao (by decide) rfl) (FA_call [0, 2, 3, 4, 5, 6, 7, 8, 9] ao.1 rfl rfl) ok_t_baseLow ok_t_baseHigh ok_t_speckLow ok_t_speckHigh ok_t_sourceHold Py6.1 Py4.2.2.1 Py4.2.2.2.1 Py6.2.1 Py6.2.2 ok_v1 ok_v2 (by decide : inI 1) hy7) (ov_call (esn := [.inr (11, fsX11 a_t t_thrown t_taped t_p t_fault t_baseLow t_baseHigh t_newBaseLow t_newBaseHigh t_from t_knots t_lines t_chosen t_undos t_redos t_aimedMany t_fits t_fitOf t_sights t_systems t_own t_cross t_curveLong t_wallFirst), IA E 21 t_push, IA E 100 t_speckLow, IA E 100 t_speckHigh, IA E 100 t_sourceHold, IA E 100 y7.2.1, IA E 100 y7.2.2.1, IA E 100 y7.2.2.2.1, IA E 21 y6.2.1, JA E 6 y7.2.2.2.2, IA E 100 t_row, JA E 6 t_sums, IA E 100 y5.1, JA E 6 y5.2]) [0, 2, 3, 4, 5, 6, 7, 8, 9] ao.1 rfl rfl rfl rfl)) e_X11_sure_60 (ao.2 0 _ rfl) (ov_get 0 ao.1 rfl rfl) rfl rfl rfl (Nat.le_of_ble_eq_true rfl) ⟨Nat.le_refl _, Nat.le_refl _⟩ (fun Py7 => ?_)
      refine g_istore e_X11_sure_63 st1_4 rfl ?_
      refine g_aload_n e_X11_sure_65 rfl ?_
      refine g_aload_n e_X11_sure_66 rfl ?_
      refine g_get 0 49 ao rfl rfl fsX11_g49 fl_X11_118 e_X11_sure_67 ?_
      obtain ⟨y8, hy8, hs⟩ := bind_elim hs
      refine g_callVr [.ref (a_t + 36)] cv_X11_371 ⟨rfl, rfl, Nat.le_of_ble_eq_true rfl, Nat.le_of_ble_eq_true rfl⟩ (ct_X11_isAs (a_t := a_t) (a_p1 := (a_t + 36)) (AO_call [0, 5, 12] ao (by decide) rfl) (by omega) (FA_call [0, 5, 12] ao.1 rfl rfl) Py7.2.1 Py5.1 hy8) e_X11_sure_70 (ao.2 0 _ rfl) (ov_get 0 ao.1 rfl rfl) rfl rfl rfl (Nat.le_of_ble_eq_true rfl) ⟨Nat.le_refl _, Nat.le_refl _⟩ (fun Py8 => ?_)
      refine g_if_eq e_X11_sure_73 (inZ_I Py8) hs (fun c73 hs => ?_) (fun c73 hs => ?_)
      · refine g_iconst e_X11_sure_80 ?_
        obtain rfl := Option.some.inj hs
        exact g_iret rfl ⟨(by decide : inI 0), Py7.2.1, Py7.2.2.1, Py7.2.2.2.1, Py6.2.1, Py7.2.2.2.2, Py5.1, Py5.2⟩ e_X11_sure_81
      · refine g_iconst e_X11_sure_76 ?_
        refine g_goto e_X11_sure_77 ?_
        obtain rfl := Option.some.inj hs
        exact g_iret rfl ⟨(by decide : inI 1), Py7.2.1, Py7.2.2.1, Py7.2.2.2.1, Py6.2.1, Py7.2.2.2.2, Py5.1, Py5.2⟩ e_X11_sure_81

noncomputable def m_X11_sure (t_baseLow : Int) (t_baseHigh : Int) (t_push : Nat → Int) (t_speckLow : Nat → Int) (t_speckHigh : Nat → Int) (t_sourceHold : Nat → Int) (t_cur : Nat → Int) (t_was : Nat → Int) (t_feel : Nat → Int) (t_pushAt : Nat → Int) (t_curSum : Nat → Int) (t_row : Nat → Int) (t_sums : Nat → Int) (t_other : Nat → Int) (t_otherSum : Nat → Int) (v1 : Int) (v2 : Int) : Option (Int × (Nat → Int) × (Nat → Int) × (Nat → Int) × (Nat → Int) × (Nat → Int) × (Nat → Int) × (Nat → Int)) := m_X11_sure_0 t_baseLow t_baseHigh t_push t_speckLow t_speckHigh t_sourceHold t_cur t_was t_feel t_pushAt t_curSum t_row t_sums t_other t_otherSum v1 v2

set_option maxRecDepth 10000 in
set_option maxHeartbeats 8000000 in
theorem ct_X11_sure {l : Launch} {E : EE} {b0 n : Nat} {h : AH} {a_t : Nat} {t_thrown t_taped t_p t_fault t_baseLow t_baseHigh t_newBaseLow t_newBaseHigh t_from t_knots t_lines t_chosen t_undos t_redos t_aimedMany t_fits t_fitOf t_sights t_systems t_own t_cross t_curveLong t_wallFirst : Int} {t_push t_speckLow t_speckHigh t_sourceHold t_cur t_was t_feel t_pushAt t_curSum t_row t_sums t_other t_otherSum : Nat → Int} {v1 v2 : Int} (ao : AO b0 n [a_t, (a_t + 6), (a_t + 8), (a_t + 9), (a_t + 10), (a_t + 24), (a_t + 25), (a_t + 26), (a_t + 27), (a_t + 28), (a_t + 29), (a_t + 31), (a_t + 36), (a_t + 37)]) (hf : FA h [a_t, (a_t + 6), (a_t + 8), (a_t + 9), (a_t + 10), (a_t + 24), (a_t + 25), (a_t + 26), (a_t + 27), (a_t + 28), (a_t + 29), (a_t + 31), (a_t + 36), (a_t + 37)] [.inr (11, fsX11 a_t t_thrown t_taped t_p t_fault t_baseLow t_baseHigh t_newBaseLow t_newBaseHigh t_from t_knots t_lines t_chosen t_undos t_redos t_aimedMany t_fits t_fitOf t_sights t_systems t_own t_cross t_curveLong t_wallFirst), IA E 21 t_push, IA E 100 t_speckLow, IA E 100 t_speckHigh, IA E 100 t_sourceHold, IA E 100 t_cur, IA E 100 t_was, IA E 100 t_feel, IA E 21 t_pushAt, JA E 6 t_curSum, IA E 100 t_row, JA E 6 t_sums, IA E 100 t_other, JA E 6 t_otherSum]) (ok_t_baseLow : inI t_baseLow) (ok_t_baseHigh : inI t_baseHigh) (ok_t_push : okA t_push) (ok_t_speckLow : okA t_speckLow) (ok_t_speckHigh : okA t_speckHigh) (ok_t_sourceHold : okA t_sourceHold) (ok_t_cur : okA t_cur) (ok_t_was : okA t_was) (ok_t_feel : okA t_feel) (ok_t_pushAt : okA t_pushAt) (ok_t_curSum : okJ t_curSum) (ok_t_row : okA t_row) (ok_t_sums : okJ t_sums) (ok_t_other : okA t_other) (ok_t_otherSum : okJ t_otherSum) (ok_v1 : inI v1) (ok_v2 : inI v2) {r : Int × (Nat → Int) × (Nat → Int) × (Nat → Int) × (Nat → Int) × (Nat → Int) × (Nat → Int) × (Nat → Int)} (hm : m_X11_sure t_baseLow t_baseHigh t_push t_speckLow t_speckHigh t_sourceHold t_cur t_was t_feel t_pushAt t_curSum t_row t_sums t_other t_otherSum v1 v2 = some r) : Ct l E b0 M_X11_sure 0 0 [.ref a_t, vI v1, vI v2] h n (some (vI r.1)) (ov [a_t, (a_t + 6), (a_t + 8), (a_t + 9), (a_t + 10), (a_t + 24), (a_t + 25), (a_t + 26), (a_t + 27), (a_t + 28), (a_t + 29), (a_t + 31), (a_t + 36), (a_t + 37)] [.inr (11, fsX11 a_t t_thrown t_taped t_p t_fault t_baseLow t_baseHigh t_newBaseLow t_newBaseHigh t_from t_knots t_lines t_chosen t_undos t_redos t_aimedMany t_fits t_fitOf t_sights t_systems t_own t_cross t_curveLong t_wallFirst), IA E 21 t_push, IA E 100 t_speckLow, IA E 100 t_speckHigh, IA E 100 t_sourceHold, IA E 100 r.2.1, IA E 100 r.2.2.1, IA E 100 r.2.2.2.1, IA E 21 r.2.2.2.2.1, JA E 6 r.2.2.2.2.2.1, IA E 100 t_row, JA E 6 t_sums, IA E 100 r.2.2.2.2.2.2.1, JA E 6 r.2.2.2.2.2.2.2] h) n (inI r.1 ∧ okA r.2.1 ∧ okA r.2.2.1 ∧ okA r.2.2.2.1 ∧ okA r.2.2.2.2.1 ∧ okJ r.2.2.2.2.2.1 ∧ okA r.2.2.2.2.2.2.1 ∧ okJ r.2.2.2.2.2.2.2) := by
  rw [m_X11_sure] at hm
  have hg : G l E b0 M_X11_sure (fun _ => True) (ZM E b0 (some (vI r.1)) (ov [a_t, (a_t + 6), (a_t + 8), (a_t + 9), (a_t + 10), (a_t + 24), (a_t + 25), (a_t + 26), (a_t + 27), (a_t + 28), (a_t + 29), (a_t + 31), (a_t + 36), (a_t + 37)] [.inr (11, fsX11 a_t t_thrown t_taped t_p t_fault t_baseLow t_baseHigh t_newBaseLow t_newBaseHigh t_from t_knots t_lines t_chosen t_undos t_redos t_aimedMany t_fits t_fitOf t_sights t_systems t_own t_cross t_curveLong t_wallFirst), IA E 21 t_push, IA E 100 t_speckLow, IA E 100 t_speckHigh, IA E 100 t_sourceHold, IA E 100 r.2.1, IA E 100 r.2.2.1, IA E 100 r.2.2.2.1, IA E 21 r.2.2.2.2.1, JA E 6 r.2.2.2.2.2.1, IA E 100 t_row, JA E 6 t_sums, IA E 100 r.2.2.2.2.2.2.1, JA E 6 r.2.2.2.2.2.2.2] h) n (inI r.1 ∧ okA r.2.1 ∧ okA r.2.2.1 ∧ okA r.2.2.2.1 ∧ okA r.2.2.2.2.1 ∧ okJ r.2.2.2.2.2.1 ∧ okA r.2.2.2.2.2.2.1 ∧ okJ r.2.2.2.2.2.2.2) 0 0) 0 0 n (ov [a_t, (a_t + 6), (a_t + 8), (a_t + 9), (a_t + 10), (a_t + 24), (a_t + 25), (a_t + 26), (a_t + 27), (a_t + 28), (a_t + 29), (a_t + 31), (a_t + 36), (a_t + 37)] [.inr (11, fsX11 a_t t_thrown t_taped t_p t_fault t_baseLow t_baseHigh t_newBaseLow t_newBaseHigh t_from t_knots t_lines t_chosen t_undos t_redos t_aimedMany t_fits t_fitOf t_sights t_systems t_own t_cross t_curveLong t_wallFirst), IA E 21 t_push, IA E 100 t_speckLow, IA E 100 t_speckHigh, IA E 100 t_sourceHold, IA E 100 t_cur, IA E 100 t_was, IA E 100 t_feel, IA E 21 t_pushAt, JA E 6 t_curSum, IA E 100 t_row, JA E 6 t_sums, IA E 100 t_other, JA E 6 t_otherSum] h) 0 [some (.ref a_t), some (vI v1), some (vI v2), none, none] [] := by
    have hs := hm
    exact g_X11_sure_0 ao ok_t_baseLow ok_t_baseHigh ok_t_push ok_t_speckLow ok_t_speckHigh ok_t_sourceHold ok_t_cur ok_t_was ok_t_feel ok_t_pushAt ok_t_curSum ok_t_row ok_t_sums ok_t_other ok_t_otherSum ok_v1 ok_v2 hs
  rw [FA_id hf] at hg
  exact Ct_of [some (.ref a_t), some (vI v1), some (vI v2), none, none] ⟨by decide +kernel, rfl⟩ rfl (Nat.le_of_ble_eq_true rfl) hg

/-! ===== X11_shape ===== -/
theorem e_X11_shape_0 : DC cX11_shape 0 (.aload_n 0) 1 1 := ⟨by decide +kernel, rfl⟩
theorem e_X11_shape_1 : DC cX11_shape 1 (.iconst 0) 1 2 := ⟨by decide +kernel, rfl⟩
theorem e_X11_shape_2 : DC cX11_shape 2 (.iload_n 1) 1 3 := ⟨by decide +kernel, rfl⟩
theorem e_X11_shape_3 : DC cX11_shape 3 (.invokevirtual 261) 3 6 := ⟨by decide +kernel, rfl⟩
theorem e_X11_shape_6 : DB cX11_shape 6 (.ifCond .eq 31) (31) 3 9 37 := ⟨by decide +kernel, rfl, rfl⟩
theorem e_X11_shape_9 : DC cX11_shape 9 (.aload_n 0) 1 10 := ⟨by decide +kernel, rfl⟩
theorem e_X11_shape_10 : DC cX11_shape 10 (.iconst 1) 1 11 := ⟨by decide +kernel, rfl⟩
theorem e_X11_shape_11 : DC cX11_shape 11 (.iload_n 2) 1 12 := ⟨by decide +kernel, rfl⟩
theorem e_X11_shape_12 : DC cX11_shape 12 (.invokevirtual 261) 3 15 := ⟨by decide +kernel, rfl⟩
theorem e_X11_shape_15 : DB cX11_shape 15 (.ifCond .eq 22) (22) 3 18 37 := ⟨by decide +kernel, rfl, rfl⟩
theorem e_X11_shape_18 : DC cX11_shape 18 (.iload_n 3) 1 19 := ⟨by decide +kernel, rfl⟩
theorem e_X11_shape_19 : DC cX11_shape 19 (.iconst 0) 1 20 := ⟨by decide +kernel, rfl⟩
theorem e_X11_shape_20 : DC cX11_shape 20 (.iconst 2) 1 21 := ⟨by decide +kernel, rfl⟩
theorem e_X11_shape_21 : DC cX11_shape 21 (.invokestatic 226) 3 24 := ⟨by decide +kernel, rfl⟩
theorem e_X11_shape_24 : DB cX11_shape 24 (.ifCond .eq 13) (13) 3 27 37 := ⟨by decide +kernel, rfl, rfl⟩
theorem e_X11_shape_27 : DC cX11_shape 27 (.iload 4) 2 29 := ⟨by decide +kernel, rfl⟩
theorem e_X11_shape_29 : DC cX11_shape 29 (.iconst 0) 1 30 := ⟨by decide +kernel, rfl⟩
theorem e_X11_shape_30 : DC cX11_shape 30 (.iconst 2) 1 31 := ⟨by decide +kernel, rfl⟩
theorem e_X11_shape_31 : DC cX11_shape 31 (.invokestatic 226) 3 34 := ⟨by decide +kernel, rfl⟩
theorem e_X11_shape_34 : DB cX11_shape 34 (.ifCond .ne 7) (7) 3 37 41 := ⟨by decide +kernel, rfl, rfl⟩
theorem e_X11_shape_37 : DC cX11_shape 37 (.ldc2_w 375) 3 40 := ⟨by decide +kernel, rfl⟩
theorem e_X11_shape_40 : DC cX11_shape 40 (.lreturn) 1 41 := ⟨by decide +kernel, rfl⟩
theorem e_X11_shape_41 : DC cX11_shape 41 (.aload_n 0) 1 42 := ⟨by decide +kernel, rfl⟩
theorem e_X11_shape_42 : DC cX11_shape 42 (.getfield 103) 3 45 := ⟨by decide +kernel, rfl⟩
theorem e_X11_shape_45 : DC cX11_shape 45 (.iconst 0) 1 46 := ⟨by decide +kernel, rfl⟩
theorem e_X11_shape_46 : DC cX11_shape 46 (.laload) 1 47 := ⟨by decide +kernel, rfl⟩
theorem e_X11_shape_47 : DC cX11_shape 47 (.aload_n 0) 1 48 := ⟨by decide +kernel, rfl⟩
theorem e_X11_shape_48 : DC cX11_shape 48 (.getfield 20) 3 51 := ⟨by decide +kernel, rfl⟩
theorem e_X11_shape_51 : DC cX11_shape 51 (.iconst 3) 1 52 := ⟨by decide +kernel, rfl⟩
theorem e_X11_shape_52 : DC cX11_shape 52 (.iload_n 1) 1 53 := ⟨by decide +kernel, rfl⟩
theorem e_X11_shape_53 : DC cX11_shape 53 (.imul) 1 54 := ⟨by decide +kernel, rfl⟩
theorem e_X11_shape_54 : DC cX11_shape 54 (.iload_n 3) 1 55 := ⟨by decide +kernel, rfl⟩
theorem e_X11_shape_55 : DC cX11_shape 55 (.iadd) 1 56 := ⟨by decide +kernel, rfl⟩
theorem e_X11_shape_56 : DC cX11_shape 56 (.iaload) 1 57 := ⟨by decide +kernel, rfl⟩
theorem e_X11_shape_57 : DC cX11_shape 57 (.i2l) 1 58 := ⟨by decide +kernel, rfl⟩
theorem e_X11_shape_58 : DC cX11_shape 58 (.lmul) 1 59 := ⟨by decide +kernel, rfl⟩
theorem e_X11_shape_59 : DC cX11_shape 59 (.aload_n 0) 1 60 := ⟨by decide +kernel, rfl⟩
theorem e_X11_shape_60 : DC cX11_shape 60 (.getfield 20) 3 63 := ⟨by decide +kernel, rfl⟩
theorem e_X11_shape_63 : DC cX11_shape 63 (.bipush 48) 2 65 := ⟨by decide +kernel, rfl⟩
theorem e_X11_shape_65 : DC cX11_shape 65 (.iconst 3) 1 66 := ⟨by decide +kernel, rfl⟩
theorem e_X11_shape_66 : DC cX11_shape 66 (.iload_n 2) 1 67 := ⟨by decide +kernel, rfl⟩
theorem e_X11_shape_67 : DC cX11_shape 67 (.imul) 1 68 := ⟨by decide +kernel, rfl⟩
theorem e_X11_shape_68 : DC cX11_shape 68 (.iadd) 1 69 := ⟨by decide +kernel, rfl⟩
theorem e_X11_shape_69 : DC cX11_shape 69 (.iload 4) 2 71 := ⟨by decide +kernel, rfl⟩
theorem e_X11_shape_71 : DC cX11_shape 71 (.iadd) 1 72 := ⟨by decide +kernel, rfl⟩
theorem e_X11_shape_72 : DC cX11_shape 72 (.iaload) 1 73 := ⟨by decide +kernel, rfl⟩
theorem e_X11_shape_73 : DC cX11_shape 73 (.i2l) 1 74 := ⟨by decide +kernel, rfl⟩
theorem e_X11_shape_74 : DC cX11_shape 74 (.lmul) 1 75 := ⟨by decide +kernel, rfl⟩
theorem e_X11_shape_75 : DC cX11_shape 75 (.lreturn) 1 76 := ⟨by decide +kernel, rfl⟩
noncomputable def m_X11_shape_0 (t_many : Nat → Int) (t_way : Nat → Int) (t_sums : Nat → Int) (v1 : Int) (v2 : Int) (v3 : Int) (v4 : Int) : Option (Int) :=
  (m_X11_isTold t_many 0 v1).bind (fun y1 => if y1 = 0 then (some ((-1000000000000))) else ((m_X11_isTold t_many 1 v2).bind (fun y2 => if y2 = 0 then (some ((-1000000000000))) else ((m_X11_in v3 0 2).bind (fun y3 => if y3 = 0 then (some ((-1000000000000))) else ((m_X11_in v4 0 2).bind (fun y4 => if y4 = 0 then (some ((-1000000000000))) else (chk (inB 0 6) (chk (inB ((3 * v1) + v3) 144) (chk (inB ((48 + (3 * v2)) + v4) 144) (chk (inJ (((t_sums (Int.toNat 0)) * (t_way (Int.toNat ((3 * v1) + v3)))) * (t_way (Int.toNat ((48 + (3 * v2)) + v4))))) (some (((t_sums (Int.toNat 0)) * (t_way (Int.toNat ((3 * v1) + v3)))) * (t_way (Int.toNat ((48 + (3 * v2)) + v4))))))))))))))))

set_option maxRecDepth 10000 in
set_option maxHeartbeats 8000000 in
theorem g_X11_shape_0 {l : Launch} {E : EE} {b0 n : Nat} {h : AH} {a_t : Nat} {t_thrown t_taped t_p t_fault t_baseLow t_baseHigh t_newBaseLow t_newBaseHigh t_from t_knots t_lines t_chosen t_undos t_redos t_aimedMany t_fits t_fitOf t_sights t_systems t_own t_cross t_curveLong t_wallFirst v1 v2 v3 v4 : Int} {t_many t_way t_sums : Nat → Int} {r : Int} (ao : AO b0 n [a_t, (a_t + 2), (a_t + 4), (a_t + 31)]) (ok_t_many : okA t_many) (ok_t_way : okA t_way) (ok_t_sums : okJ t_sums) (ok_v1 : inI v1) (ok_v2 : inI v2) (ok_v3 : inI v3) (ok_v4 : inI v4) (hs : m_X11_shape_0 t_many t_way t_sums v1 v2 v3 v4 = some r) : G l E b0 M_X11_shape (fun _ => True) (ZM E b0 (some (vJ r)) (ov [a_t, (a_t + 2), (a_t + 4), (a_t + 31)] [.inr (11, fsX11 a_t t_thrown t_taped t_p t_fault t_baseLow t_baseHigh t_newBaseLow t_newBaseHigh t_from t_knots t_lines t_chosen t_undos t_redos t_aimedMany t_fits t_fitOf t_sights t_systems t_own t_cross t_curveLong t_wallFirst), IA E 7 t_many, IA E 144 t_way, JA E 6 t_sums] h) n (inJ r) 0 0) 0 0 n (ov [a_t, (a_t + 2), (a_t + 4), (a_t + 31)] [.inr (11, fsX11 a_t t_thrown t_taped t_p t_fault t_baseLow t_baseHigh t_newBaseLow t_newBaseHigh t_from t_knots t_lines t_chosen t_undos t_redos t_aimedMany t_fits t_fitOf t_sights t_systems t_own t_cross t_curveLong t_wallFirst), IA E 7 t_many, IA E 144 t_way, JA E 6 t_sums] h) 0 [some (.ref a_t), some (vI v1), some (vI v2), some (vI v3), some (vI v4)] [] := by
  rw [m_X11_shape_0] at hs
  refine g_aload_n e_X11_shape_0 rfl ?_
  refine g_iconst e_X11_shape_1 ?_
  refine g_iload_n e_X11_shape_2 rfl ?_
  obtain ⟨y1, hy1, hs⟩ := bind_elim hs
  refine g_callVr [vI 0, vI v1] cv_X11_261 ⟨rfl, rfl, Nat.le_of_ble_eq_true rfl, Nat.le_of_ble_eq_true rfl⟩ (ct_X11_isTold (a_t := a_t) (AO_call [0, 1] ao (by decide) rfl) (FA_call [0, 1] ao.1 rfl rfl) ok_t_many (by decide : inI 0) ok_v1 hy1) e_X11_shape_3 (ao.2 0 _ rfl) (ov_get 0 ao.1 rfl rfl) rfl rfl rfl (Nat.le_of_ble_eq_true rfl) ⟨Nat.le_refl _, Nat.le_refl _⟩ (fun Py1 => ?_)
  refine g_if_eq e_X11_shape_6 (inZ_I Py1) hs (fun c6 hs => ?_) (fun c6 hs => ?_)
  · refine g_ldc2 (a := -1000000000000) e_X11_shape_37 k_X11_375 ?_
    obtain rfl := Option.some.inj hs
    exact g_lret rfl (by decide : inJ (-1000000000000)) e_X11_shape_40
  · refine g_aload_n e_X11_shape_9 rfl ?_
    refine g_iconst e_X11_shape_10 ?_
    refine g_iload_n e_X11_shape_11 rfl ?_
    obtain ⟨y2, hy2, hs⟩ := bind_elim hs
    refine g_callVr [vI 1, vI v2] cv_X11_261 ⟨rfl, rfl, Nat.le_of_ble_eq_true rfl, Nat.le_of_ble_eq_true rfl⟩ (ct_X11_isTold (a_t := a_t) (AO_call [0, 1] ao (by decide) rfl) (FA_call [0, 1] ao.1 rfl rfl) ok_t_many (by decide : inI 1) ok_v2 hy2) e_X11_shape_12 (ao.2 0 _ rfl) (ov_get 0 ao.1 rfl rfl) rfl rfl rfl (Nat.le_of_ble_eq_true rfl) ⟨Nat.le_refl _, Nat.le_refl _⟩ (fun Py2 => ?_)
    refine g_if_eq e_X11_shape_15 (inZ_I Py2) hs (fun c15 hs => ?_) (fun c15 hs => ?_)
    · refine g_ldc2 (a := -1000000000000) e_X11_shape_37 k_X11_375 ?_
      obtain rfl := Option.some.inj hs
      exact g_lret rfl (by decide : inJ (-1000000000000)) e_X11_shape_40
    · refine g_iload_n e_X11_shape_18 rfl ?_
      refine g_iconst e_X11_shape_19 ?_
      refine g_iconst e_X11_shape_20 ?_
      obtain ⟨y3, hy3, hs⟩ := bind_elim hs
      refine g_callSr [vI v3, vI 0, vI 2] cs_X11_226 ⟨rfl, rfl, Nat.le_of_ble_eq_true rfl, Nat.le_of_ble_eq_true rfl⟩ (ct_X11_in ⟨List.nodup_nil, fun i a h => by simp at h⟩ (fun i a e h => by simp at h) ok_v3 (by decide : inI 0) (by decide : inI 2) hy3) e_X11_shape_21 rfl rfl (Nat.le_of_ble_eq_true rfl) ⟨Nat.le_refl _, Nat.le_refl _⟩ (fun Py3 => ?_)
      refine g_if_eq e_X11_shape_24 (inZ_I Py3) hs (fun c24 hs => ?_) (fun c24 hs => ?_)
      · refine g_ldc2 (a := -1000000000000) e_X11_shape_37 k_X11_375 ?_
        obtain rfl := Option.some.inj hs
        exact g_lret rfl (by decide : inJ (-1000000000000)) e_X11_shape_40
      · refine g_iload e_X11_shape_27 rfl ?_
        refine g_iconst e_X11_shape_29 ?_
        refine g_iconst e_X11_shape_30 ?_
        obtain ⟨y4, hy4, hs⟩ := bind_elim hs
        refine g_callSr [vI v4, vI 0, vI 2] cs_X11_226 ⟨rfl, rfl, Nat.le_of_ble_eq_true rfl, Nat.le_of_ble_eq_true rfl⟩ (ct_X11_in ⟨List.nodup_nil, fun i a h => by simp at h⟩ (fun i a e h => by simp at h) ok_v4 (by decide : inI 0) (by decide : inI 2) hy4) e_X11_shape_31 rfl rfl (Nat.le_of_ble_eq_true rfl) ⟨Nat.le_refl _, Nat.le_refl _⟩ (fun Py4 => ?_)
        refine g_if_ne e_X11_shape_34 (inZ_I Py4) hs (fun c34 hs => ?_) (fun c34 hs => ?_)
        · refine g_ldc2 (a := -1000000000000) e_X11_shape_37 k_X11_375 ?_
          obtain rfl := Option.some.inj hs
          exact g_lret rfl (by decide : inJ (-1000000000000)) e_X11_shape_40
        · refine g_aload_n e_X11_shape_41 rfl ?_
          refine g_get 0 42 ao rfl rfl fsX11_g42 fl_X11_103 e_X11_shape_42 ?_
          refine g_iconst e_X11_shape_45 ?_
          refine g_lald 3 ao rfl rfl (Nat.le_of_ble_eq_true rfl) e_X11_shape_46 hs (fun hi5 hs => ?_)
          refine g_aload_n e_X11_shape_47 rfl ?_
          refine g_get 0 7 ao rfl rfl fsX11_g7 fl_X11_20 e_X11_shape_48 ?_
          refine g_iconst e_X11_shape_51 ?_
          refine g_iload_n e_X11_shape_52 rfl ?_
          refine g_imul e_X11_shape_53 ?_
          refine g_iload_n e_X11_shape_54 rfl ?_
          refine g_iadd e_X11_shape_55 ?_
          refine g_iald 2 ao rfl rfl (Nat.le_of_ble_eq_true rfl) e_X11_shape_56 hs (fun hi6 hs => ?_)
          refine g_i2l e_X11_shape_57 (ok_t_way _) ?_
          refine g_lmul e_X11_shape_58 ?_
          refine g_aload_n e_X11_shape_59 rfl ?_
          refine g_get 0 7 ao rfl rfl fsX11_g7 fl_X11_20 e_X11_shape_60 ?_
          refine g_bipush e_X11_shape_63 bp_48 ?_
          refine g_iconst e_X11_shape_65 ?_
          refine g_iload_n e_X11_shape_66 rfl ?_
          refine g_imul e_X11_shape_67 ?_
          refine g_iadd e_X11_shape_68 ?_
          refine g_iload e_X11_shape_69 rfl ?_
          refine g_iadd e_X11_shape_71 ?_
          refine g_iald 2 ao rfl rfl (Nat.le_of_ble_eq_true rfl) e_X11_shape_72 hs (fun hi7 hs => ?_)
          refine g_i2l e_X11_shape_73 (ok_t_way _) ?_
          refine g_lmul e_X11_shape_74 ?_
          obtain ⟨hc8, hs⟩ := chk_elim hs
          obtain rfl := Option.some.inj hs
          exact g_lret rfl hc8 e_X11_shape_75

noncomputable def m_X11_shape (t_many : Nat → Int) (t_way : Nat → Int) (t_sums : Nat → Int) (v1 : Int) (v2 : Int) (v3 : Int) (v4 : Int) : Option (Int) := m_X11_shape_0 t_many t_way t_sums v1 v2 v3 v4

set_option maxRecDepth 10000 in
set_option maxHeartbeats 8000000 in
theorem ct_X11_shape {l : Launch} {E : EE} {b0 n : Nat} {h : AH} {a_t : Nat} {t_thrown t_taped t_p t_fault t_baseLow t_baseHigh t_newBaseLow t_newBaseHigh t_from t_knots t_lines t_chosen t_undos t_redos t_aimedMany t_fits t_fitOf t_sights t_systems t_own t_cross t_curveLong t_wallFirst : Int} {t_many t_way t_sums : Nat → Int} {v1 v2 v3 v4 : Int} (ao : AO b0 n [a_t, (a_t + 2), (a_t + 4), (a_t + 31)]) (hf : FA h [a_t, (a_t + 2), (a_t + 4), (a_t + 31)] [.inr (11, fsX11 a_t t_thrown t_taped t_p t_fault t_baseLow t_baseHigh t_newBaseLow t_newBaseHigh t_from t_knots t_lines t_chosen t_undos t_redos t_aimedMany t_fits t_fitOf t_sights t_systems t_own t_cross t_curveLong t_wallFirst), IA E 7 t_many, IA E 144 t_way, JA E 6 t_sums]) (ok_t_many : okA t_many) (ok_t_way : okA t_way) (ok_t_sums : okJ t_sums) (ok_v1 : inI v1) (ok_v2 : inI v2) (ok_v3 : inI v3) (ok_v4 : inI v4) {r : Int} (hm : m_X11_shape t_many t_way t_sums v1 v2 v3 v4 = some r) : Ct l E b0 M_X11_shape 0 0 [.ref a_t, vI v1, vI v2, vI v3, vI v4] h n (some (vJ r)) h n (inJ r) := by
  rw [m_X11_shape] at hm
  have hg : G l E b0 M_X11_shape (fun _ => True) (ZM E b0 (some (vJ r)) (ov [a_t, (a_t + 2), (a_t + 4), (a_t + 31)] [.inr (11, fsX11 a_t t_thrown t_taped t_p t_fault t_baseLow t_baseHigh t_newBaseLow t_newBaseHigh t_from t_knots t_lines t_chosen t_undos t_redos t_aimedMany t_fits t_fitOf t_sights t_systems t_own t_cross t_curveLong t_wallFirst), IA E 7 t_many, IA E 144 t_way, JA E 6 t_sums] h) n (inJ r) 0 0) 0 0 n (ov [a_t, (a_t + 2), (a_t + 4), (a_t + 31)] [.inr (11, fsX11 a_t t_thrown t_taped t_p t_fault t_baseLow t_baseHigh t_newBaseLow t_newBaseHigh t_from t_knots t_lines t_chosen t_undos t_redos t_aimedMany t_fits t_fitOf t_sights t_systems t_own t_cross t_curveLong t_wallFirst), IA E 7 t_many, IA E 144 t_way, JA E 6 t_sums] h) 0 [some (.ref a_t), some (vI v1), some (vI v2), some (vI v3), some (vI v4)] [] := by
    have hs := hm
    exact g_X11_shape_0 ao ok_t_many ok_t_way ok_t_sums ok_v1 ok_v2 ok_v3 ok_v4 hs
  rw [FA_id hf] at hg
  exact Ct_of [some (.ref a_t), some (vI v1), some (vI v2), some (vI v3), some (vI v4)] ⟨by decide +kernel, rfl⟩ rfl (Nat.le_of_ble_eq_true rfl) hg

/-! ===== X11_size ===== -/
theorem e_X11_size_0 : DC cX11_size 0 (.iload_n 0) 1 1 := ⟨by decide +kernel, rfl⟩
theorem e_X11_size_1 : DB cX11_size 1 (.ifCond .ge 8) (8) 3 4 9 := ⟨by decide +kernel, rfl, rfl⟩
theorem e_X11_size_4 : DC cX11_size 4 (.iload_n 0) 1 5 := ⟨by decide +kernel, rfl⟩
theorem e_X11_size_5 : DC cX11_size 5 (.ineg) 1 6 := ⟨by decide +kernel, rfl⟩
theorem e_X11_size_6 : DB cX11_size 6 (.goto 4) (4) 3 9 10 := ⟨by decide +kernel, rfl, rfl⟩
theorem e_X11_size_9 : DC cX11_size 9 (.iload_n 0) 1 10 := ⟨by decide +kernel, rfl⟩
theorem e_X11_size_10 : DC cX11_size 10 (.ireturn) 1 11 := ⟨by decide +kernel, rfl⟩
noncomputable def m_X11_size_0 (v0 : Int) : Option (Int) :=
  if 0 ≤ v0 then (some (v0)) else (chk (inI (-v0)) (some (-v0)))

set_option maxRecDepth 10000 in
set_option maxHeartbeats 8000000 in
theorem g_X11_size_0 {l : Launch} {E : EE} {b0 n : Nat} {h : AH} {v0 : Int} {r : Int} (ao : AO b0 n []) (ok_v0 : inI v0) (hs : m_X11_size_0 v0 = some r) : G l E b0 M_X11_size (fun _ => True) (ZM E b0 (some (vI r)) (ov [] [] h) n (inI r) 0 0) 0 0 n (ov [] [] h) 0 [some (vI v0)] [] := by
  rw [m_X11_size_0] at hs
  refine g_iload_n e_X11_size_0 rfl ?_
  refine g_if_ge e_X11_size_1 ok_v0 hs (fun c1 hs => ?_) (fun c1 hs => ?_)
  · refine g_iload_n e_X11_size_9 rfl ?_
    obtain rfl := Option.some.inj hs
    exact g_iret rfl ok_v0 e_X11_size_10
  · refine g_iload_n e_X11_size_4 rfl ?_
    refine g_ineg e_X11_size_5 ?_
    refine g_goto e_X11_size_6 ?_
    obtain ⟨hc1, hs⟩ := chk_elim hs
    obtain rfl := Option.some.inj hs
    exact g_iret rfl hc1 e_X11_size_10

noncomputable def m_X11_size (v0 : Int) : Option (Int) := m_X11_size_0 v0

set_option maxRecDepth 10000 in
set_option maxHeartbeats 8000000 in
theorem ct_X11_size {l : Launch} {E : EE} {b0 n : Nat} {h : AH} {v0 : Int} (ao : AO b0 n []) (hf : FA h [] []) (ok_v0 : inI v0) {r : Int} (hm : m_X11_size v0 = some r) : Ct l E b0 M_X11_size 0 0 [vI v0] h n (some (vI r)) h n (inI r) := by
  rw [m_X11_size] at hm
  have hg : G l E b0 M_X11_size (fun _ => True) (ZM E b0 (some (vI r)) (ov [] [] h) n (inI r) 0 0) 0 0 n (ov [] [] h) 0 [some (vI v0)] [] := by
    have hs := hm
    exact g_X11_size_0 ao ok_v0 hs
  rw [FA_id hf] at hg
  exact Ct_of [some (vI v0)] ⟨by decide +kernel, rfl⟩ rfl (Nat.le_of_ble_eq_true rfl) hg

/-! ===== X11_aim ===== -/
theorem e_X11_aim_0 : DC cX11_aim 0 (.aload_n 0) 1 1 := ⟨by decide +kernel, rfl⟩
theorem e_X11_aim_1 : DC cX11_aim 1 (.getfield 124) 3 4 := ⟨by decide +kernel, rfl⟩
theorem e_X11_aim_4 : DC cX11_aim 4 (.iconst 0) 1 5 := ⟨by decide +kernel, rfl⟩
theorem e_X11_aim_5 : DC cX11_aim 5 (.iload_n 2) 1 6 := ⟨by decide +kernel, rfl⟩
theorem e_X11_aim_6 : DC cX11_aim 6 (.iastore) 1 7 := ⟨by decide +kernel, rfl⟩
theorem e_X11_aim_7 : DC cX11_aim 7 (.aload_n 0) 1 8 := ⟨by decide +kernel, rfl⟩
theorem e_X11_aim_8 : DC cX11_aim 8 (.getfield 124) 3 11 := ⟨by decide +kernel, rfl⟩
theorem e_X11_aim_11 : DC cX11_aim 11 (.iconst 1) 1 12 := ⟨by decide +kernel, rfl⟩
theorem e_X11_aim_12 : DC cX11_aim 12 (.iload_n 3) 1 13 := ⟨by decide +kernel, rfl⟩
theorem e_X11_aim_13 : DC cX11_aim 13 (.iastore) 1 14 := ⟨by decide +kernel, rfl⟩
theorem e_X11_aim_14 : DC cX11_aim 14 (.aload_n 0) 1 15 := ⟨by decide +kernel, rfl⟩
theorem e_X11_aim_15 : DC cX11_aim 15 (.getfield 124) 3 18 := ⟨by decide +kernel, rfl⟩
theorem e_X11_aim_18 : DC cX11_aim 18 (.iconst 2) 1 19 := ⟨by decide +kernel, rfl⟩
theorem e_X11_aim_19 : DC cX11_aim 19 (.iload 4) 2 21 := ⟨by decide +kernel, rfl⟩
theorem e_X11_aim_21 : DC cX11_aim 21 (.iastore) 1 22 := ⟨by decide +kernel, rfl⟩
theorem e_X11_aim_22 : DC cX11_aim 22 (.aload_n 0) 1 23 := ⟨by decide +kernel, rfl⟩
theorem e_X11_aim_23 : DC cX11_aim 23 (.getfield 124) 3 26 := ⟨by decide +kernel, rfl⟩
theorem e_X11_aim_26 : DC cX11_aim 26 (.iconst 3) 1 27 := ⟨by decide +kernel, rfl⟩
theorem e_X11_aim_27 : DC cX11_aim 27 (.iload 5) 2 29 := ⟨by decide +kernel, rfl⟩
theorem e_X11_aim_29 : DC cX11_aim 29 (.iastore) 1 30 := ⟨by decide +kernel, rfl⟩
theorem e_X11_aim_30 : DC cX11_aim 30 (.iload_n 1) 1 31 := ⟨by decide +kernel, rfl⟩
theorem e_X11_aim_31 : DC cX11_aim 31 (.iconst 1) 1 32 := ⟨by decide +kernel, rfl⟩
theorem e_X11_aim_32 : DC cX11_aim 32 (.iconst 4) 1 33 := ⟨by decide +kernel, rfl⟩
theorem e_X11_aim_33 : DC cX11_aim 33 (.invokestatic 226) 3 36 := ⟨by decide +kernel, rfl⟩
theorem e_X11_aim_36 : DB cX11_aim 36 (.ifCond .eq 33) (33) 3 39 69 := ⟨by decide +kernel, rfl, rfl⟩
theorem e_X11_aim_39 : DC cX11_aim 39 (.iload 6) 2 41 := ⟨by decide +kernel, rfl⟩
theorem e_X11_aim_41 : DC cX11_aim 41 (.iconst 1) 1 42 := ⟨by decide +kernel, rfl⟩
theorem e_X11_aim_42 : DC cX11_aim 42 (.bipush 20) 2 44 := ⟨by decide +kernel, rfl⟩
theorem e_X11_aim_44 : DC cX11_aim 44 (.invokestatic 226) 3 47 := ⟨by decide +kernel, rfl⟩
theorem e_X11_aim_47 : DB cX11_aim 47 (.ifCond .eq 22) (22) 3 50 69 := ⟨by decide +kernel, rfl, rfl⟩
theorem e_X11_aim_50 : DC cX11_aim 50 (.iload 7) 2 52 := ⟨by decide +kernel, rfl⟩
theorem e_X11_aim_52 : DC cX11_aim 52 (.sipush (-1000)) 3 55 := ⟨by decide +kernel, rfl⟩
theorem e_X11_aim_55 : DC cX11_aim 55 (.sipush 1000) 3 58 := ⟨by decide +kernel, rfl⟩
theorem e_X11_aim_58 : DC cX11_aim 58 (.invokestatic 226) 3 61 := ⟨by decide +kernel, rfl⟩
theorem e_X11_aim_61 : DB cX11_aim 61 (.ifCond .eq 8) (8) 3 64 69 := ⟨by decide +kernel, rfl, rfl⟩
theorem e_X11_aim_64 : DC cX11_aim 64 (.iload 7) 2 66 := ⟨by decide +kernel, rfl⟩
theorem e_X11_aim_66 : DB cX11_aim 66 (.ifCond .ne 5) (5) 3 69 71 := ⟨by decide +kernel, rfl, rfl⟩
theorem e_X11_aim_69 : DC cX11_aim 69 (.iconst (-1)) 1 70 := ⟨by decide +kernel, rfl⟩
theorem e_X11_aim_70 : DC cX11_aim 70 (.ireturn) 1 71 := ⟨by decide +kernel, rfl⟩
theorem e_X11_aim_71 : DC cX11_aim 71 (.iconst 0) 1 72 := ⟨by decide +kernel, rfl⟩
theorem e_X11_aim_72 : DC cX11_aim 72 (.istore 8) 2 74 := ⟨by decide +kernel, rfl⟩
theorem e_X11_aim_74 : DC cX11_aim 74 (.iload 8) 2 76 := ⟨by decide +kernel, rfl⟩
theorem e_X11_aim_76 : DC cX11_aim 76 (.iload_n 1) 1 77 := ⟨by decide +kernel, rfl⟩
theorem e_X11_aim_77 : DB cX11_aim 77 (.if_icmp .ge 30) (30) 3 80 107 := ⟨by decide +kernel, rfl, rfl⟩
theorem e_X11_aim_80 : DC cX11_aim 80 (.aload_n 0) 1 81 := ⟨by decide +kernel, rfl⟩
theorem e_X11_aim_81 : DC cX11_aim 81 (.getfield 124) 3 84 := ⟨by decide +kernel, rfl⟩
theorem e_X11_aim_84 : DC cX11_aim 84 (.iload 8) 2 86 := ⟨by decide +kernel, rfl⟩
theorem e_X11_aim_86 : DC cX11_aim 86 (.iaload) 1 87 := ⟨by decide +kernel, rfl⟩
theorem e_X11_aim_87 : DC cX11_aim 87 (.sipush (-9999)) 3 90 := ⟨by decide +kernel, rfl⟩
theorem e_X11_aim_90 : DC cX11_aim 90 (.sipush 9999) 3 93 := ⟨by decide +kernel, rfl⟩
theorem e_X11_aim_93 : DC cX11_aim 93 (.invokestatic 226) 3 96 := ⟨by decide +kernel, rfl⟩
theorem e_X11_aim_96 : DB cX11_aim 96 (.ifCond .ne 5) (5) 3 99 101 := ⟨by decide +kernel, rfl, rfl⟩
theorem e_X11_aim_99 : DC cX11_aim 99 (.iconst (-1)) 1 100 := ⟨by decide +kernel, rfl⟩
theorem e_X11_aim_100 : DC cX11_aim 100 (.ireturn) 1 101 := ⟨by decide +kernel, rfl⟩
theorem e_X11_aim_101 : DC cX11_aim 101 (.iinc 8 1) 3 104 := ⟨by decide +kernel, rfl⟩
theorem e_X11_aim_104 : DB cX11_aim 104 (.goto (-30)) (-30) 3 107 74 := ⟨by decide +kernel, rfl, rfl⟩
theorem e_X11_aim_107 : DC cX11_aim 107 (.iconst 1) 1 108 := ⟨by decide +kernel, rfl⟩
theorem e_X11_aim_108 : DC cX11_aim 108 (.istore 8) 2 110 := ⟨by decide +kernel, rfl⟩
theorem e_X11_aim_110 : DC cX11_aim 110 (.iconst 1) 1 111 := ⟨by decide +kernel, rfl⟩
theorem e_X11_aim_111 : DC cX11_aim 111 (.istore 9) 2 113 := ⟨by decide +kernel, rfl⟩
theorem e_X11_aim_113 : DC cX11_aim 113 (.iload 9) 2 115 := ⟨by decide +kernel, rfl⟩
theorem e_X11_aim_115 : DC cX11_aim 115 (.iconst 5) 1 116 := ⟨by decide +kernel, rfl⟩
theorem e_X11_aim_116 : DB cX11_aim 116 (.if_icmp .gt 240) (240) 3 119 356 := ⟨by decide +kernel, rfl, rfl⟩
theorem e_X11_aim_119 : DC cX11_aim 119 (.iload 8) 2 121 := ⟨by decide +kernel, rfl⟩
theorem e_X11_aim_121 : DC cX11_aim 121 (.iload_n 1) 1 122 := ⟨by decide +kernel, rfl⟩
theorem e_X11_aim_122 : DC cX11_aim 122 (.imul) 1 123 := ⟨by decide +kernel, rfl⟩
theorem e_X11_aim_123 : DC cX11_aim 123 (.istore 8) 2 125 := ⟨by decide +kernel, rfl⟩
theorem e_X11_aim_125 : DC cX11_aim 125 (.iconst (-1)) 1 126 := ⟨by decide +kernel, rfl⟩
theorem e_X11_aim_126 : DC cX11_aim 126 (.istore 10) 2 128 := ⟨by decide +kernel, rfl⟩
theorem e_X11_aim_128 : DC cX11_aim 128 (.iconst 0) 1 129 := ⟨by decide +kernel, rfl⟩
theorem e_X11_aim_129 : DC cX11_aim 129 (.istore 11) 2 131 := ⟨by decide +kernel, rfl⟩
theorem e_X11_aim_131 : DC cX11_aim 131 (.iload 11) 2 133 := ⟨by decide +kernel, rfl⟩
theorem e_X11_aim_133 : DC cX11_aim 133 (.iload 8) 2 135 := ⟨by decide +kernel, rfl⟩
theorem e_X11_aim_135 : DB cX11_aim 135 (.if_icmp .ge 206) (206) 3 138 341 := ⟨by decide +kernel, rfl, rfl⟩
theorem e_X11_aim_138 : DC cX11_aim 138 (.iconst 0) 1 139 := ⟨by decide +kernel, rfl⟩
theorem e_X11_aim_139 : DC cX11_aim 139 (.istore 12) 2 141 := ⟨by decide +kernel, rfl⟩
theorem e_X11_aim_141 : DC cX11_aim 141 (.aload_n 0) 1 142 := ⟨by decide +kernel, rfl⟩
theorem e_X11_aim_142 : DC cX11_aim 142 (.invokevirtual 362) 3 145 := ⟨by decide +kernel, rfl⟩
theorem e_X11_aim_145 : DC cX11_aim 145 (.aload_n 0) 1 146 := ⟨by decide +kernel, rfl⟩
theorem e_X11_aim_146 : DC cX11_aim 146 (.getfield 93) 3 149 := ⟨by decide +kernel, rfl⟩
theorem e_X11_aim_149 : DC cX11_aim 149 (.iconst 0) 1 150 := ⟨by decide +kernel, rfl⟩
theorem e_X11_aim_150 : DC cX11_aim 150 (.laload) 1 151 := ⟨by decide +kernel, rfl⟩
theorem e_X11_aim_151 : DC cX11_aim 151 (.lstore 13) 2 153 := ⟨by decide +kernel, rfl⟩
theorem e_X11_aim_153 : DC cX11_aim 153 (.iconst 0) 1 154 := ⟨by decide +kernel, rfl⟩
theorem e_X11_aim_154 : DC cX11_aim 154 (.istore 15) 2 156 := ⟨by decide +kernel, rfl⟩
theorem e_X11_aim_156 : DC cX11_aim 156 (.iload 8) 2 158 := ⟨by decide +kernel, rfl⟩
theorem e_X11_aim_158 : DC cX11_aim 158 (.iload_n 1) 1 159 := ⟨by decide +kernel, rfl⟩
theorem e_X11_aim_159 : DC cX11_aim 159 (.idiv) 1 160 := ⟨by decide +kernel, rfl⟩
theorem e_X11_aim_160 : DC cX11_aim 160 (.istore 16) 2 162 := ⟨by decide +kernel, rfl⟩
theorem e_X11_aim_162 : DC cX11_aim 162 (.iload 15) 2 164 := ⟨by decide +kernel, rfl⟩
theorem e_X11_aim_164 : DC cX11_aim 164 (.iload 9) 2 166 := ⟨by decide +kernel, rfl⟩
theorem e_X11_aim_166 : DB cX11_aim 166 (.if_icmp .ge 50) (50) 3 169 216 := ⟨by decide +kernel, rfl, rfl⟩
theorem e_X11_aim_169 : DC cX11_aim 169 (.aload_n 0) 1 170 := ⟨by decide +kernel, rfl⟩
theorem e_X11_aim_170 : DC cX11_aim 170 (.getfield 124) 3 173 := ⟨by decide +kernel, rfl⟩
theorem e_X11_aim_173 : DC cX11_aim 173 (.iload 11) 2 175 := ⟨by decide +kernel, rfl⟩
theorem e_X11_aim_175 : DC cX11_aim 175 (.iload 16) 2 177 := ⟨by decide +kernel, rfl⟩
theorem e_X11_aim_177 : DC cX11_aim 177 (.idiv) 1 178 := ⟨by decide +kernel, rfl⟩
theorem e_X11_aim_178 : DC cX11_aim 178 (.iload_n 1) 1 179 := ⟨by decide +kernel, rfl⟩
theorem e_X11_aim_179 : DC cX11_aim 179 (.irem) 1 180 := ⟨by decide +kernel, rfl⟩
theorem e_X11_aim_180 : DC cX11_aim 180 (.iaload) 1 181 := ⟨by decide +kernel, rfl⟩
theorem e_X11_aim_181 : DC cX11_aim 181 (.istore 17) 2 183 := ⟨by decide +kernel, rfl⟩
theorem e_X11_aim_183 : DC cX11_aim 183 (.iload 12) 2 185 := ⟨by decide +kernel, rfl⟩
theorem e_X11_aim_185 : DC cX11_aim 185 (.iload 17) 2 187 := ⟨by decide +kernel, rfl⟩
theorem e_X11_aim_187 : DC cX11_aim 187 (.invokestatic 377) 3 190 := ⟨by decide +kernel, rfl⟩
theorem e_X11_aim_190 : DC cX11_aim 190 (.iadd) 1 191 := ⟨by decide +kernel, rfl⟩
theorem e_X11_aim_191 : DC cX11_aim 191 (.istore 12) 2 193 := ⟨by decide +kernel, rfl⟩
theorem e_X11_aim_193 : DC cX11_aim 193 (.aload_n 0) 1 194 := ⟨by decide +kernel, rfl⟩
theorem e_X11_aim_194 : DC cX11_aim 194 (.iload 17) 2 196 := ⟨by decide +kernel, rfl⟩
theorem e_X11_aim_196 : DC cX11_aim 196 (.iload 6) 2 198 := ⟨by decide +kernel, rfl⟩
theorem e_X11_aim_198 : DC cX11_aim 198 (.iconst 1) 1 199 := ⟨by decide +kernel, rfl⟩
theorem e_X11_aim_199 : DC cX11_aim 199 (.invokevirtual 368) 3 202 := ⟨by decide +kernel, rfl⟩
theorem e_X11_aim_202 : DC cX11_aim 202 (.istore 18) 2 204 := ⟨by decide +kernel, rfl⟩
theorem e_X11_aim_204 : DC cX11_aim 204 (.iinc 15 1) 3 207 := ⟨by decide +kernel, rfl⟩
theorem e_X11_aim_207 : DC cX11_aim 207 (.iload 16) 2 209 := ⟨by decide +kernel, rfl⟩
theorem e_X11_aim_209 : DC cX11_aim 209 (.iload_n 1) 1 210 := ⟨by decide +kernel, rfl⟩
theorem e_X11_aim_210 : DC cX11_aim 210 (.idiv) 1 211 := ⟨by decide +kernel, rfl⟩
theorem e_X11_aim_211 : DC cX11_aim 211 (.istore 16) 2 213 := ⟨by decide +kernel, rfl⟩
theorem e_X11_aim_213 : DB cX11_aim 213 (.goto (-51)) (-51) 3 216 162 := ⟨by decide +kernel, rfl, rfl⟩
theorem e_X11_aim_216 : DC cX11_aim 216 (.aload_n 0) 1 217 := ⟨by decide +kernel, rfl⟩
theorem e_X11_aim_217 : DC cX11_aim 217 (.getfield 93) 3 220 := ⟨by decide +kernel, rfl⟩
theorem e_X11_aim_220 : DC cX11_aim 220 (.iconst 0) 1 221 := ⟨by decide +kernel, rfl⟩
theorem e_X11_aim_221 : DC cX11_aim 221 (.laload) 1 222 := ⟨by decide +kernel, rfl⟩
theorem e_X11_aim_222 : DC cX11_aim 222 (.lload 13) 2 224 := ⟨by decide +kernel, rfl⟩
theorem e_X11_aim_224 : DC cX11_aim 224 (.lsub) 1 225 := ⟨by decide +kernel, rfl⟩
theorem e_X11_aim_225 : DC cX11_aim 225 (.lstore 15) 2 227 := ⟨by decide +kernel, rfl⟩
theorem e_X11_aim_227 : DC cX11_aim 227 (.iload 7) 2 229 := ⟨by decide +kernel, rfl⟩
theorem e_X11_aim_229 : DB cX11_aim 229 (.ifCond .le 20) (20) 3 232 249 := ⟨by decide +kernel, rfl, rfl⟩
theorem e_X11_aim_232 : DC cX11_aim 232 (.lload 15) 2 234 := ⟨by decide +kernel, rfl⟩
theorem e_X11_aim_234 : DC cX11_aim 234 (.iload 7) 2 236 := ⟨by decide +kernel, rfl⟩
theorem e_X11_aim_236 : DC cX11_aim 236 (.i2l) 1 237 := ⟨by decide +kernel, rfl⟩
theorem e_X11_aim_237 : DC cX11_aim 237 (.lcmp) 1 238 := ⟨by decide +kernel, rfl⟩
theorem e_X11_aim_238 : DB cX11_aim 238 (.ifCond .lt 7) (7) 3 241 245 := ⟨by decide +kernel, rfl, rfl⟩
theorem e_X11_aim_241 : DC cX11_aim 241 (.iconst 1) 1 242 := ⟨by decide +kernel, rfl⟩
theorem e_X11_aim_242 : DB cX11_aim 242 (.goto 21) (21) 3 245 263 := ⟨by decide +kernel, rfl, rfl⟩
theorem e_X11_aim_245 : DC cX11_aim 245 (.iconst 0) 1 246 := ⟨by decide +kernel, rfl⟩
theorem e_X11_aim_246 : DB cX11_aim 246 (.goto 17) (17) 3 249 263 := ⟨by decide +kernel, rfl, rfl⟩
theorem e_X11_aim_249 : DC cX11_aim 249 (.lload 15) 2 251 := ⟨by decide +kernel, rfl⟩
theorem e_X11_aim_251 : DC cX11_aim 251 (.iload 7) 2 253 := ⟨by decide +kernel, rfl⟩
theorem e_X11_aim_253 : DC cX11_aim 253 (.i2l) 1 254 := ⟨by decide +kernel, rfl⟩
theorem e_X11_aim_254 : DC cX11_aim 254 (.lcmp) 1 255 := ⟨by decide +kernel, rfl⟩
theorem e_X11_aim_255 : DB cX11_aim 255 (.ifCond .gt 7) (7) 3 258 262 := ⟨by decide +kernel, rfl, rfl⟩
theorem e_X11_aim_258 : DC cX11_aim 258 (.iconst 1) 1 259 := ⟨by decide +kernel, rfl⟩
theorem e_X11_aim_259 : DB cX11_aim 259 (.goto 4) (4) 3 262 263 := ⟨by decide +kernel, rfl, rfl⟩
theorem e_X11_aim_262 : DC cX11_aim 262 (.iconst 0) 1 263 := ⟨by decide +kernel, rfl⟩
theorem e_X11_aim_263 : DC cX11_aim 263 (.istore 17) 2 265 := ⟨by decide +kernel, rfl⟩
theorem e_X11_aim_265 : DC cX11_aim 265 (.iload 17) 2 267 := ⟨by decide +kernel, rfl⟩
theorem e_X11_aim_267 : DB cX11_aim 267 (.ifCond .eq 68) (68) 3 270 335 := ⟨by decide +kernel, rfl, rfl⟩
theorem e_X11_aim_270 : DC cX11_aim 270 (.iload 10) 2 272 := ⟨by decide +kernel, rfl⟩
theorem e_X11_aim_272 : DC cX11_aim 272 (.iconst (-1)) 1 273 := ⟨by decide +kernel, rfl⟩
theorem e_X11_aim_273 : DB cX11_aim 273 (.if_icmp .eq 10) (10) 3 276 283 := ⟨by decide +kernel, rfl, rfl⟩
theorem e_X11_aim_276 : DC cX11_aim 276 (.iload 12) 2 278 := ⟨by decide +kernel, rfl⟩
theorem e_X11_aim_278 : DC cX11_aim 278 (.iload 10) 2 280 := ⟨by decide +kernel, rfl⟩
theorem e_X11_aim_280 : DB cX11_aim 280 (.if_icmp .ge 55) (55) 3 283 335 := ⟨by decide +kernel, rfl, rfl⟩
theorem e_X11_aim_283 : DC cX11_aim 283 (.iload 12) 2 285 := ⟨by decide +kernel, rfl⟩
theorem e_X11_aim_285 : DC cX11_aim 285 (.istore 10) 2 287 := ⟨by decide +kernel, rfl⟩
theorem e_X11_aim_287 : DC cX11_aim 287 (.aload_n 0) 1 288 := ⟨by decide +kernel, rfl⟩
theorem e_X11_aim_288 : DC cX11_aim 288 (.iload 9) 2 290 := ⟨by decide +kernel, rfl⟩
theorem e_X11_aim_290 : DC cX11_aim 290 (.putfield 380) 3 293 := ⟨by decide +kernel, rfl⟩
theorem e_X11_aim_293 : DC cX11_aim 293 (.iconst 0) 1 294 := ⟨by decide +kernel, rfl⟩
theorem e_X11_aim_294 : DC cX11_aim 294 (.istore 18) 2 296 := ⟨by decide +kernel, rfl⟩
theorem e_X11_aim_296 : DC cX11_aim 296 (.iload 8) 2 298 := ⟨by decide +kernel, rfl⟩
theorem e_X11_aim_298 : DC cX11_aim 298 (.iload_n 1) 1 299 := ⟨by decide +kernel, rfl⟩
theorem e_X11_aim_299 : DC cX11_aim 299 (.idiv) 1 300 := ⟨by decide +kernel, rfl⟩
theorem e_X11_aim_300 : DC cX11_aim 300 (.istore 19) 2 302 := ⟨by decide +kernel, rfl⟩
theorem e_X11_aim_302 : DC cX11_aim 302 (.iload 18) 2 304 := ⟨by decide +kernel, rfl⟩
theorem e_X11_aim_304 : DC cX11_aim 304 (.iload 9) 2 306 := ⟨by decide +kernel, rfl⟩
theorem e_X11_aim_306 : DB cX11_aim 306 (.if_icmp .ge 29) (29) 3 309 335 := ⟨by decide +kernel, rfl, rfl⟩
theorem e_X11_aim_309 : DC cX11_aim 309 (.aload_n 0) 1 310 := ⟨by decide +kernel, rfl⟩
theorem e_X11_aim_310 : DC cX11_aim 310 (.getfield 127) 3 313 := ⟨by decide +kernel, rfl⟩
theorem e_X11_aim_313 : DC cX11_aim 313 (.iload 18) 2 315 := ⟨by decide +kernel, rfl⟩
theorem e_X11_aim_315 : DC cX11_aim 315 (.iload 11) 2 317 := ⟨by decide +kernel, rfl⟩
theorem e_X11_aim_317 : DC cX11_aim 317 (.iload 19) 2 319 := ⟨by decide +kernel, rfl⟩
theorem e_X11_aim_319 : DC cX11_aim 319 (.idiv) 1 320 := ⟨by decide +kernel, rfl⟩
theorem e_X11_aim_320 : DC cX11_aim 320 (.iload_n 1) 1 321 := ⟨by decide +kernel, rfl⟩
theorem e_X11_aim_321 : DC cX11_aim 321 (.irem) 1 322 := ⟨by decide +kernel, rfl⟩
theorem e_X11_aim_322 : DC cX11_aim 322 (.iastore) 1 323 := ⟨by decide +kernel, rfl⟩
theorem e_X11_aim_323 : DC cX11_aim 323 (.iinc 18 1) 3 326 := ⟨by decide +kernel, rfl⟩
theorem e_X11_aim_326 : DC cX11_aim 326 (.iload 19) 2 328 := ⟨by decide +kernel, rfl⟩
theorem e_X11_aim_328 : DC cX11_aim 328 (.iload_n 1) 1 329 := ⟨by decide +kernel, rfl⟩
theorem e_X11_aim_329 : DC cX11_aim 329 (.idiv) 1 330 := ⟨by decide +kernel, rfl⟩
theorem e_X11_aim_330 : DC cX11_aim 330 (.istore 19) 2 332 := ⟨by decide +kernel, rfl⟩
theorem e_X11_aim_332 : DB cX11_aim 332 (.goto (-30)) (-30) 3 335 302 := ⟨by decide +kernel, rfl, rfl⟩
theorem e_X11_aim_335 : DC cX11_aim 335 (.iinc 11 1) 3 338 := ⟨by decide +kernel, rfl⟩
theorem e_X11_aim_338 : DB cX11_aim 338 (.goto (-207)) (-207) 3 341 131 := ⟨by decide +kernel, rfl, rfl⟩
theorem e_X11_aim_341 : DC cX11_aim 341 (.iload 10) 2 343 := ⟨by decide +kernel, rfl⟩
theorem e_X11_aim_343 : DC cX11_aim 343 (.iconst (-1)) 1 344 := ⟨by decide +kernel, rfl⟩
theorem e_X11_aim_344 : DB cX11_aim 344 (.if_icmp .eq 6) (6) 3 347 350 := ⟨by decide +kernel, rfl, rfl⟩
theorem e_X11_aim_347 : DC cX11_aim 347 (.iload 9) 2 349 := ⟨by decide +kernel, rfl⟩
theorem e_X11_aim_349 : DC cX11_aim 349 (.ireturn) 1 350 := ⟨by decide +kernel, rfl⟩
theorem e_X11_aim_350 : DC cX11_aim 350 (.iinc 9 1) 3 353 := ⟨by decide +kernel, rfl⟩
theorem e_X11_aim_353 : DB cX11_aim 353 (.goto (-240)) (-240) 3 356 113 := ⟨by decide +kernel, rfl, rfl⟩
theorem e_X11_aim_356 : DC cX11_aim 356 (.bipush (-2)) 2 358 := ⟨by decide +kernel, rfl⟩
theorem e_X11_aim_358 : DC cX11_aim 358 (.ireturn) 1 359 := ⟨by decide +kernel, rfl⟩
noncomputable def m_X11_aim_74 (t_pull : Nat → Int) (v1 : Int) (k_107 : Int → Option (Int × Int × (Nat → Int) × (Nat → Int) × (Nat → Int) × (Nat → Int) × (Nat → Int) × (Nat → Int) × (Nat → Int))) (k_99 : Int → Option (Int × Int × (Nat → Int) × (Nat → Int) × (Nat → Int) × (Nat → Int) × (Nat → Int) × (Nat → Int) × (Nat → Int))) : Nat → Int → Option (Int × Int × (Nat → Int) × (Nat → Int) × (Nat → Int) × (Nat → Int) × (Nat → Int) × (Nat → Int) × (Nat → Int))
  | 0, _ => none
  | F + 1, v8 => if v1 ≤ v8 then (k_107 v8) else (chk (inB v8 4) ((m_X11_in (t_pull (Int.toNat v8)) (-9999) 9999).bind (fun y9 => if y9 = 0 then (k_99 v8) else (chk (inI (v8 + 1)) (m_X11_aim_74 t_pull v1 k_107 k_99 F (v8 + 1))))))

set_option maxRecDepth 10000 in
set_option maxHeartbeats 8000000 in
theorem g_X11_aim_74 {l : Launch} {E : EE} {b0 n : Nat} {h : AH} {a_t : Nat} {t_thrown t_taped t_p t_fault t_baseLow t_baseHigh t_newBaseLow t_newBaseHigh t_from t_knots t_lines t_chosen t_undos t_redos t_aimedMany t_fits t_fitOf t_sights t_systems t_own t_cross t_curveLong t_wallFirst v1 v6 v7 : Int} {t_push t_speckLow t_speckHigh t_sourceHold t_cur t_was t_feel t_pushAt t_curSum t_row t_sums t_pull t_aimed : Nat → Int} {r : Int × Int × (Nat → Int) × (Nat → Int) × (Nat → Int) × (Nat → Int) × (Nat → Int) × (Nat → Int) × (Nat → Int)} {k_107 : Int → Option (Int × Int × (Nat → Int) × (Nat → Int) × (Nat → Int) × (Nat → Int) × (Nat → Int) × (Nat → Int) × (Nat → Int))} {k_99 : Int → Option (Int × Int × (Nat → Int) × (Nat → Int) × (Nat → Int) × (Nat → Int) × (Nat → Int) × (Nat → Int) × (Nat → Int))} (ao : AO b0 n [a_t, (a_t + 6), (a_t + 8), (a_t + 9), (a_t + 10), (a_t + 24), (a_t + 25), (a_t + 26), (a_t + 27), (a_t + 28), (a_t + 29), (a_t + 31), (a_t + 38), (a_t + 39)]) (ok_t_baseLow : inI t_baseLow) (ok_t_baseHigh : inI t_baseHigh) (ok_t_aimedMany : inI t_aimedMany) (ok_t_push : okA t_push) (ok_t_speckLow : okA t_speckLow) (ok_t_speckHigh : okA t_speckHigh) (ok_t_sourceHold : okA t_sourceHold) (ok_t_cur : okA t_cur) (ok_t_was : okA t_was) (ok_t_feel : okA t_feel) (ok_t_pushAt : okA t_pushAt) (ok_t_curSum : okJ t_curSum) (ok_t_row : okA t_row) (ok_t_sums : okJ t_sums) (ok_t_pull : okA t_pull) (ok_t_aimed : okA t_aimed) (ok_v1 : inI v1) (ok_v6 : inI v6) (ok_v7 : inI v7) (hk_107 : ∀ (v8_ : Int), inI v8_ → k_107 v8_ = some r → G l E b0 M_X11_aim (fun _ => True) (ZM E b0 (some (vI r.1)) (ov [a_t, (a_t + 6), (a_t + 8), (a_t + 9), (a_t + 10), (a_t + 24), (a_t + 25), (a_t + 26), (a_t + 27), (a_t + 28), (a_t + 29), (a_t + 31), (a_t + 38), (a_t + 39)] [.inr (11, fsX11 a_t t_thrown t_taped t_p t_fault t_baseLow t_baseHigh t_newBaseLow t_newBaseHigh t_from t_knots t_lines t_chosen t_undos t_redos r.2.1 t_fits t_fitOf t_sights t_systems t_own t_cross t_curveLong t_wallFirst), IA E 21 t_push, IA E 100 t_speckLow, IA E 100 t_speckHigh, IA E 100 t_sourceHold, IA E 100 r.2.2.1, IA E 100 r.2.2.2.1, IA E 100 r.2.2.2.2.1, IA E 21 r.2.2.2.2.2.1, JA E 6 r.2.2.2.2.2.2.1, IA E 100 t_row, JA E 6 t_sums, IA E 4 r.2.2.2.2.2.2.2.1, IA E 5 r.2.2.2.2.2.2.2.2] h) n (inI r.1 ∧ inI r.2.1 ∧ okA r.2.2.1 ∧ okA r.2.2.2.1 ∧ okA r.2.2.2.2.1 ∧ okA r.2.2.2.2.2.1 ∧ okJ r.2.2.2.2.2.2.1 ∧ okA r.2.2.2.2.2.2.2.1 ∧ okA r.2.2.2.2.2.2.2.2) 0 0) 0 0 n (ov [a_t, (a_t + 6), (a_t + 8), (a_t + 9), (a_t + 10), (a_t + 24), (a_t + 25), (a_t + 26), (a_t + 27), (a_t + 28), (a_t + 29), (a_t + 31), (a_t + 38), (a_t + 39)] [.inr (11, fsX11 a_t t_thrown t_taped t_p t_fault t_baseLow t_baseHigh t_newBaseLow t_newBaseHigh t_from t_knots t_lines t_chosen t_undos t_redos t_aimedMany t_fits t_fitOf t_sights t_systems t_own t_cross t_curveLong t_wallFirst), IA E 21 t_push, IA E 100 t_speckLow, IA E 100 t_speckHigh, IA E 100 t_sourceHold, IA E 100 t_cur, IA E 100 t_was, IA E 100 t_feel, IA E 21 t_pushAt, JA E 6 t_curSum, IA E 100 t_row, JA E 6 t_sums, IA E 4 t_pull, IA E 5 t_aimed] h) 107 [some (.ref a_t), some (vI v1), none, none, none, none, some (vI v6), some (vI v7), none, none, none, none, none, none, none, none, none, none, none, none] []) (hk_99 : ∀ (v8_ : Int), inI v8_ → k_99 v8_ = some r → G l E b0 M_X11_aim (fun _ => True) (ZM E b0 (some (vI r.1)) (ov [a_t, (a_t + 6), (a_t + 8), (a_t + 9), (a_t + 10), (a_t + 24), (a_t + 25), (a_t + 26), (a_t + 27), (a_t + 28), (a_t + 29), (a_t + 31), (a_t + 38), (a_t + 39)] [.inr (11, fsX11 a_t t_thrown t_taped t_p t_fault t_baseLow t_baseHigh t_newBaseLow t_newBaseHigh t_from t_knots t_lines t_chosen t_undos t_redos r.2.1 t_fits t_fitOf t_sights t_systems t_own t_cross t_curveLong t_wallFirst), IA E 21 t_push, IA E 100 t_speckLow, IA E 100 t_speckHigh, IA E 100 t_sourceHold, IA E 100 r.2.2.1, IA E 100 r.2.2.2.1, IA E 100 r.2.2.2.2.1, IA E 21 r.2.2.2.2.2.1, JA E 6 r.2.2.2.2.2.2.1, IA E 100 t_row, JA E 6 t_sums, IA E 4 r.2.2.2.2.2.2.2.1, IA E 5 r.2.2.2.2.2.2.2.2] h) n (inI r.1 ∧ inI r.2.1 ∧ okA r.2.2.1 ∧ okA r.2.2.2.1 ∧ okA r.2.2.2.2.1 ∧ okA r.2.2.2.2.2.1 ∧ okJ r.2.2.2.2.2.2.1 ∧ okA r.2.2.2.2.2.2.2.1 ∧ okA r.2.2.2.2.2.2.2.2) 0 0) 0 0 n (ov [a_t, (a_t + 6), (a_t + 8), (a_t + 9), (a_t + 10), (a_t + 24), (a_t + 25), (a_t + 26), (a_t + 27), (a_t + 28), (a_t + 29), (a_t + 31), (a_t + 38), (a_t + 39)] [.inr (11, fsX11 a_t t_thrown t_taped t_p t_fault t_baseLow t_baseHigh t_newBaseLow t_newBaseHigh t_from t_knots t_lines t_chosen t_undos t_redos t_aimedMany t_fits t_fitOf t_sights t_systems t_own t_cross t_curveLong t_wallFirst), IA E 21 t_push, IA E 100 t_speckLow, IA E 100 t_speckHigh, IA E 100 t_sourceHold, IA E 100 t_cur, IA E 100 t_was, IA E 100 t_feel, IA E 21 t_pushAt, JA E 6 t_curSum, IA E 100 t_row, JA E 6 t_sums, IA E 4 t_pull, IA E 5 t_aimed] h) 99 [none, none, none, none, none, none, none, none, none, none, none, none, none, none, none, none, none, none, none, none] []) :
    ∀ (F : Nat) (v8 : Int), inI v8 → m_X11_aim_74 t_pull v1 k_107 k_99 F v8 = some r → G l E b0 M_X11_aim (fun _ => True) (ZM E b0 (some (vI r.1)) (ov [a_t, (a_t + 6), (a_t + 8), (a_t + 9), (a_t + 10), (a_t + 24), (a_t + 25), (a_t + 26), (a_t + 27), (a_t + 28), (a_t + 29), (a_t + 31), (a_t + 38), (a_t + 39)] [.inr (11, fsX11 a_t t_thrown t_taped t_p t_fault t_baseLow t_baseHigh t_newBaseLow t_newBaseHigh t_from t_knots t_lines t_chosen t_undos t_redos r.2.1 t_fits t_fitOf t_sights t_systems t_own t_cross t_curveLong t_wallFirst), IA E 21 t_push, IA E 100 t_speckLow, IA E 100 t_speckHigh, IA E 100 t_sourceHold, IA E 100 r.2.2.1, IA E 100 r.2.2.2.1, IA E 100 r.2.2.2.2.1, IA E 21 r.2.2.2.2.2.1, JA E 6 r.2.2.2.2.2.2.1, IA E 100 t_row, JA E 6 t_sums, IA E 4 r.2.2.2.2.2.2.2.1, IA E 5 r.2.2.2.2.2.2.2.2] h) n (inI r.1 ∧ inI r.2.1 ∧ okA r.2.2.1 ∧ okA r.2.2.2.1 ∧ okA r.2.2.2.2.1 ∧ okA r.2.2.2.2.2.1 ∧ okJ r.2.2.2.2.2.2.1 ∧ okA r.2.2.2.2.2.2.2.1 ∧ okA r.2.2.2.2.2.2.2.2) 0 0) 0 0 n (ov [a_t, (a_t + 6), (a_t + 8), (a_t + 9), (a_t + 10), (a_t + 24), (a_t + 25), (a_t + 26), (a_t + 27), (a_t + 28), (a_t + 29), (a_t + 31), (a_t + 38), (a_t + 39)] [.inr (11, fsX11 a_t t_thrown t_taped t_p t_fault t_baseLow t_baseHigh t_newBaseLow t_newBaseHigh t_from t_knots t_lines t_chosen t_undos t_redos t_aimedMany t_fits t_fitOf t_sights t_systems t_own t_cross t_curveLong t_wallFirst), IA E 21 t_push, IA E 100 t_speckLow, IA E 100 t_speckHigh, IA E 100 t_sourceHold, IA E 100 t_cur, IA E 100 t_was, IA E 100 t_feel, IA E 21 t_pushAt, JA E 6 t_curSum, IA E 100 t_row, JA E 6 t_sums, IA E 4 t_pull, IA E 5 t_aimed] h) 74 [some (.ref a_t), some (vI v1), none, none, none, none, some (vI v6), some (vI v7), some (vI v8), none, none, none, none, none, none, none, none, none, none, none] [] := by
  intro F
  induction F with
  | zero =>
    intro v8 ok_v8 hs
    rw [m_X11_aim_74] at hs
    cases hs
  | succ F ih =>
    intro v8 ok_v8 hs
    rw [m_X11_aim_74] at hs
    refine g_iload e_X11_aim_74 rfl ?_
    refine g_iload_n e_X11_aim_76 rfl ?_
    refine g_icmp_ge e_X11_aim_77 ok_v8 ok_v1 hs (fun c77 hs => ?_) (fun c77 hs => ?_)
    · exact g_mask [true, true, true, true, true, true, true, true, false, true, true, true, true, true, true, true, true, true, true, true] (hk_107 _ ok_v8 hs)
    · refine g_aload_n e_X11_aim_80 rfl ?_
      refine g_get 0 52 ao rfl rfl fsX11_g52 fl_X11_124 e_X11_aim_81 ?_
      refine g_iload e_X11_aim_84 rfl ?_
      refine g_iald 12 ao rfl rfl (Nat.le_of_ble_eq_true rfl) e_X11_aim_86 hs (fun hi8 hs => ?_)
      refine g_sipush e_X11_aim_87 sp_m9999 ?_
      refine g_sipush e_X11_aim_90 sp_9999 ?_
      obtain ⟨y9, hy9, hs⟩ := bind_elim hs
      refine g_callSr [vI (t_pull (Int.toNat v8)), vI (-9999), vI 9999] cs_X11_226 ⟨rfl, rfl, Nat.le_of_ble_eq_true rfl, Nat.le_of_ble_eq_true rfl⟩ (ct_X11_in ⟨List.nodup_nil, fun i a h => by simp at h⟩ (fun i a e h => by simp at h) (ok_t_pull _) (by decide : inI (-9999)) (by decide : inI 9999) hy9) e_X11_aim_93 rfl rfl (Nat.le_of_ble_eq_true rfl) ⟨Nat.le_refl _, Nat.le_refl _⟩ (fun Py9 => ?_)
      refine g_if_ne e_X11_aim_96 (inZ_I Py9) hs (fun c96 hs => ?_) (fun c96 hs => ?_)
      · exact g_mask [false, false, true, true, true, true, false, false, false, true, true, true, true, true, true, true, true, true, true, true] (hk_99 _ ok_v8 hs)
      · refine g_iinc e_X11_aim_101 rfl st1_8 rfl ?_
        refine g_goto e_X11_aim_104 ?_
        obtain ⟨hc10, hs⟩ := chk_elim hs
        exact ih _ hc10 hs

noncomputable def m_X11_aim_162 (t_baseLow : Int) (t_baseHigh : Int) (t_speckLow : Nat → Int) (t_speckHigh : Nat → Int) (t_sourceHold : Nat → Int) (t_pushAt : Nat → Int) (t_pull : Nat → Int) (v1 : Int) (v6 : Int) (v9 : Int) (v11 : Int) (k_216 : (Nat → Int) → (Nat → Int) → (Nat → Int) → (Nat → Int) → Int → Int → Int → Option (Int × Int × (Nat → Int) × (Nat → Int) × (Nat → Int) × (Nat → Int) × (Nat → Int) × (Nat → Int) × (Nat → Int))) : Nat → (Nat → Int) → (Nat → Int) → (Nat → Int) → (Nat → Int) → Int → Int → Int → Option (Int × Int × (Nat → Int) × (Nat → Int) × (Nat → Int) × (Nat → Int) × (Nat → Int) × (Nat → Int) × (Nat → Int))
  | 0, _, _, _, _, _, _, _ => none
  | F + 1, t_cur, t_was, t_feel, t_curSum, v12, v15, v16 => if v9 ≤ v15 then (k_216 t_cur t_was t_feel t_curSum v12 v15 v16) else (chk (v16 ≠ 0) (chk (inI (Int.tdiv v11 v16)) (chk (v1 ≠ 0) (chk (inB (Int.tmod (Int.tdiv v11 v16) v1) 4) ((m_X11_size (t_pull (Int.toNat (Int.tmod (Int.tdiv v11 v16) v1)))).bind (fun y15 => (m_X11_runs t_baseLow t_baseHigh t_speckLow t_speckHigh t_sourceHold t_cur t_was t_feel t_pushAt t_curSum (t_pull (Int.toNat (Int.tmod (Int.tdiv v11 v16) v1))) v6 1).bind (fun y16 => chk (v1 ≠ 0) (chk (inI (v12 + y15)) (chk (inI (v15 + 1)) (chk (inI (Int.tdiv v16 v1)) (m_X11_aim_162 t_baseLow t_baseHigh t_speckLow t_speckHigh t_sourceHold t_pushAt t_pull v1 v6 v9 v11 k_216 F y16.2.1 y16.2.2.1 y16.2.2.2.1 y16.2.2.2.2 (v12 + y15) (v15 + 1) (Int.tdiv v16 v1))))))))))))

set_option maxRecDepth 10000 in
set_option maxHeartbeats 8000000 in
theorem g_X11_aim_162 {l : Launch} {E : EE} {b0 n : Nat} {h : AH} {a_t : Nat} {t_thrown t_taped t_p t_fault t_baseLow t_baseHigh t_newBaseLow t_newBaseHigh t_from t_knots t_lines t_chosen t_undos t_redos t_aimedMany t_fits t_fitOf t_sights t_systems t_own t_cross t_curveLong t_wallFirst v1 v6 v7 v8 v9 v10 v11 v13 : Int} {t_push t_speckLow t_speckHigh t_sourceHold t_pushAt t_row t_sums t_pull t_aimed : Nat → Int} {r : Int × Int × (Nat → Int) × (Nat → Int) × (Nat → Int) × (Nat → Int) × (Nat → Int) × (Nat → Int) × (Nat → Int)} {k_216 : (Nat → Int) → (Nat → Int) → (Nat → Int) → (Nat → Int) → Int → Int → Int → Option (Int × Int × (Nat → Int) × (Nat → Int) × (Nat → Int) × (Nat → Int) × (Nat → Int) × (Nat → Int) × (Nat → Int))} (ao : AO b0 n [a_t, (a_t + 6), (a_t + 8), (a_t + 9), (a_t + 10), (a_t + 24), (a_t + 25), (a_t + 26), (a_t + 27), (a_t + 28), (a_t + 29), (a_t + 31), (a_t + 38), (a_t + 39)]) (ok_t_baseLow : inI t_baseLow) (ok_t_baseHigh : inI t_baseHigh) (ok_t_aimedMany : inI t_aimedMany) (ok_t_push : okA t_push) (ok_t_speckLow : okA t_speckLow) (ok_t_speckHigh : okA t_speckHigh) (ok_t_sourceHold : okA t_sourceHold) (ok_t_pushAt : okA t_pushAt) (ok_t_row : okA t_row) (ok_t_sums : okJ t_sums) (ok_t_pull : okA t_pull) (ok_t_aimed : okA t_aimed) (ok_v1 : inI v1) (ok_v6 : inI v6) (ok_v7 : inI v7) (ok_v8 : inI v8) (ok_v9 : inI v9) (ok_v10 : inI v10) (ok_v11 : inI v11) (ok_v13 : inJ v13) (hk_216 : ∀ (t_cur_ : Nat → Int) (t_was_ : Nat → Int) (t_feel_ : Nat → Int) (t_curSum_ : Nat → Int) (v12_ : Int) (v15_ : Int) (v16_ : Int), okA t_cur_ → okA t_was_ → okA t_feel_ → okJ t_curSum_ → inI v12_ → inI v15_ → inI v16_ → k_216 t_cur_ t_was_ t_feel_ t_curSum_ v12_ v15_ v16_ = some r → G l E b0 M_X11_aim (fun _ => True) (ZM E b0 (some (vI r.1)) (ov [a_t, (a_t + 6), (a_t + 8), (a_t + 9), (a_t + 10), (a_t + 24), (a_t + 25), (a_t + 26), (a_t + 27), (a_t + 28), (a_t + 29), (a_t + 31), (a_t + 38), (a_t + 39)] [.inr (11, fsX11 a_t t_thrown t_taped t_p t_fault t_baseLow t_baseHigh t_newBaseLow t_newBaseHigh t_from t_knots t_lines t_chosen t_undos t_redos r.2.1 t_fits t_fitOf t_sights t_systems t_own t_cross t_curveLong t_wallFirst), IA E 21 t_push, IA E 100 t_speckLow, IA E 100 t_speckHigh, IA E 100 t_sourceHold, IA E 100 r.2.2.1, IA E 100 r.2.2.2.1, IA E 100 r.2.2.2.2.1, IA E 21 r.2.2.2.2.2.1, JA E 6 r.2.2.2.2.2.2.1, IA E 100 t_row, JA E 6 t_sums, IA E 4 r.2.2.2.2.2.2.2.1, IA E 5 r.2.2.2.2.2.2.2.2] h) n (inI r.1 ∧ inI r.2.1 ∧ okA r.2.2.1 ∧ okA r.2.2.2.1 ∧ okA r.2.2.2.2.1 ∧ okA r.2.2.2.2.2.1 ∧ okJ r.2.2.2.2.2.2.1 ∧ okA r.2.2.2.2.2.2.2.1 ∧ okA r.2.2.2.2.2.2.2.2) 0 0) 0 0 n (ov [a_t, (a_t + 6), (a_t + 8), (a_t + 9), (a_t + 10), (a_t + 24), (a_t + 25), (a_t + 26), (a_t + 27), (a_t + 28), (a_t + 29), (a_t + 31), (a_t + 38), (a_t + 39)] [.inr (11, fsX11 a_t t_thrown t_taped t_p t_fault t_baseLow t_baseHigh t_newBaseLow t_newBaseHigh t_from t_knots t_lines t_chosen t_undos t_redos t_aimedMany t_fits t_fitOf t_sights t_systems t_own t_cross t_curveLong t_wallFirst), IA E 21 t_push, IA E 100 t_speckLow, IA E 100 t_speckHigh, IA E 100 t_sourceHold, IA E 100 t_cur_, IA E 100 t_was_, IA E 100 t_feel_, IA E 21 t_pushAt, JA E 6 t_curSum_, IA E 100 t_row, JA E 6 t_sums, IA E 4 t_pull, IA E 5 t_aimed] h) 216 [some (.ref a_t), some (vI v1), none, none, none, none, some (vI v6), some (vI v7), some (vI v8), some (vI v9), some (vI v10), some (vI v11), some (vI v12_), some (vJ v13), none, none, none, none, none, none] []) :
    ∀ (F : Nat) (t_cur : Nat → Int) (t_was : Nat → Int) (t_feel : Nat → Int) (t_curSum : Nat → Int) (v12 : Int) (v15 : Int) (v16 : Int), okA t_cur → okA t_was → okA t_feel → okJ t_curSum → inI v12 → inI v15 → inI v16 → m_X11_aim_162 t_baseLow t_baseHigh t_speckLow t_speckHigh t_sourceHold t_pushAt t_pull v1 v6 v9 v11 k_216 F t_cur t_was t_feel t_curSum v12 v15 v16 = some r → G l E b0 M_X11_aim (fun _ => True) (ZM E b0 (some (vI r.1)) (ov [a_t, (a_t + 6), (a_t + 8), (a_t + 9), (a_t + 10), (a_t + 24), (a_t + 25), (a_t + 26), (a_t + 27), (a_t + 28), (a_t + 29), (a_t + 31), (a_t + 38), (a_t + 39)] [.inr (11, fsX11 a_t t_thrown t_taped t_p t_fault t_baseLow t_baseHigh t_newBaseLow t_newBaseHigh t_from t_knots t_lines t_chosen t_undos t_redos r.2.1 t_fits t_fitOf t_sights t_systems t_own t_cross t_curveLong t_wallFirst), IA E 21 t_push, IA E 100 t_speckLow, IA E 100 t_speckHigh, IA E 100 t_sourceHold, IA E 100 r.2.2.1, IA E 100 r.2.2.2.1, IA E 100 r.2.2.2.2.1, IA E 21 r.2.2.2.2.2.1, JA E 6 r.2.2.2.2.2.2.1, IA E 100 t_row, JA E 6 t_sums, IA E 4 r.2.2.2.2.2.2.2.1, IA E 5 r.2.2.2.2.2.2.2.2] h) n (inI r.1 ∧ inI r.2.1 ∧ okA r.2.2.1 ∧ okA r.2.2.2.1 ∧ okA r.2.2.2.2.1 ∧ okA r.2.2.2.2.2.1 ∧ okJ r.2.2.2.2.2.2.1 ∧ okA r.2.2.2.2.2.2.2.1 ∧ okA r.2.2.2.2.2.2.2.2) 0 0) 0 0 n (ov [a_t, (a_t + 6), (a_t + 8), (a_t + 9), (a_t + 10), (a_t + 24), (a_t + 25), (a_t + 26), (a_t + 27), (a_t + 28), (a_t + 29), (a_t + 31), (a_t + 38), (a_t + 39)] [.inr (11, fsX11 a_t t_thrown t_taped t_p t_fault t_baseLow t_baseHigh t_newBaseLow t_newBaseHigh t_from t_knots t_lines t_chosen t_undos t_redos t_aimedMany t_fits t_fitOf t_sights t_systems t_own t_cross t_curveLong t_wallFirst), IA E 21 t_push, IA E 100 t_speckLow, IA E 100 t_speckHigh, IA E 100 t_sourceHold, IA E 100 t_cur, IA E 100 t_was, IA E 100 t_feel, IA E 21 t_pushAt, JA E 6 t_curSum, IA E 100 t_row, JA E 6 t_sums, IA E 4 t_pull, IA E 5 t_aimed] h) 162 [some (.ref a_t), some (vI v1), none, none, none, none, some (vI v6), some (vI v7), some (vI v8), some (vI v9), some (vI v10), some (vI v11), some (vI v12), some (vJ v13), none, some (vI v15), some (vI v16), none, none, none] [] := by
  intro F
  induction F with
  | zero =>
    intro t_cur t_was t_feel t_curSum v12 v15 v16 ok_t_cur ok_t_was ok_t_feel ok_t_curSum ok_v12 ok_v15 ok_v16 hs
    rw [m_X11_aim_162] at hs
    cases hs
  | succ F ih =>
    intro t_cur t_was t_feel t_curSum v12 v15 v16 ok_t_cur ok_t_was ok_t_feel ok_t_curSum ok_v12 ok_v15 ok_v16 hs
    rw [m_X11_aim_162] at hs
    refine g_iload e_X11_aim_162 rfl ?_
    refine g_iload e_X11_aim_164 rfl ?_
    refine g_icmp_ge e_X11_aim_166 ok_v15 ok_v9 hs (fun c166 hs => ?_) (fun c166 hs => ?_)
    · exact g_mask [true, true, true, true, true, true, true, true, true, true, true, true, true, true, true, false, false, true, true, true] (hk_216 _ _ _ _ _ _ _ ok_t_cur ok_t_was ok_t_feel ok_t_curSum ok_v12 ok_v15 ok_v16 hs)
    · refine g_aload_n e_X11_aim_169 rfl ?_
      refine g_get 0 52 ao rfl rfl fsX11_g52 fl_X11_124 e_X11_aim_170 ?_
      refine g_iload e_X11_aim_173 rfl ?_
      refine g_iload e_X11_aim_175 rfl ?_
      refine g_idiv e_X11_aim_177 ok_v11 ok_v16 hs (fun hs => ?_)
      refine g_iload_n e_X11_aim_178 rfl ?_
      obtain ⟨hc13, hs⟩ := chk_elim hs
      refine g_irem e_X11_aim_179 hc13 ok_v1 hs (fun hs => ?_)
      refine g_iald 12 ao rfl rfl (Nat.le_of_ble_eq_true rfl) e_X11_aim_180 hs (fun hi14 hs => ?_)
      refine g_istore e_X11_aim_181 st1_17 rfl ?_
      refine g_iload e_X11_aim_183 rfl ?_
      refine g_iload e_X11_aim_185 rfl ?_
      obtain ⟨y15, hy15, hs⟩ := bind_elim hs
      refine g_callSr [vI (t_pull (Int.toNat (Int.tmod (Int.tdiv v11 v16) v1)))] cs_X11_377 ⟨rfl, rfl, Nat.le_of_ble_eq_true rfl, Nat.le_of_ble_eq_true rfl⟩ (ct_X11_size ⟨List.nodup_nil, fun i a h => by simp at h⟩ (fun i a e h => by simp at h) (ok_t_pull _) hy15) e_X11_aim_187 rfl rfl (Nat.le_of_ble_eq_true rfl) ⟨Nat.le_refl _, Nat.le_refl _⟩ (fun Py15 => ?_)
      refine g_iadd e_X11_aim_190 ?_
      refine g_istore e_X11_aim_191 st1_12 rfl ?_
      refine g_aload_n e_X11_aim_193 rfl ?_
      refine g_iload e_X11_aim_194 rfl ?_
      refine g_iload e_X11_aim_196 rfl ?_
      refine g_iconst e_X11_aim_198 ?_
      obtain ⟨y16, hy16, hs⟩ := bind_elim hs
      refine g_callVr [vI (t_pull (Int.toNat (Int.tmod (Int.tdiv v11 v16) v1))), vI v6, vI 1] cv_X11_368 ⟨rfl, rfl, Nat.le_of_ble_eq_true rfl, Nat.le_of_ble_eq_true rfl⟩ (Ct_heap (ct_X11_runs (a_t := a_t) (AO_call [0, 2, 3, 4, 5, 6, 7, 8, 9] ao (by decide) rfl) (FA_call [0, 2, 3, 4, 5, 6, 7, 8, 9] ao.1 rfl rfl) ok_t_baseLow ok_t_baseHigh ok_t_speckLow ok_t_speckHigh ok_t_sourceHold ok_t_cur ok_t_was ok_t_feel ok_t_pushAt ok_t_curSum (ok_t_pull _) ok_v6 (by decide : inI 1) hy16) (ov_call (esn := [.inr (11, fsX11 a_t t_thrown t_taped t_p t_fault t_baseLow t_baseHigh t_newBaseLow t_newBaseHigh t_from t_knots t_lines t_chosen t_undos t_redos t_aimedMany t_fits t_fitOf t_sights t_systems t_own t_cross t_curveLong t_wallFirst), IA E 21 t_push, IA E 100 t_speckLow, IA E 100 t_speckHigh, IA E 100 t_sourceHold, IA E 100 y16.2.1, IA E 100 y16.2.2.1, IA E 100 y16.2.2.2.1, IA E 21 t_pushAt, JA E 6 y16.2.2.2.2, IA E 100 t_row, JA E 6 t_sums, IA E 4 t_pull, IA E 5 t_aimed]) [0, 2, 3, 4, 5, 6, 7, 8, 9] ao.1 rfl rfl rfl rfl)) e_X11_aim_199 (ao.2 0 _ rfl) (ov_get 0 ao.1 rfl rfl) rfl rfl rfl (Nat.le_of_ble_eq_true rfl) ⟨Nat.le_refl _, Nat.le_refl _⟩ (fun Py16 => ?_)
      refine g_istore e_X11_aim_202 st1_18 rfl ?_
      refine g_iinc e_X11_aim_204 rfl st1_15 rfl ?_
      refine g_iload e_X11_aim_207 rfl ?_
      refine g_iload_n e_X11_aim_209 rfl ?_
      refine g_idiv e_X11_aim_210 ok_v16 ok_v1 hs (fun hs => ?_)
      refine g_istore e_X11_aim_211 st1_16 rfl ?_
      refine g_goto e_X11_aim_213 ?_
      obtain ⟨hc17, hs⟩ := chk_elim hs
      obtain ⟨hc18, hs⟩ := chk_elim hs
      obtain ⟨hc19, hs⟩ := chk_elim hs
      exact g_mask [true, true, true, true, true, true, true, true, true, true, true, true, true, true, true, true, true, false, false, true] (ih _ _ _ _ _ _ _ Py16.2.1 Py16.2.2.1 Py16.2.2.2.1 Py16.2.2.2.2 hc17 hc18 hc19 hs)

noncomputable def m_X11_aim_335 (t_baseLow : Int) (t_baseHigh : Int) (t_aimedMany : Int) (t_push : Nat → Int) (t_speckLow : Nat → Int) (t_speckHigh : Nat → Int) (t_sourceHold : Nat → Int) (t_cur : Nat → Int) (t_was : Nat → Int) (t_feel : Nat → Int) (t_pushAt : Nat → Int) (t_curSum : Nat → Int) (t_row : Nat → Int) (t_sums : Nat → Int) (t_pull : Nat → Int) (t_aimed : Nat → Int) (v1 : Int) (v6 : Int) (v7 : Int) (v8 : Int) (v9 : Int) (v10 : Int) (v11 : Int) (ag : Int → (Nat → Int) → (Nat → Int) → (Nat → Int) → (Nat → Int) → (Nat → Int) → (Nat → Int) → Int → Int → Option (Int × Int × (Nat → Int) × (Nat → Int) × (Nat → Int) × (Nat → Int) × (Nat → Int) × (Nat → Int) × (Nat → Int))) (k_341 : Int → (Nat → Int) → (Nat → Int) → (Nat → Int) → (Nat → Int) → (Nat → Int) → (Nat → Int) → Int → Int → Option (Int × Int × (Nat → Int) × (Nat → Int) × (Nat → Int) × (Nat → Int) × (Nat → Int) × (Nat → Int) × (Nat → Int))) : Option (Int × Int × (Nat → Int) × (Nat → Int) × (Nat → Int) × (Nat → Int) × (Nat → Int) × (Nat → Int) × (Nat → Int)) :=
  chk (inI (v11 + 1)) (ag t_aimedMany t_cur t_was t_feel t_pushAt t_curSum t_aimed v10 (v11 + 1))

set_option maxRecDepth 10000 in
set_option maxHeartbeats 8000000 in
theorem g_X11_aim_335 {l : Launch} {E : EE} {b0 n : Nat} {h : AH} {a_t : Nat} {t_thrown t_taped t_p t_fault t_baseLow t_baseHigh t_newBaseLow t_newBaseHigh t_from t_knots t_lines t_chosen t_undos t_redos t_aimedMany t_fits t_fitOf t_sights t_systems t_own t_cross t_curveLong t_wallFirst v1 v6 v7 v8 v9 v10 v11 : Int} {t_push t_speckLow t_speckHigh t_sourceHold t_cur t_was t_feel t_pushAt t_curSum t_row t_sums t_pull t_aimed : Nat → Int} {r : Int × Int × (Nat → Int) × (Nat → Int) × (Nat → Int) × (Nat → Int) × (Nat → Int) × (Nat → Int) × (Nat → Int)} {ag : Int → (Nat → Int) → (Nat → Int) → (Nat → Int) → (Nat → Int) → (Nat → Int) → (Nat → Int) → Int → Int → Option (Int × Int × (Nat → Int) × (Nat → Int) × (Nat → Int) × (Nat → Int) × (Nat → Int) × (Nat → Int) × (Nat → Int))} {k_341 : Int → (Nat → Int) → (Nat → Int) → (Nat → Int) → (Nat → Int) → (Nat → Int) → (Nat → Int) → Int → Int → Option (Int × Int × (Nat → Int) × (Nat → Int) × (Nat → Int) × (Nat → Int) × (Nat → Int) × (Nat → Int) × (Nat → Int))} (ao : AO b0 n [a_t, (a_t + 6), (a_t + 8), (a_t + 9), (a_t + 10), (a_t + 24), (a_t + 25), (a_t + 26), (a_t + 27), (a_t + 28), (a_t + 29), (a_t + 31), (a_t + 38), (a_t + 39)]) (ok_t_baseLow : inI t_baseLow) (ok_t_baseHigh : inI t_baseHigh) (ok_t_aimedMany : inI t_aimedMany) (ok_t_push : okA t_push) (ok_t_speckLow : okA t_speckLow) (ok_t_speckHigh : okA t_speckHigh) (ok_t_sourceHold : okA t_sourceHold) (ok_t_cur : okA t_cur) (ok_t_was : okA t_was) (ok_t_feel : okA t_feel) (ok_t_pushAt : okA t_pushAt) (ok_t_curSum : okJ t_curSum) (ok_t_row : okA t_row) (ok_t_sums : okJ t_sums) (ok_t_pull : okA t_pull) (ok_t_aimed : okA t_aimed) (ok_v1 : inI v1) (ok_v6 : inI v6) (ok_v7 : inI v7) (ok_v8 : inI v8) (ok_v9 : inI v9) (ok_v10 : inI v10) (ok_v11 : inI v11) (hag : ∀ (t_aimedMany_ : Int) (t_cur_ : Nat → Int) (t_was_ : Nat → Int) (t_feel_ : Nat → Int) (t_pushAt_ : Nat → Int) (t_curSum_ : Nat → Int) (t_aimed_ : Nat → Int) (v10_ : Int) (v11_ : Int), inI t_aimedMany_ → okA t_cur_ → okA t_was_ → okA t_feel_ → okA t_pushAt_ → okJ t_curSum_ → okA t_aimed_ → inI v10_ → inI v11_ → ag t_aimedMany_ t_cur_ t_was_ t_feel_ t_pushAt_ t_curSum_ t_aimed_ v10_ v11_ = some r → G l E b0 M_X11_aim (fun _ => True) (ZM E b0 (some (vI r.1)) (ov [a_t, (a_t + 6), (a_t + 8), (a_t + 9), (a_t + 10), (a_t + 24), (a_t + 25), (a_t + 26), (a_t + 27), (a_t + 28), (a_t + 29), (a_t + 31), (a_t + 38), (a_t + 39)] [.inr (11, fsX11 a_t t_thrown t_taped t_p t_fault t_baseLow t_baseHigh t_newBaseLow t_newBaseHigh t_from t_knots t_lines t_chosen t_undos t_redos r.2.1 t_fits t_fitOf t_sights t_systems t_own t_cross t_curveLong t_wallFirst), IA E 21 t_push, IA E 100 t_speckLow, IA E 100 t_speckHigh, IA E 100 t_sourceHold, IA E 100 r.2.2.1, IA E 100 r.2.2.2.1, IA E 100 r.2.2.2.2.1, IA E 21 r.2.2.2.2.2.1, JA E 6 r.2.2.2.2.2.2.1, IA E 100 t_row, JA E 6 t_sums, IA E 4 r.2.2.2.2.2.2.2.1, IA E 5 r.2.2.2.2.2.2.2.2] h) n (inI r.1 ∧ inI r.2.1 ∧ okA r.2.2.1 ∧ okA r.2.2.2.1 ∧ okA r.2.2.2.2.1 ∧ okA r.2.2.2.2.2.1 ∧ okJ r.2.2.2.2.2.2.1 ∧ okA r.2.2.2.2.2.2.2.1 ∧ okA r.2.2.2.2.2.2.2.2) 0 0) 0 0 n (ov [a_t, (a_t + 6), (a_t + 8), (a_t + 9), (a_t + 10), (a_t + 24), (a_t + 25), (a_t + 26), (a_t + 27), (a_t + 28), (a_t + 29), (a_t + 31), (a_t + 38), (a_t + 39)] [.inr (11, fsX11 a_t t_thrown t_taped t_p t_fault t_baseLow t_baseHigh t_newBaseLow t_newBaseHigh t_from t_knots t_lines t_chosen t_undos t_redos t_aimedMany_ t_fits t_fitOf t_sights t_systems t_own t_cross t_curveLong t_wallFirst), IA E 21 t_push, IA E 100 t_speckLow, IA E 100 t_speckHigh, IA E 100 t_sourceHold, IA E 100 t_cur_, IA E 100 t_was_, IA E 100 t_feel_, IA E 21 t_pushAt_, JA E 6 t_curSum_, IA E 100 t_row, JA E 6 t_sums, IA E 4 t_pull, IA E 5 t_aimed_] h) 131 [some (.ref a_t), some (vI v1), none, none, none, none, some (vI v6), some (vI v7), some (vI v8), some (vI v9), some (vI v10_), some (vI v11_), none, none, none, none, none, none, none, none] []) (hk_341 : ∀ (t_aimedMany_ : Int) (t_cur_ : Nat → Int) (t_was_ : Nat → Int) (t_feel_ : Nat → Int) (t_pushAt_ : Nat → Int) (t_curSum_ : Nat → Int) (t_aimed_ : Nat → Int) (v10_ : Int) (v11_ : Int), inI t_aimedMany_ → okA t_cur_ → okA t_was_ → okA t_feel_ → okA t_pushAt_ → okJ t_curSum_ → okA t_aimed_ → inI v10_ → inI v11_ → k_341 t_aimedMany_ t_cur_ t_was_ t_feel_ t_pushAt_ t_curSum_ t_aimed_ v10_ v11_ = some r → G l E b0 M_X11_aim (fun _ => True) (ZM E b0 (some (vI r.1)) (ov [a_t, (a_t + 6), (a_t + 8), (a_t + 9), (a_t + 10), (a_t + 24), (a_t + 25), (a_t + 26), (a_t + 27), (a_t + 28), (a_t + 29), (a_t + 31), (a_t + 38), (a_t + 39)] [.inr (11, fsX11 a_t t_thrown t_taped t_p t_fault t_baseLow t_baseHigh t_newBaseLow t_newBaseHigh t_from t_knots t_lines t_chosen t_undos t_redos r.2.1 t_fits t_fitOf t_sights t_systems t_own t_cross t_curveLong t_wallFirst), IA E 21 t_push, IA E 100 t_speckLow, IA E 100 t_speckHigh, IA E 100 t_sourceHold, IA E 100 r.2.2.1, IA E 100 r.2.2.2.1, IA E 100 r.2.2.2.2.1, IA E 21 r.2.2.2.2.2.1, JA E 6 r.2.2.2.2.2.2.1, IA E 100 t_row, JA E 6 t_sums, IA E 4 r.2.2.2.2.2.2.2.1, IA E 5 r.2.2.2.2.2.2.2.2] h) n (inI r.1 ∧ inI r.2.1 ∧ okA r.2.2.1 ∧ okA r.2.2.2.1 ∧ okA r.2.2.2.2.1 ∧ okA r.2.2.2.2.2.1 ∧ okJ r.2.2.2.2.2.2.1 ∧ okA r.2.2.2.2.2.2.2.1 ∧ okA r.2.2.2.2.2.2.2.2) 0 0) 0 0 n (ov [a_t, (a_t + 6), (a_t + 8), (a_t + 9), (a_t + 10), (a_t + 24), (a_t + 25), (a_t + 26), (a_t + 27), (a_t + 28), (a_t + 29), (a_t + 31), (a_t + 38), (a_t + 39)] [.inr (11, fsX11 a_t t_thrown t_taped t_p t_fault t_baseLow t_baseHigh t_newBaseLow t_newBaseHigh t_from t_knots t_lines t_chosen t_undos t_redos t_aimedMany_ t_fits t_fitOf t_sights t_systems t_own t_cross t_curveLong t_wallFirst), IA E 21 t_push, IA E 100 t_speckLow, IA E 100 t_speckHigh, IA E 100 t_sourceHold, IA E 100 t_cur_, IA E 100 t_was_, IA E 100 t_feel_, IA E 21 t_pushAt_, JA E 6 t_curSum_, IA E 100 t_row, JA E 6 t_sums, IA E 4 t_pull, IA E 5 t_aimed_] h) 341 [some (.ref a_t), some (vI v1), none, none, none, none, some (vI v6), some (vI v7), some (vI v8), some (vI v9), some (vI v10_), none, none, none, none, none, none, none, none, none] []) (hs : m_X11_aim_335 t_baseLow t_baseHigh t_aimedMany t_push t_speckLow t_speckHigh t_sourceHold t_cur t_was t_feel t_pushAt t_curSum t_row t_sums t_pull t_aimed v1 v6 v7 v8 v9 v10 v11 ag k_341 = some r) : G l E b0 M_X11_aim (fun _ => True) (ZM E b0 (some (vI r.1)) (ov [a_t, (a_t + 6), (a_t + 8), (a_t + 9), (a_t + 10), (a_t + 24), (a_t + 25), (a_t + 26), (a_t + 27), (a_t + 28), (a_t + 29), (a_t + 31), (a_t + 38), (a_t + 39)] [.inr (11, fsX11 a_t t_thrown t_taped t_p t_fault t_baseLow t_baseHigh t_newBaseLow t_newBaseHigh t_from t_knots t_lines t_chosen t_undos t_redos r.2.1 t_fits t_fitOf t_sights t_systems t_own t_cross t_curveLong t_wallFirst), IA E 21 t_push, IA E 100 t_speckLow, IA E 100 t_speckHigh, IA E 100 t_sourceHold, IA E 100 r.2.2.1, IA E 100 r.2.2.2.1, IA E 100 r.2.2.2.2.1, IA E 21 r.2.2.2.2.2.1, JA E 6 r.2.2.2.2.2.2.1, IA E 100 t_row, JA E 6 t_sums, IA E 4 r.2.2.2.2.2.2.2.1, IA E 5 r.2.2.2.2.2.2.2.2] h) n (inI r.1 ∧ inI r.2.1 ∧ okA r.2.2.1 ∧ okA r.2.2.2.1 ∧ okA r.2.2.2.2.1 ∧ okA r.2.2.2.2.2.1 ∧ okJ r.2.2.2.2.2.2.1 ∧ okA r.2.2.2.2.2.2.2.1 ∧ okA r.2.2.2.2.2.2.2.2) 0 0) 0 0 n (ov [a_t, (a_t + 6), (a_t + 8), (a_t + 9), (a_t + 10), (a_t + 24), (a_t + 25), (a_t + 26), (a_t + 27), (a_t + 28), (a_t + 29), (a_t + 31), (a_t + 38), (a_t + 39)] [.inr (11, fsX11 a_t t_thrown t_taped t_p t_fault t_baseLow t_baseHigh t_newBaseLow t_newBaseHigh t_from t_knots t_lines t_chosen t_undos t_redos t_aimedMany t_fits t_fitOf t_sights t_systems t_own t_cross t_curveLong t_wallFirst), IA E 21 t_push, IA E 100 t_speckLow, IA E 100 t_speckHigh, IA E 100 t_sourceHold, IA E 100 t_cur, IA E 100 t_was, IA E 100 t_feel, IA E 21 t_pushAt, JA E 6 t_curSum, IA E 100 t_row, JA E 6 t_sums, IA E 4 t_pull, IA E 5 t_aimed] h) 335 [some (.ref a_t), some (vI v1), none, none, none, none, some (vI v6), some (vI v7), some (vI v8), some (vI v9), some (vI v10), some (vI v11), none, none, none, none, none, none, none, none] [] := by
  rw [m_X11_aim_335] at hs
  refine g_iinc e_X11_aim_335 rfl st1_11 rfl ?_
  refine g_goto e_X11_aim_338 ?_
  obtain ⟨hc23, hs⟩ := chk_elim hs
  exact hag _ _ _ _ _ _ _ _ _ ok_t_aimedMany ok_t_cur ok_t_was ok_t_feel ok_t_pushAt ok_t_curSum ok_t_aimed ok_v10 hc23 hs

noncomputable def m_X11_aim_302 (v1 : Int) (v9 : Int) (v11 : Int) (k_335 : (Nat → Int) → Int → Int → Option (Int × Int × (Nat → Int) × (Nat → Int) × (Nat → Int) × (Nat → Int) × (Nat → Int) × (Nat → Int) × (Nat → Int))) : Nat → (Nat → Int) → Int → Int → Option (Int × Int × (Nat → Int) × (Nat → Int) × (Nat → Int) × (Nat → Int) × (Nat → Int) × (Nat → Int) × (Nat → Int))
  | 0, _, _, _ => none
  | F + 1, t_aimed, v18, v19 => if v9 ≤ v18 then (k_335 t_aimed v18 v19) else (chk (v19 ≠ 0) (chk (inI (Int.tdiv v11 v19)) (chk (v1 ≠ 0) (chk (inI (Int.tmod (Int.tdiv v11 v19) v1)) (chk (inB v18 5) (chk (v1 ≠ 0) (chk (inI (v18 + 1)) (chk (inI (Int.tdiv v19 v1)) (m_X11_aim_302 v1 v9 v11 k_335 F (up t_aimed (Int.toNat v18) (Int.tmod (Int.tdiv v11 v19) v1)) (v18 + 1) (Int.tdiv v19 v1))))))))))

set_option maxRecDepth 10000 in
set_option maxHeartbeats 8000000 in
theorem g_X11_aim_302 {l : Launch} {E : EE} {b0 n : Nat} {h : AH} {a_t : Nat} {t_thrown t_taped t_p t_fault t_baseLow t_baseHigh t_newBaseLow t_newBaseHigh t_from t_knots t_lines t_chosen t_undos t_redos t_aimedMany t_fits t_fitOf t_sights t_systems t_own t_cross t_curveLong t_wallFirst v1 v6 v7 v8 v9 v10 v11 : Int} {t_push t_speckLow t_speckHigh t_sourceHold t_cur t_was t_feel t_pushAt t_curSum t_row t_sums t_pull : Nat → Int} {r : Int × Int × (Nat → Int) × (Nat → Int) × (Nat → Int) × (Nat → Int) × (Nat → Int) × (Nat → Int) × (Nat → Int)} {k_335 : (Nat → Int) → Int → Int → Option (Int × Int × (Nat → Int) × (Nat → Int) × (Nat → Int) × (Nat → Int) × (Nat → Int) × (Nat → Int) × (Nat → Int))} (ao : AO b0 n [a_t, (a_t + 6), (a_t + 8), (a_t + 9), (a_t + 10), (a_t + 24), (a_t + 25), (a_t + 26), (a_t + 27), (a_t + 28), (a_t + 29), (a_t + 31), (a_t + 38), (a_t + 39)]) (ok_t_baseLow : inI t_baseLow) (ok_t_baseHigh : inI t_baseHigh) (ok_t_aimedMany : inI t_aimedMany) (ok_t_push : okA t_push) (ok_t_speckLow : okA t_speckLow) (ok_t_speckHigh : okA t_speckHigh) (ok_t_sourceHold : okA t_sourceHold) (ok_t_cur : okA t_cur) (ok_t_was : okA t_was) (ok_t_feel : okA t_feel) (ok_t_pushAt : okA t_pushAt) (ok_t_curSum : okJ t_curSum) (ok_t_row : okA t_row) (ok_t_sums : okJ t_sums) (ok_t_pull : okA t_pull) (ok_v1 : inI v1) (ok_v6 : inI v6) (ok_v7 : inI v7) (ok_v8 : inI v8) (ok_v9 : inI v9) (ok_v10 : inI v10) (ok_v11 : inI v11) (hk_335 : ∀ (t_aimed_ : Nat → Int) (v18_ : Int) (v19_ : Int), okA t_aimed_ → inI v18_ → inI v19_ → k_335 t_aimed_ v18_ v19_ = some r → G l E b0 M_X11_aim (fun _ => True) (ZM E b0 (some (vI r.1)) (ov [a_t, (a_t + 6), (a_t + 8), (a_t + 9), (a_t + 10), (a_t + 24), (a_t + 25), (a_t + 26), (a_t + 27), (a_t + 28), (a_t + 29), (a_t + 31), (a_t + 38), (a_t + 39)] [.inr (11, fsX11 a_t t_thrown t_taped t_p t_fault t_baseLow t_baseHigh t_newBaseLow t_newBaseHigh t_from t_knots t_lines t_chosen t_undos t_redos r.2.1 t_fits t_fitOf t_sights t_systems t_own t_cross t_curveLong t_wallFirst), IA E 21 t_push, IA E 100 t_speckLow, IA E 100 t_speckHigh, IA E 100 t_sourceHold, IA E 100 r.2.2.1, IA E 100 r.2.2.2.1, IA E 100 r.2.2.2.2.1, IA E 21 r.2.2.2.2.2.1, JA E 6 r.2.2.2.2.2.2.1, IA E 100 t_row, JA E 6 t_sums, IA E 4 r.2.2.2.2.2.2.2.1, IA E 5 r.2.2.2.2.2.2.2.2] h) n (inI r.1 ∧ inI r.2.1 ∧ okA r.2.2.1 ∧ okA r.2.2.2.1 ∧ okA r.2.2.2.2.1 ∧ okA r.2.2.2.2.2.1 ∧ okJ r.2.2.2.2.2.2.1 ∧ okA r.2.2.2.2.2.2.2.1 ∧ okA r.2.2.2.2.2.2.2.2) 0 0) 0 0 n (ov [a_t, (a_t + 6), (a_t + 8), (a_t + 9), (a_t + 10), (a_t + 24), (a_t + 25), (a_t + 26), (a_t + 27), (a_t + 28), (a_t + 29), (a_t + 31), (a_t + 38), (a_t + 39)] [.inr (11, fsX11 a_t t_thrown t_taped t_p t_fault t_baseLow t_baseHigh t_newBaseLow t_newBaseHigh t_from t_knots t_lines t_chosen t_undos t_redos t_aimedMany t_fits t_fitOf t_sights t_systems t_own t_cross t_curveLong t_wallFirst), IA E 21 t_push, IA E 100 t_speckLow, IA E 100 t_speckHigh, IA E 100 t_sourceHold, IA E 100 t_cur, IA E 100 t_was, IA E 100 t_feel, IA E 21 t_pushAt, JA E 6 t_curSum, IA E 100 t_row, JA E 6 t_sums, IA E 4 t_pull, IA E 5 t_aimed_] h) 335 [some (.ref a_t), some (vI v1), none, none, none, none, some (vI v6), some (vI v7), some (vI v8), some (vI v9), some (vI v10), some (vI v11), none, none, none, none, none, none, none, none] []) :
    ∀ (F : Nat) (t_aimed : Nat → Int) (v18 : Int) (v19 : Int), okA t_aimed → inI v18 → inI v19 → m_X11_aim_302 v1 v9 v11 k_335 F t_aimed v18 v19 = some r → G l E b0 M_X11_aim (fun _ => True) (ZM E b0 (some (vI r.1)) (ov [a_t, (a_t + 6), (a_t + 8), (a_t + 9), (a_t + 10), (a_t + 24), (a_t + 25), (a_t + 26), (a_t + 27), (a_t + 28), (a_t + 29), (a_t + 31), (a_t + 38), (a_t + 39)] [.inr (11, fsX11 a_t t_thrown t_taped t_p t_fault t_baseLow t_baseHigh t_newBaseLow t_newBaseHigh t_from t_knots t_lines t_chosen t_undos t_redos r.2.1 t_fits t_fitOf t_sights t_systems t_own t_cross t_curveLong t_wallFirst), IA E 21 t_push, IA E 100 t_speckLow, IA E 100 t_speckHigh, IA E 100 t_sourceHold, IA E 100 r.2.2.1, IA E 100 r.2.2.2.1, IA E 100 r.2.2.2.2.1, IA E 21 r.2.2.2.2.2.1, JA E 6 r.2.2.2.2.2.2.1, IA E 100 t_row, JA E 6 t_sums, IA E 4 r.2.2.2.2.2.2.2.1, IA E 5 r.2.2.2.2.2.2.2.2] h) n (inI r.1 ∧ inI r.2.1 ∧ okA r.2.2.1 ∧ okA r.2.2.2.1 ∧ okA r.2.2.2.2.1 ∧ okA r.2.2.2.2.2.1 ∧ okJ r.2.2.2.2.2.2.1 ∧ okA r.2.2.2.2.2.2.2.1 ∧ okA r.2.2.2.2.2.2.2.2) 0 0) 0 0 n (ov [a_t, (a_t + 6), (a_t + 8), (a_t + 9), (a_t + 10), (a_t + 24), (a_t + 25), (a_t + 26), (a_t + 27), (a_t + 28), (a_t + 29), (a_t + 31), (a_t + 38), (a_t + 39)] [.inr (11, fsX11 a_t t_thrown t_taped t_p t_fault t_baseLow t_baseHigh t_newBaseLow t_newBaseHigh t_from t_knots t_lines t_chosen t_undos t_redos t_aimedMany t_fits t_fitOf t_sights t_systems t_own t_cross t_curveLong t_wallFirst), IA E 21 t_push, IA E 100 t_speckLow, IA E 100 t_speckHigh, IA E 100 t_sourceHold, IA E 100 t_cur, IA E 100 t_was, IA E 100 t_feel, IA E 21 t_pushAt, JA E 6 t_curSum, IA E 100 t_row, JA E 6 t_sums, IA E 4 t_pull, IA E 5 t_aimed] h) 302 [some (.ref a_t), some (vI v1), none, none, none, none, some (vI v6), some (vI v7), some (vI v8), some (vI v9), some (vI v10), some (vI v11), none, none, none, none, none, none, some (vI v18), some (vI v19)] [] := by
  intro F
  induction F with
  | zero =>
    intro t_aimed v18 v19 ok_t_aimed ok_v18 ok_v19 hs
    rw [m_X11_aim_302] at hs
    cases hs
  | succ F ih =>
    intro t_aimed v18 v19 ok_t_aimed ok_v18 ok_v19 hs
    rw [m_X11_aim_302] at hs
    refine g_iload e_X11_aim_302 rfl ?_
    refine g_iload e_X11_aim_304 rfl ?_
    refine g_icmp_ge e_X11_aim_306 ok_v18 ok_v9 hs (fun c306 hs => ?_) (fun c306 hs => ?_)
    · exact g_mask [true, true, true, true, true, true, true, true, true, true, true, true, true, true, true, true, true, true, false, false] (hk_335 _ _ _ ok_t_aimed ok_v18 ok_v19 hs)
    · refine g_aload_n e_X11_aim_309 rfl ?_
      refine g_get 0 53 ao rfl rfl fsX11_g53 fl_X11_127 e_X11_aim_310 ?_
      refine g_iload e_X11_aim_313 rfl ?_
      refine g_iload e_X11_aim_315 rfl ?_
      refine g_iload e_X11_aim_317 rfl ?_
      refine g_idiv e_X11_aim_319 ok_v11 ok_v19 hs (fun hs => ?_)
      refine g_iload_n e_X11_aim_320 rfl ?_
      obtain ⟨hc24, hs⟩ := chk_elim hs
      refine g_irem e_X11_aim_321 hc24 ok_v1 hs (fun hs => ?_)
      obtain ⟨hc25, hs⟩ := chk_elim hs
      refine g_iast 13 ao rfl rfl ls_13 (Nat.le_of_ble_eq_true rfl) e_X11_aim_322 hs (fun hi26 hs => ?_)
      refine g_iinc e_X11_aim_323 rfl st1_18 rfl ?_
      refine g_iload e_X11_aim_326 rfl ?_
      refine g_iload_n e_X11_aim_328 rfl ?_
      refine g_idiv e_X11_aim_329 ok_v19 ok_v1 hs (fun hs => ?_)
      refine g_istore e_X11_aim_330 st1_19 rfl ?_
      refine g_goto e_X11_aim_332 ?_
      obtain ⟨hc27, hs⟩ := chk_elim hs
      obtain ⟨hc28, hs⟩ := chk_elim hs
      exact ih _ _ _ (okA_up ok_t_aimed hc25) hc27 hc28 hs

noncomputable def m_X11_aim_283 (t_baseLow : Int) (t_baseHigh : Int) (t_aimedMany : Int) (t_push : Nat → Int) (t_speckLow : Nat → Int) (t_speckHigh : Nat → Int) (t_sourceHold : Nat → Int) (t_cur : Nat → Int) (t_was : Nat → Int) (t_feel : Nat → Int) (t_pushAt : Nat → Int) (t_curSum : Nat → Int) (t_row : Nat → Int) (t_sums : Nat → Int) (t_pull : Nat → Int) (t_aimed : Nat → Int) (v1 : Int) (v6 : Int) (v7 : Int) (v8 : Int) (v9 : Int) (v11 : Int) (v12 : Int) (ag : Int → (Nat → Int) → (Nat → Int) → (Nat → Int) → (Nat → Int) → (Nat → Int) → (Nat → Int) → Int → Int → Option (Int × Int × (Nat → Int) × (Nat → Int) × (Nat → Int) × (Nat → Int) × (Nat → Int) × (Nat → Int) × (Nat → Int))) (k_341 : Int → (Nat → Int) → (Nat → Int) → (Nat → Int) → (Nat → Int) → (Nat → Int) → (Nat → Int) → Int → Int → Option (Int × Int × (Nat → Int) × (Nat → Int) × (Nat → Int) × (Nat → Int) × (Nat → Int) × (Nat → Int) × (Nat → Int))) : Option (Int × Int × (Nat → Int) × (Nat → Int) × (Nat → Int) × (Nat → Int) × (Nat → Int) × (Nat → Int) × (Nat → Int)) :=
  chk (v1 ≠ 0) (chk (inI (Int.tdiv v8 v1)) (m_X11_aim_302 v1 v9 v11 (fun t_aimed' v18' v19' => m_X11_aim_335 t_baseLow t_baseHigh v9 t_push t_speckLow t_speckHigh t_sourceHold t_cur t_was t_feel t_pushAt t_curSum t_row t_sums t_pull t_aimed' v1 v6 v7 v8 v9 v12 v11 ag k_341) FU t_aimed 0 (Int.tdiv v8 v1)))

set_option maxRecDepth 10000 in
set_option maxHeartbeats 8000000 in
theorem g_X11_aim_283 {l : Launch} {E : EE} {b0 n : Nat} {h : AH} {a_t : Nat} {t_thrown t_taped t_p t_fault t_baseLow t_baseHigh t_newBaseLow t_newBaseHigh t_from t_knots t_lines t_chosen t_undos t_redos t_aimedMany t_fits t_fitOf t_sights t_systems t_own t_cross t_curveLong t_wallFirst v1 v6 v7 v8 v9 v11 v12 : Int} {t_push t_speckLow t_speckHigh t_sourceHold t_cur t_was t_feel t_pushAt t_curSum t_row t_sums t_pull t_aimed : Nat → Int} {r : Int × Int × (Nat → Int) × (Nat → Int) × (Nat → Int) × (Nat → Int) × (Nat → Int) × (Nat → Int) × (Nat → Int)} {ag : Int → (Nat → Int) → (Nat → Int) → (Nat → Int) → (Nat → Int) → (Nat → Int) → (Nat → Int) → Int → Int → Option (Int × Int × (Nat → Int) × (Nat → Int) × (Nat → Int) × (Nat → Int) × (Nat → Int) × (Nat → Int) × (Nat → Int))} {k_341 : Int → (Nat → Int) → (Nat → Int) → (Nat → Int) → (Nat → Int) → (Nat → Int) → (Nat → Int) → Int → Int → Option (Int × Int × (Nat → Int) × (Nat → Int) × (Nat → Int) × (Nat → Int) × (Nat → Int) × (Nat → Int) × (Nat → Int))} (ao : AO b0 n [a_t, (a_t + 6), (a_t + 8), (a_t + 9), (a_t + 10), (a_t + 24), (a_t + 25), (a_t + 26), (a_t + 27), (a_t + 28), (a_t + 29), (a_t + 31), (a_t + 38), (a_t + 39)]) (ok_t_baseLow : inI t_baseLow) (ok_t_baseHigh : inI t_baseHigh) (ok_t_aimedMany : inI t_aimedMany) (ok_t_push : okA t_push) (ok_t_speckLow : okA t_speckLow) (ok_t_speckHigh : okA t_speckHigh) (ok_t_sourceHold : okA t_sourceHold) (ok_t_cur : okA t_cur) (ok_t_was : okA t_was) (ok_t_feel : okA t_feel) (ok_t_pushAt : okA t_pushAt) (ok_t_curSum : okJ t_curSum) (ok_t_row : okA t_row) (ok_t_sums : okJ t_sums) (ok_t_pull : okA t_pull) (ok_t_aimed : okA t_aimed) (ok_v1 : inI v1) (ok_v6 : inI v6) (ok_v7 : inI v7) (ok_v8 : inI v8) (ok_v9 : inI v9) (ok_v11 : inI v11) (ok_v12 : inI v12) (hag : ∀ (t_aimedMany_ : Int) (t_cur_ : Nat → Int) (t_was_ : Nat → Int) (t_feel_ : Nat → Int) (t_pushAt_ : Nat → Int) (t_curSum_ : Nat → Int) (t_aimed_ : Nat → Int) (v10_ : Int) (v11_ : Int), inI t_aimedMany_ → okA t_cur_ → okA t_was_ → okA t_feel_ → okA t_pushAt_ → okJ t_curSum_ → okA t_aimed_ → inI v10_ → inI v11_ → ag t_aimedMany_ t_cur_ t_was_ t_feel_ t_pushAt_ t_curSum_ t_aimed_ v10_ v11_ = some r → G l E b0 M_X11_aim (fun _ => True) (ZM E b0 (some (vI r.1)) (ov [a_t, (a_t + 6), (a_t + 8), (a_t + 9), (a_t + 10), (a_t + 24), (a_t + 25), (a_t + 26), (a_t + 27), (a_t + 28), (a_t + 29), (a_t + 31), (a_t + 38), (a_t + 39)] [.inr (11, fsX11 a_t t_thrown t_taped t_p t_fault t_baseLow t_baseHigh t_newBaseLow t_newBaseHigh t_from t_knots t_lines t_chosen t_undos t_redos r.2.1 t_fits t_fitOf t_sights t_systems t_own t_cross t_curveLong t_wallFirst), IA E 21 t_push, IA E 100 t_speckLow, IA E 100 t_speckHigh, IA E 100 t_sourceHold, IA E 100 r.2.2.1, IA E 100 r.2.2.2.1, IA E 100 r.2.2.2.2.1, IA E 21 r.2.2.2.2.2.1, JA E 6 r.2.2.2.2.2.2.1, IA E 100 t_row, JA E 6 t_sums, IA E 4 r.2.2.2.2.2.2.2.1, IA E 5 r.2.2.2.2.2.2.2.2] h) n (inI r.1 ∧ inI r.2.1 ∧ okA r.2.2.1 ∧ okA r.2.2.2.1 ∧ okA r.2.2.2.2.1 ∧ okA r.2.2.2.2.2.1 ∧ okJ r.2.2.2.2.2.2.1 ∧ okA r.2.2.2.2.2.2.2.1 ∧ okA r.2.2.2.2.2.2.2.2) 0 0) 0 0 n (ov [a_t, (a_t + 6), (a_t + 8), (a_t + 9), (a_t + 10), (a_t + 24), (a_t + 25), (a_t + 26), (a_t + 27), (a_t + 28), (a_t + 29), (a_t + 31), (a_t + 38), (a_t + 39)] [.inr (11, fsX11 a_t t_thrown t_taped t_p t_fault t_baseLow t_baseHigh t_newBaseLow t_newBaseHigh t_from t_knots t_lines t_chosen t_undos t_redos t_aimedMany_ t_fits t_fitOf t_sights t_systems t_own t_cross t_curveLong t_wallFirst), IA E 21 t_push, IA E 100 t_speckLow, IA E 100 t_speckHigh, IA E 100 t_sourceHold, IA E 100 t_cur_, IA E 100 t_was_, IA E 100 t_feel_, IA E 21 t_pushAt_, JA E 6 t_curSum_, IA E 100 t_row, JA E 6 t_sums, IA E 4 t_pull, IA E 5 t_aimed_] h) 131 [some (.ref a_t), some (vI v1), none, none, none, none, some (vI v6), some (vI v7), some (vI v8), some (vI v9), some (vI v10_), some (vI v11_), none, none, none, none, none, none, none, none] []) (hk_341 : ∀ (t_aimedMany_ : Int) (t_cur_ : Nat → Int) (t_was_ : Nat → Int) (t_feel_ : Nat → Int) (t_pushAt_ : Nat → Int) (t_curSum_ : Nat → Int) (t_aimed_ : Nat → Int) (v10_ : Int) (v11_ : Int), inI t_aimedMany_ → okA t_cur_ → okA t_was_ → okA t_feel_ → okA t_pushAt_ → okJ t_curSum_ → okA t_aimed_ → inI v10_ → inI v11_ → k_341 t_aimedMany_ t_cur_ t_was_ t_feel_ t_pushAt_ t_curSum_ t_aimed_ v10_ v11_ = some r → G l E b0 M_X11_aim (fun _ => True) (ZM E b0 (some (vI r.1)) (ov [a_t, (a_t + 6), (a_t + 8), (a_t + 9), (a_t + 10), (a_t + 24), (a_t + 25), (a_t + 26), (a_t + 27), (a_t + 28), (a_t + 29), (a_t + 31), (a_t + 38), (a_t + 39)] [.inr (11, fsX11 a_t t_thrown t_taped t_p t_fault t_baseLow t_baseHigh t_newBaseLow t_newBaseHigh t_from t_knots t_lines t_chosen t_undos t_redos r.2.1 t_fits t_fitOf t_sights t_systems t_own t_cross t_curveLong t_wallFirst), IA E 21 t_push, IA E 100 t_speckLow, IA E 100 t_speckHigh, IA E 100 t_sourceHold, IA E 100 r.2.2.1, IA E 100 r.2.2.2.1, IA E 100 r.2.2.2.2.1, IA E 21 r.2.2.2.2.2.1, JA E 6 r.2.2.2.2.2.2.1, IA E 100 t_row, JA E 6 t_sums, IA E 4 r.2.2.2.2.2.2.2.1, IA E 5 r.2.2.2.2.2.2.2.2] h) n (inI r.1 ∧ inI r.2.1 ∧ okA r.2.2.1 ∧ okA r.2.2.2.1 ∧ okA r.2.2.2.2.1 ∧ okA r.2.2.2.2.2.1 ∧ okJ r.2.2.2.2.2.2.1 ∧ okA r.2.2.2.2.2.2.2.1 ∧ okA r.2.2.2.2.2.2.2.2) 0 0) 0 0 n (ov [a_t, (a_t + 6), (a_t + 8), (a_t + 9), (a_t + 10), (a_t + 24), (a_t + 25), (a_t + 26), (a_t + 27), (a_t + 28), (a_t + 29), (a_t + 31), (a_t + 38), (a_t + 39)] [.inr (11, fsX11 a_t t_thrown t_taped t_p t_fault t_baseLow t_baseHigh t_newBaseLow t_newBaseHigh t_from t_knots t_lines t_chosen t_undos t_redos t_aimedMany_ t_fits t_fitOf t_sights t_systems t_own t_cross t_curveLong t_wallFirst), IA E 21 t_push, IA E 100 t_speckLow, IA E 100 t_speckHigh, IA E 100 t_sourceHold, IA E 100 t_cur_, IA E 100 t_was_, IA E 100 t_feel_, IA E 21 t_pushAt_, JA E 6 t_curSum_, IA E 100 t_row, JA E 6 t_sums, IA E 4 t_pull, IA E 5 t_aimed_] h) 341 [some (.ref a_t), some (vI v1), none, none, none, none, some (vI v6), some (vI v7), some (vI v8), some (vI v9), some (vI v10_), none, none, none, none, none, none, none, none, none] []) (hs : m_X11_aim_283 t_baseLow t_baseHigh t_aimedMany t_push t_speckLow t_speckHigh t_sourceHold t_cur t_was t_feel t_pushAt t_curSum t_row t_sums t_pull t_aimed v1 v6 v7 v8 v9 v11 v12 ag k_341 = some r) : G l E b0 M_X11_aim (fun _ => True) (ZM E b0 (some (vI r.1)) (ov [a_t, (a_t + 6), (a_t + 8), (a_t + 9), (a_t + 10), (a_t + 24), (a_t + 25), (a_t + 26), (a_t + 27), (a_t + 28), (a_t + 29), (a_t + 31), (a_t + 38), (a_t + 39)] [.inr (11, fsX11 a_t t_thrown t_taped t_p t_fault t_baseLow t_baseHigh t_newBaseLow t_newBaseHigh t_from t_knots t_lines t_chosen t_undos t_redos r.2.1 t_fits t_fitOf t_sights t_systems t_own t_cross t_curveLong t_wallFirst), IA E 21 t_push, IA E 100 t_speckLow, IA E 100 t_speckHigh, IA E 100 t_sourceHold, IA E 100 r.2.2.1, IA E 100 r.2.2.2.1, IA E 100 r.2.2.2.2.1, IA E 21 r.2.2.2.2.2.1, JA E 6 r.2.2.2.2.2.2.1, IA E 100 t_row, JA E 6 t_sums, IA E 4 r.2.2.2.2.2.2.2.1, IA E 5 r.2.2.2.2.2.2.2.2] h) n (inI r.1 ∧ inI r.2.1 ∧ okA r.2.2.1 ∧ okA r.2.2.2.1 ∧ okA r.2.2.2.2.1 ∧ okA r.2.2.2.2.2.1 ∧ okJ r.2.2.2.2.2.2.1 ∧ okA r.2.2.2.2.2.2.2.1 ∧ okA r.2.2.2.2.2.2.2.2) 0 0) 0 0 n (ov [a_t, (a_t + 6), (a_t + 8), (a_t + 9), (a_t + 10), (a_t + 24), (a_t + 25), (a_t + 26), (a_t + 27), (a_t + 28), (a_t + 29), (a_t + 31), (a_t + 38), (a_t + 39)] [.inr (11, fsX11 a_t t_thrown t_taped t_p t_fault t_baseLow t_baseHigh t_newBaseLow t_newBaseHigh t_from t_knots t_lines t_chosen t_undos t_redos t_aimedMany t_fits t_fitOf t_sights t_systems t_own t_cross t_curveLong t_wallFirst), IA E 21 t_push, IA E 100 t_speckLow, IA E 100 t_speckHigh, IA E 100 t_sourceHold, IA E 100 t_cur, IA E 100 t_was, IA E 100 t_feel, IA E 21 t_pushAt, JA E 6 t_curSum, IA E 100 t_row, JA E 6 t_sums, IA E 4 t_pull, IA E 5 t_aimed] h) 283 [some (.ref a_t), some (vI v1), none, none, none, none, some (vI v6), some (vI v7), some (vI v8), some (vI v9), none, some (vI v11), some (vI v12), none, none, none, none, none, none, none] [] := by
  rw [m_X11_aim_283] at hs
  refine g_iload e_X11_aim_283 rfl ?_
  refine g_istore e_X11_aim_285 st1_10 rfl ?_
  refine g_aload_n e_X11_aim_287 rfl ?_
  refine g_iload e_X11_aim_288 rfl ?_
  refine g_put 0 51 ao rfl rfl fsX11_k51 fsX11_s51 ls_0 fw_X11_380 (fun h => by cases h) ⟨rfl, rfl⟩ e_X11_aim_290 ?_
  refine g_iconst e_X11_aim_293 ?_
  refine g_istore e_X11_aim_294 st1_18 rfl ?_
  refine g_iload e_X11_aim_296 rfl ?_
  refine g_iload_n e_X11_aim_298 rfl ?_
  refine g_idiv e_X11_aim_299 ok_v8 ok_v1 hs (fun hs => ?_)
  refine g_istore e_X11_aim_300 st1_19 rfl ?_
  obtain ⟨hc29, hs⟩ := chk_elim hs
  exact g_mask [true, true, true, true, true, true, true, true, true, true, true, true, false, true, true, true, true, true, true, true] (g_X11_aim_302 ao ok_t_baseLow ok_t_baseHigh ok_v9 ok_t_push ok_t_speckLow ok_t_speckHigh ok_t_sourceHold ok_t_cur ok_t_was ok_t_feel ok_t_pushAt ok_t_curSum ok_t_row ok_t_sums ok_t_pull ok_v1 ok_v6 ok_v7 ok_v8 ok_v9 ok_v12 ok_v11 (hk_335 := by
      intro t_aimed' v18' v19' ok_t_aimed' ok_v18' ok_v19' hs
      exact g_X11_aim_335 ao ok_t_baseLow ok_t_baseHigh ok_v9 ok_t_push ok_t_speckLow ok_t_speckHigh ok_t_sourceHold ok_t_cur ok_t_was ok_t_feel ok_t_pushAt ok_t_curSum ok_t_row ok_t_sums ok_t_pull ok_t_aimed' ok_v1 ok_v6 ok_v7 ok_v8 ok_v9 ok_v12 ok_v11 hag hk_341 hs) FU _ _ _ ok_t_aimed (by decide : inI 0) hc29 hs)

noncomputable def m_X11_aim_263 (t_baseLow : Int) (t_baseHigh : Int) (t_aimedMany : Int) (t_push : Nat → Int) (t_speckLow : Nat → Int) (t_speckHigh : Nat → Int) (t_sourceHold : Nat → Int) (t_cur : Nat → Int) (t_was : Nat → Int) (t_feel : Nat → Int) (t_pushAt : Nat → Int) (t_curSum : Nat → Int) (t_row : Nat → Int) (t_sums : Nat → Int) (t_pull : Nat → Int) (t_aimed : Nat → Int) (v1 : Int) (v6 : Int) (v7 : Int) (v8 : Int) (v9 : Int) (v10 : Int) (v11 : Int) (v12 : Int) (s0 : Int) (ag : Int → (Nat → Int) → (Nat → Int) → (Nat → Int) → (Nat → Int) → (Nat → Int) → (Nat → Int) → Int → Int → Option (Int × Int × (Nat → Int) × (Nat → Int) × (Nat → Int) × (Nat → Int) × (Nat → Int) × (Nat → Int) × (Nat → Int))) (k_341 : Int → (Nat → Int) → (Nat → Int) → (Nat → Int) → (Nat → Int) → (Nat → Int) → (Nat → Int) → Int → Int → Option (Int × Int × (Nat → Int) × (Nat → Int) × (Nat → Int) × (Nat → Int) × (Nat → Int) × (Nat → Int) × (Nat → Int))) : Option (Int × Int × (Nat → Int) × (Nat → Int) × (Nat → Int) × (Nat → Int) × (Nat → Int) × (Nat → Int) × (Nat → Int)) :=
  if s0 = 0 then (m_X11_aim_335 t_baseLow t_baseHigh t_aimedMany t_push t_speckLow t_speckHigh t_sourceHold t_cur t_was t_feel t_pushAt t_curSum t_row t_sums t_pull t_aimed v1 v6 v7 v8 v9 v10 v11 ag k_341) else (if v10 = (-1) then (m_X11_aim_283 t_baseLow t_baseHigh t_aimedMany t_push t_speckLow t_speckHigh t_sourceHold t_cur t_was t_feel t_pushAt t_curSum t_row t_sums t_pull t_aimed v1 v6 v7 v8 v9 v11 v12 ag k_341) else (if v10 ≤ v12 then (m_X11_aim_335 t_baseLow t_baseHigh t_aimedMany t_push t_speckLow t_speckHigh t_sourceHold t_cur t_was t_feel t_pushAt t_curSum t_row t_sums t_pull t_aimed v1 v6 v7 v8 v9 v10 v11 ag k_341) else (m_X11_aim_283 t_baseLow t_baseHigh t_aimedMany t_push t_speckLow t_speckHigh t_sourceHold t_cur t_was t_feel t_pushAt t_curSum t_row t_sums t_pull t_aimed v1 v6 v7 v8 v9 v11 v12 ag k_341)))

set_option maxRecDepth 10000 in
set_option maxHeartbeats 8000000 in
theorem g_X11_aim_263 {l : Launch} {E : EE} {b0 n : Nat} {h : AH} {a_t : Nat} {t_thrown t_taped t_p t_fault t_baseLow t_baseHigh t_newBaseLow t_newBaseHigh t_from t_knots t_lines t_chosen t_undos t_redos t_aimedMany t_fits t_fitOf t_sights t_systems t_own t_cross t_curveLong t_wallFirst v1 v6 v7 v8 v9 v10 v11 v12 s0 : Int} {t_push t_speckLow t_speckHigh t_sourceHold t_cur t_was t_feel t_pushAt t_curSum t_row t_sums t_pull t_aimed : Nat → Int} {r : Int × Int × (Nat → Int) × (Nat → Int) × (Nat → Int) × (Nat → Int) × (Nat → Int) × (Nat → Int) × (Nat → Int)} {ag : Int → (Nat → Int) → (Nat → Int) → (Nat → Int) → (Nat → Int) → (Nat → Int) → (Nat → Int) → Int → Int → Option (Int × Int × (Nat → Int) × (Nat → Int) × (Nat → Int) × (Nat → Int) × (Nat → Int) × (Nat → Int) × (Nat → Int))} {k_341 : Int → (Nat → Int) → (Nat → Int) → (Nat → Int) → (Nat → Int) → (Nat → Int) → (Nat → Int) → Int → Int → Option (Int × Int × (Nat → Int) × (Nat → Int) × (Nat → Int) × (Nat → Int) × (Nat → Int) × (Nat → Int) × (Nat → Int))} (ao : AO b0 n [a_t, (a_t + 6), (a_t + 8), (a_t + 9), (a_t + 10), (a_t + 24), (a_t + 25), (a_t + 26), (a_t + 27), (a_t + 28), (a_t + 29), (a_t + 31), (a_t + 38), (a_t + 39)]) (ok_t_baseLow : inI t_baseLow) (ok_t_baseHigh : inI t_baseHigh) (ok_t_aimedMany : inI t_aimedMany) (ok_t_push : okA t_push) (ok_t_speckLow : okA t_speckLow) (ok_t_speckHigh : okA t_speckHigh) (ok_t_sourceHold : okA t_sourceHold) (ok_t_cur : okA t_cur) (ok_t_was : okA t_was) (ok_t_feel : okA t_feel) (ok_t_pushAt : okA t_pushAt) (ok_t_curSum : okJ t_curSum) (ok_t_row : okA t_row) (ok_t_sums : okJ t_sums) (ok_t_pull : okA t_pull) (ok_t_aimed : okA t_aimed) (ok_v1 : inI v1) (ok_v6 : inI v6) (ok_v7 : inI v7) (ok_v8 : inI v8) (ok_v9 : inI v9) (ok_v10 : inI v10) (ok_v11 : inI v11) (ok_v12 : inI v12) (ok_s0 : inZ s0) (hag : ∀ (t_aimedMany_ : Int) (t_cur_ : Nat → Int) (t_was_ : Nat → Int) (t_feel_ : Nat → Int) (t_pushAt_ : Nat → Int) (t_curSum_ : Nat → Int) (t_aimed_ : Nat → Int) (v10_ : Int) (v11_ : Int), inI t_aimedMany_ → okA t_cur_ → okA t_was_ → okA t_feel_ → okA t_pushAt_ → okJ t_curSum_ → okA t_aimed_ → inI v10_ → inI v11_ → ag t_aimedMany_ t_cur_ t_was_ t_feel_ t_pushAt_ t_curSum_ t_aimed_ v10_ v11_ = some r → G l E b0 M_X11_aim (fun _ => True) (ZM E b0 (some (vI r.1)) (ov [a_t, (a_t + 6), (a_t + 8), (a_t + 9), (a_t + 10), (a_t + 24), (a_t + 25), (a_t + 26), (a_t + 27), (a_t + 28), (a_t + 29), (a_t + 31), (a_t + 38), (a_t + 39)] [.inr (11, fsX11 a_t t_thrown t_taped t_p t_fault t_baseLow t_baseHigh t_newBaseLow t_newBaseHigh t_from t_knots t_lines t_chosen t_undos t_redos r.2.1 t_fits t_fitOf t_sights t_systems t_own t_cross t_curveLong t_wallFirst), IA E 21 t_push, IA E 100 t_speckLow, IA E 100 t_speckHigh, IA E 100 t_sourceHold, IA E 100 r.2.2.1, IA E 100 r.2.2.2.1, IA E 100 r.2.2.2.2.1, IA E 21 r.2.2.2.2.2.1, JA E 6 r.2.2.2.2.2.2.1, IA E 100 t_row, JA E 6 t_sums, IA E 4 r.2.2.2.2.2.2.2.1, IA E 5 r.2.2.2.2.2.2.2.2] h) n (inI r.1 ∧ inI r.2.1 ∧ okA r.2.2.1 ∧ okA r.2.2.2.1 ∧ okA r.2.2.2.2.1 ∧ okA r.2.2.2.2.2.1 ∧ okJ r.2.2.2.2.2.2.1 ∧ okA r.2.2.2.2.2.2.2.1 ∧ okA r.2.2.2.2.2.2.2.2) 0 0) 0 0 n (ov [a_t, (a_t + 6), (a_t + 8), (a_t + 9), (a_t + 10), (a_t + 24), (a_t + 25), (a_t + 26), (a_t + 27), (a_t + 28), (a_t + 29), (a_t + 31), (a_t + 38), (a_t + 39)] [.inr (11, fsX11 a_t t_thrown t_taped t_p t_fault t_baseLow t_baseHigh t_newBaseLow t_newBaseHigh t_from t_knots t_lines t_chosen t_undos t_redos t_aimedMany_ t_fits t_fitOf t_sights t_systems t_own t_cross t_curveLong t_wallFirst), IA E 21 t_push, IA E 100 t_speckLow, IA E 100 t_speckHigh, IA E 100 t_sourceHold, IA E 100 t_cur_, IA E 100 t_was_, IA E 100 t_feel_, IA E 21 t_pushAt_, JA E 6 t_curSum_, IA E 100 t_row, JA E 6 t_sums, IA E 4 t_pull, IA E 5 t_aimed_] h) 131 [some (.ref a_t), some (vI v1), none, none, none, none, some (vI v6), some (vI v7), some (vI v8), some (vI v9), some (vI v10_), some (vI v11_), none, none, none, none, none, none, none, none] []) (hk_341 : ∀ (t_aimedMany_ : Int) (t_cur_ : Nat → Int) (t_was_ : Nat → Int) (t_feel_ : Nat → Int) (t_pushAt_ : Nat → Int) (t_curSum_ : Nat → Int) (t_aimed_ : Nat → Int) (v10_ : Int) (v11_ : Int), inI t_aimedMany_ → okA t_cur_ → okA t_was_ → okA t_feel_ → okA t_pushAt_ → okJ t_curSum_ → okA t_aimed_ → inI v10_ → inI v11_ → k_341 t_aimedMany_ t_cur_ t_was_ t_feel_ t_pushAt_ t_curSum_ t_aimed_ v10_ v11_ = some r → G l E b0 M_X11_aim (fun _ => True) (ZM E b0 (some (vI r.1)) (ov [a_t, (a_t + 6), (a_t + 8), (a_t + 9), (a_t + 10), (a_t + 24), (a_t + 25), (a_t + 26), (a_t + 27), (a_t + 28), (a_t + 29), (a_t + 31), (a_t + 38), (a_t + 39)] [.inr (11, fsX11 a_t t_thrown t_taped t_p t_fault t_baseLow t_baseHigh t_newBaseLow t_newBaseHigh t_from t_knots t_lines t_chosen t_undos t_redos r.2.1 t_fits t_fitOf t_sights t_systems t_own t_cross t_curveLong t_wallFirst), IA E 21 t_push, IA E 100 t_speckLow, IA E 100 t_speckHigh, IA E 100 t_sourceHold, IA E 100 r.2.2.1, IA E 100 r.2.2.2.1, IA E 100 r.2.2.2.2.1, IA E 21 r.2.2.2.2.2.1, JA E 6 r.2.2.2.2.2.2.1, IA E 100 t_row, JA E 6 t_sums, IA E 4 r.2.2.2.2.2.2.2.1, IA E 5 r.2.2.2.2.2.2.2.2] h) n (inI r.1 ∧ inI r.2.1 ∧ okA r.2.2.1 ∧ okA r.2.2.2.1 ∧ okA r.2.2.2.2.1 ∧ okA r.2.2.2.2.2.1 ∧ okJ r.2.2.2.2.2.2.1 ∧ okA r.2.2.2.2.2.2.2.1 ∧ okA r.2.2.2.2.2.2.2.2) 0 0) 0 0 n (ov [a_t, (a_t + 6), (a_t + 8), (a_t + 9), (a_t + 10), (a_t + 24), (a_t + 25), (a_t + 26), (a_t + 27), (a_t + 28), (a_t + 29), (a_t + 31), (a_t + 38), (a_t + 39)] [.inr (11, fsX11 a_t t_thrown t_taped t_p t_fault t_baseLow t_baseHigh t_newBaseLow t_newBaseHigh t_from t_knots t_lines t_chosen t_undos t_redos t_aimedMany_ t_fits t_fitOf t_sights t_systems t_own t_cross t_curveLong t_wallFirst), IA E 21 t_push, IA E 100 t_speckLow, IA E 100 t_speckHigh, IA E 100 t_sourceHold, IA E 100 t_cur_, IA E 100 t_was_, IA E 100 t_feel_, IA E 21 t_pushAt_, JA E 6 t_curSum_, IA E 100 t_row, JA E 6 t_sums, IA E 4 t_pull, IA E 5 t_aimed_] h) 341 [some (.ref a_t), some (vI v1), none, none, none, none, some (vI v6), some (vI v7), some (vI v8), some (vI v9), some (vI v10_), none, none, none, none, none, none, none, none, none] []) (hs : m_X11_aim_263 t_baseLow t_baseHigh t_aimedMany t_push t_speckLow t_speckHigh t_sourceHold t_cur t_was t_feel t_pushAt t_curSum t_row t_sums t_pull t_aimed v1 v6 v7 v8 v9 v10 v11 v12 s0 ag k_341 = some r) : G l E b0 M_X11_aim (fun _ => True) (ZM E b0 (some (vI r.1)) (ov [a_t, (a_t + 6), (a_t + 8), (a_t + 9), (a_t + 10), (a_t + 24), (a_t + 25), (a_t + 26), (a_t + 27), (a_t + 28), (a_t + 29), (a_t + 31), (a_t + 38), (a_t + 39)] [.inr (11, fsX11 a_t t_thrown t_taped t_p t_fault t_baseLow t_baseHigh t_newBaseLow t_newBaseHigh t_from t_knots t_lines t_chosen t_undos t_redos r.2.1 t_fits t_fitOf t_sights t_systems t_own t_cross t_curveLong t_wallFirst), IA E 21 t_push, IA E 100 t_speckLow, IA E 100 t_speckHigh, IA E 100 t_sourceHold, IA E 100 r.2.2.1, IA E 100 r.2.2.2.1, IA E 100 r.2.2.2.2.1, IA E 21 r.2.2.2.2.2.1, JA E 6 r.2.2.2.2.2.2.1, IA E 100 t_row, JA E 6 t_sums, IA E 4 r.2.2.2.2.2.2.2.1, IA E 5 r.2.2.2.2.2.2.2.2] h) n (inI r.1 ∧ inI r.2.1 ∧ okA r.2.2.1 ∧ okA r.2.2.2.1 ∧ okA r.2.2.2.2.1 ∧ okA r.2.2.2.2.2.1 ∧ okJ r.2.2.2.2.2.2.1 ∧ okA r.2.2.2.2.2.2.2.1 ∧ okA r.2.2.2.2.2.2.2.2) 0 0) 0 0 n (ov [a_t, (a_t + 6), (a_t + 8), (a_t + 9), (a_t + 10), (a_t + 24), (a_t + 25), (a_t + 26), (a_t + 27), (a_t + 28), (a_t + 29), (a_t + 31), (a_t + 38), (a_t + 39)] [.inr (11, fsX11 a_t t_thrown t_taped t_p t_fault t_baseLow t_baseHigh t_newBaseLow t_newBaseHigh t_from t_knots t_lines t_chosen t_undos t_redos t_aimedMany t_fits t_fitOf t_sights t_systems t_own t_cross t_curveLong t_wallFirst), IA E 21 t_push, IA E 100 t_speckLow, IA E 100 t_speckHigh, IA E 100 t_sourceHold, IA E 100 t_cur, IA E 100 t_was, IA E 100 t_feel, IA E 21 t_pushAt, JA E 6 t_curSum, IA E 100 t_row, JA E 6 t_sums, IA E 4 t_pull, IA E 5 t_aimed] h) 263 [some (.ref a_t), some (vI v1), none, none, none, none, some (vI v6), some (vI v7), some (vI v8), some (vI v9), some (vI v10), some (vI v11), some (vI v12), none, none, none, none, none, none, none] [vI s0] := by
  rw [m_X11_aim_263] at hs
  refine g_istore e_X11_aim_263 st1_17 rfl ?_
  refine g_iload e_X11_aim_265 rfl ?_
  refine g_if_eq e_X11_aim_267 (inZ_I ok_s0) hs (fun c267 hs => ?_) (fun c267 hs => ?_)
  · exact g_mask [true, true, true, true, true, true, true, true, true, true, true, true, false, true, true, true, true, false, true, true] (g_X11_aim_335 ao ok_t_baseLow ok_t_baseHigh ok_t_aimedMany ok_t_push ok_t_speckLow ok_t_speckHigh ok_t_sourceHold ok_t_cur ok_t_was ok_t_feel ok_t_pushAt ok_t_curSum ok_t_row ok_t_sums ok_t_pull ok_t_aimed ok_v1 ok_v6 ok_v7 ok_v8 ok_v9 ok_v10 ok_v11 hag hk_341 hs)
  · refine g_iload e_X11_aim_270 rfl ?_
    refine g_iconst e_X11_aim_272 ?_
    refine g_icmp_eq e_X11_aim_273 ok_v10 (by decide : inI (-1)) hs (fun c273 hs => ?_) (fun c273 hs => ?_)
    · exact g_mask [true, true, true, true, true, true, true, true, true, true, false, true, true, true, true, true, true, false, true, true] (g_X11_aim_283 ao ok_t_baseLow ok_t_baseHigh ok_t_aimedMany ok_t_push ok_t_speckLow ok_t_speckHigh ok_t_sourceHold ok_t_cur ok_t_was ok_t_feel ok_t_pushAt ok_t_curSum ok_t_row ok_t_sums ok_t_pull ok_t_aimed ok_v1 ok_v6 ok_v7 ok_v8 ok_v9 ok_v11 ok_v12 hag hk_341 hs)
    · refine g_iload e_X11_aim_276 rfl ?_
      refine g_iload e_X11_aim_278 rfl ?_
      refine g_icmp_ge e_X11_aim_280 ok_v12 ok_v10 hs (fun c280 hs => ?_) (fun c280 hs => ?_)
      · exact g_mask [true, true, true, true, true, true, true, true, true, true, true, true, false, true, true, true, true, false, true, true] (g_X11_aim_335 ao ok_t_baseLow ok_t_baseHigh ok_t_aimedMany ok_t_push ok_t_speckLow ok_t_speckHigh ok_t_sourceHold ok_t_cur ok_t_was ok_t_feel ok_t_pushAt ok_t_curSum ok_t_row ok_t_sums ok_t_pull ok_t_aimed ok_v1 ok_v6 ok_v7 ok_v8 ok_v9 ok_v10 ok_v11 hag hk_341 hs)
      · exact g_mask [true, true, true, true, true, true, true, true, true, true, false, true, true, true, true, true, true, false, true, true] (g_X11_aim_283 ao ok_t_baseLow ok_t_baseHigh ok_t_aimedMany ok_t_push ok_t_speckLow ok_t_speckHigh ok_t_sourceHold ok_t_cur ok_t_was ok_t_feel ok_t_pushAt ok_t_curSum ok_t_row ok_t_sums ok_t_pull ok_t_aimed ok_v1 ok_v6 ok_v7 ok_v8 ok_v9 ok_v11 ok_v12 hag hk_341 hs)

noncomputable def m_X11_aim_216 (t_baseLow : Int) (t_baseHigh : Int) (t_aimedMany : Int) (t_push : Nat → Int) (t_speckLow : Nat → Int) (t_speckHigh : Nat → Int) (t_sourceHold : Nat → Int) (t_cur : Nat → Int) (t_was : Nat → Int) (t_feel : Nat → Int) (t_pushAt : Nat → Int) (t_curSum : Nat → Int) (t_row : Nat → Int) (t_sums : Nat → Int) (t_pull : Nat → Int) (t_aimed : Nat → Int) (v1 : Int) (v6 : Int) (v7 : Int) (v8 : Int) (v9 : Int) (v10 : Int) (v11 : Int) (v12 : Int) (v13 : Int) (ag : Int → (Nat → Int) → (Nat → Int) → (Nat → Int) → (Nat → Int) → (Nat → Int) → (Nat → Int) → Int → Int → Option (Int × Int × (Nat → Int) × (Nat → Int) × (Nat → Int) × (Nat → Int) × (Nat → Int) × (Nat → Int) × (Nat → Int))) (k_341 : Int → (Nat → Int) → (Nat → Int) → (Nat → Int) → (Nat → Int) → (Nat → Int) → (Nat → Int) → Int → Int → Option (Int × Int × (Nat → Int) × (Nat → Int) × (Nat → Int) × (Nat → Int) × (Nat → Int) × (Nat → Int) × (Nat → Int))) : Option (Int × Int × (Nat → Int) × (Nat → Int) × (Nat → Int) × (Nat → Int) × (Nat → Int) × (Nat → Int) × (Nat → Int)) :=
  chk (inB 0 6) (if v7 ≤ 0 then (chk (inJ ((t_curSum (Int.toNat 0)) - v13)) (if v7 < ((t_curSum (Int.toNat 0)) - v13) then (m_X11_aim_263 t_baseLow t_baseHigh t_aimedMany t_push t_speckLow t_speckHigh t_sourceHold t_cur t_was t_feel t_pushAt t_curSum t_row t_sums t_pull t_aimed v1 v6 v7 v8 v9 v10 v11 v12 0 ag k_341) else (m_X11_aim_263 t_baseLow t_baseHigh t_aimedMany t_push t_speckLow t_speckHigh t_sourceHold t_cur t_was t_feel t_pushAt t_curSum t_row t_sums t_pull t_aimed v1 v6 v7 v8 v9 v10 v11 v12 1 ag k_341))) else (chk (inJ ((t_curSum (Int.toNat 0)) - v13)) (if ((t_curSum (Int.toNat 0)) - v13) < v7 then (m_X11_aim_263 t_baseLow t_baseHigh t_aimedMany t_push t_speckLow t_speckHigh t_sourceHold t_cur t_was t_feel t_pushAt t_curSum t_row t_sums t_pull t_aimed v1 v6 v7 v8 v9 v10 v11 v12 0 ag k_341) else (m_X11_aim_263 t_baseLow t_baseHigh t_aimedMany t_push t_speckLow t_speckHigh t_sourceHold t_cur t_was t_feel t_pushAt t_curSum t_row t_sums t_pull t_aimed v1 v6 v7 v8 v9 v10 v11 v12 1 ag k_341))))

set_option maxRecDepth 10000 in
set_option maxHeartbeats 8000000 in
theorem g_X11_aim_216 {l : Launch} {E : EE} {b0 n : Nat} {h : AH} {a_t : Nat} {t_thrown t_taped t_p t_fault t_baseLow t_baseHigh t_newBaseLow t_newBaseHigh t_from t_knots t_lines t_chosen t_undos t_redos t_aimedMany t_fits t_fitOf t_sights t_systems t_own t_cross t_curveLong t_wallFirst v1 v6 v7 v8 v9 v10 v11 v12 v13 : Int} {t_push t_speckLow t_speckHigh t_sourceHold t_cur t_was t_feel t_pushAt t_curSum t_row t_sums t_pull t_aimed : Nat → Int} {r : Int × Int × (Nat → Int) × (Nat → Int) × (Nat → Int) × (Nat → Int) × (Nat → Int) × (Nat → Int) × (Nat → Int)} {ag : Int → (Nat → Int) → (Nat → Int) → (Nat → Int) → (Nat → Int) → (Nat → Int) → (Nat → Int) → Int → Int → Option (Int × Int × (Nat → Int) × (Nat → Int) × (Nat → Int) × (Nat → Int) × (Nat → Int) × (Nat → Int) × (Nat → Int))} {k_341 : Int → (Nat → Int) → (Nat → Int) → (Nat → Int) → (Nat → Int) → (Nat → Int) → (Nat → Int) → Int → Int → Option (Int × Int × (Nat → Int) × (Nat → Int) × (Nat → Int) × (Nat → Int) × (Nat → Int) × (Nat → Int) × (Nat → Int))} (ao : AO b0 n [a_t, (a_t + 6), (a_t + 8), (a_t + 9), (a_t + 10), (a_t + 24), (a_t + 25), (a_t + 26), (a_t + 27), (a_t + 28), (a_t + 29), (a_t + 31), (a_t + 38), (a_t + 39)]) (ok_t_baseLow : inI t_baseLow) (ok_t_baseHigh : inI t_baseHigh) (ok_t_aimedMany : inI t_aimedMany) (ok_t_push : okA t_push) (ok_t_speckLow : okA t_speckLow) (ok_t_speckHigh : okA t_speckHigh) (ok_t_sourceHold : okA t_sourceHold) (ok_t_cur : okA t_cur) (ok_t_was : okA t_was) (ok_t_feel : okA t_feel) (ok_t_pushAt : okA t_pushAt) (ok_t_curSum : okJ t_curSum) (ok_t_row : okA t_row) (ok_t_sums : okJ t_sums) (ok_t_pull : okA t_pull) (ok_t_aimed : okA t_aimed) (ok_v1 : inI v1) (ok_v6 : inI v6) (ok_v7 : inI v7) (ok_v8 : inI v8) (ok_v9 : inI v9) (ok_v10 : inI v10) (ok_v11 : inI v11) (ok_v12 : inI v12) (ok_v13 : inJ v13) (hag : ∀ (t_aimedMany_ : Int) (t_cur_ : Nat → Int) (t_was_ : Nat → Int) (t_feel_ : Nat → Int) (t_pushAt_ : Nat → Int) (t_curSum_ : Nat → Int) (t_aimed_ : Nat → Int) (v10_ : Int) (v11_ : Int), inI t_aimedMany_ → okA t_cur_ → okA t_was_ → okA t_feel_ → okA t_pushAt_ → okJ t_curSum_ → okA t_aimed_ → inI v10_ → inI v11_ → ag t_aimedMany_ t_cur_ t_was_ t_feel_ t_pushAt_ t_curSum_ t_aimed_ v10_ v11_ = some r → G l E b0 M_X11_aim (fun _ => True) (ZM E b0 (some (vI r.1)) (ov [a_t, (a_t + 6), (a_t + 8), (a_t + 9), (a_t + 10), (a_t + 24), (a_t + 25), (a_t + 26), (a_t + 27), (a_t + 28), (a_t + 29), (a_t + 31), (a_t + 38), (a_t + 39)] [.inr (11, fsX11 a_t t_thrown t_taped t_p t_fault t_baseLow t_baseHigh t_newBaseLow t_newBaseHigh t_from t_knots t_lines t_chosen t_undos t_redos r.2.1 t_fits t_fitOf t_sights t_systems t_own t_cross t_curveLong t_wallFirst), IA E 21 t_push, IA E 100 t_speckLow, IA E 100 t_speckHigh, IA E 100 t_sourceHold, IA E 100 r.2.2.1, IA E 100 r.2.2.2.1, IA E 100 r.2.2.2.2.1, IA E 21 r.2.2.2.2.2.1, JA E 6 r.2.2.2.2.2.2.1, IA E 100 t_row, JA E 6 t_sums, IA E 4 r.2.2.2.2.2.2.2.1, IA E 5 r.2.2.2.2.2.2.2.2] h) n (inI r.1 ∧ inI r.2.1 ∧ okA r.2.2.1 ∧ okA r.2.2.2.1 ∧ okA r.2.2.2.2.1 ∧ okA r.2.2.2.2.2.1 ∧ okJ r.2.2.2.2.2.2.1 ∧ okA r.2.2.2.2.2.2.2.1 ∧ okA r.2.2.2.2.2.2.2.2) 0 0) 0 0 n (ov [a_t, (a_t + 6), (a_t + 8), (a_t + 9), (a_t + 10), (a_t + 24), (a_t + 25), (a_t + 26), (a_t + 27), (a_t + 28), (a_t + 29), (a_t + 31), (a_t + 38), (a_t + 39)] [.inr (11, fsX11 a_t t_thrown t_taped t_p t_fault t_baseLow t_baseHigh t_newBaseLow t_newBaseHigh t_from t_knots t_lines t_chosen t_undos t_redos t_aimedMany_ t_fits t_fitOf t_sights t_systems t_own t_cross t_curveLong t_wallFirst), IA E 21 t_push, IA E 100 t_speckLow, IA E 100 t_speckHigh, IA E 100 t_sourceHold, IA E 100 t_cur_, IA E 100 t_was_, IA E 100 t_feel_, IA E 21 t_pushAt_, JA E 6 t_curSum_, IA E 100 t_row, JA E 6 t_sums, IA E 4 t_pull, IA E 5 t_aimed_] h) 131 [some (.ref a_t), some (vI v1), none, none, none, none, some (vI v6), some (vI v7), some (vI v8), some (vI v9), some (vI v10_), some (vI v11_), none, none, none, none, none, none, none, none] []) (hk_341 : ∀ (t_aimedMany_ : Int) (t_cur_ : Nat → Int) (t_was_ : Nat → Int) (t_feel_ : Nat → Int) (t_pushAt_ : Nat → Int) (t_curSum_ : Nat → Int) (t_aimed_ : Nat → Int) (v10_ : Int) (v11_ : Int), inI t_aimedMany_ → okA t_cur_ → okA t_was_ → okA t_feel_ → okA t_pushAt_ → okJ t_curSum_ → okA t_aimed_ → inI v10_ → inI v11_ → k_341 t_aimedMany_ t_cur_ t_was_ t_feel_ t_pushAt_ t_curSum_ t_aimed_ v10_ v11_ = some r → G l E b0 M_X11_aim (fun _ => True) (ZM E b0 (some (vI r.1)) (ov [a_t, (a_t + 6), (a_t + 8), (a_t + 9), (a_t + 10), (a_t + 24), (a_t + 25), (a_t + 26), (a_t + 27), (a_t + 28), (a_t + 29), (a_t + 31), (a_t + 38), (a_t + 39)] [.inr (11, fsX11 a_t t_thrown t_taped t_p t_fault t_baseLow t_baseHigh t_newBaseLow t_newBaseHigh t_from t_knots t_lines t_chosen t_undos t_redos r.2.1 t_fits t_fitOf t_sights t_systems t_own t_cross t_curveLong t_wallFirst), IA E 21 t_push, IA E 100 t_speckLow, IA E 100 t_speckHigh, IA E 100 t_sourceHold, IA E 100 r.2.2.1, IA E 100 r.2.2.2.1, IA E 100 r.2.2.2.2.1, IA E 21 r.2.2.2.2.2.1, JA E 6 r.2.2.2.2.2.2.1, IA E 100 t_row, JA E 6 t_sums, IA E 4 r.2.2.2.2.2.2.2.1, IA E 5 r.2.2.2.2.2.2.2.2] h) n (inI r.1 ∧ inI r.2.1 ∧ okA r.2.2.1 ∧ okA r.2.2.2.1 ∧ okA r.2.2.2.2.1 ∧ okA r.2.2.2.2.2.1 ∧ okJ r.2.2.2.2.2.2.1 ∧ okA r.2.2.2.2.2.2.2.1 ∧ okA r.2.2.2.2.2.2.2.2) 0 0) 0 0 n (ov [a_t, (a_t + 6), (a_t + 8), (a_t + 9), (a_t + 10), (a_t + 24), (a_t + 25), (a_t + 26), (a_t + 27), (a_t + 28), (a_t + 29), (a_t + 31), (a_t + 38), (a_t + 39)] [.inr (11, fsX11 a_t t_thrown t_taped t_p t_fault t_baseLow t_baseHigh t_newBaseLow t_newBaseHigh t_from t_knots t_lines t_chosen t_undos t_redos t_aimedMany_ t_fits t_fitOf t_sights t_systems t_own t_cross t_curveLong t_wallFirst), IA E 21 t_push, IA E 100 t_speckLow, IA E 100 t_speckHigh, IA E 100 t_sourceHold, IA E 100 t_cur_, IA E 100 t_was_, IA E 100 t_feel_, IA E 21 t_pushAt_, JA E 6 t_curSum_, IA E 100 t_row, JA E 6 t_sums, IA E 4 t_pull, IA E 5 t_aimed_] h) 341 [some (.ref a_t), some (vI v1), none, none, none, none, some (vI v6), some (vI v7), some (vI v8), some (vI v9), some (vI v10_), none, none, none, none, none, none, none, none, none] []) (hs : m_X11_aim_216 t_baseLow t_baseHigh t_aimedMany t_push t_speckLow t_speckHigh t_sourceHold t_cur t_was t_feel t_pushAt t_curSum t_row t_sums t_pull t_aimed v1 v6 v7 v8 v9 v10 v11 v12 v13 ag k_341 = some r) : G l E b0 M_X11_aim (fun _ => True) (ZM E b0 (some (vI r.1)) (ov [a_t, (a_t + 6), (a_t + 8), (a_t + 9), (a_t + 10), (a_t + 24), (a_t + 25), (a_t + 26), (a_t + 27), (a_t + 28), (a_t + 29), (a_t + 31), (a_t + 38), (a_t + 39)] [.inr (11, fsX11 a_t t_thrown t_taped t_p t_fault t_baseLow t_baseHigh t_newBaseLow t_newBaseHigh t_from t_knots t_lines t_chosen t_undos t_redos r.2.1 t_fits t_fitOf t_sights t_systems t_own t_cross t_curveLong t_wallFirst), IA E 21 t_push, IA E 100 t_speckLow, IA E 100 t_speckHigh, IA E 100 t_sourceHold, IA E 100 r.2.2.1, IA E 100 r.2.2.2.1, IA E 100 r.2.2.2.2.1, IA E 21 r.2.2.2.2.2.1, JA E 6 r.2.2.2.2.2.2.1, IA E 100 t_row, JA E 6 t_sums, IA E 4 r.2.2.2.2.2.2.2.1, IA E 5 r.2.2.2.2.2.2.2.2] h) n (inI r.1 ∧ inI r.2.1 ∧ okA r.2.2.1 ∧ okA r.2.2.2.1 ∧ okA r.2.2.2.2.1 ∧ okA r.2.2.2.2.2.1 ∧ okJ r.2.2.2.2.2.2.1 ∧ okA r.2.2.2.2.2.2.2.1 ∧ okA r.2.2.2.2.2.2.2.2) 0 0) 0 0 n (ov [a_t, (a_t + 6), (a_t + 8), (a_t + 9), (a_t + 10), (a_t + 24), (a_t + 25), (a_t + 26), (a_t + 27), (a_t + 28), (a_t + 29), (a_t + 31), (a_t + 38), (a_t + 39)] [.inr (11, fsX11 a_t t_thrown t_taped t_p t_fault t_baseLow t_baseHigh t_newBaseLow t_newBaseHigh t_from t_knots t_lines t_chosen t_undos t_redos t_aimedMany t_fits t_fitOf t_sights t_systems t_own t_cross t_curveLong t_wallFirst), IA E 21 t_push, IA E 100 t_speckLow, IA E 100 t_speckHigh, IA E 100 t_sourceHold, IA E 100 t_cur, IA E 100 t_was, IA E 100 t_feel, IA E 21 t_pushAt, JA E 6 t_curSum, IA E 100 t_row, JA E 6 t_sums, IA E 4 t_pull, IA E 5 t_aimed] h) 216 [some (.ref a_t), some (vI v1), none, none, none, none, some (vI v6), some (vI v7), some (vI v8), some (vI v9), some (vI v10), some (vI v11), some (vI v12), some (vJ v13), none, none, none, none, none, none] [] := by
  rw [m_X11_aim_216] at hs
  refine g_aload_n e_X11_aim_216 rfl ?_
  refine g_get 0 39 ao rfl rfl fsX11_g39 fl_X11_93 e_X11_aim_217 ?_
  refine g_iconst e_X11_aim_220 ?_
  refine g_lald 9 ao rfl rfl (Nat.le_of_ble_eq_true rfl) e_X11_aim_221 hs (fun hi21 hs => ?_)
  refine g_lload e_X11_aim_222 rfl ?_
  refine g_lsub e_X11_aim_224 ?_
  refine g_lstore e_X11_aim_225 st2_15 rfl ?_
  refine g_iload e_X11_aim_227 rfl ?_
  refine g_if_le e_X11_aim_229 ok_v7 hs (fun c229 hs => ?_) (fun c229 hs => ?_)
  · refine g_lload e_X11_aim_249 rfl ?_
    refine g_iload e_X11_aim_251 rfl ?_
    refine g_i2l e_X11_aim_253 ok_v7 ?_
    obtain ⟨hc22, hs⟩ := chk_elim hs
    refine g_lcmp_gt e_X11_aim_254 e_X11_aim_255 hc22 (inI_J ok_v7) hs (fun c254 hs => ?_) (fun c254 hs => ?_)
    · refine g_iconst e_X11_aim_262 ?_
      exact g_mask [true, true, true, true, true, true, true, true, true, true, true, true, true, false, true, false, true, true, true, true] (g_X11_aim_263 ao ok_t_baseLow ok_t_baseHigh ok_t_aimedMany ok_t_push ok_t_speckLow ok_t_speckHigh ok_t_sourceHold ok_t_cur ok_t_was ok_t_feel ok_t_pushAt ok_t_curSum ok_t_row ok_t_sums ok_t_pull ok_t_aimed ok_v1 ok_v6 ok_v7 ok_v8 ok_v9 ok_v10 ok_v11 ok_v12 (by decide : inZ 0) hag hk_341 hs)
    · refine g_iconst e_X11_aim_258 ?_
      refine g_goto e_X11_aim_259 ?_
      exact g_mask [true, true, true, true, true, true, true, true, true, true, true, true, true, false, true, false, true, true, true, true] (g_X11_aim_263 ao ok_t_baseLow ok_t_baseHigh ok_t_aimedMany ok_t_push ok_t_speckLow ok_t_speckHigh ok_t_sourceHold ok_t_cur ok_t_was ok_t_feel ok_t_pushAt ok_t_curSum ok_t_row ok_t_sums ok_t_pull ok_t_aimed ok_v1 ok_v6 ok_v7 ok_v8 ok_v9 ok_v10 ok_v11 ok_v12 (by decide : inZ 1) hag hk_341 hs)
  · refine g_lload e_X11_aim_232 rfl ?_
    refine g_iload e_X11_aim_234 rfl ?_
    refine g_i2l e_X11_aim_236 ok_v7 ?_
    obtain ⟨hc30, hs⟩ := chk_elim hs
    refine g_lcmp_lt e_X11_aim_237 e_X11_aim_238 hc30 (inI_J ok_v7) hs (fun c237 hs => ?_) (fun c237 hs => ?_)
    · refine g_iconst e_X11_aim_245 ?_
      refine g_goto e_X11_aim_246 ?_
      exact g_mask [true, true, true, true, true, true, true, true, true, true, true, true, true, false, true, false, true, true, true, true] (g_X11_aim_263 ao ok_t_baseLow ok_t_baseHigh ok_t_aimedMany ok_t_push ok_t_speckLow ok_t_speckHigh ok_t_sourceHold ok_t_cur ok_t_was ok_t_feel ok_t_pushAt ok_t_curSum ok_t_row ok_t_sums ok_t_pull ok_t_aimed ok_v1 ok_v6 ok_v7 ok_v8 ok_v9 ok_v10 ok_v11 ok_v12 (by decide : inZ 0) hag hk_341 hs)
    · refine g_iconst e_X11_aim_241 ?_
      refine g_goto e_X11_aim_242 ?_
      exact g_mask [true, true, true, true, true, true, true, true, true, true, true, true, true, false, true, false, true, true, true, true] (g_X11_aim_263 ao ok_t_baseLow ok_t_baseHigh ok_t_aimedMany ok_t_push ok_t_speckLow ok_t_speckHigh ok_t_sourceHold ok_t_cur ok_t_was ok_t_feel ok_t_pushAt ok_t_curSum ok_t_row ok_t_sums ok_t_pull ok_t_aimed ok_v1 ok_v6 ok_v7 ok_v8 ok_v9 ok_v10 ok_v11 ok_v12 (by decide : inZ 1) hag hk_341 hs)

noncomputable def m_X11_aim_131 (t_baseLow : Int) (t_baseHigh : Int) (t_push : Nat → Int) (t_speckLow : Nat → Int) (t_speckHigh : Nat → Int) (t_sourceHold : Nat → Int) (t_row : Nat → Int) (t_sums : Nat → Int) (t_pull : Nat → Int) (v1 : Int) (v6 : Int) (v7 : Int) (v8 : Int) (v9 : Int) (k_341 : Int → (Nat → Int) → (Nat → Int) → (Nat → Int) → (Nat → Int) → (Nat → Int) → (Nat → Int) → Int → Int → Option (Int × Int × (Nat → Int) × (Nat → Int) × (Nat → Int) × (Nat → Int) × (Nat → Int) × (Nat → Int) × (Nat → Int))) : Nat → Int → (Nat → Int) → (Nat → Int) → (Nat → Int) → (Nat → Int) → (Nat → Int) → (Nat → Int) → Int → Int → Option (Int × Int × (Nat → Int) × (Nat → Int) × (Nat → Int) × (Nat → Int) × (Nat → Int) × (Nat → Int) × (Nat → Int))
  | 0, _, _, _, _, _, _, _, _, _ => none
  | F + 1, t_aimedMany, t_cur, t_was, t_feel, t_pushAt, t_curSum, t_aimed, v10, v11 => if v8 ≤ v11 then (k_341 t_aimedMany t_cur t_was t_feel t_pushAt t_curSum t_aimed v10 v11) else ((m_X11_atHand t_push t_cur t_pushAt t_curSum t_row t_sums).bind (fun y11 => chk (inB 0 6) (chk (v1 ≠ 0) (chk (inI (Int.tdiv v8 v1)) (m_X11_aim_162 t_baseLow t_baseHigh t_speckLow t_speckHigh t_sourceHold y11.2.1 t_pull v1 v6 v9 v11 (fun t_cur' t_was' t_feel' t_curSum' v12' v15' v16' => m_X11_aim_216 t_baseLow t_baseHigh t_aimedMany t_push t_speckLow t_speckHigh t_sourceHold t_cur' t_was' t_feel' y11.2.1 t_curSum' t_row t_sums t_pull t_aimed v1 v6 v7 v8 v9 v10 v11 v12' (y11.2.2 (Int.toNat 0)) (m_X11_aim_131 t_baseLow t_baseHigh t_push t_speckLow t_speckHigh t_sourceHold t_row t_sums t_pull v1 v6 v7 v8 v9 k_341 F) k_341) FU y11.1 t_was t_feel y11.2.2 0 0 (Int.tdiv v8 v1))))))

set_option maxRecDepth 10000 in
set_option maxHeartbeats 8000000 in
theorem g_X11_aim_131 {l : Launch} {E : EE} {b0 n : Nat} {h : AH} {a_t : Nat} {t_thrown t_taped t_p t_fault t_baseLow t_baseHigh t_newBaseLow t_newBaseHigh t_from t_knots t_lines t_chosen t_undos t_redos t_fits t_fitOf t_sights t_systems t_own t_cross t_curveLong t_wallFirst v1 v6 v7 v8 v9 : Int} {t_push t_speckLow t_speckHigh t_sourceHold t_row t_sums t_pull : Nat → Int} {r : Int × Int × (Nat → Int) × (Nat → Int) × (Nat → Int) × (Nat → Int) × (Nat → Int) × (Nat → Int) × (Nat → Int)} {k_341 : Int → (Nat → Int) → (Nat → Int) → (Nat → Int) → (Nat → Int) → (Nat → Int) → (Nat → Int) → Int → Int → Option (Int × Int × (Nat → Int) × (Nat → Int) × (Nat → Int) × (Nat → Int) × (Nat → Int) × (Nat → Int) × (Nat → Int))} (ao : AO b0 n [a_t, (a_t + 6), (a_t + 8), (a_t + 9), (a_t + 10), (a_t + 24), (a_t + 25), (a_t + 26), (a_t + 27), (a_t + 28), (a_t + 29), (a_t + 31), (a_t + 38), (a_t + 39)]) (ok_t_baseLow : inI t_baseLow) (ok_t_baseHigh : inI t_baseHigh) (ok_t_push : okA t_push) (ok_t_speckLow : okA t_speckLow) (ok_t_speckHigh : okA t_speckHigh) (ok_t_sourceHold : okA t_sourceHold) (ok_t_row : okA t_row) (ok_t_sums : okJ t_sums) (ok_t_pull : okA t_pull) (ok_v1 : inI v1) (ok_v6 : inI v6) (ok_v7 : inI v7) (ok_v8 : inI v8) (ok_v9 : inI v9) (hk_341 : ∀ (t_aimedMany_ : Int) (t_cur_ : Nat → Int) (t_was_ : Nat → Int) (t_feel_ : Nat → Int) (t_pushAt_ : Nat → Int) (t_curSum_ : Nat → Int) (t_aimed_ : Nat → Int) (v10_ : Int) (v11_ : Int), inI t_aimedMany_ → okA t_cur_ → okA t_was_ → okA t_feel_ → okA t_pushAt_ → okJ t_curSum_ → okA t_aimed_ → inI v10_ → inI v11_ → k_341 t_aimedMany_ t_cur_ t_was_ t_feel_ t_pushAt_ t_curSum_ t_aimed_ v10_ v11_ = some r → G l E b0 M_X11_aim (fun _ => True) (ZM E b0 (some (vI r.1)) (ov [a_t, (a_t + 6), (a_t + 8), (a_t + 9), (a_t + 10), (a_t + 24), (a_t + 25), (a_t + 26), (a_t + 27), (a_t + 28), (a_t + 29), (a_t + 31), (a_t + 38), (a_t + 39)] [.inr (11, fsX11 a_t t_thrown t_taped t_p t_fault t_baseLow t_baseHigh t_newBaseLow t_newBaseHigh t_from t_knots t_lines t_chosen t_undos t_redos r.2.1 t_fits t_fitOf t_sights t_systems t_own t_cross t_curveLong t_wallFirst), IA E 21 t_push, IA E 100 t_speckLow, IA E 100 t_speckHigh, IA E 100 t_sourceHold, IA E 100 r.2.2.1, IA E 100 r.2.2.2.1, IA E 100 r.2.2.2.2.1, IA E 21 r.2.2.2.2.2.1, JA E 6 r.2.2.2.2.2.2.1, IA E 100 t_row, JA E 6 t_sums, IA E 4 r.2.2.2.2.2.2.2.1, IA E 5 r.2.2.2.2.2.2.2.2] h) n (inI r.1 ∧ inI r.2.1 ∧ okA r.2.2.1 ∧ okA r.2.2.2.1 ∧ okA r.2.2.2.2.1 ∧ okA r.2.2.2.2.2.1 ∧ okJ r.2.2.2.2.2.2.1 ∧ okA r.2.2.2.2.2.2.2.1 ∧ okA r.2.2.2.2.2.2.2.2) 0 0) 0 0 n (ov [a_t, (a_t + 6), (a_t + 8), (a_t + 9), (a_t + 10), (a_t + 24), (a_t + 25), (a_t + 26), (a_t + 27), (a_t + 28), (a_t + 29), (a_t + 31), (a_t + 38), (a_t + 39)] [.inr (11, fsX11 a_t t_thrown t_taped t_p t_fault t_baseLow t_baseHigh t_newBaseLow t_newBaseHigh t_from t_knots t_lines t_chosen t_undos t_redos t_aimedMany_ t_fits t_fitOf t_sights t_systems t_own t_cross t_curveLong t_wallFirst), IA E 21 t_push, IA E 100 t_speckLow, IA E 100 t_speckHigh, IA E 100 t_sourceHold, IA E 100 t_cur_, IA E 100 t_was_, IA E 100 t_feel_, IA E 21 t_pushAt_, JA E 6 t_curSum_, IA E 100 t_row, JA E 6 t_sums, IA E 4 t_pull, IA E 5 t_aimed_] h) 341 [some (.ref a_t), some (vI v1), none, none, none, none, some (vI v6), some (vI v7), some (vI v8), some (vI v9), some (vI v10_), none, none, none, none, none, none, none, none, none] []) :
    ∀ (F : Nat) (t_aimedMany : Int) (t_cur : Nat → Int) (t_was : Nat → Int) (t_feel : Nat → Int) (t_pushAt : Nat → Int) (t_curSum : Nat → Int) (t_aimed : Nat → Int) (v10 : Int) (v11 : Int), inI t_aimedMany → okA t_cur → okA t_was → okA t_feel → okA t_pushAt → okJ t_curSum → okA t_aimed → inI v10 → inI v11 → m_X11_aim_131 t_baseLow t_baseHigh t_push t_speckLow t_speckHigh t_sourceHold t_row t_sums t_pull v1 v6 v7 v8 v9 k_341 F t_aimedMany t_cur t_was t_feel t_pushAt t_curSum t_aimed v10 v11 = some r → G l E b0 M_X11_aim (fun _ => True) (ZM E b0 (some (vI r.1)) (ov [a_t, (a_t + 6), (a_t + 8), (a_t + 9), (a_t + 10), (a_t + 24), (a_t + 25), (a_t + 26), (a_t + 27), (a_t + 28), (a_t + 29), (a_t + 31), (a_t + 38), (a_t + 39)] [.inr (11, fsX11 a_t t_thrown t_taped t_p t_fault t_baseLow t_baseHigh t_newBaseLow t_newBaseHigh t_from t_knots t_lines t_chosen t_undos t_redos r.2.1 t_fits t_fitOf t_sights t_systems t_own t_cross t_curveLong t_wallFirst), IA E 21 t_push, IA E 100 t_speckLow, IA E 100 t_speckHigh, IA E 100 t_sourceHold, IA E 100 r.2.2.1, IA E 100 r.2.2.2.1, IA E 100 r.2.2.2.2.1, IA E 21 r.2.2.2.2.2.1, JA E 6 r.2.2.2.2.2.2.1, IA E 100 t_row, JA E 6 t_sums, IA E 4 r.2.2.2.2.2.2.2.1, IA E 5 r.2.2.2.2.2.2.2.2] h) n (inI r.1 ∧ inI r.2.1 ∧ okA r.2.2.1 ∧ okA r.2.2.2.1 ∧ okA r.2.2.2.2.1 ∧ okA r.2.2.2.2.2.1 ∧ okJ r.2.2.2.2.2.2.1 ∧ okA r.2.2.2.2.2.2.2.1 ∧ okA r.2.2.2.2.2.2.2.2) 0 0) 0 0 n (ov [a_t, (a_t + 6), (a_t + 8), (a_t + 9), (a_t + 10), (a_t + 24), (a_t + 25), (a_t + 26), (a_t + 27), (a_t + 28), (a_t + 29), (a_t + 31), (a_t + 38), (a_t + 39)] [.inr (11, fsX11 a_t t_thrown t_taped t_p t_fault t_baseLow t_baseHigh t_newBaseLow t_newBaseHigh t_from t_knots t_lines t_chosen t_undos t_redos t_aimedMany t_fits t_fitOf t_sights t_systems t_own t_cross t_curveLong t_wallFirst), IA E 21 t_push, IA E 100 t_speckLow, IA E 100 t_speckHigh, IA E 100 t_sourceHold, IA E 100 t_cur, IA E 100 t_was, IA E 100 t_feel, IA E 21 t_pushAt, JA E 6 t_curSum, IA E 100 t_row, JA E 6 t_sums, IA E 4 t_pull, IA E 5 t_aimed] h) 131 [some (.ref a_t), some (vI v1), none, none, none, none, some (vI v6), some (vI v7), some (vI v8), some (vI v9), some (vI v10), some (vI v11), none, none, none, none, none, none, none, none] [] := by
  intro F
  induction F with
  | zero =>
    intro t_aimedMany t_cur t_was t_feel t_pushAt t_curSum t_aimed v10 v11 ok_t_aimedMany ok_t_cur ok_t_was ok_t_feel ok_t_pushAt ok_t_curSum ok_t_aimed ok_v10 ok_v11 hs
    rw [m_X11_aim_131] at hs
    cases hs
  | succ F ih =>
    intro t_aimedMany t_cur t_was t_feel t_pushAt t_curSum t_aimed v10 v11 ok_t_aimedMany ok_t_cur ok_t_was ok_t_feel ok_t_pushAt ok_t_curSum ok_t_aimed ok_v10 ok_v11 hs
    rw [m_X11_aim_131] at hs
    refine g_iload e_X11_aim_131 rfl ?_
    refine g_iload e_X11_aim_133 rfl ?_
    refine g_icmp_ge e_X11_aim_135 ok_v11 ok_v8 hs (fun c135 hs => ?_) (fun c135 hs => ?_)
    · exact g_mask [true, true, true, true, true, true, true, true, true, true, true, false, true, true, true, true, true, true, true, true] (hk_341 _ _ _ _ _ _ _ _ _ ok_t_aimedMany ok_t_cur ok_t_was ok_t_feel ok_t_pushAt ok_t_curSum ok_t_aimed ok_v10 ok_v11 hs)
    · refine g_iconst e_X11_aim_138 ?_
      refine g_istore e_X11_aim_139 st1_12 rfl ?_
      refine g_aload_n e_X11_aim_141 rfl ?_
      obtain ⟨y11, hy11, hs⟩ := bind_elim hs
      refine g_callVv [] cv_X11_362 ⟨rfl, rfl, Nat.le_of_ble_eq_true rfl, Nat.le_of_ble_eq_true rfl⟩ (Ct_heap (ct_X11_atHand (a_t := a_t) (AO_call [0, 1, 5, 8, 9, 10, 11] ao (by decide) rfl) (FA_call [0, 1, 5, 8, 9, 10, 11] ao.1 rfl rfl) ok_t_push ok_t_cur ok_t_pushAt ok_t_curSum ok_t_row ok_t_sums hy11) (ov_call (esn := [.inr (11, fsX11 a_t t_thrown t_taped t_p t_fault t_baseLow t_baseHigh t_newBaseLow t_newBaseHigh t_from t_knots t_lines t_chosen t_undos t_redos t_aimedMany t_fits t_fitOf t_sights t_systems t_own t_cross t_curveLong t_wallFirst), IA E 21 t_push, IA E 100 t_speckLow, IA E 100 t_speckHigh, IA E 100 t_sourceHold, IA E 100 y11.1, IA E 100 t_was, IA E 100 t_feel, IA E 21 y11.2.1, JA E 6 y11.2.2, IA E 100 t_row, JA E 6 t_sums, IA E 4 t_pull, IA E 5 t_aimed]) [0, 1, 5, 8, 9, 10, 11] ao.1 rfl rfl rfl rfl)) e_X11_aim_142 (ao.2 0 _ rfl) (ov_get 0 ao.1 rfl rfl) rfl rfl rfl (Nat.le_of_ble_eq_true rfl) ⟨Nat.le_refl _, Nat.le_refl _⟩ (fun Py11 => ?_)
      refine g_aload_n e_X11_aim_145 rfl ?_
      refine g_get 0 39 ao rfl rfl fsX11_g39 fl_X11_93 e_X11_aim_146 ?_
      refine g_iconst e_X11_aim_149 ?_
      refine g_lald 9 ao rfl rfl (Nat.le_of_ble_eq_true rfl) e_X11_aim_150 hs (fun hi12 hs => ?_)
      refine g_lstore e_X11_aim_151 st2_13 rfl ?_
      refine g_iconst e_X11_aim_153 ?_
      refine g_istore e_X11_aim_154 st1_15 rfl ?_
      refine g_iload e_X11_aim_156 rfl ?_
      refine g_iload_n e_X11_aim_158 rfl ?_
      refine g_idiv e_X11_aim_159 ok_v8 ok_v1 hs (fun hs => ?_)
      refine g_istore e_X11_aim_160 st1_16 rfl ?_
      obtain ⟨hc20, hs⟩ := chk_elim hs
      exact g_X11_aim_162 ao ok_t_baseLow ok_t_baseHigh ok_t_aimedMany ok_t_push ok_t_speckLow ok_t_speckHigh ok_t_sourceHold Py11.2.1 ok_t_row ok_t_sums ok_t_pull ok_t_aimed ok_v1 ok_v6 ok_v7 ok_v8 ok_v9 ok_v10 ok_v11 (Py11.2.2 _) (hk_216 := by
      intro t_cur' t_was' t_feel' t_curSum' v12' v15' v16' ok_t_cur' ok_t_was' ok_t_feel' ok_t_curSum' ok_v12' ok_v15' ok_v16' hs
      exact g_X11_aim_216 ao ok_t_baseLow ok_t_baseHigh ok_t_aimedMany ok_t_push ok_t_speckLow ok_t_speckHigh ok_t_sourceHold ok_t_cur' ok_t_was' ok_t_feel' Py11.2.1 ok_t_curSum' ok_t_row ok_t_sums ok_t_pull ok_t_aimed ok_v1 ok_v6 ok_v7 ok_v8 ok_v9 ok_v10 ok_v11 ok_v12' (Py11.2.2 _) ih hk_341 hs) FU _ _ _ _ _ _ _ Py11.1 ok_t_was ok_t_feel Py11.2.2 (by decide : inI 0) (by decide : inI 0) hc20 hs

noncomputable def m_X11_aim_341 (t_baseLow : Int) (t_baseHigh : Int) (t_aimedMany : Int) (t_push : Nat → Int) (t_speckLow : Nat → Int) (t_speckHigh : Nat → Int) (t_sourceHold : Nat → Int) (t_cur : Nat → Int) (t_was : Nat → Int) (t_feel : Nat → Int) (t_pushAt : Nat → Int) (t_curSum : Nat → Int) (t_row : Nat → Int) (t_sums : Nat → Int) (t_pull : Nat → Int) (t_aimed : Nat → Int) (v1 : Int) (v6 : Int) (v7 : Int) (v8 : Int) (v9 : Int) (v10 : Int) (ag : Int → (Nat → Int) → (Nat → Int) → (Nat → Int) → (Nat → Int) → (Nat → Int) → (Nat → Int) → Int → Int → Option (Int × Int × (Nat → Int) × (Nat → Int) × (Nat → Int) × (Nat → Int) × (Nat → Int) × (Nat → Int) × (Nat → Int))) (k_356 : Int → (Nat → Int) → (Nat → Int) → (Nat → Int) → (Nat → Int) → (Nat → Int) → (Nat → Int) → Int → Int → Option (Int × Int × (Nat → Int) × (Nat → Int) × (Nat → Int) × (Nat → Int) × (Nat → Int) × (Nat → Int) × (Nat → Int))) (k_347 : Int → (Nat → Int) → (Nat → Int) → (Nat → Int) → (Nat → Int) → (Nat → Int) → (Nat → Int) → Int → Int → Option (Int × Int × (Nat → Int) × (Nat → Int) × (Nat → Int) × (Nat → Int) × (Nat → Int) × (Nat → Int) × (Nat → Int))) : Option (Int × Int × (Nat → Int) × (Nat → Int) × (Nat → Int) × (Nat → Int) × (Nat → Int) × (Nat → Int) × (Nat → Int)) :=
  if v10 = (-1) then (chk (inI (v9 + 1)) (ag t_aimedMany t_cur t_was t_feel t_pushAt t_curSum t_aimed v8 (v9 + 1))) else (some (v9, t_aimedMany, t_cur, t_was, t_feel, t_pushAt, t_curSum, t_pull, t_aimed))

set_option maxRecDepth 10000 in
set_option maxHeartbeats 8000000 in
theorem g_X11_aim_341 {l : Launch} {E : EE} {b0 n : Nat} {h : AH} {a_t : Nat} {t_thrown t_taped t_p t_fault t_baseLow t_baseHigh t_newBaseLow t_newBaseHigh t_from t_knots t_lines t_chosen t_undos t_redos t_aimedMany t_fits t_fitOf t_sights t_systems t_own t_cross t_curveLong t_wallFirst v1 v6 v7 v8 v9 v10 : Int} {t_push t_speckLow t_speckHigh t_sourceHold t_cur t_was t_feel t_pushAt t_curSum t_row t_sums t_pull t_aimed : Nat → Int} {r : Int × Int × (Nat → Int) × (Nat → Int) × (Nat → Int) × (Nat → Int) × (Nat → Int) × (Nat → Int) × (Nat → Int)} {ag : Int → (Nat → Int) → (Nat → Int) → (Nat → Int) → (Nat → Int) → (Nat → Int) → (Nat → Int) → Int → Int → Option (Int × Int × (Nat → Int) × (Nat → Int) × (Nat → Int) × (Nat → Int) × (Nat → Int) × (Nat → Int) × (Nat → Int))} {k_356 : Int → (Nat → Int) → (Nat → Int) → (Nat → Int) → (Nat → Int) → (Nat → Int) → (Nat → Int) → Int → Int → Option (Int × Int × (Nat → Int) × (Nat → Int) × (Nat → Int) × (Nat → Int) × (Nat → Int) × (Nat → Int) × (Nat → Int))} {k_347 : Int → (Nat → Int) → (Nat → Int) → (Nat → Int) → (Nat → Int) → (Nat → Int) → (Nat → Int) → Int → Int → Option (Int × Int × (Nat → Int) × (Nat → Int) × (Nat → Int) × (Nat → Int) × (Nat → Int) × (Nat → Int) × (Nat → Int))} (ao : AO b0 n [a_t, (a_t + 6), (a_t + 8), (a_t + 9), (a_t + 10), (a_t + 24), (a_t + 25), (a_t + 26), (a_t + 27), (a_t + 28), (a_t + 29), (a_t + 31), (a_t + 38), (a_t + 39)]) (ok_t_baseLow : inI t_baseLow) (ok_t_baseHigh : inI t_baseHigh) (ok_t_aimedMany : inI t_aimedMany) (ok_t_push : okA t_push) (ok_t_speckLow : okA t_speckLow) (ok_t_speckHigh : okA t_speckHigh) (ok_t_sourceHold : okA t_sourceHold) (ok_t_cur : okA t_cur) (ok_t_was : okA t_was) (ok_t_feel : okA t_feel) (ok_t_pushAt : okA t_pushAt) (ok_t_curSum : okJ t_curSum) (ok_t_row : okA t_row) (ok_t_sums : okJ t_sums) (ok_t_pull : okA t_pull) (ok_t_aimed : okA t_aimed) (ok_v1 : inI v1) (ok_v6 : inI v6) (ok_v7 : inI v7) (ok_v8 : inI v8) (ok_v9 : inI v9) (ok_v10 : inI v10) (hag : ∀ (t_aimedMany_ : Int) (t_cur_ : Nat → Int) (t_was_ : Nat → Int) (t_feel_ : Nat → Int) (t_pushAt_ : Nat → Int) (t_curSum_ : Nat → Int) (t_aimed_ : Nat → Int) (v8_ : Int) (v9_ : Int), inI t_aimedMany_ → okA t_cur_ → okA t_was_ → okA t_feel_ → okA t_pushAt_ → okJ t_curSum_ → okA t_aimed_ → inI v8_ → inI v9_ → ag t_aimedMany_ t_cur_ t_was_ t_feel_ t_pushAt_ t_curSum_ t_aimed_ v8_ v9_ = some r → G l E b0 M_X11_aim (fun _ => True) (ZM E b0 (some (vI r.1)) (ov [a_t, (a_t + 6), (a_t + 8), (a_t + 9), (a_t + 10), (a_t + 24), (a_t + 25), (a_t + 26), (a_t + 27), (a_t + 28), (a_t + 29), (a_t + 31), (a_t + 38), (a_t + 39)] [.inr (11, fsX11 a_t t_thrown t_taped t_p t_fault t_baseLow t_baseHigh t_newBaseLow t_newBaseHigh t_from t_knots t_lines t_chosen t_undos t_redos r.2.1 t_fits t_fitOf t_sights t_systems t_own t_cross t_curveLong t_wallFirst), IA E 21 t_push, IA E 100 t_speckLow, IA E 100 t_speckHigh, IA E 100 t_sourceHold, IA E 100 r.2.2.1, IA E 100 r.2.2.2.1, IA E 100 r.2.2.2.2.1, IA E 21 r.2.2.2.2.2.1, JA E 6 r.2.2.2.2.2.2.1, IA E 100 t_row, JA E 6 t_sums, IA E 4 r.2.2.2.2.2.2.2.1, IA E 5 r.2.2.2.2.2.2.2.2] h) n (inI r.1 ∧ inI r.2.1 ∧ okA r.2.2.1 ∧ okA r.2.2.2.1 ∧ okA r.2.2.2.2.1 ∧ okA r.2.2.2.2.2.1 ∧ okJ r.2.2.2.2.2.2.1 ∧ okA r.2.2.2.2.2.2.2.1 ∧ okA r.2.2.2.2.2.2.2.2) 0 0) 0 0 n (ov [a_t, (a_t + 6), (a_t + 8), (a_t + 9), (a_t + 10), (a_t + 24), (a_t + 25), (a_t + 26), (a_t + 27), (a_t + 28), (a_t + 29), (a_t + 31), (a_t + 38), (a_t + 39)] [.inr (11, fsX11 a_t t_thrown t_taped t_p t_fault t_baseLow t_baseHigh t_newBaseLow t_newBaseHigh t_from t_knots t_lines t_chosen t_undos t_redos t_aimedMany_ t_fits t_fitOf t_sights t_systems t_own t_cross t_curveLong t_wallFirst), IA E 21 t_push, IA E 100 t_speckLow, IA E 100 t_speckHigh, IA E 100 t_sourceHold, IA E 100 t_cur_, IA E 100 t_was_, IA E 100 t_feel_, IA E 21 t_pushAt_, JA E 6 t_curSum_, IA E 100 t_row, JA E 6 t_sums, IA E 4 t_pull, IA E 5 t_aimed_] h) 113 [some (.ref a_t), some (vI v1), none, none, none, none, some (vI v6), some (vI v7), some (vI v8_), some (vI v9_), none, none, none, none, none, none, none, none, none, none] []) (hk_356 : ∀ (t_aimedMany_ : Int) (t_cur_ : Nat → Int) (t_was_ : Nat → Int) (t_feel_ : Nat → Int) (t_pushAt_ : Nat → Int) (t_curSum_ : Nat → Int) (t_aimed_ : Nat → Int) (v8_ : Int) (v9_ : Int), inI t_aimedMany_ → okA t_cur_ → okA t_was_ → okA t_feel_ → okA t_pushAt_ → okJ t_curSum_ → okA t_aimed_ → inI v8_ → inI v9_ → k_356 t_aimedMany_ t_cur_ t_was_ t_feel_ t_pushAt_ t_curSum_ t_aimed_ v8_ v9_ = some r → G l E b0 M_X11_aim (fun _ => True) (ZM E b0 (some (vI r.1)) (ov [a_t, (a_t + 6), (a_t + 8), (a_t + 9), (a_t + 10), (a_t + 24), (a_t + 25), (a_t + 26), (a_t + 27), (a_t + 28), (a_t + 29), (a_t + 31), (a_t + 38), (a_t + 39)] [.inr (11, fsX11 a_t t_thrown t_taped t_p t_fault t_baseLow t_baseHigh t_newBaseLow t_newBaseHigh t_from t_knots t_lines t_chosen t_undos t_redos r.2.1 t_fits t_fitOf t_sights t_systems t_own t_cross t_curveLong t_wallFirst), IA E 21 t_push, IA E 100 t_speckLow, IA E 100 t_speckHigh, IA E 100 t_sourceHold, IA E 100 r.2.2.1, IA E 100 r.2.2.2.1, IA E 100 r.2.2.2.2.1, IA E 21 r.2.2.2.2.2.1, JA E 6 r.2.2.2.2.2.2.1, IA E 100 t_row, JA E 6 t_sums, IA E 4 r.2.2.2.2.2.2.2.1, IA E 5 r.2.2.2.2.2.2.2.2] h) n (inI r.1 ∧ inI r.2.1 ∧ okA r.2.2.1 ∧ okA r.2.2.2.1 ∧ okA r.2.2.2.2.1 ∧ okA r.2.2.2.2.2.1 ∧ okJ r.2.2.2.2.2.2.1 ∧ okA r.2.2.2.2.2.2.2.1 ∧ okA r.2.2.2.2.2.2.2.2) 0 0) 0 0 n (ov [a_t, (a_t + 6), (a_t + 8), (a_t + 9), (a_t + 10), (a_t + 24), (a_t + 25), (a_t + 26), (a_t + 27), (a_t + 28), (a_t + 29), (a_t + 31), (a_t + 38), (a_t + 39)] [.inr (11, fsX11 a_t t_thrown t_taped t_p t_fault t_baseLow t_baseHigh t_newBaseLow t_newBaseHigh t_from t_knots t_lines t_chosen t_undos t_redos t_aimedMany_ t_fits t_fitOf t_sights t_systems t_own t_cross t_curveLong t_wallFirst), IA E 21 t_push, IA E 100 t_speckLow, IA E 100 t_speckHigh, IA E 100 t_sourceHold, IA E 100 t_cur_, IA E 100 t_was_, IA E 100 t_feel_, IA E 21 t_pushAt_, JA E 6 t_curSum_, IA E 100 t_row, JA E 6 t_sums, IA E 4 t_pull, IA E 5 t_aimed_] h) 356 [none, none, none, none, none, none, none, none, none, none, none, none, none, none, none, none, none, none, none, none] []) (hk_347 : ∀ (t_aimedMany_ : Int) (t_cur_ : Nat → Int) (t_was_ : Nat → Int) (t_feel_ : Nat → Int) (t_pushAt_ : Nat → Int) (t_curSum_ : Nat → Int) (t_aimed_ : Nat → Int) (v8_ : Int) (v9_ : Int), inI t_aimedMany_ → okA t_cur_ → okA t_was_ → okA t_feel_ → okA t_pushAt_ → okJ t_curSum_ → okA t_aimed_ → inI v8_ → inI v9_ → k_347 t_aimedMany_ t_cur_ t_was_ t_feel_ t_pushAt_ t_curSum_ t_aimed_ v8_ v9_ = some r → G l E b0 M_X11_aim (fun _ => True) (ZM E b0 (some (vI r.1)) (ov [a_t, (a_t + 6), (a_t + 8), (a_t + 9), (a_t + 10), (a_t + 24), (a_t + 25), (a_t + 26), (a_t + 27), (a_t + 28), (a_t + 29), (a_t + 31), (a_t + 38), (a_t + 39)] [.inr (11, fsX11 a_t t_thrown t_taped t_p t_fault t_baseLow t_baseHigh t_newBaseLow t_newBaseHigh t_from t_knots t_lines t_chosen t_undos t_redos r.2.1 t_fits t_fitOf t_sights t_systems t_own t_cross t_curveLong t_wallFirst), IA E 21 t_push, IA E 100 t_speckLow, IA E 100 t_speckHigh, IA E 100 t_sourceHold, IA E 100 r.2.2.1, IA E 100 r.2.2.2.1, IA E 100 r.2.2.2.2.1, IA E 21 r.2.2.2.2.2.1, JA E 6 r.2.2.2.2.2.2.1, IA E 100 t_row, JA E 6 t_sums, IA E 4 r.2.2.2.2.2.2.2.1, IA E 5 r.2.2.2.2.2.2.2.2] h) n (inI r.1 ∧ inI r.2.1 ∧ okA r.2.2.1 ∧ okA r.2.2.2.1 ∧ okA r.2.2.2.2.1 ∧ okA r.2.2.2.2.2.1 ∧ okJ r.2.2.2.2.2.2.1 ∧ okA r.2.2.2.2.2.2.2.1 ∧ okA r.2.2.2.2.2.2.2.2) 0 0) 0 0 n (ov [a_t, (a_t + 6), (a_t + 8), (a_t + 9), (a_t + 10), (a_t + 24), (a_t + 25), (a_t + 26), (a_t + 27), (a_t + 28), (a_t + 29), (a_t + 31), (a_t + 38), (a_t + 39)] [.inr (11, fsX11 a_t t_thrown t_taped t_p t_fault t_baseLow t_baseHigh t_newBaseLow t_newBaseHigh t_from t_knots t_lines t_chosen t_undos t_redos t_aimedMany_ t_fits t_fitOf t_sights t_systems t_own t_cross t_curveLong t_wallFirst), IA E 21 t_push, IA E 100 t_speckLow, IA E 100 t_speckHigh, IA E 100 t_sourceHold, IA E 100 t_cur_, IA E 100 t_was_, IA E 100 t_feel_, IA E 21 t_pushAt_, JA E 6 t_curSum_, IA E 100 t_row, JA E 6 t_sums, IA E 4 t_pull, IA E 5 t_aimed_] h) 347 [none, none, none, none, none, none, none, none, none, some (vI v9_), none, none, none, none, none, none, none, none, none, none] []) (hs : m_X11_aim_341 t_baseLow t_baseHigh t_aimedMany t_push t_speckLow t_speckHigh t_sourceHold t_cur t_was t_feel t_pushAt t_curSum t_row t_sums t_pull t_aimed v1 v6 v7 v8 v9 v10 ag k_356 k_347 = some r) : G l E b0 M_X11_aim (fun _ => True) (ZM E b0 (some (vI r.1)) (ov [a_t, (a_t + 6), (a_t + 8), (a_t + 9), (a_t + 10), (a_t + 24), (a_t + 25), (a_t + 26), (a_t + 27), (a_t + 28), (a_t + 29), (a_t + 31), (a_t + 38), (a_t + 39)] [.inr (11, fsX11 a_t t_thrown t_taped t_p t_fault t_baseLow t_baseHigh t_newBaseLow t_newBaseHigh t_from t_knots t_lines t_chosen t_undos t_redos r.2.1 t_fits t_fitOf t_sights t_systems t_own t_cross t_curveLong t_wallFirst), IA E 21 t_push, IA E 100 t_speckLow, IA E 100 t_speckHigh, IA E 100 t_sourceHold, IA E 100 r.2.2.1, IA E 100 r.2.2.2.1, IA E 100 r.2.2.2.2.1, IA E 21 r.2.2.2.2.2.1, JA E 6 r.2.2.2.2.2.2.1, IA E 100 t_row, JA E 6 t_sums, IA E 4 r.2.2.2.2.2.2.2.1, IA E 5 r.2.2.2.2.2.2.2.2] h) n (inI r.1 ∧ inI r.2.1 ∧ okA r.2.2.1 ∧ okA r.2.2.2.1 ∧ okA r.2.2.2.2.1 ∧ okA r.2.2.2.2.2.1 ∧ okJ r.2.2.2.2.2.2.1 ∧ okA r.2.2.2.2.2.2.2.1 ∧ okA r.2.2.2.2.2.2.2.2) 0 0) 0 0 n (ov [a_t, (a_t + 6), (a_t + 8), (a_t + 9), (a_t + 10), (a_t + 24), (a_t + 25), (a_t + 26), (a_t + 27), (a_t + 28), (a_t + 29), (a_t + 31), (a_t + 38), (a_t + 39)] [.inr (11, fsX11 a_t t_thrown t_taped t_p t_fault t_baseLow t_baseHigh t_newBaseLow t_newBaseHigh t_from t_knots t_lines t_chosen t_undos t_redos t_aimedMany t_fits t_fitOf t_sights t_systems t_own t_cross t_curveLong t_wallFirst), IA E 21 t_push, IA E 100 t_speckLow, IA E 100 t_speckHigh, IA E 100 t_sourceHold, IA E 100 t_cur, IA E 100 t_was, IA E 100 t_feel, IA E 21 t_pushAt, JA E 6 t_curSum, IA E 100 t_row, JA E 6 t_sums, IA E 4 t_pull, IA E 5 t_aimed] h) 341 [some (.ref a_t), some (vI v1), none, none, none, none, some (vI v6), some (vI v7), some (vI v8), some (vI v9), some (vI v10), none, none, none, none, none, none, none, none, none] [] := by
  rw [m_X11_aim_341] at hs
  refine g_iload e_X11_aim_341 rfl ?_
  refine g_iconst e_X11_aim_343 ?_
  refine g_icmp_eq e_X11_aim_344 ok_v10 (by decide : inI (-1)) hs (fun c344 hs => ?_) (fun c344 hs => ?_)
  · refine g_iinc e_X11_aim_350 rfl st1_9 rfl ?_
    refine g_goto e_X11_aim_353 ?_
    obtain ⟨hc32, hs⟩ := chk_elim hs
    exact g_mask [true, true, true, true, true, true, true, true, true, true, false, true, true, true, true, true, true, true, true, true] (hag _ _ _ _ _ _ _ _ _ ok_t_aimedMany ok_t_cur ok_t_was ok_t_feel ok_t_pushAt ok_t_curSum ok_t_aimed ok_v8 hc32 hs)
  · refine g_iload e_X11_aim_347 rfl ?_
    obtain rfl := Option.some.inj hs
    exact g_iret rfl ⟨ok_v9, ok_t_aimedMany, ok_t_cur, ok_t_was, ok_t_feel, ok_t_pushAt, ok_t_curSum, ok_t_pull, ok_t_aimed⟩ e_X11_aim_349

noncomputable def m_X11_aim_113 (t_baseLow : Int) (t_baseHigh : Int) (t_push : Nat → Int) (t_speckLow : Nat → Int) (t_speckHigh : Nat → Int) (t_sourceHold : Nat → Int) (t_row : Nat → Int) (t_sums : Nat → Int) (t_pull : Nat → Int) (v1 : Int) (v6 : Int) (v7 : Int) (k_356 : Int → (Nat → Int) → (Nat → Int) → (Nat → Int) → (Nat → Int) → (Nat → Int) → (Nat → Int) → Int → Int → Option (Int × Int × (Nat → Int) × (Nat → Int) × (Nat → Int) × (Nat → Int) × (Nat → Int) × (Nat → Int) × (Nat → Int))) (k_347 : Int → (Nat → Int) → (Nat → Int) → (Nat → Int) → (Nat → Int) → (Nat → Int) → (Nat → Int) → Int → Int → Option (Int × Int × (Nat → Int) × (Nat → Int) × (Nat → Int) × (Nat → Int) × (Nat → Int) × (Nat → Int) × (Nat → Int))) : Nat → Int → (Nat → Int) → (Nat → Int) → (Nat → Int) → (Nat → Int) → (Nat → Int) → (Nat → Int) → Int → Int → Option (Int × Int × (Nat → Int) × (Nat → Int) × (Nat → Int) × (Nat → Int) × (Nat → Int) × (Nat → Int) × (Nat → Int))
  | 0, _, _, _, _, _, _, _, _, _ => none
  | F + 1, t_aimedMany, t_cur, t_was, t_feel, t_pushAt, t_curSum, t_aimed, v8, v9 => if 5 < v9 then (some ((-2), t_aimedMany, t_cur, t_was, t_feel, t_pushAt, t_curSum, t_pull, t_aimed)) else (chk (inI (v8 * v1)) (m_X11_aim_131 t_baseLow t_baseHigh t_push t_speckLow t_speckHigh t_sourceHold t_row t_sums t_pull v1 v6 v7 (v8 * v1) v9 (fun t_aimedMany' t_cur' t_was' t_feel' t_pushAt' t_curSum' t_aimed' v10' v11' => m_X11_aim_341 t_baseLow t_baseHigh t_aimedMany' t_push t_speckLow t_speckHigh t_sourceHold t_cur' t_was' t_feel' t_pushAt' t_curSum' t_row t_sums t_pull t_aimed' v1 v6 v7 (v8 * v1) v9 v10' (m_X11_aim_113 t_baseLow t_baseHigh t_push t_speckLow t_speckHigh t_sourceHold t_row t_sums t_pull v1 v6 v7 k_356 k_347 F) k_356 k_347) FU t_aimedMany t_cur t_was t_feel t_pushAt t_curSum t_aimed (-1) 0))

set_option maxRecDepth 10000 in
set_option maxHeartbeats 8000000 in
theorem g_X11_aim_113 {l : Launch} {E : EE} {b0 n : Nat} {h : AH} {a_t : Nat} {t_thrown t_taped t_p t_fault t_baseLow t_baseHigh t_newBaseLow t_newBaseHigh t_from t_knots t_lines t_chosen t_undos t_redos t_fits t_fitOf t_sights t_systems t_own t_cross t_curveLong t_wallFirst v1 v6 v7 : Int} {t_push t_speckLow t_speckHigh t_sourceHold t_row t_sums t_pull : Nat → Int} {r : Int × Int × (Nat → Int) × (Nat → Int) × (Nat → Int) × (Nat → Int) × (Nat → Int) × (Nat → Int) × (Nat → Int)} {k_356 : Int → (Nat → Int) → (Nat → Int) → (Nat → Int) → (Nat → Int) → (Nat → Int) → (Nat → Int) → Int → Int → Option (Int × Int × (Nat → Int) × (Nat → Int) × (Nat → Int) × (Nat → Int) × (Nat → Int) × (Nat → Int) × (Nat → Int))} {k_347 : Int → (Nat → Int) → (Nat → Int) → (Nat → Int) → (Nat → Int) → (Nat → Int) → (Nat → Int) → Int → Int → Option (Int × Int × (Nat → Int) × (Nat → Int) × (Nat → Int) × (Nat → Int) × (Nat → Int) × (Nat → Int) × (Nat → Int))} (ao : AO b0 n [a_t, (a_t + 6), (a_t + 8), (a_t + 9), (a_t + 10), (a_t + 24), (a_t + 25), (a_t + 26), (a_t + 27), (a_t + 28), (a_t + 29), (a_t + 31), (a_t + 38), (a_t + 39)]) (ok_t_baseLow : inI t_baseLow) (ok_t_baseHigh : inI t_baseHigh) (ok_t_push : okA t_push) (ok_t_speckLow : okA t_speckLow) (ok_t_speckHigh : okA t_speckHigh) (ok_t_sourceHold : okA t_sourceHold) (ok_t_row : okA t_row) (ok_t_sums : okJ t_sums) (ok_t_pull : okA t_pull) (ok_v1 : inI v1) (ok_v6 : inI v6) (ok_v7 : inI v7) (hk_356 : ∀ (t_aimedMany_ : Int) (t_cur_ : Nat → Int) (t_was_ : Nat → Int) (t_feel_ : Nat → Int) (t_pushAt_ : Nat → Int) (t_curSum_ : Nat → Int) (t_aimed_ : Nat → Int) (v8_ : Int) (v9_ : Int), inI t_aimedMany_ → okA t_cur_ → okA t_was_ → okA t_feel_ → okA t_pushAt_ → okJ t_curSum_ → okA t_aimed_ → inI v8_ → inI v9_ → k_356 t_aimedMany_ t_cur_ t_was_ t_feel_ t_pushAt_ t_curSum_ t_aimed_ v8_ v9_ = some r → G l E b0 M_X11_aim (fun _ => True) (ZM E b0 (some (vI r.1)) (ov [a_t, (a_t + 6), (a_t + 8), (a_t + 9), (a_t + 10), (a_t + 24), (a_t + 25), (a_t + 26), (a_t + 27), (a_t + 28), (a_t + 29), (a_t + 31), (a_t + 38), (a_t + 39)] [.inr (11, fsX11 a_t t_thrown t_taped t_p t_fault t_baseLow t_baseHigh t_newBaseLow t_newBaseHigh t_from t_knots t_lines t_chosen t_undos t_redos r.2.1 t_fits t_fitOf t_sights t_systems t_own t_cross t_curveLong t_wallFirst), IA E 21 t_push, IA E 100 t_speckLow, IA E 100 t_speckHigh, IA E 100 t_sourceHold, IA E 100 r.2.2.1, IA E 100 r.2.2.2.1, IA E 100 r.2.2.2.2.1, IA E 21 r.2.2.2.2.2.1, JA E 6 r.2.2.2.2.2.2.1, IA E 100 t_row, JA E 6 t_sums, IA E 4 r.2.2.2.2.2.2.2.1, IA E 5 r.2.2.2.2.2.2.2.2] h) n (inI r.1 ∧ inI r.2.1 ∧ okA r.2.2.1 ∧ okA r.2.2.2.1 ∧ okA r.2.2.2.2.1 ∧ okA r.2.2.2.2.2.1 ∧ okJ r.2.2.2.2.2.2.1 ∧ okA r.2.2.2.2.2.2.2.1 ∧ okA r.2.2.2.2.2.2.2.2) 0 0) 0 0 n (ov [a_t, (a_t + 6), (a_t + 8), (a_t + 9), (a_t + 10), (a_t + 24), (a_t + 25), (a_t + 26), (a_t + 27), (a_t + 28), (a_t + 29), (a_t + 31), (a_t + 38), (a_t + 39)] [.inr (11, fsX11 a_t t_thrown t_taped t_p t_fault t_baseLow t_baseHigh t_newBaseLow t_newBaseHigh t_from t_knots t_lines t_chosen t_undos t_redos t_aimedMany_ t_fits t_fitOf t_sights t_systems t_own t_cross t_curveLong t_wallFirst), IA E 21 t_push, IA E 100 t_speckLow, IA E 100 t_speckHigh, IA E 100 t_sourceHold, IA E 100 t_cur_, IA E 100 t_was_, IA E 100 t_feel_, IA E 21 t_pushAt_, JA E 6 t_curSum_, IA E 100 t_row, JA E 6 t_sums, IA E 4 t_pull, IA E 5 t_aimed_] h) 356 [none, none, none, none, none, none, none, none, none, none, none, none, none, none, none, none, none, none, none, none] []) (hk_347 : ∀ (t_aimedMany_ : Int) (t_cur_ : Nat → Int) (t_was_ : Nat → Int) (t_feel_ : Nat → Int) (t_pushAt_ : Nat → Int) (t_curSum_ : Nat → Int) (t_aimed_ : Nat → Int) (v8_ : Int) (v9_ : Int), inI t_aimedMany_ → okA t_cur_ → okA t_was_ → okA t_feel_ → okA t_pushAt_ → okJ t_curSum_ → okA t_aimed_ → inI v8_ → inI v9_ → k_347 t_aimedMany_ t_cur_ t_was_ t_feel_ t_pushAt_ t_curSum_ t_aimed_ v8_ v9_ = some r → G l E b0 M_X11_aim (fun _ => True) (ZM E b0 (some (vI r.1)) (ov [a_t, (a_t + 6), (a_t + 8), (a_t + 9), (a_t + 10), (a_t + 24), (a_t + 25), (a_t + 26), (a_t + 27), (a_t + 28), (a_t + 29), (a_t + 31), (a_t + 38), (a_t + 39)] [.inr (11, fsX11 a_t t_thrown t_taped t_p t_fault t_baseLow t_baseHigh t_newBaseLow t_newBaseHigh t_from t_knots t_lines t_chosen t_undos t_redos r.2.1 t_fits t_fitOf t_sights t_systems t_own t_cross t_curveLong t_wallFirst), IA E 21 t_push, IA E 100 t_speckLow, IA E 100 t_speckHigh, IA E 100 t_sourceHold, IA E 100 r.2.2.1, IA E 100 r.2.2.2.1, IA E 100 r.2.2.2.2.1, IA E 21 r.2.2.2.2.2.1, JA E 6 r.2.2.2.2.2.2.1, IA E 100 t_row, JA E 6 t_sums, IA E 4 r.2.2.2.2.2.2.2.1, IA E 5 r.2.2.2.2.2.2.2.2] h) n (inI r.1 ∧ inI r.2.1 ∧ okA r.2.2.1 ∧ okA r.2.2.2.1 ∧ okA r.2.2.2.2.1 ∧ okA r.2.2.2.2.2.1 ∧ okJ r.2.2.2.2.2.2.1 ∧ okA r.2.2.2.2.2.2.2.1 ∧ okA r.2.2.2.2.2.2.2.2) 0 0) 0 0 n (ov [a_t, (a_t + 6), (a_t + 8), (a_t + 9), (a_t + 10), (a_t + 24), (a_t + 25), (a_t + 26), (a_t + 27), (a_t + 28), (a_t + 29), (a_t + 31), (a_t + 38), (a_t + 39)] [.inr (11, fsX11 a_t t_thrown t_taped t_p t_fault t_baseLow t_baseHigh t_newBaseLow t_newBaseHigh t_from t_knots t_lines t_chosen t_undos t_redos t_aimedMany_ t_fits t_fitOf t_sights t_systems t_own t_cross t_curveLong t_wallFirst), IA E 21 t_push, IA E 100 t_speckLow, IA E 100 t_speckHigh, IA E 100 t_sourceHold, IA E 100 t_cur_, IA E 100 t_was_, IA E 100 t_feel_, IA E 21 t_pushAt_, JA E 6 t_curSum_, IA E 100 t_row, JA E 6 t_sums, IA E 4 t_pull, IA E 5 t_aimed_] h) 347 [none, none, none, none, none, none, none, none, none, some (vI v9_), none, none, none, none, none, none, none, none, none, none] []) :
    ∀ (F : Nat) (t_aimedMany : Int) (t_cur : Nat → Int) (t_was : Nat → Int) (t_feel : Nat → Int) (t_pushAt : Nat → Int) (t_curSum : Nat → Int) (t_aimed : Nat → Int) (v8 : Int) (v9 : Int), inI t_aimedMany → okA t_cur → okA t_was → okA t_feel → okA t_pushAt → okJ t_curSum → okA t_aimed → inI v8 → inI v9 → m_X11_aim_113 t_baseLow t_baseHigh t_push t_speckLow t_speckHigh t_sourceHold t_row t_sums t_pull v1 v6 v7 k_356 k_347 F t_aimedMany t_cur t_was t_feel t_pushAt t_curSum t_aimed v8 v9 = some r → G l E b0 M_X11_aim (fun _ => True) (ZM E b0 (some (vI r.1)) (ov [a_t, (a_t + 6), (a_t + 8), (a_t + 9), (a_t + 10), (a_t + 24), (a_t + 25), (a_t + 26), (a_t + 27), (a_t + 28), (a_t + 29), (a_t + 31), (a_t + 38), (a_t + 39)] [.inr (11, fsX11 a_t t_thrown t_taped t_p t_fault t_baseLow t_baseHigh t_newBaseLow t_newBaseHigh t_from t_knots t_lines t_chosen t_undos t_redos r.2.1 t_fits t_fitOf t_sights t_systems t_own t_cross t_curveLong t_wallFirst), IA E 21 t_push, IA E 100 t_speckLow, IA E 100 t_speckHigh, IA E 100 t_sourceHold, IA E 100 r.2.2.1, IA E 100 r.2.2.2.1, IA E 100 r.2.2.2.2.1, IA E 21 r.2.2.2.2.2.1, JA E 6 r.2.2.2.2.2.2.1, IA E 100 t_row, JA E 6 t_sums, IA E 4 r.2.2.2.2.2.2.2.1, IA E 5 r.2.2.2.2.2.2.2.2] h) n (inI r.1 ∧ inI r.2.1 ∧ okA r.2.2.1 ∧ okA r.2.2.2.1 ∧ okA r.2.2.2.2.1 ∧ okA r.2.2.2.2.2.1 ∧ okJ r.2.2.2.2.2.2.1 ∧ okA r.2.2.2.2.2.2.2.1 ∧ okA r.2.2.2.2.2.2.2.2) 0 0) 0 0 n (ov [a_t, (a_t + 6), (a_t + 8), (a_t + 9), (a_t + 10), (a_t + 24), (a_t + 25), (a_t + 26), (a_t + 27), (a_t + 28), (a_t + 29), (a_t + 31), (a_t + 38), (a_t + 39)] [.inr (11, fsX11 a_t t_thrown t_taped t_p t_fault t_baseLow t_baseHigh t_newBaseLow t_newBaseHigh t_from t_knots t_lines t_chosen t_undos t_redos t_aimedMany t_fits t_fitOf t_sights t_systems t_own t_cross t_curveLong t_wallFirst), IA E 21 t_push, IA E 100 t_speckLow, IA E 100 t_speckHigh, IA E 100 t_sourceHold, IA E 100 t_cur, IA E 100 t_was, IA E 100 t_feel, IA E 21 t_pushAt, JA E 6 t_curSum, IA E 100 t_row, JA E 6 t_sums, IA E 4 t_pull, IA E 5 t_aimed] h) 113 [some (.ref a_t), some (vI v1), none, none, none, none, some (vI v6), some (vI v7), some (vI v8), some (vI v9), none, none, none, none, none, none, none, none, none, none] [] := by
  intro F
  induction F with
  | zero =>
    intro t_aimedMany t_cur t_was t_feel t_pushAt t_curSum t_aimed v8 v9 ok_t_aimedMany ok_t_cur ok_t_was ok_t_feel ok_t_pushAt ok_t_curSum ok_t_aimed ok_v8 ok_v9 hs
    rw [m_X11_aim_113] at hs
    cases hs
  | succ F ih =>
    intro t_aimedMany t_cur t_was t_feel t_pushAt t_curSum t_aimed v8 v9 ok_t_aimedMany ok_t_cur ok_t_was ok_t_feel ok_t_pushAt ok_t_curSum ok_t_aimed ok_v8 ok_v9 hs
    rw [m_X11_aim_113] at hs
    refine g_iload e_X11_aim_113 rfl ?_
    refine g_iconst e_X11_aim_115 ?_
    refine g_icmp_gt e_X11_aim_116 ok_v9 (by decide : inI 5) hs (fun c116 hs => ?_) (fun c116 hs => ?_)
    · refine g_bipush e_X11_aim_356 bp_m2 ?_
      obtain rfl := Option.some.inj hs
      exact g_iret rfl ⟨(by decide : inI (-2)), ok_t_aimedMany, ok_t_cur, ok_t_was, ok_t_feel, ok_t_pushAt, ok_t_curSum, ok_t_pull, ok_t_aimed⟩ e_X11_aim_358
    · refine g_iload e_X11_aim_119 rfl ?_
      refine g_iload_n e_X11_aim_121 rfl ?_
      refine g_imul e_X11_aim_122 ?_
      refine g_istore e_X11_aim_123 st1_8 rfl ?_
      refine g_iconst e_X11_aim_125 ?_
      refine g_istore e_X11_aim_126 st1_10 rfl ?_
      refine g_iconst e_X11_aim_128 ?_
      refine g_istore e_X11_aim_129 st1_11 rfl ?_
      obtain ⟨hc31, hs⟩ := chk_elim hs
      exact g_X11_aim_131 ao ok_t_baseLow ok_t_baseHigh ok_t_push ok_t_speckLow ok_t_speckHigh ok_t_sourceHold ok_t_row ok_t_sums ok_t_pull ok_v1 ok_v6 ok_v7 hc31 ok_v9 (hk_341 := by
      intro t_aimedMany' t_cur' t_was' t_feel' t_pushAt' t_curSum' t_aimed' v10' v11' ok_t_aimedMany' ok_t_cur' ok_t_was' ok_t_feel' ok_t_pushAt' ok_t_curSum' ok_t_aimed' ok_v10' ok_v11' hs
      exact g_X11_aim_341 ao ok_t_baseLow ok_t_baseHigh ok_t_aimedMany' ok_t_push ok_t_speckLow ok_t_speckHigh ok_t_sourceHold ok_t_cur' ok_t_was' ok_t_feel' ok_t_pushAt' ok_t_curSum' ok_t_row ok_t_sums ok_t_pull ok_t_aimed' ok_v1 ok_v6 ok_v7 hc31 ok_v9 ok_v10' ih hk_356 hk_347 hs) FU _ _ _ _ _ _ _ _ _ ok_t_aimedMany ok_t_cur ok_t_was ok_t_feel ok_t_pushAt ok_t_curSum ok_t_aimed (by decide : inI (-1)) (by decide : inI 0) hs

noncomputable def m_X11_aim_356 (t_aimedMany : Int) (t_cur : Nat → Int) (t_was : Nat → Int) (t_feel : Nat → Int) (t_pushAt : Nat → Int) (t_curSum : Nat → Int) (t_pull : Nat → Int) (t_aimed : Nat → Int) : Option (Int × Int × (Nat → Int) × (Nat → Int) × (Nat → Int) × (Nat → Int) × (Nat → Int) × (Nat → Int) × (Nat → Int)) :=
  some ((-2), t_aimedMany, t_cur, t_was, t_feel, t_pushAt, t_curSum, t_pull, t_aimed)

set_option maxRecDepth 10000 in
set_option maxHeartbeats 8000000 in
theorem g_X11_aim_356 {l : Launch} {E : EE} {b0 n : Nat} {h : AH} {a_t : Nat} {t_thrown t_taped t_p t_fault t_baseLow t_baseHigh t_newBaseLow t_newBaseHigh t_from t_knots t_lines t_chosen t_undos t_redos t_aimedMany t_fits t_fitOf t_sights t_systems t_own t_cross t_curveLong t_wallFirst : Int} {t_push t_speckLow t_speckHigh t_sourceHold t_cur t_was t_feel t_pushAt t_curSum t_row t_sums t_pull t_aimed : Nat → Int} {r : Int × Int × (Nat → Int) × (Nat → Int) × (Nat → Int) × (Nat → Int) × (Nat → Int) × (Nat → Int) × (Nat → Int)} (ao : AO b0 n [a_t, (a_t + 6), (a_t + 8), (a_t + 9), (a_t + 10), (a_t + 24), (a_t + 25), (a_t + 26), (a_t + 27), (a_t + 28), (a_t + 29), (a_t + 31), (a_t + 38), (a_t + 39)]) (ok_t_baseLow : inI t_baseLow) (ok_t_baseHigh : inI t_baseHigh) (ok_t_aimedMany : inI t_aimedMany) (ok_t_push : okA t_push) (ok_t_speckLow : okA t_speckLow) (ok_t_speckHigh : okA t_speckHigh) (ok_t_sourceHold : okA t_sourceHold) (ok_t_cur : okA t_cur) (ok_t_was : okA t_was) (ok_t_feel : okA t_feel) (ok_t_pushAt : okA t_pushAt) (ok_t_curSum : okJ t_curSum) (ok_t_row : okA t_row) (ok_t_sums : okJ t_sums) (ok_t_pull : okA t_pull) (ok_t_aimed : okA t_aimed) (hs : m_X11_aim_356 t_aimedMany t_cur t_was t_feel t_pushAt t_curSum t_pull t_aimed = some r) : G l E b0 M_X11_aim (fun _ => True) (ZM E b0 (some (vI r.1)) (ov [a_t, (a_t + 6), (a_t + 8), (a_t + 9), (a_t + 10), (a_t + 24), (a_t + 25), (a_t + 26), (a_t + 27), (a_t + 28), (a_t + 29), (a_t + 31), (a_t + 38), (a_t + 39)] [.inr (11, fsX11 a_t t_thrown t_taped t_p t_fault t_baseLow t_baseHigh t_newBaseLow t_newBaseHigh t_from t_knots t_lines t_chosen t_undos t_redos r.2.1 t_fits t_fitOf t_sights t_systems t_own t_cross t_curveLong t_wallFirst), IA E 21 t_push, IA E 100 t_speckLow, IA E 100 t_speckHigh, IA E 100 t_sourceHold, IA E 100 r.2.2.1, IA E 100 r.2.2.2.1, IA E 100 r.2.2.2.2.1, IA E 21 r.2.2.2.2.2.1, JA E 6 r.2.2.2.2.2.2.1, IA E 100 t_row, JA E 6 t_sums, IA E 4 r.2.2.2.2.2.2.2.1, IA E 5 r.2.2.2.2.2.2.2.2] h) n (inI r.1 ∧ inI r.2.1 ∧ okA r.2.2.1 ∧ okA r.2.2.2.1 ∧ okA r.2.2.2.2.1 ∧ okA r.2.2.2.2.2.1 ∧ okJ r.2.2.2.2.2.2.1 ∧ okA r.2.2.2.2.2.2.2.1 ∧ okA r.2.2.2.2.2.2.2.2) 0 0) 0 0 n (ov [a_t, (a_t + 6), (a_t + 8), (a_t + 9), (a_t + 10), (a_t + 24), (a_t + 25), (a_t + 26), (a_t + 27), (a_t + 28), (a_t + 29), (a_t + 31), (a_t + 38), (a_t + 39)] [.inr (11, fsX11 a_t t_thrown t_taped t_p t_fault t_baseLow t_baseHigh t_newBaseLow t_newBaseHigh t_from t_knots t_lines t_chosen t_undos t_redos t_aimedMany t_fits t_fitOf t_sights t_systems t_own t_cross t_curveLong t_wallFirst), IA E 21 t_push, IA E 100 t_speckLow, IA E 100 t_speckHigh, IA E 100 t_sourceHold, IA E 100 t_cur, IA E 100 t_was, IA E 100 t_feel, IA E 21 t_pushAt, JA E 6 t_curSum, IA E 100 t_row, JA E 6 t_sums, IA E 4 t_pull, IA E 5 t_aimed] h) 356 [none, none, none, none, none, none, none, none, none, none, none, none, none, none, none, none, none, none, none, none] [] := by
  rw [m_X11_aim_356] at hs
  refine g_bipush e_X11_aim_356 bp_m2 ?_
  obtain rfl := Option.some.inj hs
  exact g_iret rfl ⟨(by decide : inI (-2)), ok_t_aimedMany, ok_t_cur, ok_t_was, ok_t_feel, ok_t_pushAt, ok_t_curSum, ok_t_pull, ok_t_aimed⟩ e_X11_aim_358

noncomputable def m_X11_aim_347 (t_aimedMany : Int) (t_cur : Nat → Int) (t_was : Nat → Int) (t_feel : Nat → Int) (t_pushAt : Nat → Int) (t_curSum : Nat → Int) (t_pull : Nat → Int) (t_aimed : Nat → Int) (v9 : Int) : Option (Int × Int × (Nat → Int) × (Nat → Int) × (Nat → Int) × (Nat → Int) × (Nat → Int) × (Nat → Int) × (Nat → Int)) :=
  some (v9, t_aimedMany, t_cur, t_was, t_feel, t_pushAt, t_curSum, t_pull, t_aimed)

set_option maxRecDepth 10000 in
set_option maxHeartbeats 8000000 in
theorem g_X11_aim_347 {l : Launch} {E : EE} {b0 n : Nat} {h : AH} {a_t : Nat} {t_thrown t_taped t_p t_fault t_baseLow t_baseHigh t_newBaseLow t_newBaseHigh t_from t_knots t_lines t_chosen t_undos t_redos t_aimedMany t_fits t_fitOf t_sights t_systems t_own t_cross t_curveLong t_wallFirst v9 : Int} {t_push t_speckLow t_speckHigh t_sourceHold t_cur t_was t_feel t_pushAt t_curSum t_row t_sums t_pull t_aimed : Nat → Int} {r : Int × Int × (Nat → Int) × (Nat → Int) × (Nat → Int) × (Nat → Int) × (Nat → Int) × (Nat → Int) × (Nat → Int)} (ao : AO b0 n [a_t, (a_t + 6), (a_t + 8), (a_t + 9), (a_t + 10), (a_t + 24), (a_t + 25), (a_t + 26), (a_t + 27), (a_t + 28), (a_t + 29), (a_t + 31), (a_t + 38), (a_t + 39)]) (ok_t_baseLow : inI t_baseLow) (ok_t_baseHigh : inI t_baseHigh) (ok_t_aimedMany : inI t_aimedMany) (ok_t_push : okA t_push) (ok_t_speckLow : okA t_speckLow) (ok_t_speckHigh : okA t_speckHigh) (ok_t_sourceHold : okA t_sourceHold) (ok_t_cur : okA t_cur) (ok_t_was : okA t_was) (ok_t_feel : okA t_feel) (ok_t_pushAt : okA t_pushAt) (ok_t_curSum : okJ t_curSum) (ok_t_row : okA t_row) (ok_t_sums : okJ t_sums) (ok_t_pull : okA t_pull) (ok_t_aimed : okA t_aimed) (ok_v9 : inI v9) (hs : m_X11_aim_347 t_aimedMany t_cur t_was t_feel t_pushAt t_curSum t_pull t_aimed v9 = some r) : G l E b0 M_X11_aim (fun _ => True) (ZM E b0 (some (vI r.1)) (ov [a_t, (a_t + 6), (a_t + 8), (a_t + 9), (a_t + 10), (a_t + 24), (a_t + 25), (a_t + 26), (a_t + 27), (a_t + 28), (a_t + 29), (a_t + 31), (a_t + 38), (a_t + 39)] [.inr (11, fsX11 a_t t_thrown t_taped t_p t_fault t_baseLow t_baseHigh t_newBaseLow t_newBaseHigh t_from t_knots t_lines t_chosen t_undos t_redos r.2.1 t_fits t_fitOf t_sights t_systems t_own t_cross t_curveLong t_wallFirst), IA E 21 t_push, IA E 100 t_speckLow, IA E 100 t_speckHigh, IA E 100 t_sourceHold, IA E 100 r.2.2.1, IA E 100 r.2.2.2.1, IA E 100 r.2.2.2.2.1, IA E 21 r.2.2.2.2.2.1, JA E 6 r.2.2.2.2.2.2.1, IA E 100 t_row, JA E 6 t_sums, IA E 4 r.2.2.2.2.2.2.2.1, IA E 5 r.2.2.2.2.2.2.2.2] h) n (inI r.1 ∧ inI r.2.1 ∧ okA r.2.2.1 ∧ okA r.2.2.2.1 ∧ okA r.2.2.2.2.1 ∧ okA r.2.2.2.2.2.1 ∧ okJ r.2.2.2.2.2.2.1 ∧ okA r.2.2.2.2.2.2.2.1 ∧ okA r.2.2.2.2.2.2.2.2) 0 0) 0 0 n (ov [a_t, (a_t + 6), (a_t + 8), (a_t + 9), (a_t + 10), (a_t + 24), (a_t + 25), (a_t + 26), (a_t + 27), (a_t + 28), (a_t + 29), (a_t + 31), (a_t + 38), (a_t + 39)] [.inr (11, fsX11 a_t t_thrown t_taped t_p t_fault t_baseLow t_baseHigh t_newBaseLow t_newBaseHigh t_from t_knots t_lines t_chosen t_undos t_redos t_aimedMany t_fits t_fitOf t_sights t_systems t_own t_cross t_curveLong t_wallFirst), IA E 21 t_push, IA E 100 t_speckLow, IA E 100 t_speckHigh, IA E 100 t_sourceHold, IA E 100 t_cur, IA E 100 t_was, IA E 100 t_feel, IA E 21 t_pushAt, JA E 6 t_curSum, IA E 100 t_row, JA E 6 t_sums, IA E 4 t_pull, IA E 5 t_aimed] h) 347 [none, none, none, none, none, none, none, none, none, some (vI v9), none, none, none, none, none, none, none, none, none, none] [] := by
  rw [m_X11_aim_347] at hs
  refine g_iload e_X11_aim_347 rfl ?_
  obtain rfl := Option.some.inj hs
  exact g_iret rfl ⟨ok_v9, ok_t_aimedMany, ok_t_cur, ok_t_was, ok_t_feel, ok_t_pushAt, ok_t_curSum, ok_t_pull, ok_t_aimed⟩ e_X11_aim_349

noncomputable def m_X11_aim_107 (t_baseLow : Int) (t_baseHigh : Int) (t_aimedMany : Int) (t_push : Nat → Int) (t_speckLow : Nat → Int) (t_speckHigh : Nat → Int) (t_sourceHold : Nat → Int) (t_cur : Nat → Int) (t_was : Nat → Int) (t_feel : Nat → Int) (t_pushAt : Nat → Int) (t_curSum : Nat → Int) (t_row : Nat → Int) (t_sums : Nat → Int) (t_pull : Nat → Int) (t_aimed : Nat → Int) (v1 : Int) (v6 : Int) (v7 : Int) : Option (Int × Int × (Nat → Int) × (Nat → Int) × (Nat → Int) × (Nat → Int) × (Nat → Int) × (Nat → Int) × (Nat → Int)) :=
  m_X11_aim_113 t_baseLow t_baseHigh t_push t_speckLow t_speckHigh t_sourceHold t_row t_sums t_pull v1 v6 v7 (fun t_aimedMany' t_cur' t_was' t_feel' t_pushAt' t_curSum' t_aimed' v8' v9' => m_X11_aim_356 t_aimedMany' t_cur' t_was' t_feel' t_pushAt' t_curSum' t_pull t_aimed') (fun t_aimedMany' t_cur' t_was' t_feel' t_pushAt' t_curSum' t_aimed' v8' v9' => m_X11_aim_347 t_aimedMany' t_cur' t_was' t_feel' t_pushAt' t_curSum' t_pull t_aimed' v9') FU t_aimedMany t_cur t_was t_feel t_pushAt t_curSum t_aimed 1 1

set_option maxRecDepth 10000 in
set_option maxHeartbeats 8000000 in
theorem g_X11_aim_107 {l : Launch} {E : EE} {b0 n : Nat} {h : AH} {a_t : Nat} {t_thrown t_taped t_p t_fault t_baseLow t_baseHigh t_newBaseLow t_newBaseHigh t_from t_knots t_lines t_chosen t_undos t_redos t_aimedMany t_fits t_fitOf t_sights t_systems t_own t_cross t_curveLong t_wallFirst v1 v6 v7 : Int} {t_push t_speckLow t_speckHigh t_sourceHold t_cur t_was t_feel t_pushAt t_curSum t_row t_sums t_pull t_aimed : Nat → Int} {r : Int × Int × (Nat → Int) × (Nat → Int) × (Nat → Int) × (Nat → Int) × (Nat → Int) × (Nat → Int) × (Nat → Int)} (ao : AO b0 n [a_t, (a_t + 6), (a_t + 8), (a_t + 9), (a_t + 10), (a_t + 24), (a_t + 25), (a_t + 26), (a_t + 27), (a_t + 28), (a_t + 29), (a_t + 31), (a_t + 38), (a_t + 39)]) (ok_t_baseLow : inI t_baseLow) (ok_t_baseHigh : inI t_baseHigh) (ok_t_aimedMany : inI t_aimedMany) (ok_t_push : okA t_push) (ok_t_speckLow : okA t_speckLow) (ok_t_speckHigh : okA t_speckHigh) (ok_t_sourceHold : okA t_sourceHold) (ok_t_cur : okA t_cur) (ok_t_was : okA t_was) (ok_t_feel : okA t_feel) (ok_t_pushAt : okA t_pushAt) (ok_t_curSum : okJ t_curSum) (ok_t_row : okA t_row) (ok_t_sums : okJ t_sums) (ok_t_pull : okA t_pull) (ok_t_aimed : okA t_aimed) (ok_v1 : inI v1) (ok_v6 : inI v6) (ok_v7 : inI v7) (hs : m_X11_aim_107 t_baseLow t_baseHigh t_aimedMany t_push t_speckLow t_speckHigh t_sourceHold t_cur t_was t_feel t_pushAt t_curSum t_row t_sums t_pull t_aimed v1 v6 v7 = some r) : G l E b0 M_X11_aim (fun _ => True) (ZM E b0 (some (vI r.1)) (ov [a_t, (a_t + 6), (a_t + 8), (a_t + 9), (a_t + 10), (a_t + 24), (a_t + 25), (a_t + 26), (a_t + 27), (a_t + 28), (a_t + 29), (a_t + 31), (a_t + 38), (a_t + 39)] [.inr (11, fsX11 a_t t_thrown t_taped t_p t_fault t_baseLow t_baseHigh t_newBaseLow t_newBaseHigh t_from t_knots t_lines t_chosen t_undos t_redos r.2.1 t_fits t_fitOf t_sights t_systems t_own t_cross t_curveLong t_wallFirst), IA E 21 t_push, IA E 100 t_speckLow, IA E 100 t_speckHigh, IA E 100 t_sourceHold, IA E 100 r.2.2.1, IA E 100 r.2.2.2.1, IA E 100 r.2.2.2.2.1, IA E 21 r.2.2.2.2.2.1, JA E 6 r.2.2.2.2.2.2.1, IA E 100 t_row, JA E 6 t_sums, IA E 4 r.2.2.2.2.2.2.2.1, IA E 5 r.2.2.2.2.2.2.2.2] h) n (inI r.1 ∧ inI r.2.1 ∧ okA r.2.2.1 ∧ okA r.2.2.2.1 ∧ okA r.2.2.2.2.1 ∧ okA r.2.2.2.2.2.1 ∧ okJ r.2.2.2.2.2.2.1 ∧ okA r.2.2.2.2.2.2.2.1 ∧ okA r.2.2.2.2.2.2.2.2) 0 0) 0 0 n (ov [a_t, (a_t + 6), (a_t + 8), (a_t + 9), (a_t + 10), (a_t + 24), (a_t + 25), (a_t + 26), (a_t + 27), (a_t + 28), (a_t + 29), (a_t + 31), (a_t + 38), (a_t + 39)] [.inr (11, fsX11 a_t t_thrown t_taped t_p t_fault t_baseLow t_baseHigh t_newBaseLow t_newBaseHigh t_from t_knots t_lines t_chosen t_undos t_redos t_aimedMany t_fits t_fitOf t_sights t_systems t_own t_cross t_curveLong t_wallFirst), IA E 21 t_push, IA E 100 t_speckLow, IA E 100 t_speckHigh, IA E 100 t_sourceHold, IA E 100 t_cur, IA E 100 t_was, IA E 100 t_feel, IA E 21 t_pushAt, JA E 6 t_curSum, IA E 100 t_row, JA E 6 t_sums, IA E 4 t_pull, IA E 5 t_aimed] h) 107 [some (.ref a_t), some (vI v1), none, none, none, none, some (vI v6), some (vI v7), none, none, none, none, none, none, none, none, none, none, none, none] [] := by
  rw [m_X11_aim_107] at hs
  refine g_iconst e_X11_aim_107 ?_
  refine g_istore e_X11_aim_108 st1_8 rfl ?_
  refine g_iconst e_X11_aim_110 ?_
  refine g_istore e_X11_aim_111 st1_9 rfl ?_
  exact g_X11_aim_113 ao ok_t_baseLow ok_t_baseHigh ok_t_push ok_t_speckLow ok_t_speckHigh ok_t_sourceHold ok_t_row ok_t_sums ok_t_pull ok_v1 ok_v6 ok_v7 (hk_356 := by
      intro t_aimedMany' t_cur' t_was' t_feel' t_pushAt' t_curSum' t_aimed' v8' v9' ok_t_aimedMany' ok_t_cur' ok_t_was' ok_t_feel' ok_t_pushAt' ok_t_curSum' ok_t_aimed' ok_v8' ok_v9' hs
      exact g_X11_aim_356 ao ok_t_baseLow ok_t_baseHigh ok_t_aimedMany' ok_t_push ok_t_speckLow ok_t_speckHigh ok_t_sourceHold ok_t_cur' ok_t_was' ok_t_feel' ok_t_pushAt' ok_t_curSum' ok_t_row ok_t_sums ok_t_pull ok_t_aimed' hs) (hk_347 := by
      intro t_aimedMany' t_cur' t_was' t_feel' t_pushAt' t_curSum' t_aimed' v8' v9' ok_t_aimedMany' ok_t_cur' ok_t_was' ok_t_feel' ok_t_pushAt' ok_t_curSum' ok_t_aimed' ok_v8' ok_v9' hs
      exact g_X11_aim_347 ao ok_t_baseLow ok_t_baseHigh ok_t_aimedMany' ok_t_push ok_t_speckLow ok_t_speckHigh ok_t_sourceHold ok_t_cur' ok_t_was' ok_t_feel' ok_t_pushAt' ok_t_curSum' ok_t_row ok_t_sums ok_t_pull ok_t_aimed' ok_v9' hs) FU _ _ _ _ _ _ _ _ _ ok_t_aimedMany ok_t_cur ok_t_was ok_t_feel ok_t_pushAt ok_t_curSum ok_t_aimed (by decide : inI 1) (by decide : inI 1) hs

noncomputable def m_X11_aim_99 (t_aimedMany : Int) (t_cur : Nat → Int) (t_was : Nat → Int) (t_feel : Nat → Int) (t_pushAt : Nat → Int) (t_curSum : Nat → Int) (t_pull : Nat → Int) (t_aimed : Nat → Int) : Option (Int × Int × (Nat → Int) × (Nat → Int) × (Nat → Int) × (Nat → Int) × (Nat → Int) × (Nat → Int) × (Nat → Int)) :=
  some ((-1), t_aimedMany, t_cur, t_was, t_feel, t_pushAt, t_curSum, t_pull, t_aimed)

set_option maxRecDepth 10000 in
set_option maxHeartbeats 8000000 in
theorem g_X11_aim_99 {l : Launch} {E : EE} {b0 n : Nat} {h : AH} {a_t : Nat} {t_thrown t_taped t_p t_fault t_baseLow t_baseHigh t_newBaseLow t_newBaseHigh t_from t_knots t_lines t_chosen t_undos t_redos t_aimedMany t_fits t_fitOf t_sights t_systems t_own t_cross t_curveLong t_wallFirst : Int} {t_push t_speckLow t_speckHigh t_sourceHold t_cur t_was t_feel t_pushAt t_curSum t_row t_sums t_pull t_aimed : Nat → Int} {r : Int × Int × (Nat → Int) × (Nat → Int) × (Nat → Int) × (Nat → Int) × (Nat → Int) × (Nat → Int) × (Nat → Int)} (ao : AO b0 n [a_t, (a_t + 6), (a_t + 8), (a_t + 9), (a_t + 10), (a_t + 24), (a_t + 25), (a_t + 26), (a_t + 27), (a_t + 28), (a_t + 29), (a_t + 31), (a_t + 38), (a_t + 39)]) (ok_t_baseLow : inI t_baseLow) (ok_t_baseHigh : inI t_baseHigh) (ok_t_aimedMany : inI t_aimedMany) (ok_t_push : okA t_push) (ok_t_speckLow : okA t_speckLow) (ok_t_speckHigh : okA t_speckHigh) (ok_t_sourceHold : okA t_sourceHold) (ok_t_cur : okA t_cur) (ok_t_was : okA t_was) (ok_t_feel : okA t_feel) (ok_t_pushAt : okA t_pushAt) (ok_t_curSum : okJ t_curSum) (ok_t_row : okA t_row) (ok_t_sums : okJ t_sums) (ok_t_pull : okA t_pull) (ok_t_aimed : okA t_aimed) (hs : m_X11_aim_99 t_aimedMany t_cur t_was t_feel t_pushAt t_curSum t_pull t_aimed = some r) : G l E b0 M_X11_aim (fun _ => True) (ZM E b0 (some (vI r.1)) (ov [a_t, (a_t + 6), (a_t + 8), (a_t + 9), (a_t + 10), (a_t + 24), (a_t + 25), (a_t + 26), (a_t + 27), (a_t + 28), (a_t + 29), (a_t + 31), (a_t + 38), (a_t + 39)] [.inr (11, fsX11 a_t t_thrown t_taped t_p t_fault t_baseLow t_baseHigh t_newBaseLow t_newBaseHigh t_from t_knots t_lines t_chosen t_undos t_redos r.2.1 t_fits t_fitOf t_sights t_systems t_own t_cross t_curveLong t_wallFirst), IA E 21 t_push, IA E 100 t_speckLow, IA E 100 t_speckHigh, IA E 100 t_sourceHold, IA E 100 r.2.2.1, IA E 100 r.2.2.2.1, IA E 100 r.2.2.2.2.1, IA E 21 r.2.2.2.2.2.1, JA E 6 r.2.2.2.2.2.2.1, IA E 100 t_row, JA E 6 t_sums, IA E 4 r.2.2.2.2.2.2.2.1, IA E 5 r.2.2.2.2.2.2.2.2] h) n (inI r.1 ∧ inI r.2.1 ∧ okA r.2.2.1 ∧ okA r.2.2.2.1 ∧ okA r.2.2.2.2.1 ∧ okA r.2.2.2.2.2.1 ∧ okJ r.2.2.2.2.2.2.1 ∧ okA r.2.2.2.2.2.2.2.1 ∧ okA r.2.2.2.2.2.2.2.2) 0 0) 0 0 n (ov [a_t, (a_t + 6), (a_t + 8), (a_t + 9), (a_t + 10), (a_t + 24), (a_t + 25), (a_t + 26), (a_t + 27), (a_t + 28), (a_t + 29), (a_t + 31), (a_t + 38), (a_t + 39)] [.inr (11, fsX11 a_t t_thrown t_taped t_p t_fault t_baseLow t_baseHigh t_newBaseLow t_newBaseHigh t_from t_knots t_lines t_chosen t_undos t_redos t_aimedMany t_fits t_fitOf t_sights t_systems t_own t_cross t_curveLong t_wallFirst), IA E 21 t_push, IA E 100 t_speckLow, IA E 100 t_speckHigh, IA E 100 t_sourceHold, IA E 100 t_cur, IA E 100 t_was, IA E 100 t_feel, IA E 21 t_pushAt, JA E 6 t_curSum, IA E 100 t_row, JA E 6 t_sums, IA E 4 t_pull, IA E 5 t_aimed] h) 99 [none, none, none, none, none, none, none, none, none, none, none, none, none, none, none, none, none, none, none, none] [] := by
  rw [m_X11_aim_99] at hs
  refine g_iconst e_X11_aim_99 ?_
  obtain rfl := Option.some.inj hs
  exact g_iret rfl ⟨(by decide : inI (-1)), ok_t_aimedMany, ok_t_cur, ok_t_was, ok_t_feel, ok_t_pushAt, ok_t_curSum, ok_t_pull, ok_t_aimed⟩ e_X11_aim_100

noncomputable def m_X11_aim_0 (t_baseLow : Int) (t_baseHigh : Int) (t_aimedMany : Int) (t_push : Nat → Int) (t_speckLow : Nat → Int) (t_speckHigh : Nat → Int) (t_sourceHold : Nat → Int) (t_cur : Nat → Int) (t_was : Nat → Int) (t_feel : Nat → Int) (t_pushAt : Nat → Int) (t_curSum : Nat → Int) (t_row : Nat → Int) (t_sums : Nat → Int) (t_pull : Nat → Int) (t_aimed : Nat → Int) (v1 : Int) (v2 : Int) (v3 : Int) (v4 : Int) (v5 : Int) (v6 : Int) (v7 : Int) : Option (Int × Int × (Nat → Int) × (Nat → Int) × (Nat → Int) × (Nat → Int) × (Nat → Int) × (Nat → Int) × (Nat → Int)) :=
  chk (inB 0 4) (chk (inB 1 4) (chk (inB 2 4) (chk (inB 3 4) ((m_X11_in v1 1 4).bind (fun y5 => if y5 = 0 then (some ((-1), t_aimedMany, t_cur, t_was, t_feel, t_pushAt, t_curSum, up (up (up (up t_pull (Int.toNat 0) v2) (Int.toNat 1) v3) (Int.toNat 2) v4) (Int.toNat 3) v5, t_aimed)) else ((m_X11_in v6 1 20).bind (fun y6 => if y6 = 0 then (some ((-1), t_aimedMany, t_cur, t_was, t_feel, t_pushAt, t_curSum, up (up (up (up t_pull (Int.toNat 0) v2) (Int.toNat 1) v3) (Int.toNat 2) v4) (Int.toNat 3) v5, t_aimed)) else ((m_X11_in v7 (-1000) 1000).bind (fun y7 => if y7 = 0 then (some ((-1), t_aimedMany, t_cur, t_was, t_feel, t_pushAt, t_curSum, up (up (up (up t_pull (Int.toNat 0) v2) (Int.toNat 1) v3) (Int.toNat 2) v4) (Int.toNat 3) v5, t_aimed)) else (if v7 = 0 then (some ((-1), t_aimedMany, t_cur, t_was, t_feel, t_pushAt, t_curSum, up (up (up (up t_pull (Int.toNat 0) v2) (Int.toNat 1) v3) (Int.toNat 2) v4) (Int.toNat 3) v5, t_aimed)) else (m_X11_aim_74 (up (up (up (up t_pull (Int.toNat 0) v2) (Int.toNat 1) v3) (Int.toNat 2) v4) (Int.toNat 3) v5) v1 (fun v8' => m_X11_aim_107 t_baseLow t_baseHigh t_aimedMany t_push t_speckLow t_speckHigh t_sourceHold t_cur t_was t_feel t_pushAt t_curSum t_row t_sums (up (up (up (up t_pull (Int.toNat 0) v2) (Int.toNat 1) v3) (Int.toNat 2) v4) (Int.toNat 3) v5) t_aimed v1 v6 v7) (fun v8' => m_X11_aim_99 t_aimedMany t_cur t_was t_feel t_pushAt t_curSum (up (up (up (up t_pull (Int.toNat 0) v2) (Int.toNat 1) v3) (Int.toNat 2) v4) (Int.toNat 3) v5) t_aimed) FU 0)))))))))))

set_option maxRecDepth 10000 in
set_option maxHeartbeats 8000000 in
theorem g_X11_aim_0 {l : Launch} {E : EE} {b0 n : Nat} {h : AH} {a_t : Nat} {t_thrown t_taped t_p t_fault t_baseLow t_baseHigh t_newBaseLow t_newBaseHigh t_from t_knots t_lines t_chosen t_undos t_redos t_aimedMany t_fits t_fitOf t_sights t_systems t_own t_cross t_curveLong t_wallFirst v1 v2 v3 v4 v5 v6 v7 : Int} {t_push t_speckLow t_speckHigh t_sourceHold t_cur t_was t_feel t_pushAt t_curSum t_row t_sums t_pull t_aimed : Nat → Int} {r : Int × Int × (Nat → Int) × (Nat → Int) × (Nat → Int) × (Nat → Int) × (Nat → Int) × (Nat → Int) × (Nat → Int)} (ao : AO b0 n [a_t, (a_t + 6), (a_t + 8), (a_t + 9), (a_t + 10), (a_t + 24), (a_t + 25), (a_t + 26), (a_t + 27), (a_t + 28), (a_t + 29), (a_t + 31), (a_t + 38), (a_t + 39)]) (ok_t_baseLow : inI t_baseLow) (ok_t_baseHigh : inI t_baseHigh) (ok_t_aimedMany : inI t_aimedMany) (ok_t_push : okA t_push) (ok_t_speckLow : okA t_speckLow) (ok_t_speckHigh : okA t_speckHigh) (ok_t_sourceHold : okA t_sourceHold) (ok_t_cur : okA t_cur) (ok_t_was : okA t_was) (ok_t_feel : okA t_feel) (ok_t_pushAt : okA t_pushAt) (ok_t_curSum : okJ t_curSum) (ok_t_row : okA t_row) (ok_t_sums : okJ t_sums) (ok_t_pull : okA t_pull) (ok_t_aimed : okA t_aimed) (ok_v1 : inI v1) (ok_v2 : inI v2) (ok_v3 : inI v3) (ok_v4 : inI v4) (ok_v5 : inI v5) (ok_v6 : inI v6) (ok_v7 : inI v7) (hs : m_X11_aim_0 t_baseLow t_baseHigh t_aimedMany t_push t_speckLow t_speckHigh t_sourceHold t_cur t_was t_feel t_pushAt t_curSum t_row t_sums t_pull t_aimed v1 v2 v3 v4 v5 v6 v7 = some r) : G l E b0 M_X11_aim (fun _ => True) (ZM E b0 (some (vI r.1)) (ov [a_t, (a_t + 6), (a_t + 8), (a_t + 9), (a_t + 10), (a_t + 24), (a_t + 25), (a_t + 26), (a_t + 27), (a_t + 28), (a_t + 29), (a_t + 31), (a_t + 38), (a_t + 39)] [.inr (11, fsX11 a_t t_thrown t_taped t_p t_fault t_baseLow t_baseHigh t_newBaseLow t_newBaseHigh t_from t_knots t_lines t_chosen t_undos t_redos r.2.1 t_fits t_fitOf t_sights t_systems t_own t_cross t_curveLong t_wallFirst), IA E 21 t_push, IA E 100 t_speckLow, IA E 100 t_speckHigh, IA E 100 t_sourceHold, IA E 100 r.2.2.1, IA E 100 r.2.2.2.1, IA E 100 r.2.2.2.2.1, IA E 21 r.2.2.2.2.2.1, JA E 6 r.2.2.2.2.2.2.1, IA E 100 t_row, JA E 6 t_sums, IA E 4 r.2.2.2.2.2.2.2.1, IA E 5 r.2.2.2.2.2.2.2.2] h) n (inI r.1 ∧ inI r.2.1 ∧ okA r.2.2.1 ∧ okA r.2.2.2.1 ∧ okA r.2.2.2.2.1 ∧ okA r.2.2.2.2.2.1 ∧ okJ r.2.2.2.2.2.2.1 ∧ okA r.2.2.2.2.2.2.2.1 ∧ okA r.2.2.2.2.2.2.2.2) 0 0) 0 0 n (ov [a_t, (a_t + 6), (a_t + 8), (a_t + 9), (a_t + 10), (a_t + 24), (a_t + 25), (a_t + 26), (a_t + 27), (a_t + 28), (a_t + 29), (a_t + 31), (a_t + 38), (a_t + 39)] [.inr (11, fsX11 a_t t_thrown t_taped t_p t_fault t_baseLow t_baseHigh t_newBaseLow t_newBaseHigh t_from t_knots t_lines t_chosen t_undos t_redos t_aimedMany t_fits t_fitOf t_sights t_systems t_own t_cross t_curveLong t_wallFirst), IA E 21 t_push, IA E 100 t_speckLow, IA E 100 t_speckHigh, IA E 100 t_sourceHold, IA E 100 t_cur, IA E 100 t_was, IA E 100 t_feel, IA E 21 t_pushAt, JA E 6 t_curSum, IA E 100 t_row, JA E 6 t_sums, IA E 4 t_pull, IA E 5 t_aimed] h) 0 [some (.ref a_t), some (vI v1), some (vI v2), some (vI v3), some (vI v4), some (vI v5), some (vI v6), some (vI v7), none, none, none, none, none, none, none, none, none, none, none, none] [] := by
  rw [m_X11_aim_0] at hs
  refine g_aload_n e_X11_aim_0 rfl ?_
  refine g_get 0 52 ao rfl rfl fsX11_g52 fl_X11_124 e_X11_aim_1 ?_
  refine g_iconst e_X11_aim_4 ?_
  refine g_iload_n e_X11_aim_5 rfl ?_
  refine g_iast 12 ao rfl rfl ls_12 (Nat.le_of_ble_eq_true rfl) e_X11_aim_6 hs (fun hi1 hs => ?_)
  refine g_aload_n e_X11_aim_7 rfl ?_
  refine g_get 0 52 ao rfl rfl fsX11_g52 fl_X11_124 e_X11_aim_8 ?_
  refine g_iconst e_X11_aim_11 ?_
  refine g_iload_n e_X11_aim_12 rfl ?_
  refine g_iast 12 ao rfl rfl ls_12 (Nat.le_of_ble_eq_true rfl) e_X11_aim_13 hs (fun hi2 hs => ?_)
  refine g_aload_n e_X11_aim_14 rfl ?_
  refine g_get 0 52 ao rfl rfl fsX11_g52 fl_X11_124 e_X11_aim_15 ?_
  refine g_iconst e_X11_aim_18 ?_
  refine g_iload e_X11_aim_19 rfl ?_
  refine g_iast 12 ao rfl rfl ls_12 (Nat.le_of_ble_eq_true rfl) e_X11_aim_21 hs (fun hi3 hs => ?_)
  refine g_aload_n e_X11_aim_22 rfl ?_
  refine g_get 0 52 ao rfl rfl fsX11_g52 fl_X11_124 e_X11_aim_23 ?_
  refine g_iconst e_X11_aim_26 ?_
  refine g_iload e_X11_aim_27 rfl ?_
  refine g_iast 12 ao rfl rfl ls_12 (Nat.le_of_ble_eq_true rfl) e_X11_aim_29 hs (fun hi4 hs => ?_)
  refine g_iload_n e_X11_aim_30 rfl ?_
  refine g_iconst e_X11_aim_31 ?_
  refine g_iconst e_X11_aim_32 ?_
  obtain ⟨y5, hy5, hs⟩ := bind_elim hs
  refine g_callSr [vI v1, vI 1, vI 4] cs_X11_226 ⟨rfl, rfl, Nat.le_of_ble_eq_true rfl, Nat.le_of_ble_eq_true rfl⟩ (ct_X11_in ⟨List.nodup_nil, fun i a h => by simp at h⟩ (fun i a e h => by simp at h) ok_v1 (by decide : inI 1) (by decide : inI 4) hy5) e_X11_aim_33 rfl rfl (Nat.le_of_ble_eq_true rfl) ⟨Nat.le_refl _, Nat.le_refl _⟩ (fun Py5 => ?_)
  refine g_if_eq e_X11_aim_36 (inZ_I Py5) hs (fun c36 hs => ?_) (fun c36 hs => ?_)
  · refine g_iconst e_X11_aim_69 ?_
    obtain rfl := Option.some.inj hs
    exact g_iret rfl ⟨(by decide : inI (-1)), ok_t_aimedMany, ok_t_cur, ok_t_was, ok_t_feel, ok_t_pushAt, ok_t_curSum, (okA_up (okA_up (okA_up (okA_up ok_t_pull ok_v2) ok_v3) ok_v4) ok_v5), ok_t_aimed⟩ e_X11_aim_70
  · refine g_iload e_X11_aim_39 rfl ?_
    refine g_iconst e_X11_aim_41 ?_
    refine g_bipush e_X11_aim_42 bp_20 ?_
    obtain ⟨y6, hy6, hs⟩ := bind_elim hs
    refine g_callSr [vI v6, vI 1, vI 20] cs_X11_226 ⟨rfl, rfl, Nat.le_of_ble_eq_true rfl, Nat.le_of_ble_eq_true rfl⟩ (ct_X11_in ⟨List.nodup_nil, fun i a h => by simp at h⟩ (fun i a e h => by simp at h) ok_v6 (by decide : inI 1) (by decide : inI 20) hy6) e_X11_aim_44 rfl rfl (Nat.le_of_ble_eq_true rfl) ⟨Nat.le_refl _, Nat.le_refl _⟩ (fun Py6 => ?_)
    refine g_if_eq e_X11_aim_47 (inZ_I Py6) hs (fun c47 hs => ?_) (fun c47 hs => ?_)
    · refine g_iconst e_X11_aim_69 ?_
      obtain rfl := Option.some.inj hs
      exact g_iret rfl ⟨(by decide : inI (-1)), ok_t_aimedMany, ok_t_cur, ok_t_was, ok_t_feel, ok_t_pushAt, ok_t_curSum, (okA_up (okA_up (okA_up (okA_up ok_t_pull ok_v2) ok_v3) ok_v4) ok_v5), ok_t_aimed⟩ e_X11_aim_70
    · refine g_iload e_X11_aim_50 rfl ?_
      refine g_sipush e_X11_aim_52 sp_m1000 ?_
      refine g_sipush e_X11_aim_55 sp_1000 ?_
      obtain ⟨y7, hy7, hs⟩ := bind_elim hs
      refine g_callSr [vI v7, vI (-1000), vI 1000] cs_X11_226 ⟨rfl, rfl, Nat.le_of_ble_eq_true rfl, Nat.le_of_ble_eq_true rfl⟩ (ct_X11_in ⟨List.nodup_nil, fun i a h => by simp at h⟩ (fun i a e h => by simp at h) ok_v7 (by decide : inI (-1000)) (by decide : inI 1000) hy7) e_X11_aim_58 rfl rfl (Nat.le_of_ble_eq_true rfl) ⟨Nat.le_refl _, Nat.le_refl _⟩ (fun Py7 => ?_)
      refine g_if_eq e_X11_aim_61 (inZ_I Py7) hs (fun c61 hs => ?_) (fun c61 hs => ?_)
      · refine g_iconst e_X11_aim_69 ?_
        obtain rfl := Option.some.inj hs
        exact g_iret rfl ⟨(by decide : inI (-1)), ok_t_aimedMany, ok_t_cur, ok_t_was, ok_t_feel, ok_t_pushAt, ok_t_curSum, (okA_up (okA_up (okA_up (okA_up ok_t_pull ok_v2) ok_v3) ok_v4) ok_v5), ok_t_aimed⟩ e_X11_aim_70
      · refine g_iload e_X11_aim_64 rfl ?_
        refine g_if_ne e_X11_aim_66 ok_v7 hs (fun c66 hs => ?_) (fun c66 hs => ?_)
        · refine g_iconst e_X11_aim_69 ?_
          obtain rfl := Option.some.inj hs
          exact g_iret rfl ⟨(by decide : inI (-1)), ok_t_aimedMany, ok_t_cur, ok_t_was, ok_t_feel, ok_t_pushAt, ok_t_curSum, (okA_up (okA_up (okA_up (okA_up ok_t_pull ok_v2) ok_v3) ok_v4) ok_v5), ok_t_aimed⟩ e_X11_aim_70
        · refine g_iconst e_X11_aim_71 ?_
          refine g_istore e_X11_aim_72 st1_8 rfl ?_
          exact g_mask [true, true, false, false, false, false, true, true, true, true, true, true, true, true, true, true, true, true, true, true] (g_X11_aim_74 ao ok_t_baseLow ok_t_baseHigh ok_t_aimedMany ok_t_push ok_t_speckLow ok_t_speckHigh ok_t_sourceHold ok_t_cur ok_t_was ok_t_feel ok_t_pushAt ok_t_curSum ok_t_row ok_t_sums (okA_up (okA_up (okA_up (okA_up ok_t_pull ok_v2) ok_v3) ok_v4) ok_v5) ok_t_aimed ok_v1 ok_v6 ok_v7 (hk_107 := by
      intro v8' ok_v8' hs
      exact g_X11_aim_107 ao ok_t_baseLow ok_t_baseHigh ok_t_aimedMany ok_t_push ok_t_speckLow ok_t_speckHigh ok_t_sourceHold ok_t_cur ok_t_was ok_t_feel ok_t_pushAt ok_t_curSum ok_t_row ok_t_sums (okA_up (okA_up (okA_up (okA_up ok_t_pull ok_v2) ok_v3) ok_v4) ok_v5) ok_t_aimed ok_v1 ok_v6 ok_v7 hs) (hk_99 := by
      intro v8' ok_v8' hs
      exact g_X11_aim_99 ao ok_t_baseLow ok_t_baseHigh ok_t_aimedMany ok_t_push ok_t_speckLow ok_t_speckHigh ok_t_sourceHold ok_t_cur ok_t_was ok_t_feel ok_t_pushAt ok_t_curSum ok_t_row ok_t_sums (okA_up (okA_up (okA_up (okA_up ok_t_pull ok_v2) ok_v3) ok_v4) ok_v5) ok_t_aimed hs) FU _ (by decide : inI 0) hs)

noncomputable def m_X11_aim (t_baseLow : Int) (t_baseHigh : Int) (t_aimedMany : Int) (t_push : Nat → Int) (t_speckLow : Nat → Int) (t_speckHigh : Nat → Int) (t_sourceHold : Nat → Int) (t_cur : Nat → Int) (t_was : Nat → Int) (t_feel : Nat → Int) (t_pushAt : Nat → Int) (t_curSum : Nat → Int) (t_row : Nat → Int) (t_sums : Nat → Int) (t_pull : Nat → Int) (t_aimed : Nat → Int) (v1 : Int) (v2 : Int) (v3 : Int) (v4 : Int) (v5 : Int) (v6 : Int) (v7 : Int) : Option (Int × Int × (Nat → Int) × (Nat → Int) × (Nat → Int) × (Nat → Int) × (Nat → Int) × (Nat → Int) × (Nat → Int)) := m_X11_aim_0 t_baseLow t_baseHigh t_aimedMany t_push t_speckLow t_speckHigh t_sourceHold t_cur t_was t_feel t_pushAt t_curSum t_row t_sums t_pull t_aimed v1 v2 v3 v4 v5 v6 v7

set_option maxRecDepth 10000 in
set_option maxHeartbeats 8000000 in
theorem ct_X11_aim {l : Launch} {E : EE} {b0 n : Nat} {h : AH} {a_t : Nat} {t_thrown t_taped t_p t_fault t_baseLow t_baseHigh t_newBaseLow t_newBaseHigh t_from t_knots t_lines t_chosen t_undos t_redos t_aimedMany t_fits t_fitOf t_sights t_systems t_own t_cross t_curveLong t_wallFirst : Int} {t_push t_speckLow t_speckHigh t_sourceHold t_cur t_was t_feel t_pushAt t_curSum t_row t_sums t_pull t_aimed : Nat → Int} {v1 v2 v3 v4 v5 v6 v7 : Int} (ao : AO b0 n [a_t, (a_t + 6), (a_t + 8), (a_t + 9), (a_t + 10), (a_t + 24), (a_t + 25), (a_t + 26), (a_t + 27), (a_t + 28), (a_t + 29), (a_t + 31), (a_t + 38), (a_t + 39)]) (hf : FA h [a_t, (a_t + 6), (a_t + 8), (a_t + 9), (a_t + 10), (a_t + 24), (a_t + 25), (a_t + 26), (a_t + 27), (a_t + 28), (a_t + 29), (a_t + 31), (a_t + 38), (a_t + 39)] [.inr (11, fsX11 a_t t_thrown t_taped t_p t_fault t_baseLow t_baseHigh t_newBaseLow t_newBaseHigh t_from t_knots t_lines t_chosen t_undos t_redos t_aimedMany t_fits t_fitOf t_sights t_systems t_own t_cross t_curveLong t_wallFirst), IA E 21 t_push, IA E 100 t_speckLow, IA E 100 t_speckHigh, IA E 100 t_sourceHold, IA E 100 t_cur, IA E 100 t_was, IA E 100 t_feel, IA E 21 t_pushAt, JA E 6 t_curSum, IA E 100 t_row, JA E 6 t_sums, IA E 4 t_pull, IA E 5 t_aimed]) (ok_t_baseLow : inI t_baseLow) (ok_t_baseHigh : inI t_baseHigh) (ok_t_aimedMany : inI t_aimedMany) (ok_t_push : okA t_push) (ok_t_speckLow : okA t_speckLow) (ok_t_speckHigh : okA t_speckHigh) (ok_t_sourceHold : okA t_sourceHold) (ok_t_cur : okA t_cur) (ok_t_was : okA t_was) (ok_t_feel : okA t_feel) (ok_t_pushAt : okA t_pushAt) (ok_t_curSum : okJ t_curSum) (ok_t_row : okA t_row) (ok_t_sums : okJ t_sums) (ok_t_pull : okA t_pull) (ok_t_aimed : okA t_aimed) (ok_v1 : inI v1) (ok_v2 : inI v2) (ok_v3 : inI v3) (ok_v4 : inI v4) (ok_v5 : inI v5) (ok_v6 : inI v6) (ok_v7 : inI v7) {r : Int × Int × (Nat → Int) × (Nat → Int) × (Nat → Int) × (Nat → Int) × (Nat → Int) × (Nat → Int) × (Nat → Int)} (hm : m_X11_aim t_baseLow t_baseHigh t_aimedMany t_push t_speckLow t_speckHigh t_sourceHold t_cur t_was t_feel t_pushAt t_curSum t_row t_sums t_pull t_aimed v1 v2 v3 v4 v5 v6 v7 = some r) : Ct l E b0 M_X11_aim 0 0 [.ref a_t, vI v1, vI v2, vI v3, vI v4, vI v5, vI v6, vI v7] h n (some (vI r.1)) (ov [a_t, (a_t + 6), (a_t + 8), (a_t + 9), (a_t + 10), (a_t + 24), (a_t + 25), (a_t + 26), (a_t + 27), (a_t + 28), (a_t + 29), (a_t + 31), (a_t + 38), (a_t + 39)] [.inr (11, fsX11 a_t t_thrown t_taped t_p t_fault t_baseLow t_baseHigh t_newBaseLow t_newBaseHigh t_from t_knots t_lines t_chosen t_undos t_redos r.2.1 t_fits t_fitOf t_sights t_systems t_own t_cross t_curveLong t_wallFirst), IA E 21 t_push, IA E 100 t_speckLow, IA E 100 t_speckHigh, IA E 100 t_sourceHold, IA E 100 r.2.2.1, IA E 100 r.2.2.2.1, IA E 100 r.2.2.2.2.1, IA E 21 r.2.2.2.2.2.1, JA E 6 r.2.2.2.2.2.2.1, IA E 100 t_row, JA E 6 t_sums, IA E 4 r.2.2.2.2.2.2.2.1, IA E 5 r.2.2.2.2.2.2.2.2] h) n (inI r.1 ∧ inI r.2.1 ∧ okA r.2.2.1 ∧ okA r.2.2.2.1 ∧ okA r.2.2.2.2.1 ∧ okA r.2.2.2.2.2.1 ∧ okJ r.2.2.2.2.2.2.1 ∧ okA r.2.2.2.2.2.2.2.1 ∧ okA r.2.2.2.2.2.2.2.2) := by
  rw [m_X11_aim] at hm
  have hg : G l E b0 M_X11_aim (fun _ => True) (ZM E b0 (some (vI r.1)) (ov [a_t, (a_t + 6), (a_t + 8), (a_t + 9), (a_t + 10), (a_t + 24), (a_t + 25), (a_t + 26), (a_t + 27), (a_t + 28), (a_t + 29), (a_t + 31), (a_t + 38), (a_t + 39)] [.inr (11, fsX11 a_t t_thrown t_taped t_p t_fault t_baseLow t_baseHigh t_newBaseLow t_newBaseHigh t_from t_knots t_lines t_chosen t_undos t_redos r.2.1 t_fits t_fitOf t_sights t_systems t_own t_cross t_curveLong t_wallFirst), IA E 21 t_push, IA E 100 t_speckLow, IA E 100 t_speckHigh, IA E 100 t_sourceHold, IA E 100 r.2.2.1, IA E 100 r.2.2.2.1, IA E 100 r.2.2.2.2.1, IA E 21 r.2.2.2.2.2.1, JA E 6 r.2.2.2.2.2.2.1, IA E 100 t_row, JA E 6 t_sums, IA E 4 r.2.2.2.2.2.2.2.1, IA E 5 r.2.2.2.2.2.2.2.2] h) n (inI r.1 ∧ inI r.2.1 ∧ okA r.2.2.1 ∧ okA r.2.2.2.1 ∧ okA r.2.2.2.2.1 ∧ okA r.2.2.2.2.2.1 ∧ okJ r.2.2.2.2.2.2.1 ∧ okA r.2.2.2.2.2.2.2.1 ∧ okA r.2.2.2.2.2.2.2.2) 0 0) 0 0 n (ov [a_t, (a_t + 6), (a_t + 8), (a_t + 9), (a_t + 10), (a_t + 24), (a_t + 25), (a_t + 26), (a_t + 27), (a_t + 28), (a_t + 29), (a_t + 31), (a_t + 38), (a_t + 39)] [.inr (11, fsX11 a_t t_thrown t_taped t_p t_fault t_baseLow t_baseHigh t_newBaseLow t_newBaseHigh t_from t_knots t_lines t_chosen t_undos t_redos t_aimedMany t_fits t_fitOf t_sights t_systems t_own t_cross t_curveLong t_wallFirst), IA E 21 t_push, IA E 100 t_speckLow, IA E 100 t_speckHigh, IA E 100 t_sourceHold, IA E 100 t_cur, IA E 100 t_was, IA E 100 t_feel, IA E 21 t_pushAt, JA E 6 t_curSum, IA E 100 t_row, JA E 6 t_sums, IA E 4 t_pull, IA E 5 t_aimed] h) 0 [some (.ref a_t), some (vI v1), some (vI v2), some (vI v3), some (vI v4), some (vI v5), some (vI v6), some (vI v7), none, none, none, none, none, none, none, none, none, none, none, none] [] := by
    have hs := hm
    exact g_X11_aim_0 ao ok_t_baseLow ok_t_baseHigh ok_t_aimedMany ok_t_push ok_t_speckLow ok_t_speckHigh ok_t_sourceHold ok_t_cur ok_t_was ok_t_feel ok_t_pushAt ok_t_curSum ok_t_row ok_t_sums ok_t_pull ok_t_aimed ok_v1 ok_v2 ok_v3 ok_v4 ok_v5 ok_v6 ok_v7 hs
  rw [FA_id hf] at hg
  exact Ct_of [some (.ref a_t), some (vI v1), some (vI v2), some (vI v3), some (vI v4), some (vI v5), some (vI v6), some (vI v7), none, none, none, none, none, none, none, none, none, none, none, none] ⟨by decide +kernel, rfl⟩ rfl (Nat.le_of_ble_eq_true rfl) hg


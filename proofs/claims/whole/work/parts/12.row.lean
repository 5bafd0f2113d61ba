def M_X6_standAs : MB := (yX6_standAs, cX6_standAs, 2, none, ({ frames := 5, cells := 0, slots := 0, locals := 93 } : Room), RX6)
def M_X6_becomes : MB := (yX6_becomes, cX6_becomes, 2, none, ({ frames := 6, cells := 0, slots := 0, locals := 114 } : Room), RX6)
def M_X6_standsAs : MB := (yX6_standsAs, cX6_standsAs, 3, (some .boolean), ({ frames := 1, cells := 0, slots := 0, locals := 40 } : Room), RX6)
def M_X6_signAt : MB := (yX6_signAt, cX6_signAt, 2, (some .int), ({ frames := 1, cells := 0, slots := 0, locals := 40 } : Room), RX6)
def M_X6_isFree : MB := (yX6_isFree, cX6_isFree, 2, (some .boolean), ({ frames := 1, cells := 0, slots := 0, locals := 40 } : Room), RX6)
def M_X6_forceAt : MB := (yX6_forceAt, cX6_forceAt, 8, (some .int), ({ frames := 1, cells := 0, slots := 0, locals := 40 } : Room), RX6)
def M_X6_feelAll : MB := (yX6_feelAll, cX6_feelAll, 5, (some .int), ({ frames := 2, cells := 0, slots := 0, locals := 67 } : Room), RX6)
def M_X6_give : MB := (yX6_give, cX6_give, 7, none, ({ frames := 2, cells := 0, slots := 0, locals := 67 } : Room), RX6)
def M_X6_drop : MB := (yX6_drop, cX6_drop, 1, none, ({ frames := 2, cells := 0, slots := 0, locals := 63 } : Room), RX6)
def M_X6_bring : MB := (yX6_bring, cX6_bring, 3, (some .boolean), ({ frames := 2, cells := 0, slots := 0, locals := 61 } : Room), RX6)
def M_X6_go : MB := (yX6_go, cX6_go, 8, (some .boolean), ({ frames := 2, cells := 0, slots := 0, locals := 61 } : Room), RX6)
def M_X6_shieldOf : MB := (yX6_shieldOf, cX6_shieldOf, 5, (some .int), ({ frames := 3, cells := 0, slots := 0, locals := 81 } : Room), RX6)
def M_X6_crackEnd : MB := (yX6_crackEnd, cX6_crackEnd, 8, (some .int), ({ frames := 4, cells := 0, slots := 0, locals := 105 } : Room), RX6)
def M_X6_tick : MB := (yX6_tick, cX6_tick, 11, (some .boolean), ({ frames := 3, cells := 0, slots := 0, locals := 93 } : Room), RX6)
def M_X6_runOn : MB := (yX6_runOn, cX6_runOn, 6, (some .int), ({ frames := 5, cells := 0, slots := 0, locals := 123 } : Room), RX6)
theorem cb_X10_isSign : CB M_X10_isSign 1 := ⟨GW_of 1006 (by decide +kernel) (by decide +kernel), GW_of 84 (by decide +kernel) (by decide +kernel), by decide +kernel, by decide +kernel, by decide +kernel⟩
theorem cb_X3_holdAt : CB M_X3_holdAt 2 := ⟨GW_of 800 (by decide +kernel) (by decide +kernel), GW_of 93 (by decide +kernel) (by decide +kernel), by decide +kernel, by decide +kernel, by decide +kernel⟩
theorem cb_X3_pushAt : CB M_X3_pushAt 1 := ⟨GW_of 788 (by decide +kernel) (by decide +kernel), GW_of 93 (by decide +kernel) (by decide +kernel), by decide +kernel, by decide +kernel, by decide +kernel⟩
theorem cb_X6_feelAll : CB M_X6_feelAll 2 := ⟨GW_of 1082 (by decide +kernel) (by decide +kernel), GW_of 90 (by decide +kernel) (by decide +kernel), by decide +kernel, by decide +kernel, by decide +kernel⟩
theorem cb_X6_forceAt : CB M_X6_forceAt 3 := ⟨GW_of 1045 (by decide +kernel) (by decide +kernel), GW_of 90 (by decide +kernel) (by decide +kernel), by decide +kernel, by decide +kernel, by decide +kernel⟩
theorem cb_X6_give : CB M_X6_give 3 := ⟨GW_of 1094 (by decide +kernel) (by decide +kernel), GW_of 90 (by decide +kernel) (by decide +kernel), by decide +kernel, by decide +kernel, by decide +kernel⟩
theorem cb_X6_go : CB M_X6_go 2 := ⟨GW_of 1088 (by decide +kernel) (by decide +kernel), GW_of 90 (by decide +kernel) (by decide +kernel), by decide +kernel, by decide +kernel, by decide +kernel⟩
theorem cb_X6_isFree : CB M_X6_isFree 1 := ⟨GW_of 1003 (by decide +kernel) (by decide +kernel), GW_of 90 (by decide +kernel) (by decide +kernel), by decide +kernel, by decide +kernel, by decide +kernel⟩
theorem cb_X6_shieldOf : CB M_X6_shieldOf 2 := ⟨GW_of 1418 (by decide +kernel) (by decide +kernel), GW_of 90 (by decide +kernel) (by decide +kernel), by decide +kernel, by decide +kernel, by decide +kernel⟩
theorem cb_X6_signAt : CB M_X6_signAt 1 := ⟨GW_of 1033 (by decide +kernel) (by decide +kernel), GW_of 90 (by decide +kernel) (by decide +kernel), by decide +kernel, by decide +kernel, by decide +kernel⟩
theorem cb_X6_standAs : CB M_X6_standAs 1 := ⟨GW_of 1022 (by decide +kernel) (by decide +kernel), GW_of 90 (by decide +kernel) (by decide +kernel), by decide +kernel, by decide +kernel, by decide +kernel⟩
theorem cb_X6_tick : CB M_X6_tick 4 := ⟨GW_of 1078 (by decide +kernel) (by decide +kernel), GW_of 90 (by decide +kernel) (by decide +kernel), by decide +kernel, by decide +kernel, by decide +kernel⟩
theorem jc_X6_50 : Cond.methodLink RX6 50 arraycopyName ∈ GW ∧ Cond.native arraycopyName ∈ GW ∧ Cond.static arraycopyName ∈ GW ∧ Cond.initialized "java/lang/System" ∈ GW := ⟨GW_of 1023 (by decide +kernel) (by decide +kernel), GW_of 1025 (by decide +kernel) (by decide +kernel), GW_of 1024 (by decide +kernel) (by decide +kernel), GW_of 102 (by decide +kernel) (by decide +kernel)⟩
theorem jm_X6_79 : Cond.methodLink RX6 79 Lib.Math.max.name ∈ GW ∧ Cond.static Lib.Math.max.name ∈ GW ∧ Cond.initialized "java/lang/Math" ∈ GW ∧ Cond.code Lib.Math.max.name Lib.Math.max.code 2 (some .int) ∈ GW := ⟨GW_of 1095 (by decide +kernel) (by decide +kernel), GW_of 147 (by decide +kernel) (by decide +kernel), GW_of 88 (by decide +kernel) (by decide +kernel), GW_of 148 (by decide +kernel) (by decide +kernel)⟩
theorem fl_X6_9 : FL RX6 9 6 0 := ⟨RX6, TX6, 10, rfl, by decide, rfl, Or.inl (GW_of 246 (by decide +kernel) (by decide +kernel))⟩
theorem fl_X6_27 : FL RX6 27 6 3 := ⟨RX6, TX6, 10, rfl, by decide, rfl, Or.inl (GW_of 249 (by decide +kernel) (by decide +kernel))⟩
theorem fw_X6_27 : FW RX6 27 6 3 false .int := ⟨RX6, TX6, 10, rfl, by decide, rfl, rfl, by decide +kernel, Or.inl (GW_of 249 (by decide +kernel) (by decide +kernel)), fun h => by cases h⟩
theorem fl_X6_31 : FL RX6 31 6 4 := ⟨RX6, TX6, 10, rfl, by decide, rfl, Or.inl (GW_of 252 (by decide +kernel) (by decide +kernel))⟩
theorem fw_X6_31 : FW RX6 31 6 4 false .int := ⟨RX6, TX6, 10, rfl, by decide, rfl, rfl, by decide +kernel, Or.inl (GW_of 252 (by decide +kernel) (by decide +kernel)), fun h => by cases h⟩
theorem fl_X6_34 : FL RX6 34 6 5 := ⟨RX6, TX6, 10, rfl, by decide, rfl, Or.inl (GW_of 256 (by decide +kernel) (by decide +kernel))⟩
theorem fw_X6_34 : FW RX6 34 6 5 false .int := ⟨RX6, TX6, 10, rfl, by decide, rfl, rfl, by decide +kernel, Or.inl (GW_of 256 (by decide +kernel) (by decide +kernel)), fun h => by cases h⟩
theorem fl_X6_37 : FL RX6 37 6 6 := ⟨RX6, TX6, 10, rfl, by decide, rfl, Or.inl (GW_of 258 (by decide +kernel) (by decide +kernel))⟩
theorem fw_X6_37 : FW RX6 37 6 6 false .long := ⟨RX6, TX6, 10, rfl, by decide, rfl, rfl, by decide +kernel, Or.inl (GW_of 258 (by decide +kernel) (by decide +kernel)), fun h => by cases h⟩
theorem fl_X6_41 : FL RX6 41 6 7 := ⟨RX6, TX6, 10, rfl, by decide, rfl, Or.inl (GW_of 260 (by decide +kernel) (by decide +kernel))⟩
theorem fw_X6_41 : FW RX6 41 6 7 false .int := ⟨RX6, TX6, 10, rfl, by decide, rfl, rfl, by decide +kernel, Or.inl (GW_of 260 (by decide +kernel) (by decide +kernel)), fun h => by cases h⟩
theorem fl_X6_44 : FL RX6 44 6 8 := ⟨RX6, TX6, 10, rfl, by decide, rfl, Or.inl (GW_of 263 (by decide +kernel) (by decide +kernel))⟩
theorem fw_X6_44 : FW RX6 44 6 8 false .int := ⟨RX6, TX6, 10, rfl, by decide, rfl, rfl, by decide +kernel, Or.inl (GW_of 263 (by decide +kernel) (by decide +kernel)), fun h => by cases h⟩
theorem fl_X6_47 : FL RX6 47 6 9 := ⟨RX6, TX6, 10, rfl, by decide, rfl, Or.inl (GW_of 266 (by decide +kernel) (by decide +kernel))⟩
theorem fw_X6_47 : FW RX6 47 6 9 false .int := ⟨RX6, TX6, 10, rfl, by decide, rfl, rfl, by decide +kernel, Or.inl (GW_of 266 (by decide +kernel) (by decide +kernel)), fun h => by cases h⟩
theorem fl_X6_67 : FL RX6 67 3 13 := ⟨RX3, TX3, 14, rfl, by decide, rfl, Or.inr (List.mem_of_getElem? (i := 30) (by decide +kernel))⟩
theorem fl_X6_72 : FL RX6 72 3 0 := ⟨RX3, TX3, 14, rfl, by decide, rfl, Or.inr (List.mem_of_getElem? (i := 23) (by decide +kernel))⟩
theorem fl_X6_15 : FL RX6 15 6 1 := ⟨RX6, TX6, 10, rfl, by decide, rfl, Or.inl (GW_of 247 (by decide +kernel) (by decide +kernel))⟩
theorem fl_X6_18 : FL RX6 18 6 2 := ⟨RX6, TX6, 10, rfl, by decide, rfl, Or.inl (GW_of 248 (by decide +kernel) (by decide +kernel))⟩
theorem fl_X6_117 : FL RX6 117 3 5 := ⟨RX3, TX3, 14, rfl, by decide, rfl, Or.inr (List.mem_of_getElem? (i := 24) (by decide +kernel))⟩
theorem fl_X6_96 : FL RX6 96 3 9 := ⟨RX3, TX3, 14, rfl, by decide, rfl, Or.inr (List.mem_of_getElem? (i := 27) (by decide +kernel))⟩
theorem fl_X6_99 : FL RX6 99 3 7 := ⟨RX3, TX3, 14, rfl, by decide, rfl, Or.inr (List.mem_of_getElem? (i := 25) (by decide +kernel))⟩
theorem cv_X6_56 : CV RX6 56 M_X6_standAs 1 := ⟨cb_X6_standAs, Or.inl (GW_of 1019 (by decide +kernel) (by decide +kernel)), GW_of 1020 (by decide +kernel) (by decide +kernel), GW_of 1021 (by decide +kernel) (by decide +kernel)⟩
theorem cv_X6_106 : CV RX6 106 M_X6_forceAt 3 := ⟨cb_X6_forceAt, Or.inl (GW_of 1083 (by decide +kernel) (by decide +kernel)), GW_of 1043 (by decide +kernel) (by decide +kernel), GW_of 1044 (by decide +kernel) (by decide +kernel)⟩
theorem cv_X6_60 : CV RX6 60 M_X6_isFree 1 := ⟨cb_X6_isFree, Or.inl (GW_of 1000 (by decide +kernel) (by decide +kernel)), GW_of 1001 (by decide +kernel) (by decide +kernel), GW_of 1002 (by decide +kernel) (by decide +kernel)⟩
theorem cs_X6_21 : CS RX6 21 M_J7_fill_53178 2 := ⟨cb_J7_fill_53178, Or.inl (GW_of 1054 (by decide +kernel) (by decide +kernel)), GW_of 586 (by decide +kernel) (by decide +kernel)⟩
theorem cs_X6_64 : CS RX6 64 M_X10_isSign 1 := ⟨cb_X10_isSign, Or.inr (List.mem_of_getElem? (i := 15) (by decide +kernel)), GW_of 1005 (by decide +kernel) (by decide +kernel)⟩
theorem cv_X6_110 : CV RX6 110 M_X6_signAt 1 := ⟨cb_X6_signAt, Or.inl (GW_of 1089 (by decide +kernel) (by decide +kernel)), GW_of 1031 (by decide +kernel) (by decide +kernel), GW_of 1032 (by decide +kernel) (by decide +kernel)⟩
theorem cs_X6_114 : CS RX6 114 M_X10_isPlace 1 := ⟨cb_X10_isPlace, Or.inr (List.mem_of_getElem? (i := 16) (by decide +kernel)), GW_of 725 (by decide +kernel) (by decide +kernel)⟩
theorem cv_X6_120 : CV RX6 120 M_X3_pushAt 1 := ⟨cb_X3_pushAt, Or.inl (GW_of 1419 (by decide +kernel) (by decide +kernel)), GW_of 786 (by decide +kernel) (by decide +kernel), GW_of 787 (by decide +kernel) (by decide +kernel)⟩
theorem cv_X6_123 : CV RX6 123 M_X6_shieldOf 2 := ⟨cb_X6_shieldOf, Or.inl (GW_of 1432 (by decide +kernel) (by decide +kernel)), GW_of 1416 (by decide +kernel) (by decide +kernel), GW_of 1417 (by decide +kernel) (by decide +kernel)⟩
theorem cv_X6_85 : CV RX6 85 M_X6_feelAll 2 := ⟨cb_X6_feelAll, Or.inl (GW_of 1079 (by decide +kernel) (by decide +kernel)), GW_of 1081 (by decide +kernel) (by decide +kernel), GW_of 23 (by decide +kernel) (by decide +kernel)⟩
theorem cv_X6_89 : CV RX6 89 M_X3_holdAt 2 := ⟨cb_X3_holdAt, Or.inl (GW_of 1084 (by decide +kernel) (by decide +kernel)), GW_of 798 (by decide +kernel) (by decide +kernel), GW_of 799 (by decide +kernel) (by decide +kernel)⟩
theorem cv_X6_92 : CV RX6 92 M_X6_go 2 := ⟨cb_X6_go, Or.inl (GW_of 1085 (by decide +kernel) (by decide +kernel)), GW_of 1087 (by decide +kernel) (by decide +kernel), GW_of 24 (by decide +kernel) (by decide +kernel)⟩
theorem cv_X6_102 : CV RX6 102 M_X6_give 3 := ⟨cb_X6_give, Or.inl (GW_of 1091 (by decide +kernel) (by decide +kernel)), GW_of 1093 (by decide +kernel) (by decide +kernel), GW_of 25 (by decide +kernel) (by decide +kernel)⟩
theorem cv_X6_75 : CV RX6 75 M_X6_tick 4 := ⟨cb_X6_tick, Or.inl (GW_of 1075 (by decide +kernel) (by decide +kernel)), GW_of 1076 (by decide +kernel) (by decide +kernel), GW_of 1077 (by decide +kernel) (by decide +kernel)⟩
/-! ===== X6_standAs ===== -/
theorem e_X6_standAs_0 : DC cX6_standAs 0 (.aload_n 1) 1 1 := ⟨by decide +kernel, rfl⟩
theorem e_X6_standAs_1 : DC cX6_standAs 1 (.getfield 9) 3 4 := ⟨by decide +kernel, rfl⟩
theorem e_X6_standAs_4 : DC cX6_standAs 4 (.iconst 0) 1 5 := ⟨by decide +kernel, rfl⟩
theorem e_X6_standAs_5 : DC cX6_standAs 5 (.aload_n 0) 1 6 := ⟨by decide +kernel, rfl⟩
theorem e_X6_standAs_6 : DC cX6_standAs 6 (.getfield 9) 3 9 := ⟨by decide +kernel, rfl⟩
theorem e_X6_standAs_9 : DC cX6_standAs 9 (.iconst 0) 1 10 := ⟨by decide +kernel, rfl⟩
theorem e_X6_standAs_10 : DC cX6_standAs 10 (.aload_n 0) 1 11 := ⟨by decide +kernel, rfl⟩
theorem e_X6_standAs_11 : DC cX6_standAs 11 (.getfield 9) 3 14 := ⟨by decide +kernel, rfl⟩
theorem e_X6_standAs_14 : DC cX6_standAs 14 (.arraylength) 1 15 := ⟨by decide +kernel, rfl⟩
theorem e_X6_standAs_15 : DC cX6_standAs 15 (.invokestatic 50) 3 18 := ⟨by decide +kernel, rfl⟩
theorem e_X6_standAs_18 : DC cX6_standAs 18 (.aload_n 0) 1 19 := ⟨by decide +kernel, rfl⟩
theorem e_X6_standAs_19 : DC cX6_standAs 19 (.aload_n 1) 1 20 := ⟨by decide +kernel, rfl⟩
theorem e_X6_standAs_20 : DC cX6_standAs 20 (.getfield 27) 3 23 := ⟨by decide +kernel, rfl⟩
theorem e_X6_standAs_23 : DC cX6_standAs 23 (.putfield 27) 3 26 := ⟨by decide +kernel, rfl⟩
theorem e_X6_standAs_26 : DC cX6_standAs 26 (.return_) 1 27 := ⟨by decide +kernel, rfl⟩
noncomputable def m_X6_standAs_0 (t_flaws : Int) (t_signs : Nat → Int) (p1_flaws : Int) (p1_signs : Nat → Int) : Option (Int × (Nat → Int)) :=
  chk (0 ≤ 0 ∧ 0 ≤ 0 ∧ 0 ≤ ((100 : Nat) : Int) ∧ 0 + ((100 : Nat) : Int) ≤ ((100 : Nat) : Int) ∧ 0 + ((100 : Nat) : Int) ≤ ((100 : Nat) : Int)) (some (p1_flaws, cpy p1_signs t_signs 0 0 ((100 : Nat) : Int)))

set_option maxRecDepth 10000 in
theorem g_X6_standAs_0 {l : Launch} {E : EE} {b0 n : Nat} {h : AH} {a_t a_p1 : Nat} {t_flaws t_slipped t_gone t_work t_out t_lost t_came p1_flaws p1_slipped p1_gone p1_work p1_out p1_lost p1_came : Int} {t_signs p1_signs : Nat → Int} {r : Int × (Nat → Int)} (ao : AO b0 n [a_t, (a_t + 1), a_p1, (a_p1 + 1)]) (ok_t_flaws : inI t_flaws) (ok_t_signs : okA t_signs) (ok_p1_flaws : inI p1_flaws) (ok_p1_signs : okA p1_signs) (hs : m_X6_standAs_0 t_flaws t_signs p1_flaws p1_signs = some r) : G l E b0 M_X6_standAs (fun _ => True) (ZM E b0 (none) (ov [a_t, (a_t + 1), a_p1, (a_p1 + 1)] [.inr (6, fsX6 a_t r.1 t_slipped t_gone t_work t_out t_lost t_came), IA E 100 r.2, .inr (6, fsX6 a_p1 p1_flaws p1_slipped p1_gone p1_work p1_out p1_lost p1_came), IA E 100 p1_signs] h) n (inI r.1 ∧ okA r.2) 0 0) 0 0 n (ov [a_t, (a_t + 1), a_p1, (a_p1 + 1)] [.inr (6, fsX6 a_t t_flaws t_slipped t_gone t_work t_out t_lost t_came), IA E 100 t_signs, .inr (6, fsX6 a_p1 p1_flaws p1_slipped p1_gone p1_work p1_out p1_lost p1_came), IA E 100 p1_signs] h) 0 [some (.ref a_t), some (.ref a_p1)] [] := by
  rw [m_X6_standAs_0] at hs
  refine g_aload_n e_X6_standAs_0 rfl ?_
  refine g_get 2 0 ao rfl rfl fsX6_g0 fl_X6_9 e_X6_standAs_1 ?_
  refine g_iconst e_X6_standAs_4 ?_
  refine g_aload_n e_X6_standAs_5 rfl ?_
  refine g_get 0 0 ao rfl rfl fsX6_g0 fl_X6_9 e_X6_standAs_6 ?_
  refine g_iconst e_X6_standAs_9 ?_
  refine g_aload_n e_X6_standAs_10 rfl ?_
  refine g_get 0 0 ao rfl rfl fsX6_g0 fl_X6_9 e_X6_standAs_11 ?_
  refine g_alen 1 ao rfl (Or.inl rfl) e_X6_standAs_14 ?_
  refine g_copy 3 1 jc_X6_50 ao rfl rfl rfl rfl ls_1 (Nat.le_of_ble_eq_true rfl) (Nat.le_of_ble_eq_true rfl) e_X6_standAs_15 hs (Nat.le_of_ble_eq_true rfl) (Nat.le_of_ble_eq_true rfl) (fun hi1 hs => ?_)
  refine g_aload_n e_X6_standAs_18 rfl ?_
  refine g_aload_n e_X6_standAs_19 rfl ?_
  refine g_get 2 3 ao rfl rfl fsX6_g3 fl_X6_27 e_X6_standAs_20 ?_
  refine g_put 0 3 ao rfl rfl fsX6_k3 fsX6_s3 ls_0 fw_X6_27 (fun h => by cases h) ⟨rfl, rfl⟩ e_X6_standAs_23 ?_
  obtain rfl := Option.some.inj hs
  exact g_vret rfl ⟨ok_p1_flaws, (okA_cpy ok_p1_signs ok_t_signs)⟩ e_X6_standAs_26

noncomputable def m_X6_standAs (t_flaws : Int) (t_signs : Nat → Int) (p1_flaws : Int) (p1_signs : Nat → Int) : Option (Int × (Nat → Int)) := m_X6_standAs_0 t_flaws t_signs p1_flaws p1_signs

set_option maxRecDepth 10000 in
theorem ct_X6_standAs {l : Launch} {E : EE} {b0 n : Nat} {h : AH} {a_t a_p1 : Nat} {t_flaws t_slipped t_gone t_work t_out t_lost t_came p1_flaws p1_slipped p1_gone p1_work p1_out p1_lost p1_came : Int} {t_signs p1_signs : Nat → Int} (ao : AO b0 n [a_t, (a_t + 1), a_p1, (a_p1 + 1)]) (hf : FA h [a_t, (a_t + 1), a_p1, (a_p1 + 1)] [.inr (6, fsX6 a_t t_flaws t_slipped t_gone t_work t_out t_lost t_came), IA E 100 t_signs, .inr (6, fsX6 a_p1 p1_flaws p1_slipped p1_gone p1_work p1_out p1_lost p1_came), IA E 100 p1_signs]) (ok_t_flaws : inI t_flaws) (ok_t_signs : okA t_signs) (ok_p1_flaws : inI p1_flaws) (ok_p1_signs : okA p1_signs) {r : Int × (Nat → Int)} (hm : m_X6_standAs t_flaws t_signs p1_flaws p1_signs = some r) : Ct l E b0 M_X6_standAs 0 0 [.ref a_t, .ref a_p1] h n (none) (ov [a_t, (a_t + 1), a_p1, (a_p1 + 1)] [.inr (6, fsX6 a_t r.1 t_slipped t_gone t_work t_out t_lost t_came), IA E 100 r.2, .inr (6, fsX6 a_p1 p1_flaws p1_slipped p1_gone p1_work p1_out p1_lost p1_came), IA E 100 p1_signs] h) n (inI r.1 ∧ okA r.2) := by
  rw [m_X6_standAs] at hm
  have hg : G l E b0 M_X6_standAs (fun _ => True) (ZM E b0 (none) (ov [a_t, (a_t + 1), a_p1, (a_p1 + 1)] [.inr (6, fsX6 a_t r.1 t_slipped t_gone t_work t_out t_lost t_came), IA E 100 r.2, .inr (6, fsX6 a_p1 p1_flaws p1_slipped p1_gone p1_work p1_out p1_lost p1_came), IA E 100 p1_signs] h) n (inI r.1 ∧ okA r.2) 0 0) 0 0 n (ov [a_t, (a_t + 1), a_p1, (a_p1 + 1)] [.inr (6, fsX6 a_t t_flaws t_slipped t_gone t_work t_out t_lost t_came), IA E 100 t_signs, .inr (6, fsX6 a_p1 p1_flaws p1_slipped p1_gone p1_work p1_out p1_lost p1_came), IA E 100 p1_signs] h) 0 [some (.ref a_t), some (.ref a_p1)] [] := by
    have hs := hm
    exact g_X6_standAs_0 ao ok_t_flaws ok_t_signs ok_p1_flaws ok_p1_signs hs
  rw [FA_id hf] at hg
  exact Ct_of [some (.ref a_t), some (.ref a_p1)] ⟨by decide +kernel, rfl⟩ rfl (Nat.le_of_ble_eq_true rfl) hg

/-! ===== X6_becomes ===== -/
theorem e_X6_becomes_0 : DC cX6_becomes 0 (.aload_n 0) 1 1 := ⟨by decide +kernel, rfl⟩
theorem e_X6_becomes_1 : DC cX6_becomes 1 (.aload_n 1) 1 2 := ⟨by decide +kernel, rfl⟩
theorem e_X6_becomes_2 : DC cX6_becomes 2 (.invokevirtual 56) 3 5 := ⟨by decide +kernel, rfl⟩
theorem e_X6_becomes_5 : DC cX6_becomes 5 (.aload_n 0) 1 6 := ⟨by decide +kernel, rfl⟩
theorem e_X6_becomes_6 : DC cX6_becomes 6 (.aload_n 1) 1 7 := ⟨by decide +kernel, rfl⟩
theorem e_X6_becomes_7 : DC cX6_becomes 7 (.getfield 31) 3 10 := ⟨by decide +kernel, rfl⟩
theorem e_X6_becomes_10 : DC cX6_becomes 10 (.putfield 31) 3 13 := ⟨by decide +kernel, rfl⟩
theorem e_X6_becomes_13 : DC cX6_becomes 13 (.aload_n 0) 1 14 := ⟨by decide +kernel, rfl⟩
theorem e_X6_becomes_14 : DC cX6_becomes 14 (.aload_n 1) 1 15 := ⟨by decide +kernel, rfl⟩
theorem e_X6_becomes_15 : DC cX6_becomes 15 (.getfield 34) 3 18 := ⟨by decide +kernel, rfl⟩
theorem e_X6_becomes_18 : DC cX6_becomes 18 (.putfield 34) 3 21 := ⟨by decide +kernel, rfl⟩
theorem e_X6_becomes_21 : DC cX6_becomes 21 (.aload_n 0) 1 22 := ⟨by decide +kernel, rfl⟩
theorem e_X6_becomes_22 : DC cX6_becomes 22 (.aload_n 1) 1 23 := ⟨by decide +kernel, rfl⟩
theorem e_X6_becomes_23 : DC cX6_becomes 23 (.getfield 37) 3 26 := ⟨by decide +kernel, rfl⟩
theorem e_X6_becomes_26 : DC cX6_becomes 26 (.putfield 37) 3 29 := ⟨by decide +kernel, rfl⟩
theorem e_X6_becomes_29 : DC cX6_becomes 29 (.aload_n 0) 1 30 := ⟨by decide +kernel, rfl⟩
theorem e_X6_becomes_30 : DC cX6_becomes 30 (.aload_n 1) 1 31 := ⟨by decide +kernel, rfl⟩
theorem e_X6_becomes_31 : DC cX6_becomes 31 (.getfield 41) 3 34 := ⟨by decide +kernel, rfl⟩
theorem e_X6_becomes_34 : DC cX6_becomes 34 (.putfield 41) 3 37 := ⟨by decide +kernel, rfl⟩
theorem e_X6_becomes_37 : DC cX6_becomes 37 (.aload_n 0) 1 38 := ⟨by decide +kernel, rfl⟩
theorem e_X6_becomes_38 : DC cX6_becomes 38 (.aload_n 1) 1 39 := ⟨by decide +kernel, rfl⟩
theorem e_X6_becomes_39 : DC cX6_becomes 39 (.getfield 44) 3 42 := ⟨by decide +kernel, rfl⟩
theorem e_X6_becomes_42 : DC cX6_becomes 42 (.putfield 44) 3 45 := ⟨by decide +kernel, rfl⟩
theorem e_X6_becomes_45 : DC cX6_becomes 45 (.aload_n 0) 1 46 := ⟨by decide +kernel, rfl⟩
theorem e_X6_becomes_46 : DC cX6_becomes 46 (.aload_n 1) 1 47 := ⟨by decide +kernel, rfl⟩
theorem e_X6_becomes_47 : DC cX6_becomes 47 (.getfield 47) 3 50 := ⟨by decide +kernel, rfl⟩
theorem e_X6_becomes_50 : DC cX6_becomes 50 (.putfield 47) 3 53 := ⟨by decide +kernel, rfl⟩
theorem e_X6_becomes_53 : DC cX6_becomes 53 (.return_) 1 54 := ⟨by decide +kernel, rfl⟩
noncomputable def m_X6_becomes_0 (t_flaws : Int) (t_slipped : Int) (t_gone : Int) (t_work : Int) (t_out : Int) (t_lost : Int) (t_came : Int) (t_signs : Nat → Int) (p1_flaws : Int) (p1_slipped : Int) (p1_gone : Int) (p1_work : Int) (p1_out : Int) (p1_lost : Int) (p1_came : Int) (p1_signs : Nat → Int) : Option (Int × Int × Int × Int × Int × Int × Int × (Nat → Int)) :=
  (m_X6_standAs t_flaws t_signs p1_flaws p1_signs).bind (fun y1 => some (y1.1, p1_slipped, p1_gone, p1_work, p1_out, p1_lost, p1_came, y1.2))

set_option maxRecDepth 10000 in
theorem g_X6_becomes_0 {l : Launch} {E : EE} {b0 n : Nat} {h : AH} {a_t a_p1 : Nat} {t_flaws t_slipped t_gone t_work t_out t_lost t_came p1_flaws p1_slipped p1_gone p1_work p1_out p1_lost p1_came : Int} {t_signs p1_signs : Nat → Int} {r : Int × Int × Int × Int × Int × Int × Int × (Nat → Int)} (ao : AO b0 n [a_t, (a_t + 1), a_p1, (a_p1 + 1)]) (ok_t_flaws : inI t_flaws) (ok_t_slipped : inI t_slipped) (ok_t_gone : inI t_gone) (ok_t_work : inJ t_work) (ok_t_out : inI t_out) (ok_t_lost : inI t_lost) (ok_t_came : inI t_came) (ok_t_signs : okA t_signs) (ok_p1_flaws : inI p1_flaws) (ok_p1_slipped : inI p1_slipped) (ok_p1_gone : inI p1_gone) (ok_p1_work : inJ p1_work) (ok_p1_out : inI p1_out) (ok_p1_lost : inI p1_lost) (ok_p1_came : inI p1_came) (ok_p1_signs : okA p1_signs) (hs : m_X6_becomes_0 t_flaws t_slipped t_gone t_work t_out t_lost t_came t_signs p1_flaws p1_slipped p1_gone p1_work p1_out p1_lost p1_came p1_signs = some r) : G l E b0 M_X6_becomes (fun _ => True) (ZM E b0 (none) (ov [a_t, (a_t + 1), a_p1, (a_p1 + 1)] [.inr (6, fsX6 a_t r.1 r.2.1 r.2.2.1 r.2.2.2.1 r.2.2.2.2.1 r.2.2.2.2.2.1 r.2.2.2.2.2.2.1), IA E 100 r.2.2.2.2.2.2.2, .inr (6, fsX6 a_p1 p1_flaws p1_slipped p1_gone p1_work p1_out p1_lost p1_came), IA E 100 p1_signs] h) n (inI r.1 ∧ inI r.2.1 ∧ inI r.2.2.1 ∧ inJ r.2.2.2.1 ∧ inI r.2.2.2.2.1 ∧ inI r.2.2.2.2.2.1 ∧ inI r.2.2.2.2.2.2.1 ∧ okA r.2.2.2.2.2.2.2) 0 0) 0 0 n (ov [a_t, (a_t + 1), a_p1, (a_p1 + 1)] [.inr (6, fsX6 a_t t_flaws t_slipped t_gone t_work t_out t_lost t_came), IA E 100 t_signs, .inr (6, fsX6 a_p1 p1_flaws p1_slipped p1_gone p1_work p1_out p1_lost p1_came), IA E 100 p1_signs] h) 0 [some (.ref a_t), some (.ref a_p1)] [] := by
  rw [m_X6_becomes_0] at hs
  refine g_aload_n e_X6_becomes_0 rfl ?_
  refine g_aload_n e_X6_becomes_1 rfl ?_
  obtain ⟨y1, hy1, hs⟩ := bind_elim hs
  refine g_callVv [.ref a_p1] cv_X6_56 ⟨rfl, rfl, Nat.le_of_ble_eq_true rfl, Nat.le_of_ble_eq_true rfl⟩ (Ct_heap (ct_X6_standAs (AO_call [0, 1, 2, 3] ao (by decide) rfl) (FA_call [0, 1, 2, 3] ao.1 rfl rfl) ok_t_flaws ok_t_signs ok_p1_flaws ok_p1_signs hy1) (ov_call (esn := [.inr (6, fsX6 a_t y1.1 t_slipped t_gone t_work t_out t_lost t_came), IA E 100 y1.2, .inr (6, fsX6 a_p1 p1_flaws p1_slipped p1_gone p1_work p1_out p1_lost p1_came), IA E 100 p1_signs]) [0, 1, 2, 3] ao.1 rfl rfl rfl rfl)) e_X6_becomes_2 (ao.2 0 _ rfl) (ov_get 0 ao.1 rfl rfl) rfl rfl rfl (Nat.le_of_ble_eq_true rfl) ⟨Nat.le_refl _, Nat.le_refl _⟩ (fun Py1 => ?_)
  refine g_aload_n e_X6_becomes_5 rfl ?_
  refine g_aload_n e_X6_becomes_6 rfl ?_
  refine g_get 2 4 ao rfl rfl fsX6_g4 fl_X6_31 e_X6_becomes_7 ?_
  refine g_put 0 4 ao rfl rfl fsX6_k4 fsX6_s4 ls_0 fw_X6_31 (fun h => by cases h) ⟨rfl, rfl⟩ e_X6_becomes_10 ?_
  refine g_aload_n e_X6_becomes_13 rfl ?_
  refine g_aload_n e_X6_becomes_14 rfl ?_
  refine g_get 2 5 ao rfl rfl fsX6_g5 fl_X6_34 e_X6_becomes_15 ?_
  refine g_put 0 5 ao rfl rfl fsX6_k5 fsX6_s5 ls_0 fw_X6_34 (fun h => by cases h) ⟨rfl, rfl⟩ e_X6_becomes_18 ?_
  refine g_aload_n e_X6_becomes_21 rfl ?_
  refine g_aload_n e_X6_becomes_22 rfl ?_
  refine g_get 2 6 ao rfl rfl fsX6_g6 fl_X6_37 e_X6_becomes_23 ?_
  refine g_put 0 6 ao rfl rfl fsX6_k6 fsX6_s6 ls_0 fw_X6_37 (fun h => by cases h) ⟨rfl, rfl⟩ e_X6_becomes_26 ?_
  refine g_aload_n e_X6_becomes_29 rfl ?_
  refine g_aload_n e_X6_becomes_30 rfl ?_
  refine g_get 2 7 ao rfl rfl fsX6_g7 fl_X6_41 e_X6_becomes_31 ?_
  refine g_put 0 7 ao rfl rfl fsX6_k7 fsX6_s7 ls_0 fw_X6_41 (fun h => by cases h) ⟨rfl, rfl⟩ e_X6_becomes_34 ?_
  refine g_aload_n e_X6_becomes_37 rfl ?_
  refine g_aload_n e_X6_becomes_38 rfl ?_
  refine g_get 2 8 ao rfl rfl fsX6_g8 fl_X6_44 e_X6_becomes_39 ?_
  refine g_put 0 8 ao rfl rfl fsX6_k8 fsX6_s8 ls_0 fw_X6_44 (fun h => by cases h) ⟨rfl, rfl⟩ e_X6_becomes_42 ?_
  refine g_aload_n e_X6_becomes_45 rfl ?_
  refine g_aload_n e_X6_becomes_46 rfl ?_
  refine g_get 2 9 ao rfl rfl fsX6_g9 fl_X6_47 e_X6_becomes_47 ?_
  refine g_put 0 9 ao rfl rfl fsX6_k9 fsX6_s9 ls_0 fw_X6_47 (fun h => by cases h) ⟨rfl, rfl⟩ e_X6_becomes_50 ?_
  obtain rfl := Option.some.inj hs
  exact g_vret rfl ⟨Py1.1, ok_p1_slipped, ok_p1_gone, ok_p1_work, ok_p1_out, ok_p1_lost, ok_p1_came, Py1.2⟩ e_X6_becomes_53

noncomputable def m_X6_becomes (t_flaws : Int) (t_slipped : Int) (t_gone : Int) (t_work : Int) (t_out : Int) (t_lost : Int) (t_came : Int) (t_signs : Nat → Int) (p1_flaws : Int) (p1_slipped : Int) (p1_gone : Int) (p1_work : Int) (p1_out : Int) (p1_lost : Int) (p1_came : Int) (p1_signs : Nat → Int) : Option (Int × Int × Int × Int × Int × Int × Int × (Nat → Int)) := m_X6_becomes_0 t_flaws t_slipped t_gone t_work t_out t_lost t_came t_signs p1_flaws p1_slipped p1_gone p1_work p1_out p1_lost p1_came p1_signs

set_option maxRecDepth 10000 in
theorem ct_X6_becomes {l : Launch} {E : EE} {b0 n : Nat} {h : AH} {a_t a_p1 : Nat} {t_flaws t_slipped t_gone t_work t_out t_lost t_came p1_flaws p1_slipped p1_gone p1_work p1_out p1_lost p1_came : Int} {t_signs p1_signs : Nat → Int} (ao : AO b0 n [a_t, (a_t + 1), a_p1, (a_p1 + 1)]) (hf : FA h [a_t, (a_t + 1), a_p1, (a_p1 + 1)] [.inr (6, fsX6 a_t t_flaws t_slipped t_gone t_work t_out t_lost t_came), IA E 100 t_signs, .inr (6, fsX6 a_p1 p1_flaws p1_slipped p1_gone p1_work p1_out p1_lost p1_came), IA E 100 p1_signs]) (ok_t_flaws : inI t_flaws) (ok_t_slipped : inI t_slipped) (ok_t_gone : inI t_gone) (ok_t_work : inJ t_work) (ok_t_out : inI t_out) (ok_t_lost : inI t_lost) (ok_t_came : inI t_came) (ok_t_signs : okA t_signs) (ok_p1_flaws : inI p1_flaws) (ok_p1_slipped : inI p1_slipped) (ok_p1_gone : inI p1_gone) (ok_p1_work : inJ p1_work) (ok_p1_out : inI p1_out) (ok_p1_lost : inI p1_lost) (ok_p1_came : inI p1_came) (ok_p1_signs : okA p1_signs) {r : Int × Int × Int × Int × Int × Int × Int × (Nat → Int)} (hm : m_X6_becomes t_flaws t_slipped t_gone t_work t_out t_lost t_came t_signs p1_flaws p1_slipped p1_gone p1_work p1_out p1_lost p1_came p1_signs = some r) : Ct l E b0 M_X6_becomes 0 0 [.ref a_t, .ref a_p1] h n (none) (ov [a_t, (a_t + 1), a_p1, (a_p1 + 1)] [.inr (6, fsX6 a_t r.1 r.2.1 r.2.2.1 r.2.2.2.1 r.2.2.2.2.1 r.2.2.2.2.2.1 r.2.2.2.2.2.2.1), IA E 100 r.2.2.2.2.2.2.2, .inr (6, fsX6 a_p1 p1_flaws p1_slipped p1_gone p1_work p1_out p1_lost p1_came), IA E 100 p1_signs] h) n (inI r.1 ∧ inI r.2.1 ∧ inI r.2.2.1 ∧ inJ r.2.2.2.1 ∧ inI r.2.2.2.2.1 ∧ inI r.2.2.2.2.2.1 ∧ inI r.2.2.2.2.2.2.1 ∧ okA r.2.2.2.2.2.2.2) := by
  rw [m_X6_becomes] at hm
  have hg : G l E b0 M_X6_becomes (fun _ => True) (ZM E b0 (none) (ov [a_t, (a_t + 1), a_p1, (a_p1 + 1)] [.inr (6, fsX6 a_t r.1 r.2.1 r.2.2.1 r.2.2.2.1 r.2.2.2.2.1 r.2.2.2.2.2.1 r.2.2.2.2.2.2.1), IA E 100 r.2.2.2.2.2.2.2, .inr (6, fsX6 a_p1 p1_flaws p1_slipped p1_gone p1_work p1_out p1_lost p1_came), IA E 100 p1_signs] h) n (inI r.1 ∧ inI r.2.1 ∧ inI r.2.2.1 ∧ inJ r.2.2.2.1 ∧ inI r.2.2.2.2.1 ∧ inI r.2.2.2.2.2.1 ∧ inI r.2.2.2.2.2.2.1 ∧ okA r.2.2.2.2.2.2.2) 0 0) 0 0 n (ov [a_t, (a_t + 1), a_p1, (a_p1 + 1)] [.inr (6, fsX6 a_t t_flaws t_slipped t_gone t_work t_out t_lost t_came), IA E 100 t_signs, .inr (6, fsX6 a_p1 p1_flaws p1_slipped p1_gone p1_work p1_out p1_lost p1_came), IA E 100 p1_signs] h) 0 [some (.ref a_t), some (.ref a_p1)] [] := by
    have hs := hm
    exact g_X6_becomes_0 ao ok_t_flaws ok_t_slipped ok_t_gone ok_t_work ok_t_out ok_t_lost ok_t_came ok_t_signs ok_p1_flaws ok_p1_slipped ok_p1_gone ok_p1_work ok_p1_out ok_p1_lost ok_p1_came ok_p1_signs hs
  rw [FA_id hf] at hg
  exact Ct_of [some (.ref a_t), some (.ref a_p1)] ⟨by decide +kernel, rfl⟩ rfl (Nat.le_of_ble_eq_true rfl) hg

/-! ===== X6_standsAs ===== -/
theorem e_X6_standsAs_0 : DC cX6_standsAs 0 (.iconst 0) 1 1 := ⟨by decide +kernel, rfl⟩
theorem e_X6_standsAs_1 : DC cX6_standsAs 1 (.istore_n 2) 1 2 := ⟨by decide +kernel, rfl⟩
theorem e_X6_standsAs_2 : DC cX6_standsAs 2 (.iload_n 2) 1 3 := ⟨by decide +kernel, rfl⟩
theorem e_X6_standsAs_3 : DC cX6_standsAs 3 (.bipush 100) 2 5 := ⟨by decide +kernel, rfl⟩
theorem e_X6_standsAs_5 : DB cX6_standsAs 5 (.if_icmp .ge 26) (26) 3 8 31 := ⟨by decide +kernel, rfl, rfl⟩
theorem e_X6_standsAs_8 : DC cX6_standsAs 8 (.aload_n 0) 1 9 := ⟨by decide +kernel, rfl⟩
theorem e_X6_standsAs_9 : DC cX6_standsAs 9 (.getfield 9) 3 12 := ⟨by decide +kernel, rfl⟩
theorem e_X6_standsAs_12 : DC cX6_standsAs 12 (.iload_n 2) 1 13 := ⟨by decide +kernel, rfl⟩
theorem e_X6_standsAs_13 : DC cX6_standsAs 13 (.iaload) 1 14 := ⟨by decide +kernel, rfl⟩
theorem e_X6_standsAs_14 : DC cX6_standsAs 14 (.aload_n 1) 1 15 := ⟨by decide +kernel, rfl⟩
theorem e_X6_standsAs_15 : DC cX6_standsAs 15 (.getfield 9) 3 18 := ⟨by decide +kernel, rfl⟩
theorem e_X6_standsAs_18 : DC cX6_standsAs 18 (.iload_n 2) 1 19 := ⟨by decide +kernel, rfl⟩
theorem e_X6_standsAs_19 : DC cX6_standsAs 19 (.iaload) 1 20 := ⟨by decide +kernel, rfl⟩
theorem e_X6_standsAs_20 : DB cX6_standsAs 20 (.if_icmp .eq 5) (5) 3 23 25 := ⟨by decide +kernel, rfl, rfl⟩
theorem e_X6_standsAs_23 : DC cX6_standsAs 23 (.iconst 0) 1 24 := ⟨by decide +kernel, rfl⟩
theorem e_X6_standsAs_24 : DC cX6_standsAs 24 (.ireturn) 1 25 := ⟨by decide +kernel, rfl⟩
theorem e_X6_standsAs_25 : DC cX6_standsAs 25 (.iinc 2 1) 3 28 := ⟨by decide +kernel, rfl⟩
theorem e_X6_standsAs_28 : DB cX6_standsAs 28 (.goto (-26)) (-26) 3 31 2 := ⟨by decide +kernel, rfl, rfl⟩
theorem e_X6_standsAs_31 : DC cX6_standsAs 31 (.iconst 1) 1 32 := ⟨by decide +kernel, rfl⟩
theorem e_X6_standsAs_32 : DC cX6_standsAs 32 (.ireturn) 1 33 := ⟨by decide +kernel, rfl⟩
noncomputable def m_X6_standsAs_2 (t_signs : Nat → Int) (p1_signs : Nat → Int) (k_31 : Int → Option (Int)) (k_23 : Int → Option (Int)) : Nat → Int → Option (Int)
  | 0, _ => none
  | F + 1, v2 => if 100 ≤ v2 then (some (1)) else (chk (inB v2 100) (chk (inB v2 100) (if (t_signs (Int.toNat v2)) = (p1_signs (Int.toNat v2)) then (chk (inI (v2 + 1)) (m_X6_standsAs_2 t_signs p1_signs k_31 k_23 F (v2 + 1))) else (some (0)))))

set_option maxRecDepth 10000 in
theorem g_X6_standsAs_2 {l : Launch} {E : EE} {b0 n : Nat} {h : AH} {a_t a_p1 : Nat} {t_flaws t_slipped t_gone t_work t_out t_lost t_came p1_flaws p1_slipped p1_gone p1_work p1_out p1_lost p1_came : Int} {t_signs p1_signs : Nat → Int} {r : Int} {k_31 : Int → Option (Int)} {k_23 : Int → Option (Int)} (ao : AO b0 n [a_t, (a_t + 1), a_p1, (a_p1 + 1)]) (ok_t_signs : okA t_signs) (ok_p1_signs : okA p1_signs) (hk_31 : ∀ (v2_ : Int), inI v2_ → k_31 v2_ = some r → G l E b0 M_X6_standsAs (fun _ => True) (ZM E b0 (some (vI r)) (ov [a_t, (a_t + 1), a_p1, (a_p1 + 1)] [.inr (6, fsX6 a_t t_flaws t_slipped t_gone t_work t_out t_lost t_came), IA E 100 t_signs, .inr (6, fsX6 a_p1 p1_flaws p1_slipped p1_gone p1_work p1_out p1_lost p1_came), IA E 100 p1_signs] h) n (inZ r) 0 0) 0 0 n (ov [a_t, (a_t + 1), a_p1, (a_p1 + 1)] [.inr (6, fsX6 a_t t_flaws t_slipped t_gone t_work t_out t_lost t_came), IA E 100 t_signs, .inr (6, fsX6 a_p1 p1_flaws p1_slipped p1_gone p1_work p1_out p1_lost p1_came), IA E 100 p1_signs] h) 31 [none, none, none] []) (hk_23 : ∀ (v2_ : Int), inI v2_ → k_23 v2_ = some r → G l E b0 M_X6_standsAs (fun _ => True) (ZM E b0 (some (vI r)) (ov [a_t, (a_t + 1), a_p1, (a_p1 + 1)] [.inr (6, fsX6 a_t t_flaws t_slipped t_gone t_work t_out t_lost t_came), IA E 100 t_signs, .inr (6, fsX6 a_p1 p1_flaws p1_slipped p1_gone p1_work p1_out p1_lost p1_came), IA E 100 p1_signs] h) n (inZ r) 0 0) 0 0 n (ov [a_t, (a_t + 1), a_p1, (a_p1 + 1)] [.inr (6, fsX6 a_t t_flaws t_slipped t_gone t_work t_out t_lost t_came), IA E 100 t_signs, .inr (6, fsX6 a_p1 p1_flaws p1_slipped p1_gone p1_work p1_out p1_lost p1_came), IA E 100 p1_signs] h) 23 [none, none, none] []) :
    ∀ (F : Nat) (v2 : Int), inI v2 → m_X6_standsAs_2 t_signs p1_signs k_31 k_23 F v2 = some r → G l E b0 M_X6_standsAs (fun _ => True) (ZM E b0 (some (vI r)) (ov [a_t, (a_t + 1), a_p1, (a_p1 + 1)] [.inr (6, fsX6 a_t t_flaws t_slipped t_gone t_work t_out t_lost t_came), IA E 100 t_signs, .inr (6, fsX6 a_p1 p1_flaws p1_slipped p1_gone p1_work p1_out p1_lost p1_came), IA E 100 p1_signs] h) n (inZ r) 0 0) 0 0 n (ov [a_t, (a_t + 1), a_p1, (a_p1 + 1)] [.inr (6, fsX6 a_t t_flaws t_slipped t_gone t_work t_out t_lost t_came), IA E 100 t_signs, .inr (6, fsX6 a_p1 p1_flaws p1_slipped p1_gone p1_work p1_out p1_lost p1_came), IA E 100 p1_signs] h) 2 [some (.ref a_t), some (.ref a_p1), some (vI v2)] [] := by
  intro F
  induction F with
  | zero =>
    intro v2 ok_v2 hs
    rw [m_X6_standsAs_2] at hs
    cases hs
  | succ F ih =>
    intro v2 ok_v2 hs
    rw [m_X6_standsAs_2] at hs
    refine g_iload_n e_X6_standsAs_2 rfl ?_
    refine g_bipush e_X6_standsAs_3 bp_100 ?_
    refine g_icmp_ge e_X6_standsAs_5 ok_v2 (by decide : inI 100) hs (fun c5 hs => ?_) (fun c5 hs => ?_)
    · refine g_iconst e_X6_standsAs_31 ?_
      obtain rfl := Option.some.inj hs
      exact g_zret rfl (by decide : inZ 1) (by decide : inZ 1) e_X6_standsAs_32
    · refine g_aload_n e_X6_standsAs_8 rfl ?_
      refine g_get 0 0 ao rfl rfl fsX6_g0 fl_X6_9 e_X6_standsAs_9 ?_
      refine g_iload_n e_X6_standsAs_12 rfl ?_
      refine g_iald 1 ao rfl rfl (Nat.le_of_ble_eq_true rfl) e_X6_standsAs_13 hs (fun hi1 hs => ?_)
      refine g_aload_n e_X6_standsAs_14 rfl ?_
      refine g_get 2 0 ao rfl rfl fsX6_g0 fl_X6_9 e_X6_standsAs_15 ?_
      refine g_iload_n e_X6_standsAs_18 rfl ?_
      refine g_iald 3 ao rfl rfl (Nat.le_of_ble_eq_true rfl) e_X6_standsAs_19 hs (fun hi2 hs => ?_)
      refine g_icmp_eq e_X6_standsAs_20 (ok_t_signs _) (ok_p1_signs _) hs (fun c20 hs => ?_) (fun c20 hs => ?_)
      · refine g_iinc e_X6_standsAs_25 rfl st1_2 rfl ?_
        refine g_goto e_X6_standsAs_28 ?_
        obtain ⟨hc3, hs⟩ := chk_elim hs
        exact ih _ hc3 hs
      · refine g_iconst e_X6_standsAs_23 ?_
        obtain rfl := Option.some.inj hs
        exact g_zret rfl (by decide : inZ 0) (by decide : inZ 0) e_X6_standsAs_24

noncomputable def m_X6_standsAs_31 : Option (Int) :=
  some (1)

set_option maxRecDepth 10000 in
theorem g_X6_standsAs_31 {l : Launch} {E : EE} {b0 n : Nat} {h : AH} {a_t a_p1 : Nat} {t_flaws t_slipped t_gone t_work t_out t_lost t_came p1_flaws p1_slipped p1_gone p1_work p1_out p1_lost p1_came : Int} {t_signs p1_signs : Nat → Int} {r : Int} (ao : AO b0 n [a_t, (a_t + 1), a_p1, (a_p1 + 1)]) (ok_t_signs : okA t_signs) (ok_p1_signs : okA p1_signs) (hs : m_X6_standsAs_31 = some r) : G l E b0 M_X6_standsAs (fun _ => True) (ZM E b0 (some (vI r)) (ov [a_t, (a_t + 1), a_p1, (a_p1 + 1)] [.inr (6, fsX6 a_t t_flaws t_slipped t_gone t_work t_out t_lost t_came), IA E 100 t_signs, .inr (6, fsX6 a_p1 p1_flaws p1_slipped p1_gone p1_work p1_out p1_lost p1_came), IA E 100 p1_signs] h) n (inZ r) 0 0) 0 0 n (ov [a_t, (a_t + 1), a_p1, (a_p1 + 1)] [.inr (6, fsX6 a_t t_flaws t_slipped t_gone t_work t_out t_lost t_came), IA E 100 t_signs, .inr (6, fsX6 a_p1 p1_flaws p1_slipped p1_gone p1_work p1_out p1_lost p1_came), IA E 100 p1_signs] h) 31 [none, none, none] [] := by
  rw [m_X6_standsAs_31] at hs
  refine g_iconst e_X6_standsAs_31 ?_
  obtain rfl := Option.some.inj hs
  exact g_zret rfl (by decide : inZ 1) (by decide : inZ 1) e_X6_standsAs_32

noncomputable def m_X6_standsAs_23 : Option (Int) :=
  some (0)

set_option maxRecDepth 10000 in
theorem g_X6_standsAs_23 {l : Launch} {E : EE} {b0 n : Nat} {h : AH} {a_t a_p1 : Nat} {t_flaws t_slipped t_gone t_work t_out t_lost t_came p1_flaws p1_slipped p1_gone p1_work p1_out p1_lost p1_came : Int} {t_signs p1_signs : Nat → Int} {r : Int} (ao : AO b0 n [a_t, (a_t + 1), a_p1, (a_p1 + 1)]) (ok_t_signs : okA t_signs) (ok_p1_signs : okA p1_signs) (hs : m_X6_standsAs_23 = some r) : G l E b0 M_X6_standsAs (fun _ => True) (ZM E b0 (some (vI r)) (ov [a_t, (a_t + 1), a_p1, (a_p1 + 1)] [.inr (6, fsX6 a_t t_flaws t_slipped t_gone t_work t_out t_lost t_came), IA E 100 t_signs, .inr (6, fsX6 a_p1 p1_flaws p1_slipped p1_gone p1_work p1_out p1_lost p1_came), IA E 100 p1_signs] h) n (inZ r) 0 0) 0 0 n (ov [a_t, (a_t + 1), a_p1, (a_p1 + 1)] [.inr (6, fsX6 a_t t_flaws t_slipped t_gone t_work t_out t_lost t_came), IA E 100 t_signs, .inr (6, fsX6 a_p1 p1_flaws p1_slipped p1_gone p1_work p1_out p1_lost p1_came), IA E 100 p1_signs] h) 23 [none, none, none] [] := by
  rw [m_X6_standsAs_23] at hs
  refine g_iconst e_X6_standsAs_23 ?_
  obtain rfl := Option.some.inj hs
  exact g_zret rfl (by decide : inZ 0) (by decide : inZ 0) e_X6_standsAs_24

noncomputable def m_X6_standsAs_0 (t_signs : Nat → Int) (p1_signs : Nat → Int) : Option (Int) :=
  m_X6_standsAs_2 t_signs p1_signs (fun v2' => m_X6_standsAs_31) (fun v2' => m_X6_standsAs_23) FU 0

set_option maxRecDepth 10000 in
theorem g_X6_standsAs_0 {l : Launch} {E : EE} {b0 n : Nat} {h : AH} {a_t a_p1 : Nat} {t_flaws t_slipped t_gone t_work t_out t_lost t_came p1_flaws p1_slipped p1_gone p1_work p1_out p1_lost p1_came : Int} {t_signs p1_signs : Nat → Int} {r : Int} (ao : AO b0 n [a_t, (a_t + 1), a_p1, (a_p1 + 1)]) (ok_t_signs : okA t_signs) (ok_p1_signs : okA p1_signs) (hs : m_X6_standsAs_0 t_signs p1_signs = some r) : G l E b0 M_X6_standsAs (fun _ => True) (ZM E b0 (some (vI r)) (ov [a_t, (a_t + 1), a_p1, (a_p1 + 1)] [.inr (6, fsX6 a_t t_flaws t_slipped t_gone t_work t_out t_lost t_came), IA E 100 t_signs, .inr (6, fsX6 a_p1 p1_flaws p1_slipped p1_gone p1_work p1_out p1_lost p1_came), IA E 100 p1_signs] h) n (inZ r) 0 0) 0 0 n (ov [a_t, (a_t + 1), a_p1, (a_p1 + 1)] [.inr (6, fsX6 a_t t_flaws t_slipped t_gone t_work t_out t_lost t_came), IA E 100 t_signs, .inr (6, fsX6 a_p1 p1_flaws p1_slipped p1_gone p1_work p1_out p1_lost p1_came), IA E 100 p1_signs] h) 0 [some (.ref a_t), some (.ref a_p1), none] [] := by
  rw [m_X6_standsAs_0] at hs
  refine g_iconst e_X6_standsAs_0 ?_
  refine g_istore_n e_X6_standsAs_1 st1_2 rfl ?_
  exact g_X6_standsAs_2 ao ok_t_signs ok_p1_signs (hk_31 := by
      intro v2' ok_v2' hs
      exact g_X6_standsAs_31 ao ok_t_signs ok_p1_signs hs) (hk_23 := by
      intro v2' ok_v2' hs
      exact g_X6_standsAs_23 ao ok_t_signs ok_p1_signs hs) FU _ (by decide : inI 0) hs

noncomputable def m_X6_standsAs (t_signs : Nat → Int) (p1_signs : Nat → Int) : Option (Int) := m_X6_standsAs_0 t_signs p1_signs

set_option maxRecDepth 10000 in
theorem ct_X6_standsAs {l : Launch} {E : EE} {b0 n : Nat} {h : AH} {a_t a_p1 : Nat} {t_flaws t_slipped t_gone t_work t_out t_lost t_came p1_flaws p1_slipped p1_gone p1_work p1_out p1_lost p1_came : Int} {t_signs p1_signs : Nat → Int} (ao : AO b0 n [a_t, (a_t + 1), a_p1, (a_p1 + 1)]) (hf : FA h [a_t, (a_t + 1), a_p1, (a_p1 + 1)] [.inr (6, fsX6 a_t t_flaws t_slipped t_gone t_work t_out t_lost t_came), IA E 100 t_signs, .inr (6, fsX6 a_p1 p1_flaws p1_slipped p1_gone p1_work p1_out p1_lost p1_came), IA E 100 p1_signs]) (ok_t_signs : okA t_signs) (ok_p1_signs : okA p1_signs) {r : Int} (hm : m_X6_standsAs t_signs p1_signs = some r) : Ct l E b0 M_X6_standsAs 0 0 [.ref a_t, .ref a_p1] h n (some (vI r)) h n (inZ r) := by
  rw [m_X6_standsAs] at hm
  have hg : G l E b0 M_X6_standsAs (fun _ => True) (ZM E b0 (some (vI r)) (ov [a_t, (a_t + 1), a_p1, (a_p1 + 1)] [.inr (6, fsX6 a_t t_flaws t_slipped t_gone t_work t_out t_lost t_came), IA E 100 t_signs, .inr (6, fsX6 a_p1 p1_flaws p1_slipped p1_gone p1_work p1_out p1_lost p1_came), IA E 100 p1_signs] h) n (inZ r) 0 0) 0 0 n (ov [a_t, (a_t + 1), a_p1, (a_p1 + 1)] [.inr (6, fsX6 a_t t_flaws t_slipped t_gone t_work t_out t_lost t_came), IA E 100 t_signs, .inr (6, fsX6 a_p1 p1_flaws p1_slipped p1_gone p1_work p1_out p1_lost p1_came), IA E 100 p1_signs] h) 0 [some (.ref a_t), some (.ref a_p1), none] [] := by
    have hs := hm
    exact g_X6_standsAs_0 ao ok_t_signs ok_p1_signs hs
  rw [FA_id hf] at hg
  exact Ct_of [some (.ref a_t), some (.ref a_p1), none] ⟨by decide +kernel, rfl⟩ rfl (Nat.le_of_ble_eq_true rfl) hg

/-! ===== X6_signAt ===== -/
theorem e_X6_signAt_0 : DC cX6_signAt 0 (.iconst 0) 1 1 := ⟨by decide +kernel, rfl⟩
theorem e_X6_signAt_1 : DC cX6_signAt 1 (.iload_n 1) 1 2 := ⟨by decide +kernel, rfl⟩
theorem e_X6_signAt_2 : DB cX6_signAt 2 (.if_icmp .gt 18) (18) 3 5 20 := ⟨by decide +kernel, rfl, rfl⟩
theorem e_X6_signAt_5 : DC cX6_signAt 5 (.iload_n 1) 1 6 := ⟨by decide +kernel, rfl⟩
theorem e_X6_signAt_6 : DC cX6_signAt 6 (.bipush 100) 2 8 := ⟨by decide +kernel, rfl⟩
theorem e_X6_signAt_8 : DB cX6_signAt 8 (.if_icmp .ge 12) (12) 3 11 20 := ⟨by decide +kernel, rfl, rfl⟩
theorem e_X6_signAt_11 : DC cX6_signAt 11 (.aload_n 0) 1 12 := ⟨by decide +kernel, rfl⟩
theorem e_X6_signAt_12 : DC cX6_signAt 12 (.getfield 9) 3 15 := ⟨by decide +kernel, rfl⟩
theorem e_X6_signAt_15 : DC cX6_signAt 15 (.iload_n 1) 1 16 := ⟨by decide +kernel, rfl⟩
theorem e_X6_signAt_16 : DC cX6_signAt 16 (.iaload) 1 17 := ⟨by decide +kernel, rfl⟩
theorem e_X6_signAt_17 : DB cX6_signAt 17 (.goto 4) (4) 3 20 21 := ⟨by decide +kernel, rfl, rfl⟩
theorem e_X6_signAt_20 : DC cX6_signAt 20 (.iconst 0) 1 21 := ⟨by decide +kernel, rfl⟩
theorem e_X6_signAt_21 : DC cX6_signAt 21 (.ireturn) 1 22 := ⟨by decide +kernel, rfl⟩
noncomputable def m_X6_signAt_0 (t_signs : Nat → Int) (v1 : Int) : Option (Int) :=
  if v1 < 0 then (some (0)) else (if 100 ≤ v1 then (some (0)) else (chk (inB v1 100) (some (t_signs (Int.toNat v1)))))

set_option maxRecDepth 10000 in
theorem g_X6_signAt_0 {l : Launch} {E : EE} {b0 n : Nat} {h : AH} {a_t : Nat} {t_flaws t_slipped t_gone t_work t_out t_lost t_came v1 : Int} {t_signs : Nat → Int} {r : Int} (ao : AO b0 n [a_t, (a_t + 1)]) (ok_t_signs : okA t_signs) (ok_v1 : inI v1) (hs : m_X6_signAt_0 t_signs v1 = some r) : G l E b0 M_X6_signAt (fun _ => True) (ZM E b0 (some (vI r)) (ov [a_t, (a_t + 1)] [.inr (6, fsX6 a_t t_flaws t_slipped t_gone t_work t_out t_lost t_came), IA E 100 t_signs] h) n (inI r) 0 0) 0 0 n (ov [a_t, (a_t + 1)] [.inr (6, fsX6 a_t t_flaws t_slipped t_gone t_work t_out t_lost t_came), IA E 100 t_signs] h) 0 [some (.ref a_t), some (vI v1)] [] := by
  rw [m_X6_signAt_0] at hs
  refine g_iconst e_X6_signAt_0 ?_
  refine g_iload_n e_X6_signAt_1 rfl ?_
  refine g_icmp_gt e_X6_signAt_2 (by decide : inI 0) ok_v1 hs (fun c2 hs => ?_) (fun c2 hs => ?_)
  · refine g_iconst e_X6_signAt_20 ?_
    obtain rfl := Option.some.inj hs
    exact g_iret rfl (by decide : inI 0) e_X6_signAt_21
  · refine g_iload_n e_X6_signAt_5 rfl ?_
    refine g_bipush e_X6_signAt_6 bp_100 ?_
    refine g_icmp_ge e_X6_signAt_8 ok_v1 (by decide : inI 100) hs (fun c8 hs => ?_) (fun c8 hs => ?_)
    · refine g_iconst e_X6_signAt_20 ?_
      obtain rfl := Option.some.inj hs
      exact g_iret rfl (by decide : inI 0) e_X6_signAt_21
    · refine g_aload_n e_X6_signAt_11 rfl ?_
      refine g_get 0 0 ao rfl rfl fsX6_g0 fl_X6_9 e_X6_signAt_12 ?_
      refine g_iload_n e_X6_signAt_15 rfl ?_
      refine g_iald 1 ao rfl rfl (Nat.le_of_ble_eq_true rfl) e_X6_signAt_16 hs (fun hi1 hs => ?_)
      refine g_goto e_X6_signAt_17 ?_
      obtain rfl := Option.some.inj hs
      exact g_iret rfl (ok_t_signs _) e_X6_signAt_21

noncomputable def m_X6_signAt (t_signs : Nat → Int) (v1 : Int) : Option (Int) := m_X6_signAt_0 t_signs v1

set_option maxRecDepth 10000 in
theorem ct_X6_signAt {l : Launch} {E : EE} {b0 n : Nat} {h : AH} {a_t : Nat} {t_flaws t_slipped t_gone t_work t_out t_lost t_came : Int} {t_signs : Nat → Int} {v1 : Int} (ao : AO b0 n [a_t, (a_t + 1)]) (hf : FA h [a_t, (a_t + 1)] [.inr (6, fsX6 a_t t_flaws t_slipped t_gone t_work t_out t_lost t_came), IA E 100 t_signs]) (ok_t_signs : okA t_signs) (ok_v1 : inI v1) {r : Int} (hm : m_X6_signAt t_signs v1 = some r) : Ct l E b0 M_X6_signAt 0 0 [.ref a_t, vI v1] h n (some (vI r)) h n (inI r) := by
  rw [m_X6_signAt] at hm
  have hg : G l E b0 M_X6_signAt (fun _ => True) (ZM E b0 (some (vI r)) (ov [a_t, (a_t + 1)] [.inr (6, fsX6 a_t t_flaws t_slipped t_gone t_work t_out t_lost t_came), IA E 100 t_signs] h) n (inI r) 0 0) 0 0 n (ov [a_t, (a_t + 1)] [.inr (6, fsX6 a_t t_flaws t_slipped t_gone t_work t_out t_lost t_came), IA E 100 t_signs] h) 0 [some (.ref a_t), some (vI v1)] [] := by
    have hs := hm
    exact g_X6_signAt_0 ao ok_t_signs ok_v1 hs
  rw [FA_id hf] at hg
  exact Ct_of [some (.ref a_t), some (vI v1)] ⟨by decide +kernel, rfl⟩ rfl (Nat.le_of_ble_eq_true rfl) hg

/-! ===== X6_isFree ===== -/
theorem e_X6_isFree_0 : DC cX6_isFree 0 (.iconst 0) 1 1 := ⟨by decide +kernel, rfl⟩
theorem e_X6_isFree_1 : DC cX6_isFree 1 (.iload_n 1) 1 2 := ⟨by decide +kernel, rfl⟩
theorem e_X6_isFree_2 : DB cX6_isFree 2 (.if_icmp .gt 22) (22) 3 5 24 := ⟨by decide +kernel, rfl, rfl⟩
theorem e_X6_isFree_5 : DC cX6_isFree 5 (.iload_n 1) 1 6 := ⟨by decide +kernel, rfl⟩
theorem e_X6_isFree_6 : DC cX6_isFree 6 (.bipush 100) 2 8 := ⟨by decide +kernel, rfl⟩
theorem e_X6_isFree_8 : DB cX6_isFree 8 (.if_icmp .ge 16) (16) 3 11 24 := ⟨by decide +kernel, rfl, rfl⟩
theorem e_X6_isFree_11 : DC cX6_isFree 11 (.aload_n 0) 1 12 := ⟨by decide +kernel, rfl⟩
theorem e_X6_isFree_12 : DC cX6_isFree 12 (.getfield 9) 3 15 := ⟨by decide +kernel, rfl⟩
theorem e_X6_isFree_15 : DC cX6_isFree 15 (.iload_n 1) 1 16 := ⟨by decide +kernel, rfl⟩
theorem e_X6_isFree_16 : DC cX6_isFree 16 (.iaload) 1 17 := ⟨by decide +kernel, rfl⟩
theorem e_X6_isFree_17 : DB cX6_isFree 17 (.ifCond .ne 7) (7) 3 20 24 := ⟨by decide +kernel, rfl, rfl⟩
theorem e_X6_isFree_20 : DC cX6_isFree 20 (.iconst 1) 1 21 := ⟨by decide +kernel, rfl⟩
theorem e_X6_isFree_21 : DB cX6_isFree 21 (.goto 4) (4) 3 24 25 := ⟨by decide +kernel, rfl, rfl⟩
theorem e_X6_isFree_24 : DC cX6_isFree 24 (.iconst 0) 1 25 := ⟨by decide +kernel, rfl⟩
theorem e_X6_isFree_25 : DC cX6_isFree 25 (.ireturn) 1 26 := ⟨by decide +kernel, rfl⟩
noncomputable def m_X6_isFree_0 (t_signs : Nat → Int) (v1 : Int) : Option (Int) :=
  if v1 < 0 then (some (0)) else (if 100 ≤ v1 then (some (0)) else (chk (inB v1 100) (if (t_signs (Int.toNat v1)) = 0 then (some (1)) else (some (0)))))

set_option maxRecDepth 10000 in
theorem g_X6_isFree_0 {l : Launch} {E : EE} {b0 n : Nat} {h : AH} {a_t : Nat} {t_flaws t_slipped t_gone t_work t_out t_lost t_came v1 : Int} {t_signs : Nat → Int} {r : Int} (ao : AO b0 n [a_t, (a_t + 1)]) (ok_t_signs : okA t_signs) (ok_v1 : inI v1) (hs : m_X6_isFree_0 t_signs v1 = some r) : G l E b0 M_X6_isFree (fun _ => True) (ZM E b0 (some (vI r)) (ov [a_t, (a_t + 1)] [.inr (6, fsX6 a_t t_flaws t_slipped t_gone t_work t_out t_lost t_came), IA E 100 t_signs] h) n (inZ r) 0 0) 0 0 n (ov [a_t, (a_t + 1)] [.inr (6, fsX6 a_t t_flaws t_slipped t_gone t_work t_out t_lost t_came), IA E 100 t_signs] h) 0 [some (.ref a_t), some (vI v1)] [] := by
  rw [m_X6_isFree_0] at hs
  refine g_iconst e_X6_isFree_0 ?_
  refine g_iload_n e_X6_isFree_1 rfl ?_
  refine g_icmp_gt e_X6_isFree_2 (by decide : inI 0) ok_v1 hs (fun c2 hs => ?_) (fun c2 hs => ?_)
  · refine g_iconst e_X6_isFree_24 ?_
    obtain rfl := Option.some.inj hs
    exact g_zret rfl (by decide : inZ 0) (by decide : inZ 0) e_X6_isFree_25
  · refine g_iload_n e_X6_isFree_5 rfl ?_
    refine g_bipush e_X6_isFree_6 bp_100 ?_
    refine g_icmp_ge e_X6_isFree_8 ok_v1 (by decide : inI 100) hs (fun c8 hs => ?_) (fun c8 hs => ?_)
    · refine g_iconst e_X6_isFree_24 ?_
      obtain rfl := Option.some.inj hs
      exact g_zret rfl (by decide : inZ 0) (by decide : inZ 0) e_X6_isFree_25
    · refine g_aload_n e_X6_isFree_11 rfl ?_
      refine g_get 0 0 ao rfl rfl fsX6_g0 fl_X6_9 e_X6_isFree_12 ?_
      refine g_iload_n e_X6_isFree_15 rfl ?_
      refine g_iald 1 ao rfl rfl (Nat.le_of_ble_eq_true rfl) e_X6_isFree_16 hs (fun hi1 hs => ?_)
      refine g_if_ne e_X6_isFree_17 (ok_t_signs _) hs (fun c17 hs => ?_) (fun c17 hs => ?_)
      · refine g_iconst e_X6_isFree_20 ?_
        refine g_goto e_X6_isFree_21 ?_
        obtain rfl := Option.some.inj hs
        exact g_zret rfl (by decide : inZ 1) (by decide : inZ 1) e_X6_isFree_25
      · refine g_iconst e_X6_isFree_24 ?_
        obtain rfl := Option.some.inj hs
        exact g_zret rfl (by decide : inZ 0) (by decide : inZ 0) e_X6_isFree_25

noncomputable def m_X6_isFree (t_signs : Nat → Int) (v1 : Int) : Option (Int) := m_X6_isFree_0 t_signs v1

set_option maxRecDepth 10000 in
theorem ct_X6_isFree {l : Launch} {E : EE} {b0 n : Nat} {h : AH} {a_t : Nat} {t_flaws t_slipped t_gone t_work t_out t_lost t_came : Int} {t_signs : Nat → Int} {v1 : Int} (ao : AO b0 n [a_t, (a_t + 1)]) (hf : FA h [a_t, (a_t + 1)] [.inr (6, fsX6 a_t t_flaws t_slipped t_gone t_work t_out t_lost t_came), IA E 100 t_signs]) (ok_t_signs : okA t_signs) (ok_v1 : inI v1) {r : Int} (hm : m_X6_isFree t_signs v1 = some r) : Ct l E b0 M_X6_isFree 0 0 [.ref a_t, vI v1] h n (some (vI r)) h n (inZ r) := by
  rw [m_X6_isFree] at hm
  have hg : G l E b0 M_X6_isFree (fun _ => True) (ZM E b0 (some (vI r)) (ov [a_t, (a_t + 1)] [.inr (6, fsX6 a_t t_flaws t_slipped t_gone t_work t_out t_lost t_came), IA E 100 t_signs] h) n (inZ r) 0 0) 0 0 n (ov [a_t, (a_t + 1)] [.inr (6, fsX6 a_t t_flaws t_slipped t_gone t_work t_out t_lost t_came), IA E 100 t_signs] h) 0 [some (.ref a_t), some (vI v1)] [] := by
    have hs := hm
    exact g_X6_isFree_0 ao ok_t_signs ok_v1 hs
  rw [FA_id hf] at hg
  exact Ct_of [some (.ref a_t), some (vI v1)] ⟨by decide +kernel, rfl⟩ rfl (Nat.le_of_ble_eq_true rfl) hg

/-! ===== X6_forceAt ===== -/
theorem e_X6_forceAt_0 : DC cX6_forceAt 0 (.iload_n 3) 1 1 := ⟨by decide +kernel, rfl⟩
theorem e_X6_forceAt_1 : DC cX6_forceAt 1 (.istore 4) 2 3 := ⟨by decide +kernel, rfl⟩
theorem e_X6_forceAt_3 : DC cX6_forceAt 3 (.iconst 1) 1 4 := ⟨by decide +kernel, rfl⟩
theorem e_X6_forceAt_4 : DC cX6_forceAt 4 (.istore 5) 2 6 := ⟨by decide +kernel, rfl⟩
theorem e_X6_forceAt_6 : DC cX6_forceAt 6 (.iload 5) 2 8 := ⟨by decide +kernel, rfl⟩
theorem e_X6_forceAt_8 : DC cX6_forceAt 8 (.aload_n 1) 1 9 := ⟨by decide +kernel, rfl⟩
theorem e_X6_forceAt_9 : DC cX6_forceAt 9 (.getfield 67) 3 12 := ⟨by decide +kernel, rfl⟩
theorem e_X6_forceAt_12 : DB cX6_forceAt 12 (.if_icmp .gt 72) (72) 3 15 84 := ⟨by decide +kernel, rfl, rfl⟩
theorem e_X6_forceAt_15 : DC cX6_forceAt 15 (.iload_n 2) 1 16 := ⟨by decide +kernel, rfl⟩
theorem e_X6_forceAt_16 : DC cX6_forceAt 16 (.iload 5) 2 18 := ⟨by decide +kernel, rfl⟩
theorem e_X6_forceAt_18 : DB cX6_forceAt 18 (.if_icmp .lt 15) (15) 3 21 33 := ⟨by decide +kernel, rfl, rfl⟩
theorem e_X6_forceAt_21 : DC cX6_forceAt 21 (.aload_n 0) 1 22 := ⟨by decide +kernel, rfl⟩
theorem e_X6_forceAt_22 : DC cX6_forceAt 22 (.getfield 9) 3 25 := ⟨by decide +kernel, rfl⟩
theorem e_X6_forceAt_25 : DC cX6_forceAt 25 (.iload_n 2) 1 26 := ⟨by decide +kernel, rfl⟩
theorem e_X6_forceAt_26 : DC cX6_forceAt 26 (.iload 5) 2 28 := ⟨by decide +kernel, rfl⟩
theorem e_X6_forceAt_28 : DC cX6_forceAt 28 (.isub) 1 29 := ⟨by decide +kernel, rfl⟩
theorem e_X6_forceAt_29 : DC cX6_forceAt 29 (.iaload) 1 30 := ⟨by decide +kernel, rfl⟩
theorem e_X6_forceAt_30 : DB cX6_forceAt 30 (.goto 4) (4) 3 33 34 := ⟨by decide +kernel, rfl, rfl⟩
theorem e_X6_forceAt_33 : DC cX6_forceAt 33 (.iconst 0) 1 34 := ⟨by decide +kernel, rfl⟩
theorem e_X6_forceAt_34 : DC cX6_forceAt 34 (.istore 6) 2 36 := ⟨by decide +kernel, rfl⟩
theorem e_X6_forceAt_36 : DC cX6_forceAt 36 (.iload_n 2) 1 37 := ⟨by decide +kernel, rfl⟩
theorem e_X6_forceAt_37 : DC cX6_forceAt 37 (.iload 5) 2 39 := ⟨by decide +kernel, rfl⟩
theorem e_X6_forceAt_39 : DC cX6_forceAt 39 (.iadd) 1 40 := ⟨by decide +kernel, rfl⟩
theorem e_X6_forceAt_40 : DC cX6_forceAt 40 (.bipush 100) 2 42 := ⟨by decide +kernel, rfl⟩
theorem e_X6_forceAt_42 : DB cX6_forceAt 42 (.if_icmp .ge 15) (15) 3 45 57 := ⟨by decide +kernel, rfl, rfl⟩
theorem e_X6_forceAt_45 : DC cX6_forceAt 45 (.aload_n 0) 1 46 := ⟨by decide +kernel, rfl⟩
theorem e_X6_forceAt_46 : DC cX6_forceAt 46 (.getfield 9) 3 49 := ⟨by decide +kernel, rfl⟩
theorem e_X6_forceAt_49 : DC cX6_forceAt 49 (.iload_n 2) 1 50 := ⟨by decide +kernel, rfl⟩
theorem e_X6_forceAt_50 : DC cX6_forceAt 50 (.iload 5) 2 52 := ⟨by decide +kernel, rfl⟩
theorem e_X6_forceAt_52 : DC cX6_forceAt 52 (.iadd) 1 53 := ⟨by decide +kernel, rfl⟩
theorem e_X6_forceAt_53 : DC cX6_forceAt 53 (.iaload) 1 54 := ⟨by decide +kernel, rfl⟩
theorem e_X6_forceAt_54 : DB cX6_forceAt 54 (.goto 4) (4) 3 57 58 := ⟨by decide +kernel, rfl, rfl⟩
theorem e_X6_forceAt_57 : DC cX6_forceAt 57 (.iconst 0) 1 58 := ⟨by decide +kernel, rfl⟩
theorem e_X6_forceAt_58 : DC cX6_forceAt 58 (.istore 7) 2 60 := ⟨by decide +kernel, rfl⟩
theorem e_X6_forceAt_60 : DC cX6_forceAt 60 (.iload 4) 2 62 := ⟨by decide +kernel, rfl⟩
theorem e_X6_forceAt_62 : DC cX6_forceAt 62 (.iload 6) 2 64 := ⟨by decide +kernel, rfl⟩
theorem e_X6_forceAt_64 : DC cX6_forceAt 64 (.iload 7) 2 66 := ⟨by decide +kernel, rfl⟩
theorem e_X6_forceAt_66 : DC cX6_forceAt 66 (.isub) 1 67 := ⟨by decide +kernel, rfl⟩
theorem e_X6_forceAt_67 : DC cX6_forceAt 67 (.aload_n 1) 1 68 := ⟨by decide +kernel, rfl⟩
theorem e_X6_forceAt_68 : DC cX6_forceAt 68 (.getfield 72) 3 71 := ⟨by decide +kernel, rfl⟩
theorem e_X6_forceAt_71 : DC cX6_forceAt 71 (.iload 5) 2 73 := ⟨by decide +kernel, rfl⟩
theorem e_X6_forceAt_73 : DC cX6_forceAt 73 (.iaload) 1 74 := ⟨by decide +kernel, rfl⟩
theorem e_X6_forceAt_74 : DC cX6_forceAt 74 (.imul) 1 75 := ⟨by decide +kernel, rfl⟩
theorem e_X6_forceAt_75 : DC cX6_forceAt 75 (.iadd) 1 76 := ⟨by decide +kernel, rfl⟩
theorem e_X6_forceAt_76 : DC cX6_forceAt 76 (.istore 4) 2 78 := ⟨by decide +kernel, rfl⟩
theorem e_X6_forceAt_78 : DC cX6_forceAt 78 (.iinc 5 1) 3 81 := ⟨by decide +kernel, rfl⟩
theorem e_X6_forceAt_81 : DB cX6_forceAt 81 (.goto (-75)) (-75) 3 84 6 := ⟨by decide +kernel, rfl, rfl⟩
theorem e_X6_forceAt_84 : DC cX6_forceAt 84 (.iload 4) 2 86 := ⟨by decide +kernel, rfl⟩
theorem e_X6_forceAt_86 : DC cX6_forceAt 86 (.ireturn) 1 87 := ⟨by decide +kernel, rfl⟩
noncomputable def m_X6_forceAt_58 (t_signs : Nat → Int) (p1_reach : Int) (p1_pushes : Nat → Int) (v2 : Int) (v4 : Int) (v5 : Int) (v6 : Int) (s0 : Int) (ag : Int → Int → Option (Int)) (k_84 : Int → Int → Option (Int)) : Option (Int) :=
  chk (inB v5 21) (chk (inI (v4 + ((v6 - s0) * (p1_pushes (Int.toNat v5))))) (chk (inI (v5 + 1)) (ag (v4 + ((v6 - s0) * (p1_pushes (Int.toNat v5)))) (v5 + 1))))

set_option maxRecDepth 10000 in
theorem g_X6_forceAt_58 {l : Launch} {E : EE} {b0 n : Nat} {h : AH} {a_t a_p1 : Nat} {t_flaws t_slipped t_gone t_work t_out t_lost t_came p1_speckMany p1_sourceMany p1_baseTold p1_baseLow p1_baseHigh p1_reach v2 v4 v5 v6 s0 : Int} {t_signs p1_pushes : Nat → Int} {r : Int} {ag : Int → Int → Option (Int)} {k_84 : Int → Int → Option (Int)} (ao : AO b0 n [a_t, (a_t + 1), a_p1, (a_p1 + 1)]) (ok_t_signs : okA t_signs) (ok_p1_reach : inI p1_reach) (ok_p1_pushes : okA p1_pushes) (ok_v2 : inI v2) (ok_v4 : inI v4) (ok_v5 : inI v5) (ok_v6 : inI v6) (ok_s0 : inI s0) (hag : ∀ (v4_ : Int) (v5_ : Int), inI v4_ → inI v5_ → ag v4_ v5_ = some r → G l E b0 M_X6_forceAt (fun _ => True) (ZM E b0 (some (vI r)) (ov [a_t, (a_t + 1), a_p1, (a_p1 + 1)] [.inr (6, fsX6 a_t t_flaws t_slipped t_gone t_work t_out t_lost t_came), IA E 100 t_signs, .inr (3, fsX3 a_p1 p1_speckMany p1_sourceMany p1_baseTold p1_baseLow p1_baseHigh p1_reach), IA E 21 p1_pushes] h) n (inI r) 0 0) 0 0 n (ov [a_t, (a_t + 1), a_p1, (a_p1 + 1)] [.inr (6, fsX6 a_t t_flaws t_slipped t_gone t_work t_out t_lost t_came), IA E 100 t_signs, .inr (3, fsX3 a_p1 p1_speckMany p1_sourceMany p1_baseTold p1_baseLow p1_baseHigh p1_reach), IA E 21 p1_pushes] h) 6 [some (.ref a_t), some (.ref a_p1), some (vI v2), none, some (vI v4_), some (vI v5_), none, none] []) (hk_84 : ∀ (v4_ : Int) (v5_ : Int), inI v4_ → inI v5_ → k_84 v4_ v5_ = some r → G l E b0 M_X6_forceAt (fun _ => True) (ZM E b0 (some (vI r)) (ov [a_t, (a_t + 1), a_p1, (a_p1 + 1)] [.inr (6, fsX6 a_t t_flaws t_slipped t_gone t_work t_out t_lost t_came), IA E 100 t_signs, .inr (3, fsX3 a_p1 p1_speckMany p1_sourceMany p1_baseTold p1_baseLow p1_baseHigh p1_reach), IA E 21 p1_pushes] h) n (inI r) 0 0) 0 0 n (ov [a_t, (a_t + 1), a_p1, (a_p1 + 1)] [.inr (6, fsX6 a_t t_flaws t_slipped t_gone t_work t_out t_lost t_came), IA E 100 t_signs, .inr (3, fsX3 a_p1 p1_speckMany p1_sourceMany p1_baseTold p1_baseLow p1_baseHigh p1_reach), IA E 21 p1_pushes] h) 84 [none, none, none, none, some (vI v4_), none, none, none] []) (hs : m_X6_forceAt_58 t_signs p1_reach p1_pushes v2 v4 v5 v6 s0 ag k_84 = some r) : G l E b0 M_X6_forceAt (fun _ => True) (ZM E b0 (some (vI r)) (ov [a_t, (a_t + 1), a_p1, (a_p1 + 1)] [.inr (6, fsX6 a_t t_flaws t_slipped t_gone t_work t_out t_lost t_came), IA E 100 t_signs, .inr (3, fsX3 a_p1 p1_speckMany p1_sourceMany p1_baseTold p1_baseLow p1_baseHigh p1_reach), IA E 21 p1_pushes] h) n (inI r) 0 0) 0 0 n (ov [a_t, (a_t + 1), a_p1, (a_p1 + 1)] [.inr (6, fsX6 a_t t_flaws t_slipped t_gone t_work t_out t_lost t_came), IA E 100 t_signs, .inr (3, fsX3 a_p1 p1_speckMany p1_sourceMany p1_baseTold p1_baseLow p1_baseHigh p1_reach), IA E 21 p1_pushes] h) 58 [some (.ref a_t), some (.ref a_p1), some (vI v2), none, some (vI v4), some (vI v5), some (vI v6), none] [vI s0] := by
  rw [m_X6_forceAt_58] at hs
  refine g_istore e_X6_forceAt_58 st1_7 rfl ?_
  refine g_iload e_X6_forceAt_60 rfl ?_
  refine g_iload e_X6_forceAt_62 rfl ?_
  refine g_iload e_X6_forceAt_64 rfl ?_
  refine g_isub e_X6_forceAt_66 ?_
  refine g_aload_n e_X6_forceAt_67 rfl ?_
  refine g_get 2 0 ao rfl rfl fsX3_g0 fl_X6_72 e_X6_forceAt_68 ?_
  refine g_iload e_X6_forceAt_71 rfl ?_
  refine g_iald 3 ao rfl rfl (Nat.le_of_ble_eq_true rfl) e_X6_forceAt_73 hs (fun hi2 hs => ?_)
  refine g_imul e_X6_forceAt_74 ?_
  refine g_iadd e_X6_forceAt_75 ?_
  refine g_istore e_X6_forceAt_76 st1_4 rfl ?_
  refine g_iinc e_X6_forceAt_78 rfl st1_5 rfl ?_
  refine g_goto e_X6_forceAt_81 ?_
  obtain ⟨hc3, hs⟩ := chk_elim hs
  obtain ⟨hc4, hs⟩ := chk_elim hs
  exact g_mask [true, true, true, true, true, true, false, false] (hag _ _ hc3 hc4 hs)

noncomputable def m_X6_forceAt_34 (t_signs : Nat → Int) (p1_reach : Int) (p1_pushes : Nat → Int) (v2 : Int) (v4 : Int) (v5 : Int) (s0 : Int) (ag : Int → Int → Option (Int)) (k_84 : Int → Int → Option (Int)) : Option (Int) :=
  chk (inI (v2 + v5)) (if 100 ≤ (v2 + v5) then (m_X6_forceAt_58 t_signs p1_reach p1_pushes v2 v4 v5 s0 0 ag k_84) else (chk (inB (v2 + v5) 100) (m_X6_forceAt_58 t_signs p1_reach p1_pushes v2 v4 v5 s0 (t_signs (Int.toNat (v2 + v5))) ag k_84)))

set_option maxRecDepth 10000 in
theorem g_X6_forceAt_34 {l : Launch} {E : EE} {b0 n : Nat} {h : AH} {a_t a_p1 : Nat} {t_flaws t_slipped t_gone t_work t_out t_lost t_came p1_speckMany p1_sourceMany p1_baseTold p1_baseLow p1_baseHigh p1_reach v2 v4 v5 s0 : Int} {t_signs p1_pushes : Nat → Int} {r : Int} {ag : Int → Int → Option (Int)} {k_84 : Int → Int → Option (Int)} (ao : AO b0 n [a_t, (a_t + 1), a_p1, (a_p1 + 1)]) (ok_t_signs : okA t_signs) (ok_p1_reach : inI p1_reach) (ok_p1_pushes : okA p1_pushes) (ok_v2 : inI v2) (ok_v4 : inI v4) (ok_v5 : inI v5) (ok_s0 : inI s0) (hag : ∀ (v4_ : Int) (v5_ : Int), inI v4_ → inI v5_ → ag v4_ v5_ = some r → G l E b0 M_X6_forceAt (fun _ => True) (ZM E b0 (some (vI r)) (ov [a_t, (a_t + 1), a_p1, (a_p1 + 1)] [.inr (6, fsX6 a_t t_flaws t_slipped t_gone t_work t_out t_lost t_came), IA E 100 t_signs, .inr (3, fsX3 a_p1 p1_speckMany p1_sourceMany p1_baseTold p1_baseLow p1_baseHigh p1_reach), IA E 21 p1_pushes] h) n (inI r) 0 0) 0 0 n (ov [a_t, (a_t + 1), a_p1, (a_p1 + 1)] [.inr (6, fsX6 a_t t_flaws t_slipped t_gone t_work t_out t_lost t_came), IA E 100 t_signs, .inr (3, fsX3 a_p1 p1_speckMany p1_sourceMany p1_baseTold p1_baseLow p1_baseHigh p1_reach), IA E 21 p1_pushes] h) 6 [some (.ref a_t), some (.ref a_p1), some (vI v2), none, some (vI v4_), some (vI v5_), none, none] []) (hk_84 : ∀ (v4_ : Int) (v5_ : Int), inI v4_ → inI v5_ → k_84 v4_ v5_ = some r → G l E b0 M_X6_forceAt (fun _ => True) (ZM E b0 (some (vI r)) (ov [a_t, (a_t + 1), a_p1, (a_p1 + 1)] [.inr (6, fsX6 a_t t_flaws t_slipped t_gone t_work t_out t_lost t_came), IA E 100 t_signs, .inr (3, fsX3 a_p1 p1_speckMany p1_sourceMany p1_baseTold p1_baseLow p1_baseHigh p1_reach), IA E 21 p1_pushes] h) n (inI r) 0 0) 0 0 n (ov [a_t, (a_t + 1), a_p1, (a_p1 + 1)] [.inr (6, fsX6 a_t t_flaws t_slipped t_gone t_work t_out t_lost t_came), IA E 100 t_signs, .inr (3, fsX3 a_p1 p1_speckMany p1_sourceMany p1_baseTold p1_baseLow p1_baseHigh p1_reach), IA E 21 p1_pushes] h) 84 [none, none, none, none, some (vI v4_), none, none, none] []) (hs : m_X6_forceAt_34 t_signs p1_reach p1_pushes v2 v4 v5 s0 ag k_84 = some r) : G l E b0 M_X6_forceAt (fun _ => True) (ZM E b0 (some (vI r)) (ov [a_t, (a_t + 1), a_p1, (a_p1 + 1)] [.inr (6, fsX6 a_t t_flaws t_slipped t_gone t_work t_out t_lost t_came), IA E 100 t_signs, .inr (3, fsX3 a_p1 p1_speckMany p1_sourceMany p1_baseTold p1_baseLow p1_baseHigh p1_reach), IA E 21 p1_pushes] h) n (inI r) 0 0) 0 0 n (ov [a_t, (a_t + 1), a_p1, (a_p1 + 1)] [.inr (6, fsX6 a_t t_flaws t_slipped t_gone t_work t_out t_lost t_came), IA E 100 t_signs, .inr (3, fsX3 a_p1 p1_speckMany p1_sourceMany p1_baseTold p1_baseLow p1_baseHigh p1_reach), IA E 21 p1_pushes] h) 34 [some (.ref a_t), some (.ref a_p1), some (vI v2), none, some (vI v4), some (vI v5), none, none] [vI s0] := by
  rw [m_X6_forceAt_34] at hs
  refine g_istore e_X6_forceAt_34 st1_6 rfl ?_
  refine g_iload_n e_X6_forceAt_36 rfl ?_
  refine g_iload e_X6_forceAt_37 rfl ?_
  refine g_iadd e_X6_forceAt_39 ?_
  refine g_bipush e_X6_forceAt_40 bp_100 ?_
  obtain ⟨hc1, hs⟩ := chk_elim hs
  refine g_icmp_ge e_X6_forceAt_42 hc1 (by decide : inI 100) hs (fun c42 hs => ?_) (fun c42 hs => ?_)
  · refine g_iconst e_X6_forceAt_57 ?_
    exact g_X6_forceAt_58 ao ok_t_signs ok_p1_reach ok_p1_pushes ok_v2 ok_v4 ok_v5 ok_s0 (by decide : inI 0) hag hk_84 hs
  · refine g_aload_n e_X6_forceAt_45 rfl ?_
    refine g_get 0 0 ao rfl rfl fsX6_g0 fl_X6_9 e_X6_forceAt_46 ?_
    refine g_iload_n e_X6_forceAt_49 rfl ?_
    refine g_iload e_X6_forceAt_50 rfl ?_
    refine g_iadd e_X6_forceAt_52 ?_
    refine g_iald 1 ao rfl rfl (Nat.le_of_ble_eq_true rfl) e_X6_forceAt_53 hs (fun hi5 hs => ?_)
    refine g_goto e_X6_forceAt_54 ?_
    exact g_X6_forceAt_58 ao ok_t_signs ok_p1_reach ok_p1_pushes ok_v2 ok_v4 ok_v5 ok_s0 (ok_t_signs _) hag hk_84 hs

noncomputable def m_X6_forceAt_6 (t_signs : Nat → Int) (p1_reach : Int) (p1_pushes : Nat → Int) (v2 : Int) (k_84 : Int → Int → Option (Int)) : Nat → Int → Int → Option (Int)
  | 0, _, _ => none
  | F + 1, v4, v5 => if p1_reach < v5 then (some (v4)) else (if v2 < v5 then (m_X6_forceAt_34 t_signs p1_reach p1_pushes v2 v4 v5 0 (m_X6_forceAt_6 t_signs p1_reach p1_pushes v2 k_84 F) k_84) else (chk (inB (v2 - v5) 100) (m_X6_forceAt_34 t_signs p1_reach p1_pushes v2 v4 v5 (t_signs (Int.toNat (v2 - v5))) (m_X6_forceAt_6 t_signs p1_reach p1_pushes v2 k_84 F) k_84)))

set_option maxRecDepth 10000 in
theorem g_X6_forceAt_6 {l : Launch} {E : EE} {b0 n : Nat} {h : AH} {a_t a_p1 : Nat} {t_flaws t_slipped t_gone t_work t_out t_lost t_came p1_speckMany p1_sourceMany p1_baseTold p1_baseLow p1_baseHigh p1_reach v2 : Int} {t_signs p1_pushes : Nat → Int} {r : Int} {k_84 : Int → Int → Option (Int)} (ao : AO b0 n [a_t, (a_t + 1), a_p1, (a_p1 + 1)]) (ok_t_signs : okA t_signs) (ok_p1_reach : inI p1_reach) (ok_p1_pushes : okA p1_pushes) (ok_v2 : inI v2) (hk_84 : ∀ (v4_ : Int) (v5_ : Int), inI v4_ → inI v5_ → k_84 v4_ v5_ = some r → G l E b0 M_X6_forceAt (fun _ => True) (ZM E b0 (some (vI r)) (ov [a_t, (a_t + 1), a_p1, (a_p1 + 1)] [.inr (6, fsX6 a_t t_flaws t_slipped t_gone t_work t_out t_lost t_came), IA E 100 t_signs, .inr (3, fsX3 a_p1 p1_speckMany p1_sourceMany p1_baseTold p1_baseLow p1_baseHigh p1_reach), IA E 21 p1_pushes] h) n (inI r) 0 0) 0 0 n (ov [a_t, (a_t + 1), a_p1, (a_p1 + 1)] [.inr (6, fsX6 a_t t_flaws t_slipped t_gone t_work t_out t_lost t_came), IA E 100 t_signs, .inr (3, fsX3 a_p1 p1_speckMany p1_sourceMany p1_baseTold p1_baseLow p1_baseHigh p1_reach), IA E 21 p1_pushes] h) 84 [none, none, none, none, some (vI v4_), none, none, none] []) :
    ∀ (F : Nat) (v4 : Int) (v5 : Int), inI v4 → inI v5 → m_X6_forceAt_6 t_signs p1_reach p1_pushes v2 k_84 F v4 v5 = some r → G l E b0 M_X6_forceAt (fun _ => True) (ZM E b0 (some (vI r)) (ov [a_t, (a_t + 1), a_p1, (a_p1 + 1)] [.inr (6, fsX6 a_t t_flaws t_slipped t_gone t_work t_out t_lost t_came), IA E 100 t_signs, .inr (3, fsX3 a_p1 p1_speckMany p1_sourceMany p1_baseTold p1_baseLow p1_baseHigh p1_reach), IA E 21 p1_pushes] h) n (inI r) 0 0) 0 0 n (ov [a_t, (a_t + 1), a_p1, (a_p1 + 1)] [.inr (6, fsX6 a_t t_flaws t_slipped t_gone t_work t_out t_lost t_came), IA E 100 t_signs, .inr (3, fsX3 a_p1 p1_speckMany p1_sourceMany p1_baseTold p1_baseLow p1_baseHigh p1_reach), IA E 21 p1_pushes] h) 6 [some (.ref a_t), some (.ref a_p1), some (vI v2), none, some (vI v4), some (vI v5), none, none] [] := by
  intro F
  induction F with
  | zero =>
    intro v4 v5 ok_v4 ok_v5 hs
    rw [m_X6_forceAt_6] at hs
    cases hs
  | succ F ih =>
    intro v4 v5 ok_v4 ok_v5 hs
    rw [m_X6_forceAt_6] at hs
    refine g_iload e_X6_forceAt_6 rfl ?_
    refine g_aload_n e_X6_forceAt_8 rfl ?_
    refine g_get 2 13 ao rfl rfl fsX3_g13 fl_X6_67 e_X6_forceAt_9 ?_
    refine g_icmp_gt e_X6_forceAt_12 ok_v5 ok_p1_reach hs (fun c12 hs => ?_) (fun c12 hs => ?_)
    · refine g_iload e_X6_forceAt_84 rfl ?_
      obtain rfl := Option.some.inj hs
      exact g_iret rfl ok_v4 e_X6_forceAt_86
    · refine g_iload_n e_X6_forceAt_15 rfl ?_
      refine g_iload e_X6_forceAt_16 rfl ?_
      refine g_icmp_lt e_X6_forceAt_18 ok_v2 ok_v5 hs (fun c18 hs => ?_) (fun c18 hs => ?_)
      · refine g_iconst e_X6_forceAt_33 ?_
        exact g_X6_forceAt_34 ao ok_t_signs ok_p1_reach ok_p1_pushes ok_v2 ok_v4 ok_v5 (by decide : inI 0) ih hk_84 hs
      · refine g_aload_n e_X6_forceAt_21 rfl ?_
        refine g_get 0 0 ao rfl rfl fsX6_g0 fl_X6_9 e_X6_forceAt_22 ?_
        refine g_iload_n e_X6_forceAt_25 rfl ?_
        refine g_iload e_X6_forceAt_26 rfl ?_
        refine g_isub e_X6_forceAt_28 ?_
        refine g_iald 1 ao rfl rfl (Nat.le_of_ble_eq_true rfl) e_X6_forceAt_29 hs (fun hi6 hs => ?_)
        refine g_goto e_X6_forceAt_30 ?_
        exact g_X6_forceAt_34 ao ok_t_signs ok_p1_reach ok_p1_pushes ok_v2 ok_v4 ok_v5 (ok_t_signs _) ih hk_84 hs

noncomputable def m_X6_forceAt_84 (v4 : Int) : Option (Int) :=
  some (v4)

set_option maxRecDepth 10000 in
theorem g_X6_forceAt_84 {l : Launch} {E : EE} {b0 n : Nat} {h : AH} {a_t a_p1 : Nat} {t_flaws t_slipped t_gone t_work t_out t_lost t_came p1_speckMany p1_sourceMany p1_baseTold p1_baseLow p1_baseHigh p1_reach v4 : Int} {t_signs p1_pushes : Nat → Int} {r : Int} (ao : AO b0 n [a_t, (a_t + 1), a_p1, (a_p1 + 1)]) (ok_t_signs : okA t_signs) (ok_p1_reach : inI p1_reach) (ok_p1_pushes : okA p1_pushes) (ok_v4 : inI v4) (hs : m_X6_forceAt_84 v4 = some r) : G l E b0 M_X6_forceAt (fun _ => True) (ZM E b0 (some (vI r)) (ov [a_t, (a_t + 1), a_p1, (a_p1 + 1)] [.inr (6, fsX6 a_t t_flaws t_slipped t_gone t_work t_out t_lost t_came), IA E 100 t_signs, .inr (3, fsX3 a_p1 p1_speckMany p1_sourceMany p1_baseTold p1_baseLow p1_baseHigh p1_reach), IA E 21 p1_pushes] h) n (inI r) 0 0) 0 0 n (ov [a_t, (a_t + 1), a_p1, (a_p1 + 1)] [.inr (6, fsX6 a_t t_flaws t_slipped t_gone t_work t_out t_lost t_came), IA E 100 t_signs, .inr (3, fsX3 a_p1 p1_speckMany p1_sourceMany p1_baseTold p1_baseLow p1_baseHigh p1_reach), IA E 21 p1_pushes] h) 84 [none, none, none, none, some (vI v4), none, none, none] [] := by
  rw [m_X6_forceAt_84] at hs
  refine g_iload e_X6_forceAt_84 rfl ?_
  obtain rfl := Option.some.inj hs
  exact g_iret rfl ok_v4 e_X6_forceAt_86

noncomputable def m_X6_forceAt_0 (t_signs : Nat → Int) (p1_reach : Int) (p1_pushes : Nat → Int) (v2 : Int) (v3 : Int) : Option (Int) :=
  m_X6_forceAt_6 t_signs p1_reach p1_pushes v2 (fun v4' v5' => m_X6_forceAt_84 v4') FU v3 1

set_option maxRecDepth 10000 in
theorem g_X6_forceAt_0 {l : Launch} {E : EE} {b0 n : Nat} {h : AH} {a_t a_p1 : Nat} {t_flaws t_slipped t_gone t_work t_out t_lost t_came p1_speckMany p1_sourceMany p1_baseTold p1_baseLow p1_baseHigh p1_reach v2 v3 : Int} {t_signs p1_pushes : Nat → Int} {r : Int} (ao : AO b0 n [a_t, (a_t + 1), a_p1, (a_p1 + 1)]) (ok_t_signs : okA t_signs) (ok_p1_reach : inI p1_reach) (ok_p1_pushes : okA p1_pushes) (ok_v2 : inI v2) (ok_v3 : inI v3) (hs : m_X6_forceAt_0 t_signs p1_reach p1_pushes v2 v3 = some r) : G l E b0 M_X6_forceAt (fun _ => True) (ZM E b0 (some (vI r)) (ov [a_t, (a_t + 1), a_p1, (a_p1 + 1)] [.inr (6, fsX6 a_t t_flaws t_slipped t_gone t_work t_out t_lost t_came), IA E 100 t_signs, .inr (3, fsX3 a_p1 p1_speckMany p1_sourceMany p1_baseTold p1_baseLow p1_baseHigh p1_reach), IA E 21 p1_pushes] h) n (inI r) 0 0) 0 0 n (ov [a_t, (a_t + 1), a_p1, (a_p1 + 1)] [.inr (6, fsX6 a_t t_flaws t_slipped t_gone t_work t_out t_lost t_came), IA E 100 t_signs, .inr (3, fsX3 a_p1 p1_speckMany p1_sourceMany p1_baseTold p1_baseLow p1_baseHigh p1_reach), IA E 21 p1_pushes] h) 0 [some (.ref a_t), some (.ref a_p1), some (vI v2), some (vI v3), none, none, none, none] [] := by
  rw [m_X6_forceAt_0] at hs
  refine g_iload_n e_X6_forceAt_0 rfl ?_
  refine g_istore e_X6_forceAt_1 st1_4 rfl ?_
  refine g_iconst e_X6_forceAt_3 ?_
  refine g_istore e_X6_forceAt_4 st1_5 rfl ?_
  exact g_mask [true, true, true, false, true, true, true, true] (g_X6_forceAt_6 ao ok_t_signs ok_p1_reach ok_p1_pushes ok_v2 (hk_84 := by
      intro v4' v5' ok_v4' ok_v5' hs
      exact g_X6_forceAt_84 ao ok_t_signs ok_p1_reach ok_p1_pushes ok_v4' hs) FU _ _ ok_v3 (by decide : inI 1) hs)

noncomputable def m_X6_forceAt (t_signs : Nat → Int) (p1_reach : Int) (p1_pushes : Nat → Int) (v2 : Int) (v3 : Int) : Option (Int) := m_X6_forceAt_0 t_signs p1_reach p1_pushes v2 v3

set_option maxRecDepth 10000 in
theorem ct_X6_forceAt {l : Launch} {E : EE} {b0 n : Nat} {h : AH} {a_t a_p1 : Nat} {t_flaws t_slipped t_gone t_work t_out t_lost t_came p1_speckMany p1_sourceMany p1_baseTold p1_baseLow p1_baseHigh p1_reach : Int} {t_signs p1_pushes : Nat → Int} {v2 v3 : Int} (ao : AO b0 n [a_t, (a_t + 1), a_p1, (a_p1 + 1)]) (hf : FA h [a_t, (a_t + 1), a_p1, (a_p1 + 1)] [.inr (6, fsX6 a_t t_flaws t_slipped t_gone t_work t_out t_lost t_came), IA E 100 t_signs, .inr (3, fsX3 a_p1 p1_speckMany p1_sourceMany p1_baseTold p1_baseLow p1_baseHigh p1_reach), IA E 21 p1_pushes]) (ok_t_signs : okA t_signs) (ok_p1_reach : inI p1_reach) (ok_p1_pushes : okA p1_pushes) (ok_v2 : inI v2) (ok_v3 : inI v3) {r : Int} (hm : m_X6_forceAt t_signs p1_reach p1_pushes v2 v3 = some r) : Ct l E b0 M_X6_forceAt 0 0 [.ref a_t, .ref a_p1, vI v2, vI v3] h n (some (vI r)) h n (inI r) := by
  rw [m_X6_forceAt] at hm
  have hg : G l E b0 M_X6_forceAt (fun _ => True) (ZM E b0 (some (vI r)) (ov [a_t, (a_t + 1), a_p1, (a_p1 + 1)] [.inr (6, fsX6 a_t t_flaws t_slipped t_gone t_work t_out t_lost t_came), IA E 100 t_signs, .inr (3, fsX3 a_p1 p1_speckMany p1_sourceMany p1_baseTold p1_baseLow p1_baseHigh p1_reach), IA E 21 p1_pushes] h) n (inI r) 0 0) 0 0 n (ov [a_t, (a_t + 1), a_p1, (a_p1 + 1)] [.inr (6, fsX6 a_t t_flaws t_slipped t_gone t_work t_out t_lost t_came), IA E 100 t_signs, .inr (3, fsX3 a_p1 p1_speckMany p1_sourceMany p1_baseTold p1_baseLow p1_baseHigh p1_reach), IA E 21 p1_pushes] h) 0 [some (.ref a_t), some (.ref a_p1), some (vI v2), some (vI v3), none, none, none, none] [] := by
    have hs := hm
    exact g_X6_forceAt_0 ao ok_t_signs ok_p1_reach ok_p1_pushes ok_v2 ok_v3 hs
  rw [FA_id hf] at hg
  exact Ct_of [some (.ref a_t), some (.ref a_p1), some (vI v2), some (vI v3), none, none, none, none] ⟨by decide +kernel, rfl⟩ rfl (Nat.le_of_ble_eq_true rfl) hg

/-! ===== X6_feelAll ===== -/
theorem e_X6_feelAll_0 : DC cX6_feelAll 0 (.iconst 0) 1 1 := ⟨by decide +kernel, rfl⟩
theorem e_X6_feelAll_1 : DC cX6_feelAll 1 (.istore_n 3) 1 2 := ⟨by decide +kernel, rfl⟩
theorem e_X6_feelAll_2 : DC cX6_feelAll 2 (.iconst 0) 1 3 := ⟨by decide +kernel, rfl⟩
theorem e_X6_feelAll_3 : DC cX6_feelAll 3 (.istore 4) 2 5 := ⟨by decide +kernel, rfl⟩
theorem e_X6_feelAll_5 : DC cX6_feelAll 5 (.iload 4) 2 7 := ⟨by decide +kernel, rfl⟩
theorem e_X6_feelAll_7 : DC cX6_feelAll 7 (.bipush 100) 2 9 := ⟨by decide +kernel, rfl⟩
theorem e_X6_feelAll_9 : DB cX6_feelAll 9 (.if_icmp .ge 58) (58) 3 12 67 := ⟨by decide +kernel, rfl, rfl⟩
theorem e_X6_feelAll_12 : DC cX6_feelAll 12 (.iload_n 3) 1 13 := ⟨by decide +kernel, rfl⟩
theorem e_X6_feelAll_13 : DC cX6_feelAll 13 (.bipush 30) 2 15 := ⟨by decide +kernel, rfl⟩
theorem e_X6_feelAll_15 : DB cX6_feelAll 15 (.if_icmp .ge 52) (52) 3 18 67 := ⟨by decide +kernel, rfl, rfl⟩
theorem e_X6_feelAll_18 : DC cX6_feelAll 18 (.aload_n 0) 1 19 := ⟨by decide +kernel, rfl⟩
theorem e_X6_feelAll_19 : DC cX6_feelAll 19 (.getfield 9) 3 22 := ⟨by decide +kernel, rfl⟩
theorem e_X6_feelAll_22 : DC cX6_feelAll 22 (.iload 4) 2 24 := ⟨by decide +kernel, rfl⟩
theorem e_X6_feelAll_24 : DC cX6_feelAll 24 (.iaload) 1 25 := ⟨by decide +kernel, rfl⟩
theorem e_X6_feelAll_25 : DB cX6_feelAll 25 (.ifCond .eq 36) (36) 3 28 61 := ⟨by decide +kernel, rfl, rfl⟩
theorem e_X6_feelAll_28 : DC cX6_feelAll 28 (.aload_n 0) 1 29 := ⟨by decide +kernel, rfl⟩
theorem e_X6_feelAll_29 : DC cX6_feelAll 29 (.getfield 15) 3 32 := ⟨by decide +kernel, rfl⟩
theorem e_X6_feelAll_32 : DC cX6_feelAll 32 (.iload_n 3) 1 33 := ⟨by decide +kernel, rfl⟩
theorem e_X6_feelAll_33 : DC cX6_feelAll 33 (.iload 4) 2 35 := ⟨by decide +kernel, rfl⟩
theorem e_X6_feelAll_35 : DC cX6_feelAll 35 (.iastore) 1 36 := ⟨by decide +kernel, rfl⟩
theorem e_X6_feelAll_36 : DC cX6_feelAll 36 (.aload_n 0) 1 37 := ⟨by decide +kernel, rfl⟩
theorem e_X6_feelAll_37 : DC cX6_feelAll 37 (.getfield 18) 3 40 := ⟨by decide +kernel, rfl⟩
theorem e_X6_feelAll_40 : DC cX6_feelAll 40 (.iload_n 3) 1 41 := ⟨by decide +kernel, rfl⟩
theorem e_X6_feelAll_41 : DC cX6_feelAll 41 (.aload_n 0) 1 42 := ⟨by decide +kernel, rfl⟩
theorem e_X6_feelAll_42 : DC cX6_feelAll 42 (.getfield 9) 3 45 := ⟨by decide +kernel, rfl⟩
theorem e_X6_feelAll_45 : DC cX6_feelAll 45 (.iload 4) 2 47 := ⟨by decide +kernel, rfl⟩
theorem e_X6_feelAll_47 : DC cX6_feelAll 47 (.iaload) 1 48 := ⟨by decide +kernel, rfl⟩
theorem e_X6_feelAll_48 : DC cX6_feelAll 48 (.aload_n 0) 1 49 := ⟨by decide +kernel, rfl⟩
theorem e_X6_feelAll_49 : DC cX6_feelAll 49 (.aload_n 1) 1 50 := ⟨by decide +kernel, rfl⟩
theorem e_X6_feelAll_50 : DC cX6_feelAll 50 (.iload 4) 2 52 := ⟨by decide +kernel, rfl⟩
theorem e_X6_feelAll_52 : DC cX6_feelAll 52 (.iload_n 2) 1 53 := ⟨by decide +kernel, rfl⟩
theorem e_X6_feelAll_53 : DC cX6_feelAll 53 (.invokevirtual 106) 3 56 := ⟨by decide +kernel, rfl⟩
theorem e_X6_feelAll_56 : DC cX6_feelAll 56 (.imul) 1 57 := ⟨by decide +kernel, rfl⟩
theorem e_X6_feelAll_57 : DC cX6_feelAll 57 (.iastore) 1 58 := ⟨by decide +kernel, rfl⟩
theorem e_X6_feelAll_58 : DC cX6_feelAll 58 (.iinc 3 1) 3 61 := ⟨by decide +kernel, rfl⟩
theorem e_X6_feelAll_61 : DC cX6_feelAll 61 (.iinc 4 1) 3 64 := ⟨by decide +kernel, rfl⟩
theorem e_X6_feelAll_64 : DB cX6_feelAll 64 (.goto (-59)) (-59) 3 67 5 := ⟨by decide +kernel, rfl, rfl⟩
theorem e_X6_feelAll_67 : DC cX6_feelAll 67 (.iload_n 3) 1 68 := ⟨by decide +kernel, rfl⟩
theorem e_X6_feelAll_68 : DC cX6_feelAll 68 (.ireturn) 1 69 := ⟨by decide +kernel, rfl⟩
noncomputable def m_X6_feelAll_61 (t_signs : Nat → Int) (t_stood : Nat → Int) (t_felt : Nat → Int) (p1_reach : Int) (p1_pushes : Nat → Int) (v2 : Int) (v3 : Int) (v4 : Int) (ag : (Nat → Int) → (Nat → Int) → Int → Int → Option (Int × (Nat → Int) × (Nat → Int))) (k_67 : (Nat → Int) → (Nat → Int) → Int → Int → Option (Int × (Nat → Int) × (Nat → Int))) : Option (Int × (Nat → Int) × (Nat → Int)) :=
  chk (inI (v4 + 1)) (ag t_stood t_felt v3 (v4 + 1))

set_option maxRecDepth 10000 in
theorem g_X6_feelAll_61 {l : Launch} {E : EE} {b0 n : Nat} {h : AH} {a_t a_p1 : Nat} {t_flaws t_slipped t_gone t_work t_out t_lost t_came p1_speckMany p1_sourceMany p1_baseTold p1_baseLow p1_baseHigh p1_reach v2 v3 v4 : Int} {t_signs t_stood t_felt p1_pushes : Nat → Int} {r : Int × (Nat → Int) × (Nat → Int)} {ag : (Nat → Int) → (Nat → Int) → Int → Int → Option (Int × (Nat → Int) × (Nat → Int))} {k_67 : (Nat → Int) → (Nat → Int) → Int → Int → Option (Int × (Nat → Int) × (Nat → Int))} (ao : AO b0 n [a_t, (a_t + 1), (a_t + 2), (a_t + 3), a_p1, (a_p1 + 1)]) (ok_t_signs : okA t_signs) (ok_t_stood : okA t_stood) (ok_t_felt : okA t_felt) (ok_p1_reach : inI p1_reach) (ok_p1_pushes : okA p1_pushes) (ok_v2 : inI v2) (ok_v3 : inI v3) (ok_v4 : inI v4) (hag : ∀ (t_stood_ : Nat → Int) (t_felt_ : Nat → Int) (v3_ : Int) (v4_ : Int), okA t_stood_ → okA t_felt_ → inI v3_ → inI v4_ → ag t_stood_ t_felt_ v3_ v4_ = some r → G l E b0 M_X6_feelAll (fun _ => True) (ZM E b0 (some (vI r.1)) (ov [a_t, (a_t + 1), (a_t + 2), (a_t + 3), a_p1, (a_p1 + 1)] [.inr (6, fsX6 a_t t_flaws t_slipped t_gone t_work t_out t_lost t_came), IA E 100 t_signs, IA E 30 r.2.1, IA E 30 r.2.2, .inr (3, fsX3 a_p1 p1_speckMany p1_sourceMany p1_baseTold p1_baseLow p1_baseHigh p1_reach), IA E 21 p1_pushes] h) n (inI r.1 ∧ okA r.2.1 ∧ okA r.2.2) 0 0) 0 0 n (ov [a_t, (a_t + 1), (a_t + 2), (a_t + 3), a_p1, (a_p1 + 1)] [.inr (6, fsX6 a_t t_flaws t_slipped t_gone t_work t_out t_lost t_came), IA E 100 t_signs, IA E 30 t_stood_, IA E 30 t_felt_, .inr (3, fsX3 a_p1 p1_speckMany p1_sourceMany p1_baseTold p1_baseLow p1_baseHigh p1_reach), IA E 21 p1_pushes] h) 5 [some (.ref a_t), some (.ref a_p1), some (vI v2), some (vI v3_), some (vI v4_)] []) (hk_67 : ∀ (t_stood_ : Nat → Int) (t_felt_ : Nat → Int) (v3_ : Int) (v4_ : Int), okA t_stood_ → okA t_felt_ → inI v3_ → inI v4_ → k_67 t_stood_ t_felt_ v3_ v4_ = some r → G l E b0 M_X6_feelAll (fun _ => True) (ZM E b0 (some (vI r.1)) (ov [a_t, (a_t + 1), (a_t + 2), (a_t + 3), a_p1, (a_p1 + 1)] [.inr (6, fsX6 a_t t_flaws t_slipped t_gone t_work t_out t_lost t_came), IA E 100 t_signs, IA E 30 r.2.1, IA E 30 r.2.2, .inr (3, fsX3 a_p1 p1_speckMany p1_sourceMany p1_baseTold p1_baseLow p1_baseHigh p1_reach), IA E 21 p1_pushes] h) n (inI r.1 ∧ okA r.2.1 ∧ okA r.2.2) 0 0) 0 0 n (ov [a_t, (a_t + 1), (a_t + 2), (a_t + 3), a_p1, (a_p1 + 1)] [.inr (6, fsX6 a_t t_flaws t_slipped t_gone t_work t_out t_lost t_came), IA E 100 t_signs, IA E 30 t_stood_, IA E 30 t_felt_, .inr (3, fsX3 a_p1 p1_speckMany p1_sourceMany p1_baseTold p1_baseLow p1_baseHigh p1_reach), IA E 21 p1_pushes] h) 67 [none, none, none, some (vI v3_), none] []) (hs : m_X6_feelAll_61 t_signs t_stood t_felt p1_reach p1_pushes v2 v3 v4 ag k_67 = some r) : G l E b0 M_X6_feelAll (fun _ => True) (ZM E b0 (some (vI r.1)) (ov [a_t, (a_t + 1), (a_t + 2), (a_t + 3), a_p1, (a_p1 + 1)] [.inr (6, fsX6 a_t t_flaws t_slipped t_gone t_work t_out t_lost t_came), IA E 100 t_signs, IA E 30 r.2.1, IA E 30 r.2.2, .inr (3, fsX3 a_p1 p1_speckMany p1_sourceMany p1_baseTold p1_baseLow p1_baseHigh p1_reach), IA E 21 p1_pushes] h) n (inI r.1 ∧ okA r.2.1 ∧ okA r.2.2) 0 0) 0 0 n (ov [a_t, (a_t + 1), (a_t + 2), (a_t + 3), a_p1, (a_p1 + 1)] [.inr (6, fsX6 a_t t_flaws t_slipped t_gone t_work t_out t_lost t_came), IA E 100 t_signs, IA E 30 t_stood, IA E 30 t_felt, .inr (3, fsX3 a_p1 p1_speckMany p1_sourceMany p1_baseTold p1_baseLow p1_baseHigh p1_reach), IA E 21 p1_pushes] h) 61 [some (.ref a_t), some (.ref a_p1), some (vI v2), some (vI v3), some (vI v4)] [] := by
  rw [m_X6_feelAll_61] at hs
  refine g_iinc e_X6_feelAll_61 rfl st1_4 rfl ?_
  refine g_goto e_X6_feelAll_64 ?_
  obtain ⟨hc2, hs⟩ := chk_elim hs
  exact hag _ _ _ _ ok_t_stood ok_t_felt ok_v3 hc2 hs

noncomputable def m_X6_feelAll_5 (t_signs : Nat → Int) (p1_reach : Int) (p1_pushes : Nat → Int) (v2 : Int) (k_67 : (Nat → Int) → (Nat → Int) → Int → Int → Option (Int × (Nat → Int) × (Nat → Int))) : Nat → (Nat → Int) → (Nat → Int) → Int → Int → Option (Int × (Nat → Int) × (Nat → Int))
  | 0, _, _, _, _ => none
  | F + 1, t_stood, t_felt, v3, v4 => if 100 ≤ v4 then (some (v3, t_stood, t_felt)) else (if 30 ≤ v3 then (some (v3, t_stood, t_felt)) else (chk (inB v4 100) (if (t_signs (Int.toNat v4)) = 0 then (m_X6_feelAll_61 t_signs t_stood t_felt p1_reach p1_pushes v2 v3 v4 (m_X6_feelAll_5 t_signs p1_reach p1_pushes v2 k_67 F) k_67) else (chk (inB v3 30) (chk (inB v4 100) ((m_X6_forceAt t_signs p1_reach p1_pushes v4 v2).bind (fun y5 => chk (inI ((t_signs (Int.toNat v4)) * y5)) (chk (inB v3 30) (chk (inI (v3 + 1)) (m_X6_feelAll_61 t_signs (up t_stood (Int.toNat v3) v4) (up t_felt (Int.toNat v3) ((t_signs (Int.toNat v4)) * y5)) p1_reach p1_pushes v2 (v3 + 1) v4 (m_X6_feelAll_5 t_signs p1_reach p1_pushes v2 k_67 F) k_67))))))))))

set_option maxRecDepth 10000 in
theorem g_X6_feelAll_5 {l : Launch} {E : EE} {b0 n : Nat} {h : AH} {a_t a_p1 : Nat} {t_flaws t_slipped t_gone t_work t_out t_lost t_came p1_speckMany p1_sourceMany p1_baseTold p1_baseLow p1_baseHigh p1_reach v2 : Int} {t_signs p1_pushes : Nat → Int} {r : Int × (Nat → Int) × (Nat → Int)} {k_67 : (Nat → Int) → (Nat → Int) → Int → Int → Option (Int × (Nat → Int) × (Nat → Int))} (ao : AO b0 n [a_t, (a_t + 1), (a_t + 2), (a_t + 3), a_p1, (a_p1 + 1)]) (ok_t_signs : okA t_signs) (ok_p1_reach : inI p1_reach) (ok_p1_pushes : okA p1_pushes) (ok_v2 : inI v2) (hk_67 : ∀ (t_stood_ : Nat → Int) (t_felt_ : Nat → Int) (v3_ : Int) (v4_ : Int), okA t_stood_ → okA t_felt_ → inI v3_ → inI v4_ → k_67 t_stood_ t_felt_ v3_ v4_ = some r → G l E b0 M_X6_feelAll (fun _ => True) (ZM E b0 (some (vI r.1)) (ov [a_t, (a_t + 1), (a_t + 2), (a_t + 3), a_p1, (a_p1 + 1)] [.inr (6, fsX6 a_t t_flaws t_slipped t_gone t_work t_out t_lost t_came), IA E 100 t_signs, IA E 30 r.2.1, IA E 30 r.2.2, .inr (3, fsX3 a_p1 p1_speckMany p1_sourceMany p1_baseTold p1_baseLow p1_baseHigh p1_reach), IA E 21 p1_pushes] h) n (inI r.1 ∧ okA r.2.1 ∧ okA r.2.2) 0 0) 0 0 n (ov [a_t, (a_t + 1), (a_t + 2), (a_t + 3), a_p1, (a_p1 + 1)] [.inr (6, fsX6 a_t t_flaws t_slipped t_gone t_work t_out t_lost t_came), IA E 100 t_signs, IA E 30 t_stood_, IA E 30 t_felt_, .inr (3, fsX3 a_p1 p1_speckMany p1_sourceMany p1_baseTold p1_baseLow p1_baseHigh p1_reach), IA E 21 p1_pushes] h) 67 [none, none, none, some (vI v3_), none] []) :
    ∀ (F : Nat) (t_stood : Nat → Int) (t_felt : Nat → Int) (v3 : Int) (v4 : Int), okA t_stood → okA t_felt → inI v3 → inI v4 → m_X6_feelAll_5 t_signs p1_reach p1_pushes v2 k_67 F t_stood t_felt v3 v4 = some r → G l E b0 M_X6_feelAll (fun _ => True) (ZM E b0 (some (vI r.1)) (ov [a_t, (a_t + 1), (a_t + 2), (a_t + 3), a_p1, (a_p1 + 1)] [.inr (6, fsX6 a_t t_flaws t_slipped t_gone t_work t_out t_lost t_came), IA E 100 t_signs, IA E 30 r.2.1, IA E 30 r.2.2, .inr (3, fsX3 a_p1 p1_speckMany p1_sourceMany p1_baseTold p1_baseLow p1_baseHigh p1_reach), IA E 21 p1_pushes] h) n (inI r.1 ∧ okA r.2.1 ∧ okA r.2.2) 0 0) 0 0 n (ov [a_t, (a_t + 1), (a_t + 2), (a_t + 3), a_p1, (a_p1 + 1)] [.inr (6, fsX6 a_t t_flaws t_slipped t_gone t_work t_out t_lost t_came), IA E 100 t_signs, IA E 30 t_stood, IA E 30 t_felt, .inr (3, fsX3 a_p1 p1_speckMany p1_sourceMany p1_baseTold p1_baseLow p1_baseHigh p1_reach), IA E 21 p1_pushes] h) 5 [some (.ref a_t), some (.ref a_p1), some (vI v2), some (vI v3), some (vI v4)] [] := by
  intro F
  induction F with
  | zero =>
    intro t_stood t_felt v3 v4 ok_t_stood ok_t_felt ok_v3 ok_v4 hs
    rw [m_X6_feelAll_5] at hs
    cases hs
  | succ F ih =>
    intro t_stood t_felt v3 v4 ok_t_stood ok_t_felt ok_v3 ok_v4 hs
    rw [m_X6_feelAll_5] at hs
    refine g_iload e_X6_feelAll_5 rfl ?_
    refine g_bipush e_X6_feelAll_7 bp_100 ?_
    refine g_icmp_ge e_X6_feelAll_9 ok_v4 (by decide : inI 100) hs (fun c9 hs => ?_) (fun c9 hs => ?_)
    · refine g_iload_n e_X6_feelAll_67 rfl ?_
      obtain rfl := Option.some.inj hs
      exact g_iret rfl ⟨ok_v3, ok_t_stood, ok_t_felt⟩ e_X6_feelAll_68
    · refine g_iload_n e_X6_feelAll_12 rfl ?_
      refine g_bipush e_X6_feelAll_13 bp_30 ?_
      refine g_icmp_ge e_X6_feelAll_15 ok_v3 (by decide : inI 30) hs (fun c15 hs => ?_) (fun c15 hs => ?_)
      · refine g_iload_n e_X6_feelAll_67 rfl ?_
        obtain rfl := Option.some.inj hs
        exact g_iret rfl ⟨ok_v3, ok_t_stood, ok_t_felt⟩ e_X6_feelAll_68
      · refine g_aload_n e_X6_feelAll_18 rfl ?_
        refine g_get 0 0 ao rfl rfl fsX6_g0 fl_X6_9 e_X6_feelAll_19 ?_
        refine g_iload e_X6_feelAll_22 rfl ?_
        refine g_iald 1 ao rfl rfl (Nat.le_of_ble_eq_true rfl) e_X6_feelAll_24 hs (fun hi1 hs => ?_)
        refine g_if_eq e_X6_feelAll_25 (ok_t_signs _) hs (fun c25 hs => ?_) (fun c25 hs => ?_)
        · exact g_X6_feelAll_61 ao ok_t_signs ok_t_stood ok_t_felt ok_p1_reach ok_p1_pushes ok_v2 ok_v3 ok_v4 ih hk_67 hs
        · refine g_aload_n e_X6_feelAll_28 rfl ?_
          refine g_get 0 1 ao rfl rfl fsX6_g1 fl_X6_15 e_X6_feelAll_29 ?_
          refine g_iload_n e_X6_feelAll_32 rfl ?_
          refine g_iload e_X6_feelAll_33 rfl ?_
          refine g_iast 2 ao rfl rfl ls_2 (Nat.le_of_ble_eq_true rfl) e_X6_feelAll_35 hs (fun hi3 hs => ?_)
          refine g_aload_n e_X6_feelAll_36 rfl ?_
          refine g_get 0 2 ao rfl rfl fsX6_g2 fl_X6_18 e_X6_feelAll_37 ?_
          refine g_iload_n e_X6_feelAll_40 rfl ?_
          refine g_aload_n e_X6_feelAll_41 rfl ?_
          refine g_get 0 0 ao rfl rfl fsX6_g0 fl_X6_9 e_X6_feelAll_42 ?_
          refine g_iload e_X6_feelAll_45 rfl ?_
          refine g_iald 1 ao rfl rfl (Nat.le_of_ble_eq_true rfl) e_X6_feelAll_47 hs (fun hi4 hs => ?_)
          refine g_aload_n e_X6_feelAll_48 rfl ?_
          refine g_aload_n e_X6_feelAll_49 rfl ?_
          refine g_iload e_X6_feelAll_50 rfl ?_
          refine g_iload_n e_X6_feelAll_52 rfl ?_
          obtain ⟨y5, hy5, hs⟩ := bind_elim hs
          refine g_callVr [.ref a_p1, vI v4, vI v2] cv_X6_106 ⟨rfl, rfl, Nat.le_of_ble_eq_true rfl, Nat.le_of_ble_eq_true rfl⟩ (ct_X6_forceAt (AO_call [0, 1, 4, 5] ao (by decide) rfl) (FA_call [0, 1, 4, 5] ao.1 rfl rfl) ok_t_signs ok_p1_reach ok_p1_pushes ok_v4 ok_v2 hy5) e_X6_feelAll_53 (ao.2 0 _ rfl) (ov_get 0 ao.1 rfl rfl) rfl rfl rfl (Nat.le_of_ble_eq_true rfl) ⟨Nat.le_refl _, Nat.le_refl _⟩ (fun Py5 => ?_)
          refine g_imul e_X6_feelAll_56 ?_
          obtain ⟨hc6, hs⟩ := chk_elim hs
          refine g_iast 3 ao rfl rfl ls_3 (Nat.le_of_ble_eq_true rfl) e_X6_feelAll_57 hs (fun hi7 hs => ?_)
          refine g_iinc e_X6_feelAll_58 rfl st1_3 rfl ?_
          obtain ⟨hc8, hs⟩ := chk_elim hs
          exact g_X6_feelAll_61 ao ok_t_signs (okA_up ok_t_stood ok_v4) (okA_up ok_t_felt hc6) ok_p1_reach ok_p1_pushes ok_v2 hc8 ok_v4 ih hk_67 hs

noncomputable def m_X6_feelAll_67 (t_stood : Nat → Int) (t_felt : Nat → Int) (v3 : Int) : Option (Int × (Nat → Int) × (Nat → Int)) :=
  some (v3, t_stood, t_felt)

set_option maxRecDepth 10000 in
theorem g_X6_feelAll_67 {l : Launch} {E : EE} {b0 n : Nat} {h : AH} {a_t a_p1 : Nat} {t_flaws t_slipped t_gone t_work t_out t_lost t_came p1_speckMany p1_sourceMany p1_baseTold p1_baseLow p1_baseHigh p1_reach v3 : Int} {t_signs t_stood t_felt p1_pushes : Nat → Int} {r : Int × (Nat → Int) × (Nat → Int)} (ao : AO b0 n [a_t, (a_t + 1), (a_t + 2), (a_t + 3), a_p1, (a_p1 + 1)]) (ok_t_signs : okA t_signs) (ok_t_stood : okA t_stood) (ok_t_felt : okA t_felt) (ok_p1_reach : inI p1_reach) (ok_p1_pushes : okA p1_pushes) (ok_v3 : inI v3) (hs : m_X6_feelAll_67 t_stood t_felt v3 = some r) : G l E b0 M_X6_feelAll (fun _ => True) (ZM E b0 (some (vI r.1)) (ov [a_t, (a_t + 1), (a_t + 2), (a_t + 3), a_p1, (a_p1 + 1)] [.inr (6, fsX6 a_t t_flaws t_slipped t_gone t_work t_out t_lost t_came), IA E 100 t_signs, IA E 30 r.2.1, IA E 30 r.2.2, .inr (3, fsX3 a_p1 p1_speckMany p1_sourceMany p1_baseTold p1_baseLow p1_baseHigh p1_reach), IA E 21 p1_pushes] h) n (inI r.1 ∧ okA r.2.1 ∧ okA r.2.2) 0 0) 0 0 n (ov [a_t, (a_t + 1), (a_t + 2), (a_t + 3), a_p1, (a_p1 + 1)] [.inr (6, fsX6 a_t t_flaws t_slipped t_gone t_work t_out t_lost t_came), IA E 100 t_signs, IA E 30 t_stood, IA E 30 t_felt, .inr (3, fsX3 a_p1 p1_speckMany p1_sourceMany p1_baseTold p1_baseLow p1_baseHigh p1_reach), IA E 21 p1_pushes] h) 67 [none, none, none, some (vI v3), none] [] := by
  rw [m_X6_feelAll_67] at hs
  refine g_iload_n e_X6_feelAll_67 rfl ?_
  obtain rfl := Option.some.inj hs
  exact g_iret rfl ⟨ok_v3, ok_t_stood, ok_t_felt⟩ e_X6_feelAll_68

noncomputable def m_X6_feelAll_0 (t_signs : Nat → Int) (t_stood : Nat → Int) (t_felt : Nat → Int) (p1_reach : Int) (p1_pushes : Nat → Int) (v2 : Int) : Option (Int × (Nat → Int) × (Nat → Int)) :=
  m_X6_feelAll_5 t_signs p1_reach p1_pushes v2 (fun t_stood' t_felt' v3' v4' => m_X6_feelAll_67 t_stood' t_felt' v3') FU t_stood t_felt 0 0

set_option maxRecDepth 10000 in
theorem g_X6_feelAll_0 {l : Launch} {E : EE} {b0 n : Nat} {h : AH} {a_t a_p1 : Nat} {t_flaws t_slipped t_gone t_work t_out t_lost t_came p1_speckMany p1_sourceMany p1_baseTold p1_baseLow p1_baseHigh p1_reach v2 : Int} {t_signs t_stood t_felt p1_pushes : Nat → Int} {r : Int × (Nat → Int) × (Nat → Int)} (ao : AO b0 n [a_t, (a_t + 1), (a_t + 2), (a_t + 3), a_p1, (a_p1 + 1)]) (ok_t_signs : okA t_signs) (ok_t_stood : okA t_stood) (ok_t_felt : okA t_felt) (ok_p1_reach : inI p1_reach) (ok_p1_pushes : okA p1_pushes) (ok_v2 : inI v2) (hs : m_X6_feelAll_0 t_signs t_stood t_felt p1_reach p1_pushes v2 = some r) : G l E b0 M_X6_feelAll (fun _ => True) (ZM E b0 (some (vI r.1)) (ov [a_t, (a_t + 1), (a_t + 2), (a_t + 3), a_p1, (a_p1 + 1)] [.inr (6, fsX6 a_t t_flaws t_slipped t_gone t_work t_out t_lost t_came), IA E 100 t_signs, IA E 30 r.2.1, IA E 30 r.2.2, .inr (3, fsX3 a_p1 p1_speckMany p1_sourceMany p1_baseTold p1_baseLow p1_baseHigh p1_reach), IA E 21 p1_pushes] h) n (inI r.1 ∧ okA r.2.1 ∧ okA r.2.2) 0 0) 0 0 n (ov [a_t, (a_t + 1), (a_t + 2), (a_t + 3), a_p1, (a_p1 + 1)] [.inr (6, fsX6 a_t t_flaws t_slipped t_gone t_work t_out t_lost t_came), IA E 100 t_signs, IA E 30 t_stood, IA E 30 t_felt, .inr (3, fsX3 a_p1 p1_speckMany p1_sourceMany p1_baseTold p1_baseLow p1_baseHigh p1_reach), IA E 21 p1_pushes] h) 0 [some (.ref a_t), some (.ref a_p1), some (vI v2), none, none] [] := by
  rw [m_X6_feelAll_0] at hs
  refine g_iconst e_X6_feelAll_0 ?_
  refine g_istore_n e_X6_feelAll_1 st1_3 rfl ?_
  refine g_iconst e_X6_feelAll_2 ?_
  refine g_istore e_X6_feelAll_3 st1_4 rfl ?_
  exact g_X6_feelAll_5 ao ok_t_signs ok_p1_reach ok_p1_pushes ok_v2 (hk_67 := by
      intro t_stood' t_felt' v3' v4' ok_t_stood' ok_t_felt' ok_v3' ok_v4' hs
      exact g_X6_feelAll_67 ao ok_t_signs ok_t_stood' ok_t_felt' ok_p1_reach ok_p1_pushes ok_v3' hs) FU _ _ _ _ ok_t_stood ok_t_felt (by decide : inI 0) (by decide : inI 0) hs

noncomputable def m_X6_feelAll (t_signs : Nat → Int) (t_stood : Nat → Int) (t_felt : Nat → Int) (p1_reach : Int) (p1_pushes : Nat → Int) (v2 : Int) : Option (Int × (Nat → Int) × (Nat → Int)) := m_X6_feelAll_0 t_signs t_stood t_felt p1_reach p1_pushes v2

set_option maxRecDepth 10000 in
theorem ct_X6_feelAll {l : Launch} {E : EE} {b0 n : Nat} {h : AH} {a_t a_p1 : Nat} {t_flaws t_slipped t_gone t_work t_out t_lost t_came p1_speckMany p1_sourceMany p1_baseTold p1_baseLow p1_baseHigh p1_reach : Int} {t_signs t_stood t_felt p1_pushes : Nat → Int} {v2 : Int} (ao : AO b0 n [a_t, (a_t + 1), (a_t + 2), (a_t + 3), a_p1, (a_p1 + 1)]) (hf : FA h [a_t, (a_t + 1), (a_t + 2), (a_t + 3), a_p1, (a_p1 + 1)] [.inr (6, fsX6 a_t t_flaws t_slipped t_gone t_work t_out t_lost t_came), IA E 100 t_signs, IA E 30 t_stood, IA E 30 t_felt, .inr (3, fsX3 a_p1 p1_speckMany p1_sourceMany p1_baseTold p1_baseLow p1_baseHigh p1_reach), IA E 21 p1_pushes]) (ok_t_signs : okA t_signs) (ok_t_stood : okA t_stood) (ok_t_felt : okA t_felt) (ok_p1_reach : inI p1_reach) (ok_p1_pushes : okA p1_pushes) (ok_v2 : inI v2) {r : Int × (Nat → Int) × (Nat → Int)} (hm : m_X6_feelAll t_signs t_stood t_felt p1_reach p1_pushes v2 = some r) : Ct l E b0 M_X6_feelAll 0 0 [.ref a_t, .ref a_p1, vI v2] h n (some (vI r.1)) (ov [a_t, (a_t + 1), (a_t + 2), (a_t + 3), a_p1, (a_p1 + 1)] [.inr (6, fsX6 a_t t_flaws t_slipped t_gone t_work t_out t_lost t_came), IA E 100 t_signs, IA E 30 r.2.1, IA E 30 r.2.2, .inr (3, fsX3 a_p1 p1_speckMany p1_sourceMany p1_baseTold p1_baseLow p1_baseHigh p1_reach), IA E 21 p1_pushes] h) n (inI r.1 ∧ okA r.2.1 ∧ okA r.2.2) := by
  rw [m_X6_feelAll] at hm
  have hg : G l E b0 M_X6_feelAll (fun _ => True) (ZM E b0 (some (vI r.1)) (ov [a_t, (a_t + 1), (a_t + 2), (a_t + 3), a_p1, (a_p1 + 1)] [.inr (6, fsX6 a_t t_flaws t_slipped t_gone t_work t_out t_lost t_came), IA E 100 t_signs, IA E 30 r.2.1, IA E 30 r.2.2, .inr (3, fsX3 a_p1 p1_speckMany p1_sourceMany p1_baseTold p1_baseLow p1_baseHigh p1_reach), IA E 21 p1_pushes] h) n (inI r.1 ∧ okA r.2.1 ∧ okA r.2.2) 0 0) 0 0 n (ov [a_t, (a_t + 1), (a_t + 2), (a_t + 3), a_p1, (a_p1 + 1)] [.inr (6, fsX6 a_t t_flaws t_slipped t_gone t_work t_out t_lost t_came), IA E 100 t_signs, IA E 30 t_stood, IA E 30 t_felt, .inr (3, fsX3 a_p1 p1_speckMany p1_sourceMany p1_baseTold p1_baseLow p1_baseHigh p1_reach), IA E 21 p1_pushes] h) 0 [some (.ref a_t), some (.ref a_p1), some (vI v2), none, none] [] := by
    have hs := hm
    exact g_X6_feelAll_0 ao ok_t_signs ok_t_stood ok_t_felt ok_p1_reach ok_p1_pushes ok_v2 hs
  rw [FA_id hf] at hg
  exact Ct_of [some (.ref a_t), some (.ref a_p1), some (vI v2), none, none] ⟨by decide +kernel, rfl⟩ rfl (Nat.le_of_ble_eq_true rfl) hg

/-! ===== X6_give ===== -/
theorem e_X6_give_0 : DC cX6_give 0 (.aload_n 0) 1 1 := ⟨by decide +kernel, rfl⟩
theorem e_X6_give_1 : DC cX6_give 1 (.getfield 27) 3 4 := ⟨by decide +kernel, rfl⟩
theorem e_X6_give_4 : DC cX6_give 4 (.bipush 28) 2 6 := ⟨by decide +kernel, rfl⟩
theorem e_X6_give_6 : DB cX6_give 6 (.if_icmp .gt 31) (31) 3 9 37 := ⟨by decide +kernel, rfl, rfl⟩
theorem e_X6_give_9 : DC cX6_give 9 (.aload_n 0) 1 10 := ⟨by decide +kernel, rfl⟩
theorem e_X6_give_10 : DC cX6_give 10 (.iload_n 2) 1 11 := ⟨by decide +kernel, rfl⟩
theorem e_X6_give_11 : DC cX6_give 11 (.iconst 1) 1 12 := ⟨by decide +kernel, rfl⟩
theorem e_X6_give_12 : DC cX6_give 12 (.isub) 1 13 := ⟨by decide +kernel, rfl⟩
theorem e_X6_give_13 : DC cX6_give 13 (.invokevirtual 60) 3 16 := ⟨by decide +kernel, rfl⟩
theorem e_X6_give_16 : DB cX6_give 16 (.ifCond .eq 21) (21) 3 19 37 := ⟨by decide +kernel, rfl, rfl⟩
theorem e_X6_give_19 : DC cX6_give 19 (.aload_n 0) 1 20 := ⟨by decide +kernel, rfl⟩
theorem e_X6_give_20 : DC cX6_give 20 (.iload_n 2) 1 21 := ⟨by decide +kernel, rfl⟩
theorem e_X6_give_21 : DC cX6_give 21 (.invokevirtual 60) 3 24 := ⟨by decide +kernel, rfl⟩
theorem e_X6_give_24 : DB cX6_give 24 (.ifCond .eq 13) (13) 3 27 37 := ⟨by decide +kernel, rfl, rfl⟩
theorem e_X6_give_27 : DC cX6_give 27 (.aload_n 0) 1 28 := ⟨by decide +kernel, rfl⟩
theorem e_X6_give_28 : DC cX6_give 28 (.iload_n 2) 1 29 := ⟨by decide +kernel, rfl⟩
theorem e_X6_give_29 : DC cX6_give 29 (.iconst 1) 1 30 := ⟨by decide +kernel, rfl⟩
theorem e_X6_give_30 : DC cX6_give 30 (.iadd) 1 31 := ⟨by decide +kernel, rfl⟩
theorem e_X6_give_31 : DC cX6_give 31 (.invokevirtual 60) 3 34 := ⟨by decide +kernel, rfl⟩
theorem e_X6_give_34 : DB cX6_give 34 (.ifCond .ne 4) (4) 3 37 38 := ⟨by decide +kernel, rfl, rfl⟩
theorem e_X6_give_37 : DC cX6_give 37 (.return_) 1 38 := ⟨by decide +kernel, rfl⟩
theorem e_X6_give_38 : DC cX6_give 38 (.aload_n 0) 1 39 := ⟨by decide +kernel, rfl⟩
theorem e_X6_give_39 : DC cX6_give 39 (.aload_n 1) 1 40 := ⟨by decide +kernel, rfl⟩
theorem e_X6_give_40 : DC cX6_give 40 (.iload_n 2) 1 41 := ⟨by decide +kernel, rfl⟩
theorem e_X6_give_41 : DC cX6_give 41 (.iload_n 3) 1 42 := ⟨by decide +kernel, rfl⟩
theorem e_X6_give_42 : DC cX6_give 42 (.invokevirtual 106) 3 45 := ⟨by decide +kernel, rfl⟩
theorem e_X6_give_45 : DC cX6_give 45 (.istore 4) 2 47 := ⟨by decide +kernel, rfl⟩
theorem e_X6_give_47 : DC cX6_give 47 (.aload_n 1) 1 48 := ⟨by decide +kernel, rfl⟩
theorem e_X6_give_48 : DC cX6_give 48 (.getfield 117) 3 51 := ⟨by decide +kernel, rfl⟩
theorem e_X6_give_51 : DC cX6_give 51 (.iload_n 2) 1 52 := ⟨by decide +kernel, rfl⟩
theorem e_X6_give_52 : DC cX6_give 52 (.iaload) 1 53 := ⟨by decide +kernel, rfl⟩
theorem e_X6_give_53 : DC cX6_give 53 (.istore 5) 2 55 := ⟨by decide +kernel, rfl⟩
theorem e_X6_give_55 : DC cX6_give 55 (.iload 4) 2 57 := ⟨by decide +kernel, rfl⟩
theorem e_X6_give_57 : DC cX6_give 57 (.iload 5) 2 59 := ⟨by decide +kernel, rfl⟩
theorem e_X6_give_59 : DB cX6_give 59 (.if_icmp .le 7) (7) 3 62 66 := ⟨by decide +kernel, rfl, rfl⟩
theorem e_X6_give_62 : DC cX6_give 62 (.iconst 1) 1 63 := ⟨by decide +kernel, rfl⟩
theorem e_X6_give_63 : DB cX6_give 63 (.goto 16) (16) 3 66 79 := ⟨by decide +kernel, rfl, rfl⟩
theorem e_X6_give_66 : DC cX6_give 66 (.iload 4) 2 68 := ⟨by decide +kernel, rfl⟩
theorem e_X6_give_68 : DC cX6_give 68 (.iload 5) 2 70 := ⟨by decide +kernel, rfl⟩
theorem e_X6_give_70 : DC cX6_give 70 (.ineg) 1 71 := ⟨by decide +kernel, rfl⟩
theorem e_X6_give_71 : DB cX6_give 71 (.if_icmp .ge 7) (7) 3 74 78 := ⟨by decide +kernel, rfl, rfl⟩
theorem e_X6_give_74 : DC cX6_give 74 (.iconst (-1)) 1 75 := ⟨by decide +kernel, rfl⟩
theorem e_X6_give_75 : DB cX6_give 75 (.goto 4) (4) 3 78 79 := ⟨by decide +kernel, rfl, rfl⟩
theorem e_X6_give_78 : DC cX6_give 78 (.iconst 0) 1 79 := ⟨by decide +kernel, rfl⟩
theorem e_X6_give_79 : DC cX6_give 79 (.istore 6) 2 81 := ⟨by decide +kernel, rfl⟩
theorem e_X6_give_81 : DC cX6_give 81 (.iload 6) 2 83 := ⟨by decide +kernel, rfl⟩
theorem e_X6_give_83 : DB cX6_give 83 (.ifCond .eq 44) (44) 3 86 127 := ⟨by decide +kernel, rfl, rfl⟩
theorem e_X6_give_86 : DC cX6_give 86 (.aload_n 0) 1 87 := ⟨by decide +kernel, rfl⟩
theorem e_X6_give_87 : DC cX6_give 87 (.getfield 9) 3 90 := ⟨by decide +kernel, rfl⟩
theorem e_X6_give_90 : DC cX6_give 90 (.iload_n 2) 1 91 := ⟨by decide +kernel, rfl⟩
theorem e_X6_give_91 : DC cX6_give 91 (.iconst 1) 1 92 := ⟨by decide +kernel, rfl⟩
theorem e_X6_give_92 : DC cX6_give 92 (.iadd) 1 93 := ⟨by decide +kernel, rfl⟩
theorem e_X6_give_93 : DC cX6_give 93 (.iload 6) 2 95 := ⟨by decide +kernel, rfl⟩
theorem e_X6_give_95 : DC cX6_give 95 (.iastore) 1 96 := ⟨by decide +kernel, rfl⟩
theorem e_X6_give_96 : DC cX6_give 96 (.aload_n 0) 1 97 := ⟨by decide +kernel, rfl⟩
theorem e_X6_give_97 : DC cX6_give 97 (.getfield 9) 3 100 := ⟨by decide +kernel, rfl⟩
theorem e_X6_give_100 : DC cX6_give 100 (.iload_n 2) 1 101 := ⟨by decide +kernel, rfl⟩
theorem e_X6_give_101 : DC cX6_give 101 (.iconst 1) 1 102 := ⟨by decide +kernel, rfl⟩
theorem e_X6_give_102 : DC cX6_give 102 (.isub) 1 103 := ⟨by decide +kernel, rfl⟩
theorem e_X6_give_103 : DC cX6_give 103 (.iload 6) 2 105 := ⟨by decide +kernel, rfl⟩
theorem e_X6_give_105 : DC cX6_give 105 (.ineg) 1 106 := ⟨by decide +kernel, rfl⟩
theorem e_X6_give_106 : DC cX6_give 106 (.iastore) 1 107 := ⟨by decide +kernel, rfl⟩
theorem e_X6_give_107 : DC cX6_give 107 (.aload_n 0) 1 108 := ⟨by decide +kernel, rfl⟩
theorem e_X6_give_108 : DC cX6_give 108 (.dup) 1 109 := ⟨by decide +kernel, rfl⟩
theorem e_X6_give_109 : DC cX6_give 109 (.getfield 27) 3 112 := ⟨by decide +kernel, rfl⟩
theorem e_X6_give_112 : DC cX6_give 112 (.iconst 2) 1 113 := ⟨by decide +kernel, rfl⟩
theorem e_X6_give_113 : DC cX6_give 113 (.iadd) 1 114 := ⟨by decide +kernel, rfl⟩
theorem e_X6_give_114 : DC cX6_give 114 (.putfield 27) 3 117 := ⟨by decide +kernel, rfl⟩
theorem e_X6_give_117 : DC cX6_give 117 (.aload_n 0) 1 118 := ⟨by decide +kernel, rfl⟩
theorem e_X6_give_118 : DC cX6_give 118 (.dup) 1 119 := ⟨by decide +kernel, rfl⟩
theorem e_X6_give_119 : DC cX6_give 119 (.getfield 47) 3 122 := ⟨by decide +kernel, rfl⟩
theorem e_X6_give_122 : DC cX6_give 122 (.iconst 2) 1 123 := ⟨by decide +kernel, rfl⟩
theorem e_X6_give_123 : DC cX6_give 123 (.iadd) 1 124 := ⟨by decide +kernel, rfl⟩
theorem e_X6_give_124 : DC cX6_give 124 (.putfield 47) 3 127 := ⟨by decide +kernel, rfl⟩
theorem e_X6_give_127 : DC cX6_give 127 (.return_) 1 128 := ⟨by decide +kernel, rfl⟩
noncomputable def m_X6_give_79 (t_flaws : Int) (t_came : Int) (t_signs : Nat → Int) (v2 : Int) (s0 : Int) : Option (Int × Int × (Nat → Int)) :=
  if s0 = 0 then (some (t_flaws, t_came, t_signs)) else (chk (inB (v2 + 1) 100) (chk (inI (-s0)) (chk (inB (v2 - 1) 100) (chk (inI (t_flaws + 2)) (chk (inI (t_came + 2)) (some (t_flaws + 2, t_came + 2, up (up t_signs (Int.toNat (v2 + 1)) s0) (Int.toNat (v2 - 1)) (-s0))))))))

set_option maxRecDepth 10000 in
theorem g_X6_give_79 {l : Launch} {E : EE} {b0 n : Nat} {h : AH} {a_t a_p1 : Nat} {t_flaws t_slipped t_gone t_work t_out t_lost t_came p1_speckMany p1_sourceMany p1_baseTold p1_baseLow p1_baseHigh p1_reach v2 s0 : Int} {t_signs p1_pushes p1_sourceHolds : Nat → Int} {r : Int × Int × (Nat → Int)} (ao : AO b0 n [a_t, (a_t + 1), a_p1, (a_p1 + 1), (a_p1 + 6)]) (ok_t_flaws : inI t_flaws) (ok_t_came : inI t_came) (ok_t_signs : okA t_signs) (ok_p1_reach : inI p1_reach) (ok_p1_pushes : okA p1_pushes) (ok_p1_sourceHolds : okA p1_sourceHolds) (ok_v2 : inI v2) (ok_s0 : inI s0) (hs : m_X6_give_79 t_flaws t_came t_signs v2 s0 = some r) : G l E b0 M_X6_give (fun _ => True) (ZM E b0 (none) (ov [a_t, (a_t + 1), a_p1, (a_p1 + 1), (a_p1 + 6)] [.inr (6, fsX6 a_t r.1 t_slipped t_gone t_work t_out t_lost r.2.1), IA E 100 r.2.2, .inr (3, fsX3 a_p1 p1_speckMany p1_sourceMany p1_baseTold p1_baseLow p1_baseHigh p1_reach), IA E 21 p1_pushes, IA E 100 p1_sourceHolds] h) n (inI r.1 ∧ inI r.2.1 ∧ okA r.2.2) 0 0) 0 0 n (ov [a_t, (a_t + 1), a_p1, (a_p1 + 1), (a_p1 + 6)] [.inr (6, fsX6 a_t t_flaws t_slipped t_gone t_work t_out t_lost t_came), IA E 100 t_signs, .inr (3, fsX3 a_p1 p1_speckMany p1_sourceMany p1_baseTold p1_baseLow p1_baseHigh p1_reach), IA E 21 p1_pushes, IA E 100 p1_sourceHolds] h) 79 [some (.ref a_t), none, some (vI v2), none, none, none, none] [vI s0] := by
  rw [m_X6_give_79] at hs
  refine g_istore e_X6_give_79 st1_6 rfl ?_
  refine g_iload e_X6_give_81 rfl ?_
  refine g_if_eq e_X6_give_83 ok_s0 hs (fun c83 hs => ?_) (fun c83 hs => ?_)
  · obtain rfl := Option.some.inj hs
    exact g_vret rfl ⟨ok_t_flaws, ok_t_came, ok_t_signs⟩ e_X6_give_127
  · refine g_aload_n e_X6_give_86 rfl ?_
    refine g_get 0 0 ao rfl rfl fsX6_g0 fl_X6_9 e_X6_give_87 ?_
    refine g_iload_n e_X6_give_90 rfl ?_
    refine g_iconst e_X6_give_91 ?_
    refine g_iadd e_X6_give_92 ?_
    refine g_iload e_X6_give_93 rfl ?_
    refine g_iast 1 ao rfl rfl ls_1 (Nat.le_of_ble_eq_true rfl) e_X6_give_95 hs (fun hi9 hs => ?_)
    refine g_aload_n e_X6_give_96 rfl ?_
    refine g_get 0 0 ao rfl rfl fsX6_g0 fl_X6_9 e_X6_give_97 ?_
    refine g_iload_n e_X6_give_100 rfl ?_
    refine g_iconst e_X6_give_101 ?_
    refine g_isub e_X6_give_102 ?_
    refine g_iload e_X6_give_103 rfl ?_
    refine g_ineg e_X6_give_105 ?_
    obtain ⟨hc10, hs⟩ := chk_elim hs
    refine g_iast 1 ao rfl rfl ls_1 (Nat.le_of_ble_eq_true rfl) e_X6_give_106 hs (fun hi11 hs => ?_)
    refine g_aload_n e_X6_give_107 rfl ?_
    refine g_dup e_X6_give_108 rfl ?_
    refine g_get 0 3 ao rfl rfl fsX6_g3 fl_X6_27 e_X6_give_109 ?_
    refine g_iconst e_X6_give_112 ?_
    refine g_iadd e_X6_give_113 ?_
    obtain ⟨hc12, hs⟩ := chk_elim hs
    refine g_put 0 3 ao rfl rfl fsX6_k3 fsX6_s3 ls_0 fw_X6_27 (fun h => by cases h) ⟨rfl, rfl⟩ e_X6_give_114 ?_
    refine g_aload_n e_X6_give_117 rfl ?_
    refine g_dup e_X6_give_118 rfl ?_
    refine g_get 0 9 ao rfl rfl fsX6_g9 fl_X6_47 e_X6_give_119 ?_
    refine g_iconst e_X6_give_122 ?_
    refine g_iadd e_X6_give_123 ?_
    obtain ⟨hc13, hs⟩ := chk_elim hs
    refine g_put 0 9 ao rfl rfl fsX6_k9 fsX6_s9 ls_0 fw_X6_47 (fun h => by cases h) ⟨rfl, rfl⟩ e_X6_give_124 ?_
    obtain rfl := Option.some.inj hs
    exact g_vret rfl ⟨hc12, hc13, (okA_up (okA_up ok_t_signs ok_s0) hc10)⟩ e_X6_give_127

noncomputable def m_X6_give_0 (t_flaws : Int) (t_came : Int) (t_signs : Nat → Int) (p1_reach : Int) (p1_pushes : Nat → Int) (p1_sourceHolds : Nat → Int) (v2 : Int) (v3 : Int) : Option (Int × Int × (Nat → Int)) :=
  if 28 < t_flaws then (some (t_flaws, t_came, t_signs)) else (chk (inI (v2 - 1)) ((m_X6_isFree t_signs (v2 - 1)).bind (fun y2 => if y2 = 0 then (some (t_flaws, t_came, t_signs)) else ((m_X6_isFree t_signs v2).bind (fun y3 => if y3 = 0 then (some (t_flaws, t_came, t_signs)) else (chk (inI (v2 + 1)) ((m_X6_isFree t_signs (v2 + 1)).bind (fun y5 => if y5 = 0 then (some (t_flaws, t_came, t_signs)) else ((m_X6_forceAt t_signs p1_reach p1_pushes v2 v3).bind (fun y6 => chk (inB v2 100) (if y6 ≤ (p1_sourceHolds (Int.toNat v2)) then (chk (inI (-(p1_sourceHolds (Int.toNat v2)))) (if (-(p1_sourceHolds (Int.toNat v2))) ≤ y6 then (m_X6_give_79 t_flaws t_came t_signs v2 0) else (m_X6_give_79 t_flaws t_came t_signs v2 (-1)))) else (m_X6_give_79 t_flaws t_came t_signs v2 1))))))))))))

set_option maxRecDepth 10000 in
theorem g_X6_give_0 {l : Launch} {E : EE} {b0 n : Nat} {h : AH} {a_t a_p1 : Nat} {t_flaws t_slipped t_gone t_work t_out t_lost t_came p1_speckMany p1_sourceMany p1_baseTold p1_baseLow p1_baseHigh p1_reach v2 v3 : Int} {t_signs p1_pushes p1_sourceHolds : Nat → Int} {r : Int × Int × (Nat → Int)} (ao : AO b0 n [a_t, (a_t + 1), a_p1, (a_p1 + 1), (a_p1 + 6)]) (ok_t_flaws : inI t_flaws) (ok_t_came : inI t_came) (ok_t_signs : okA t_signs) (ok_p1_reach : inI p1_reach) (ok_p1_pushes : okA p1_pushes) (ok_p1_sourceHolds : okA p1_sourceHolds) (ok_v2 : inI v2) (ok_v3 : inI v3) (hs : m_X6_give_0 t_flaws t_came t_signs p1_reach p1_pushes p1_sourceHolds v2 v3 = some r) : G l E b0 M_X6_give (fun _ => True) (ZM E b0 (none) (ov [a_t, (a_t + 1), a_p1, (a_p1 + 1), (a_p1 + 6)] [.inr (6, fsX6 a_t r.1 t_slipped t_gone t_work t_out t_lost r.2.1), IA E 100 r.2.2, .inr (3, fsX3 a_p1 p1_speckMany p1_sourceMany p1_baseTold p1_baseLow p1_baseHigh p1_reach), IA E 21 p1_pushes, IA E 100 p1_sourceHolds] h) n (inI r.1 ∧ inI r.2.1 ∧ okA r.2.2) 0 0) 0 0 n (ov [a_t, (a_t + 1), a_p1, (a_p1 + 1), (a_p1 + 6)] [.inr (6, fsX6 a_t t_flaws t_slipped t_gone t_work t_out t_lost t_came), IA E 100 t_signs, .inr (3, fsX3 a_p1 p1_speckMany p1_sourceMany p1_baseTold p1_baseLow p1_baseHigh p1_reach), IA E 21 p1_pushes, IA E 100 p1_sourceHolds] h) 0 [some (.ref a_t), some (.ref a_p1), some (vI v2), some (vI v3), none, none, none] [] := by
  rw [m_X6_give_0] at hs
  refine g_aload_n e_X6_give_0 rfl ?_
  refine g_get 0 3 ao rfl rfl fsX6_g3 fl_X6_27 e_X6_give_1 ?_
  refine g_bipush e_X6_give_4 bp_28 ?_
  refine g_icmp_gt e_X6_give_6 ok_t_flaws (by decide : inI 28) hs (fun c6 hs => ?_) (fun c6 hs => ?_)
  · obtain rfl := Option.some.inj hs
    exact g_vret rfl ⟨ok_t_flaws, ok_t_came, ok_t_signs⟩ e_X6_give_37
  · refine g_aload_n e_X6_give_9 rfl ?_
    refine g_iload_n e_X6_give_10 rfl ?_
    refine g_iconst e_X6_give_11 ?_
    refine g_isub e_X6_give_12 ?_
    obtain ⟨hc1, hs⟩ := chk_elim hs
    obtain ⟨y2, hy2, hs⟩ := bind_elim hs
    refine g_callVr [vI (v2 - 1)] cv_X6_60 ⟨rfl, rfl, Nat.le_of_ble_eq_true rfl, Nat.le_of_ble_eq_true rfl⟩ (ct_X6_isFree (AO_call [0, 1] ao (by decide) rfl) (FA_call [0, 1] ao.1 rfl rfl) ok_t_signs hc1 hy2) e_X6_give_13 (ao.2 0 _ rfl) (ov_get 0 ao.1 rfl rfl) rfl rfl rfl (Nat.le_of_ble_eq_true rfl) ⟨Nat.le_refl _, Nat.le_refl _⟩ (fun Py2 => ?_)
    refine g_if_eq e_X6_give_16 (inZ_I Py2) hs (fun c16 hs => ?_) (fun c16 hs => ?_)
    · obtain rfl := Option.some.inj hs
      exact g_vret rfl ⟨ok_t_flaws, ok_t_came, ok_t_signs⟩ e_X6_give_37
    · refine g_aload_n e_X6_give_19 rfl ?_
      refine g_iload_n e_X6_give_20 rfl ?_
      obtain ⟨y3, hy3, hs⟩ := bind_elim hs
      refine g_callVr [vI v2] cv_X6_60 ⟨rfl, rfl, Nat.le_of_ble_eq_true rfl, Nat.le_of_ble_eq_true rfl⟩ (ct_X6_isFree (AO_call [0, 1] ao (by decide) rfl) (FA_call [0, 1] ao.1 rfl rfl) ok_t_signs ok_v2 hy3) e_X6_give_21 (ao.2 0 _ rfl) (ov_get 0 ao.1 rfl rfl) rfl rfl rfl (Nat.le_of_ble_eq_true rfl) ⟨Nat.le_refl _, Nat.le_refl _⟩ (fun Py3 => ?_)
      refine g_if_eq e_X6_give_24 (inZ_I Py3) hs (fun c24 hs => ?_) (fun c24 hs => ?_)
      · obtain rfl := Option.some.inj hs
        exact g_vret rfl ⟨ok_t_flaws, ok_t_came, ok_t_signs⟩ e_X6_give_37
      · refine g_aload_n e_X6_give_27 rfl ?_
        refine g_iload_n e_X6_give_28 rfl ?_
        refine g_iconst e_X6_give_29 ?_
        refine g_iadd e_X6_give_30 ?_
        obtain ⟨hc4, hs⟩ := chk_elim hs
        obtain ⟨y5, hy5, hs⟩ := bind_elim hs
        refine g_callVr [vI (v2 + 1)] cv_X6_60 ⟨rfl, rfl, Nat.le_of_ble_eq_true rfl, Nat.le_of_ble_eq_true rfl⟩ (ct_X6_isFree (AO_call [0, 1] ao (by decide) rfl) (FA_call [0, 1] ao.1 rfl rfl) ok_t_signs hc4 hy5) e_X6_give_31 (ao.2 0 _ rfl) (ov_get 0 ao.1 rfl rfl) rfl rfl rfl (Nat.le_of_ble_eq_true rfl) ⟨Nat.le_refl _, Nat.le_refl _⟩ (fun Py5 => ?_)
        refine g_if_ne e_X6_give_34 (inZ_I Py5) hs (fun c34 hs => ?_) (fun c34 hs => ?_)
        · obtain rfl := Option.some.inj hs
          exact g_vret rfl ⟨ok_t_flaws, ok_t_came, ok_t_signs⟩ e_X6_give_37
        · refine g_aload_n e_X6_give_38 rfl ?_
          refine g_aload_n e_X6_give_39 rfl ?_
          refine g_iload_n e_X6_give_40 rfl ?_
          refine g_iload_n e_X6_give_41 rfl ?_
          obtain ⟨y6, hy6, hs⟩ := bind_elim hs
          refine g_callVr [.ref a_p1, vI v2, vI v3] cv_X6_106 ⟨rfl, rfl, Nat.le_of_ble_eq_true rfl, Nat.le_of_ble_eq_true rfl⟩ (ct_X6_forceAt (AO_call [0, 1, 2, 3] ao (by decide) rfl) (FA_call [0, 1, 2, 3] ao.1 rfl rfl) ok_t_signs ok_p1_reach ok_p1_pushes ok_v2 ok_v3 hy6) e_X6_give_42 (ao.2 0 _ rfl) (ov_get 0 ao.1 rfl rfl) rfl rfl rfl (Nat.le_of_ble_eq_true rfl) ⟨Nat.le_refl _, Nat.le_refl _⟩ (fun Py6 => ?_)
          refine g_istore e_X6_give_45 st1_4 rfl ?_
          refine g_aload_n e_X6_give_47 rfl ?_
          refine g_get 2 5 ao rfl rfl fsX3_g5 fl_X6_117 e_X6_give_48 ?_
          refine g_iload_n e_X6_give_51 rfl ?_
          refine g_iald 4 ao rfl rfl (Nat.le_of_ble_eq_true rfl) e_X6_give_52 hs (fun hi7 hs => ?_)
          refine g_istore e_X6_give_53 st1_5 rfl ?_
          refine g_iload e_X6_give_55 rfl ?_
          refine g_iload e_X6_give_57 rfl ?_
          refine g_icmp_le e_X6_give_59 Py6 (ok_p1_sourceHolds _) hs (fun c59 hs => ?_) (fun c59 hs => ?_)
          · refine g_iload e_X6_give_66 rfl ?_
            refine g_iload e_X6_give_68 rfl ?_
            refine g_ineg e_X6_give_70 ?_
            obtain ⟨hc8, hs⟩ := chk_elim hs
            refine g_icmp_ge e_X6_give_71 Py6 hc8 hs (fun c71 hs => ?_) (fun c71 hs => ?_)
            · refine g_iconst e_X6_give_78 ?_
              exact g_mask [true, false, true, false, false, false, true] (g_X6_give_79 ao ok_t_flaws ok_t_came ok_t_signs ok_p1_reach ok_p1_pushes ok_p1_sourceHolds ok_v2 (by decide : inI 0) hs)
            · refine g_iconst e_X6_give_74 ?_
              refine g_goto e_X6_give_75 ?_
              exact g_mask [true, false, true, false, false, false, true] (g_X6_give_79 ao ok_t_flaws ok_t_came ok_t_signs ok_p1_reach ok_p1_pushes ok_p1_sourceHolds ok_v2 (by decide : inI (-1)) hs)
          · refine g_iconst e_X6_give_62 ?_
            refine g_goto e_X6_give_63 ?_
            exact g_mask [true, false, true, false, false, false, true] (g_X6_give_79 ao ok_t_flaws ok_t_came ok_t_signs ok_p1_reach ok_p1_pushes ok_p1_sourceHolds ok_v2 (by decide : inI 1) hs)

noncomputable def m_X6_give (t_flaws : Int) (t_came : Int) (t_signs : Nat → Int) (p1_reach : Int) (p1_pushes : Nat → Int) (p1_sourceHolds : Nat → Int) (v2 : Int) (v3 : Int) : Option (Int × Int × (Nat → Int)) := m_X6_give_0 t_flaws t_came t_signs p1_reach p1_pushes p1_sourceHolds v2 v3

set_option maxRecDepth 10000 in
theorem ct_X6_give {l : Launch} {E : EE} {b0 n : Nat} {h : AH} {a_t a_p1 : Nat} {t_flaws t_slipped t_gone t_work t_out t_lost t_came p1_speckMany p1_sourceMany p1_baseTold p1_baseLow p1_baseHigh p1_reach : Int} {t_signs p1_pushes p1_sourceHolds : Nat → Int} {v2 v3 : Int} (ao : AO b0 n [a_t, (a_t + 1), a_p1, (a_p1 + 1), (a_p1 + 6)]) (hf : FA h [a_t, (a_t + 1), a_p1, (a_p1 + 1), (a_p1 + 6)] [.inr (6, fsX6 a_t t_flaws t_slipped t_gone t_work t_out t_lost t_came), IA E 100 t_signs, .inr (3, fsX3 a_p1 p1_speckMany p1_sourceMany p1_baseTold p1_baseLow p1_baseHigh p1_reach), IA E 21 p1_pushes, IA E 100 p1_sourceHolds]) (ok_t_flaws : inI t_flaws) (ok_t_came : inI t_came) (ok_t_signs : okA t_signs) (ok_p1_reach : inI p1_reach) (ok_p1_pushes : okA p1_pushes) (ok_p1_sourceHolds : okA p1_sourceHolds) (ok_v2 : inI v2) (ok_v3 : inI v3) {r : Int × Int × (Nat → Int)} (hm : m_X6_give t_flaws t_came t_signs p1_reach p1_pushes p1_sourceHolds v2 v3 = some r) : Ct l E b0 M_X6_give 0 0 [.ref a_t, .ref a_p1, vI v2, vI v3] h n (none) (ov [a_t, (a_t + 1), a_p1, (a_p1 + 1), (a_p1 + 6)] [.inr (6, fsX6 a_t r.1 t_slipped t_gone t_work t_out t_lost r.2.1), IA E 100 r.2.2, .inr (3, fsX3 a_p1 p1_speckMany p1_sourceMany p1_baseTold p1_baseLow p1_baseHigh p1_reach), IA E 21 p1_pushes, IA E 100 p1_sourceHolds] h) n (inI r.1 ∧ inI r.2.1 ∧ okA r.2.2) := by
  rw [m_X6_give] at hm
  have hg : G l E b0 M_X6_give (fun _ => True) (ZM E b0 (none) (ov [a_t, (a_t + 1), a_p1, (a_p1 + 1), (a_p1 + 6)] [.inr (6, fsX6 a_t r.1 t_slipped t_gone t_work t_out t_lost r.2.1), IA E 100 r.2.2, .inr (3, fsX3 a_p1 p1_speckMany p1_sourceMany p1_baseTold p1_baseLow p1_baseHigh p1_reach), IA E 21 p1_pushes, IA E 100 p1_sourceHolds] h) n (inI r.1 ∧ inI r.2.1 ∧ okA r.2.2) 0 0) 0 0 n (ov [a_t, (a_t + 1), a_p1, (a_p1 + 1), (a_p1 + 6)] [.inr (6, fsX6 a_t t_flaws t_slipped t_gone t_work t_out t_lost t_came), IA E 100 t_signs, .inr (3, fsX3 a_p1 p1_speckMany p1_sourceMany p1_baseTold p1_baseLow p1_baseHigh p1_reach), IA E 21 p1_pushes, IA E 100 p1_sourceHolds] h) 0 [some (.ref a_t), some (.ref a_p1), some (vI v2), some (vI v3), none, none, none] [] := by
    have hs := hm
    exact g_X6_give_0 ao ok_t_flaws ok_t_came ok_t_signs ok_p1_reach ok_p1_pushes ok_p1_sourceHolds ok_v2 ok_v3 hs
  rw [FA_id hf] at hg
  exact Ct_of [some (.ref a_t), some (.ref a_p1), some (vI v2), some (vI v3), none, none, none] ⟨by decide +kernel, rfl⟩ rfl (Nat.le_of_ble_eq_true rfl) hg

/-! ===== X6_drop ===== -/
theorem e_X6_drop_0 : DC cX6_drop 0 (.aload_n 0) 1 1 := ⟨by decide +kernel, rfl⟩
theorem e_X6_drop_1 : DC cX6_drop 1 (.getfield 9) 3 4 := ⟨by decide +kernel, rfl⟩
theorem e_X6_drop_4 : DC cX6_drop 4 (.iconst 0) 1 5 := ⟨by decide +kernel, rfl⟩
theorem e_X6_drop_5 : DC cX6_drop 5 (.invokestatic 21) 3 8 := ⟨by decide +kernel, rfl⟩
theorem e_X6_drop_8 : DC cX6_drop 8 (.aload_n 0) 1 9 := ⟨by decide +kernel, rfl⟩
theorem e_X6_drop_9 : DC cX6_drop 9 (.iconst 0) 1 10 := ⟨by decide +kernel, rfl⟩
theorem e_X6_drop_10 : DC cX6_drop 10 (.putfield 27) 3 13 := ⟨by decide +kernel, rfl⟩
theorem e_X6_drop_13 : DC cX6_drop 13 (.aload_n 0) 1 14 := ⟨by decide +kernel, rfl⟩
theorem e_X6_drop_14 : DC cX6_drop 14 (.iconst 0) 1 15 := ⟨by decide +kernel, rfl⟩
theorem e_X6_drop_15 : DC cX6_drop 15 (.putfield 31) 3 18 := ⟨by decide +kernel, rfl⟩
theorem e_X6_drop_18 : DC cX6_drop 18 (.aload_n 0) 1 19 := ⟨by decide +kernel, rfl⟩
theorem e_X6_drop_19 : DC cX6_drop 19 (.iconst 0) 1 20 := ⟨by decide +kernel, rfl⟩
theorem e_X6_drop_20 : DC cX6_drop 20 (.putfield 34) 3 23 := ⟨by decide +kernel, rfl⟩
theorem e_X6_drop_23 : DC cX6_drop 23 (.aload_n 0) 1 24 := ⟨by decide +kernel, rfl⟩
theorem e_X6_drop_24 : DC cX6_drop 24 (.lconst 0) 1 25 := ⟨by decide +kernel, rfl⟩
theorem e_X6_drop_25 : DC cX6_drop 25 (.putfield 37) 3 28 := ⟨by decide +kernel, rfl⟩
theorem e_X6_drop_28 : DC cX6_drop 28 (.aload_n 0) 1 29 := ⟨by decide +kernel, rfl⟩
theorem e_X6_drop_29 : DC cX6_drop 29 (.iconst 0) 1 30 := ⟨by decide +kernel, rfl⟩
theorem e_X6_drop_30 : DC cX6_drop 30 (.putfield 41) 3 33 := ⟨by decide +kernel, rfl⟩
theorem e_X6_drop_33 : DC cX6_drop 33 (.aload_n 0) 1 34 := ⟨by decide +kernel, rfl⟩
theorem e_X6_drop_34 : DC cX6_drop 34 (.iconst 0) 1 35 := ⟨by decide +kernel, rfl⟩
theorem e_X6_drop_35 : DC cX6_drop 35 (.putfield 44) 3 38 := ⟨by decide +kernel, rfl⟩
theorem e_X6_drop_38 : DC cX6_drop 38 (.aload_n 0) 1 39 := ⟨by decide +kernel, rfl⟩
theorem e_X6_drop_39 : DC cX6_drop 39 (.iconst 0) 1 40 := ⟨by decide +kernel, rfl⟩
theorem e_X6_drop_40 : DC cX6_drop 40 (.putfield 47) 3 43 := ⟨by decide +kernel, rfl⟩
theorem e_X6_drop_43 : DC cX6_drop 43 (.return_) 1 44 := ⟨by decide +kernel, rfl⟩
noncomputable def m_X6_drop_0 (t_flaws : Int) (t_slipped : Int) (t_gone : Int) (t_work : Int) (t_out : Int) (t_lost : Int) (t_came : Int) (t_signs : Nat → Int) : Option (Int × Int × Int × Int × Int × Int × Int × (Nat → Int)) :=
  (m_J7_fill_53178 100 t_signs 0).bind (fun y1 => some (0, 0, 0, 0, 0, 0, 0, y1))

set_option maxRecDepth 10000 in
theorem g_X6_drop_0 {l : Launch} {E : EE} {b0 n : Nat} {h : AH} {a_t : Nat} {t_flaws t_slipped t_gone t_work t_out t_lost t_came : Int} {t_signs : Nat → Int} {r : Int × Int × Int × Int × Int × Int × Int × (Nat → Int)} (ao : AO b0 n [a_t, (a_t + 1)]) (ok_t_flaws : inI t_flaws) (ok_t_slipped : inI t_slipped) (ok_t_gone : inI t_gone) (ok_t_work : inJ t_work) (ok_t_out : inI t_out) (ok_t_lost : inI t_lost) (ok_t_came : inI t_came) (ok_t_signs : okA t_signs) (hs : m_X6_drop_0 t_flaws t_slipped t_gone t_work t_out t_lost t_came t_signs = some r) : G l E b0 M_X6_drop (fun _ => True) (ZM E b0 (none) (ov [a_t, (a_t + 1)] [.inr (6, fsX6 a_t r.1 r.2.1 r.2.2.1 r.2.2.2.1 r.2.2.2.2.1 r.2.2.2.2.2.1 r.2.2.2.2.2.2.1), IA E 100 r.2.2.2.2.2.2.2] h) n (inI r.1 ∧ inI r.2.1 ∧ inI r.2.2.1 ∧ inJ r.2.2.2.1 ∧ inI r.2.2.2.2.1 ∧ inI r.2.2.2.2.2.1 ∧ inI r.2.2.2.2.2.2.1 ∧ okA r.2.2.2.2.2.2.2) 0 0) 0 0 n (ov [a_t, (a_t + 1)] [.inr (6, fsX6 a_t t_flaws t_slipped t_gone t_work t_out t_lost t_came), IA E 100 t_signs] h) 0 [some (.ref a_t)] [] := by
  rw [m_X6_drop_0] at hs
  refine g_aload_n e_X6_drop_0 rfl ?_
  refine g_get 0 0 ao rfl rfl fsX6_g0 fl_X6_9 e_X6_drop_1 ?_
  refine g_iconst e_X6_drop_4 ?_
  obtain ⟨y1, hy1, hs⟩ := bind_elim hs
  refine g_callSv [.ref (a_t + 1), vI 0] cs_X6_21 ⟨rfl, rfl, Nat.le_of_ble_eq_true rfl, Nat.le_of_ble_eq_true rfl⟩ (Ct_heap (ct_J7_fill_53178 (AO_call [1] ao (by decide) rfl) (by omega) (FA_call [1] ao.1 rfl rfl) ok_t_signs (by decide : inI 0) hy1) (ov_call (esn := [.inr (6, fsX6 a_t t_flaws t_slipped t_gone t_work t_out t_lost t_came), IA E 100 y1]) [1] ao.1 rfl rfl rfl rfl)) e_X6_drop_5 rfl rfl (Nat.le_of_ble_eq_true rfl) ⟨Nat.le_refl _, Nat.le_refl _⟩ (fun Py1 => ?_)
  refine g_aload_n e_X6_drop_8 rfl ?_
  refine g_iconst e_X6_drop_9 ?_
  refine g_put 0 3 ao rfl rfl fsX6_k3 fsX6_s3 ls_0 fw_X6_27 (fun h => by cases h) ⟨rfl, rfl⟩ e_X6_drop_10 ?_
  refine g_aload_n e_X6_drop_13 rfl ?_
  refine g_iconst e_X6_drop_14 ?_
  refine g_put 0 4 ao rfl rfl fsX6_k4 fsX6_s4 ls_0 fw_X6_31 (fun h => by cases h) ⟨rfl, rfl⟩ e_X6_drop_15 ?_
  refine g_aload_n e_X6_drop_18 rfl ?_
  refine g_iconst e_X6_drop_19 ?_
  refine g_put 0 5 ao rfl rfl fsX6_k5 fsX6_s5 ls_0 fw_X6_34 (fun h => by cases h) ⟨rfl, rfl⟩ e_X6_drop_20 ?_
  refine g_aload_n e_X6_drop_23 rfl ?_
  refine g_lconst (a := 0) e_X6_drop_24 rfl ?_
  refine g_put 0 6 ao rfl rfl fsX6_k6 fsX6_s6 ls_0 fw_X6_37 (fun h => by cases h) ⟨rfl, rfl⟩ e_X6_drop_25 ?_
  refine g_aload_n e_X6_drop_28 rfl ?_
  refine g_iconst e_X6_drop_29 ?_
  refine g_put 0 7 ao rfl rfl fsX6_k7 fsX6_s7 ls_0 fw_X6_41 (fun h => by cases h) ⟨rfl, rfl⟩ e_X6_drop_30 ?_
  refine g_aload_n e_X6_drop_33 rfl ?_
  refine g_iconst e_X6_drop_34 ?_
  refine g_put 0 8 ao rfl rfl fsX6_k8 fsX6_s8 ls_0 fw_X6_44 (fun h => by cases h) ⟨rfl, rfl⟩ e_X6_drop_35 ?_
  refine g_aload_n e_X6_drop_38 rfl ?_
  refine g_iconst e_X6_drop_39 ?_
  refine g_put 0 9 ao rfl rfl fsX6_k9 fsX6_s9 ls_0 fw_X6_47 (fun h => by cases h) ⟨rfl, rfl⟩ e_X6_drop_40 ?_
  obtain rfl := Option.some.inj hs
  exact g_vret rfl ⟨(by decide : inI 0), (by decide : inI 0), (by decide : inI 0), (by decide : inJ 0), (by decide : inI 0), (by decide : inI 0), (by decide : inI 0), Py1⟩ e_X6_drop_43

noncomputable def m_X6_drop (t_flaws : Int) (t_slipped : Int) (t_gone : Int) (t_work : Int) (t_out : Int) (t_lost : Int) (t_came : Int) (t_signs : Nat → Int) : Option (Int × Int × Int × Int × Int × Int × Int × (Nat → Int)) := m_X6_drop_0 t_flaws t_slipped t_gone t_work t_out t_lost t_came t_signs

set_option maxRecDepth 10000 in
theorem ct_X6_drop {l : Launch} {E : EE} {b0 n : Nat} {h : AH} {a_t : Nat} {t_flaws t_slipped t_gone t_work t_out t_lost t_came : Int} {t_signs : Nat → Int} (ao : AO b0 n [a_t, (a_t + 1)]) (hf : FA h [a_t, (a_t + 1)] [.inr (6, fsX6 a_t t_flaws t_slipped t_gone t_work t_out t_lost t_came), IA E 100 t_signs]) (ok_t_flaws : inI t_flaws) (ok_t_slipped : inI t_slipped) (ok_t_gone : inI t_gone) (ok_t_work : inJ t_work) (ok_t_out : inI t_out) (ok_t_lost : inI t_lost) (ok_t_came : inI t_came) (ok_t_signs : okA t_signs) {r : Int × Int × Int × Int × Int × Int × Int × (Nat → Int)} (hm : m_X6_drop t_flaws t_slipped t_gone t_work t_out t_lost t_came t_signs = some r) : Ct l E b0 M_X6_drop 0 0 [.ref a_t] h n (none) (ov [a_t, (a_t + 1)] [.inr (6, fsX6 a_t r.1 r.2.1 r.2.2.1 r.2.2.2.1 r.2.2.2.2.1 r.2.2.2.2.2.1 r.2.2.2.2.2.2.1), IA E 100 r.2.2.2.2.2.2.2] h) n (inI r.1 ∧ inI r.2.1 ∧ inI r.2.2.1 ∧ inJ r.2.2.2.1 ∧ inI r.2.2.2.2.1 ∧ inI r.2.2.2.2.2.1 ∧ inI r.2.2.2.2.2.2.1 ∧ okA r.2.2.2.2.2.2.2) := by
  rw [m_X6_drop] at hm
  have hg : G l E b0 M_X6_drop (fun _ => True) (ZM E b0 (none) (ov [a_t, (a_t + 1)] [.inr (6, fsX6 a_t r.1 r.2.1 r.2.2.1 r.2.2.2.1 r.2.2.2.2.1 r.2.2.2.2.2.1 r.2.2.2.2.2.2.1), IA E 100 r.2.2.2.2.2.2.2] h) n (inI r.1 ∧ inI r.2.1 ∧ inI r.2.2.1 ∧ inJ r.2.2.2.1 ∧ inI r.2.2.2.2.1 ∧ inI r.2.2.2.2.2.1 ∧ inI r.2.2.2.2.2.2.1 ∧ okA r.2.2.2.2.2.2.2) 0 0) 0 0 n (ov [a_t, (a_t + 1)] [.inr (6, fsX6 a_t t_flaws t_slipped t_gone t_work t_out t_lost t_came), IA E 100 t_signs] h) 0 [some (.ref a_t)] [] := by
    have hs := hm
    exact g_X6_drop_0 ao ok_t_flaws ok_t_slipped ok_t_gone ok_t_work ok_t_out ok_t_lost ok_t_came ok_t_signs hs
  rw [FA_id hf] at hg
  exact Ct_of [some (.ref a_t)] ⟨by decide +kernel, rfl⟩ rfl (Nat.le_of_ble_eq_true rfl) hg

/-! ===== X6_bring ===== -/
theorem e_X6_bring_0 : DC cX6_bring 0 (.aload_n 0) 1 1 := ⟨by decide +kernel, rfl⟩
theorem e_X6_bring_1 : DC cX6_bring 1 (.iload_n 1) 1 2 := ⟨by decide +kernel, rfl⟩
theorem e_X6_bring_2 : DC cX6_bring 2 (.invokevirtual 60) 3 5 := ⟨by decide +kernel, rfl⟩
theorem e_X6_bring_5 : DB cX6_bring 5 (.ifCond .eq 19) (19) 3 8 24 := ⟨by decide +kernel, rfl, rfl⟩
theorem e_X6_bring_8 : DC cX6_bring 8 (.iload_n 2) 1 9 := ⟨by decide +kernel, rfl⟩
theorem e_X6_bring_9 : DC cX6_bring 9 (.invokestatic 64) 3 12 := ⟨by decide +kernel, rfl⟩
theorem e_X6_bring_12 : DB cX6_bring 12 (.ifCond .eq 12) (12) 3 15 24 := ⟨by decide +kernel, rfl, rfl⟩
theorem e_X6_bring_15 : DC cX6_bring 15 (.aload_n 0) 1 16 := ⟨by decide +kernel, rfl⟩
theorem e_X6_bring_16 : DC cX6_bring 16 (.getfield 27) 3 19 := ⟨by decide +kernel, rfl⟩
theorem e_X6_bring_19 : DC cX6_bring 19 (.bipush 30) 2 21 := ⟨by decide +kernel, rfl⟩
theorem e_X6_bring_21 : DB cX6_bring 21 (.if_icmp .lt 5) (5) 3 24 26 := ⟨by decide +kernel, rfl, rfl⟩
theorem e_X6_bring_24 : DC cX6_bring 24 (.iconst 0) 1 25 := ⟨by decide +kernel, rfl⟩
theorem e_X6_bring_25 : DC cX6_bring 25 (.ireturn) 1 26 := ⟨by decide +kernel, rfl⟩
theorem e_X6_bring_26 : DC cX6_bring 26 (.aload_n 0) 1 27 := ⟨by decide +kernel, rfl⟩
theorem e_X6_bring_27 : DC cX6_bring 27 (.getfield 9) 3 30 := ⟨by decide +kernel, rfl⟩
theorem e_X6_bring_30 : DC cX6_bring 30 (.iload_n 1) 1 31 := ⟨by decide +kernel, rfl⟩
theorem e_X6_bring_31 : DC cX6_bring 31 (.iload_n 2) 1 32 := ⟨by decide +kernel, rfl⟩
theorem e_X6_bring_32 : DC cX6_bring 32 (.iastore) 1 33 := ⟨by decide +kernel, rfl⟩
theorem e_X6_bring_33 : DC cX6_bring 33 (.aload_n 0) 1 34 := ⟨by decide +kernel, rfl⟩
theorem e_X6_bring_34 : DC cX6_bring 34 (.dup) 1 35 := ⟨by decide +kernel, rfl⟩
theorem e_X6_bring_35 : DC cX6_bring 35 (.getfield 27) 3 38 := ⟨by decide +kernel, rfl⟩
theorem e_X6_bring_38 : DC cX6_bring 38 (.iconst 1) 1 39 := ⟨by decide +kernel, rfl⟩
theorem e_X6_bring_39 : DC cX6_bring 39 (.iadd) 1 40 := ⟨by decide +kernel, rfl⟩
theorem e_X6_bring_40 : DC cX6_bring 40 (.putfield 27) 3 43 := ⟨by decide +kernel, rfl⟩
theorem e_X6_bring_43 : DC cX6_bring 43 (.iconst 1) 1 44 := ⟨by decide +kernel, rfl⟩
theorem e_X6_bring_44 : DC cX6_bring 44 (.ireturn) 1 45 := ⟨by decide +kernel, rfl⟩
noncomputable def m_X6_bring_0 (t_flaws : Int) (t_signs : Nat → Int) (v1 : Int) (v2 : Int) : Option (Int × Int × (Nat → Int)) :=
  (m_X6_isFree t_signs v1).bind (fun y1 => if y1 = 0 then (some (0, t_flaws, t_signs)) else ((m_X10_isSign v2).bind (fun y2 => if y2 = 0 then (some (0, t_flaws, t_signs)) else (if t_flaws < 30 then (chk (inB v1 100) (chk (inI (t_flaws + 1)) (some (1, t_flaws + 1, up t_signs (Int.toNat v1) v2)))) else (some (0, t_flaws, t_signs))))))

set_option maxRecDepth 10000 in
theorem g_X6_bring_0 {l : Launch} {E : EE} {b0 n : Nat} {h : AH} {a_t : Nat} {t_flaws t_slipped t_gone t_work t_out t_lost t_came v1 v2 : Int} {t_signs : Nat → Int} {r : Int × Int × (Nat → Int)} (ao : AO b0 n [a_t, (a_t + 1)]) (ok_t_flaws : inI t_flaws) (ok_t_signs : okA t_signs) (ok_v1 : inI v1) (ok_v2 : inI v2) (hs : m_X6_bring_0 t_flaws t_signs v1 v2 = some r) : G l E b0 M_X6_bring (fun _ => True) (ZM E b0 (some (vI r.1)) (ov [a_t, (a_t + 1)] [.inr (6, fsX6 a_t r.2.1 t_slipped t_gone t_work t_out t_lost t_came), IA E 100 r.2.2] h) n (inZ r.1 ∧ inI r.2.1 ∧ okA r.2.2) 0 0) 0 0 n (ov [a_t, (a_t + 1)] [.inr (6, fsX6 a_t t_flaws t_slipped t_gone t_work t_out t_lost t_came), IA E 100 t_signs] h) 0 [some (.ref a_t), some (vI v1), some (vI v2)] [] := by
  rw [m_X6_bring_0] at hs
  refine g_aload_n e_X6_bring_0 rfl ?_
  refine g_iload_n e_X6_bring_1 rfl ?_
  obtain ⟨y1, hy1, hs⟩ := bind_elim hs
  refine g_callVr [vI v1] cv_X6_60 ⟨rfl, rfl, Nat.le_of_ble_eq_true rfl, Nat.le_of_ble_eq_true rfl⟩ (ct_X6_isFree (AO_call [0, 1] ao (by decide) rfl) (FA_call [0, 1] ao.1 rfl rfl) ok_t_signs ok_v1 hy1) e_X6_bring_2 (ao.2 0 _ rfl) (ov_get 0 ao.1 rfl rfl) rfl rfl rfl (Nat.le_of_ble_eq_true rfl) ⟨Nat.le_refl _, Nat.le_refl _⟩ (fun Py1 => ?_)
  refine g_if_eq e_X6_bring_5 (inZ_I Py1) hs (fun c5 hs => ?_) (fun c5 hs => ?_)
  · refine g_iconst e_X6_bring_24 ?_
    obtain rfl := Option.some.inj hs
    exact g_zret rfl (by decide : inZ 0) ⟨(by decide : inZ 0), ok_t_flaws, ok_t_signs⟩ e_X6_bring_25
  · refine g_iload_n e_X6_bring_8 rfl ?_
    obtain ⟨y2, hy2, hs⟩ := bind_elim hs
    refine g_callSr [vI v2] cs_X6_64 ⟨rfl, rfl, Nat.le_of_ble_eq_true rfl, Nat.le_of_ble_eq_true rfl⟩ (ct_X10_isSign ⟨List.nodup_nil, fun i a h => by simp at h⟩ (fun i a e h => by simp at h) ok_v2 hy2) e_X6_bring_9 rfl rfl (Nat.le_of_ble_eq_true rfl) ⟨Nat.le_refl _, Nat.le_refl _⟩ (fun Py2 => ?_)
    refine g_if_eq e_X6_bring_12 (inZ_I Py2) hs (fun c12 hs => ?_) (fun c12 hs => ?_)
    · refine g_iconst e_X6_bring_24 ?_
      obtain rfl := Option.some.inj hs
      exact g_zret rfl (by decide : inZ 0) ⟨(by decide : inZ 0), ok_t_flaws, ok_t_signs⟩ e_X6_bring_25
    · refine g_aload_n e_X6_bring_15 rfl ?_
      refine g_get 0 3 ao rfl rfl fsX6_g3 fl_X6_27 e_X6_bring_16 ?_
      refine g_bipush e_X6_bring_19 bp_30 ?_
      refine g_icmp_lt e_X6_bring_21 ok_t_flaws (by decide : inI 30) hs (fun c21 hs => ?_) (fun c21 hs => ?_)
      · refine g_aload_n e_X6_bring_26 rfl ?_
        refine g_get 0 0 ao rfl rfl fsX6_g0 fl_X6_9 e_X6_bring_27 ?_
        refine g_iload_n e_X6_bring_30 rfl ?_
        refine g_iload_n e_X6_bring_31 rfl ?_
        refine g_iast 1 ao rfl rfl ls_1 (Nat.le_of_ble_eq_true rfl) e_X6_bring_32 hs (fun hi3 hs => ?_)
        refine g_aload_n e_X6_bring_33 rfl ?_
        refine g_dup e_X6_bring_34 rfl ?_
        refine g_get 0 3 ao rfl rfl fsX6_g3 fl_X6_27 e_X6_bring_35 ?_
        refine g_iconst e_X6_bring_38 ?_
        refine g_iadd e_X6_bring_39 ?_
        obtain ⟨hc4, hs⟩ := chk_elim hs
        refine g_put 0 3 ao rfl rfl fsX6_k3 fsX6_s3 ls_0 fw_X6_27 (fun h => by cases h) ⟨rfl, rfl⟩ e_X6_bring_40 ?_
        refine g_iconst e_X6_bring_43 ?_
        obtain rfl := Option.some.inj hs
        exact g_zret rfl (by decide : inZ 1) ⟨(by decide : inZ 1), hc4, (okA_up ok_t_signs ok_v2)⟩ e_X6_bring_44
      · refine g_iconst e_X6_bring_24 ?_
        obtain rfl := Option.some.inj hs
        exact g_zret rfl (by decide : inZ 0) ⟨(by decide : inZ 0), ok_t_flaws, ok_t_signs⟩ e_X6_bring_25

noncomputable def m_X6_bring (t_flaws : Int) (t_signs : Nat → Int) (v1 : Int) (v2 : Int) : Option (Int × Int × (Nat → Int)) := m_X6_bring_0 t_flaws t_signs v1 v2

set_option maxRecDepth 10000 in
theorem ct_X6_bring {l : Launch} {E : EE} {b0 n : Nat} {h : AH} {a_t : Nat} {t_flaws t_slipped t_gone t_work t_out t_lost t_came : Int} {t_signs : Nat → Int} {v1 v2 : Int} (ao : AO b0 n [a_t, (a_t + 1)]) (hf : FA h [a_t, (a_t + 1)] [.inr (6, fsX6 a_t t_flaws t_slipped t_gone t_work t_out t_lost t_came), IA E 100 t_signs]) (ok_t_flaws : inI t_flaws) (ok_t_signs : okA t_signs) (ok_v1 : inI v1) (ok_v2 : inI v2) {r : Int × Int × (Nat → Int)} (hm : m_X6_bring t_flaws t_signs v1 v2 = some r) : Ct l E b0 M_X6_bring 0 0 [.ref a_t, vI v1, vI v2] h n (some (vI r.1)) (ov [a_t, (a_t + 1)] [.inr (6, fsX6 a_t r.2.1 t_slipped t_gone t_work t_out t_lost t_came), IA E 100 r.2.2] h) n (inZ r.1 ∧ inI r.2.1 ∧ okA r.2.2) := by
  rw [m_X6_bring] at hm
  have hg : G l E b0 M_X6_bring (fun _ => True) (ZM E b0 (some (vI r.1)) (ov [a_t, (a_t + 1)] [.inr (6, fsX6 a_t r.2.1 t_slipped t_gone t_work t_out t_lost t_came), IA E 100 r.2.2] h) n (inZ r.1 ∧ inI r.2.1 ∧ okA r.2.2) 0 0) 0 0 n (ov [a_t, (a_t + 1)] [.inr (6, fsX6 a_t t_flaws t_slipped t_gone t_work t_out t_lost t_came), IA E 100 t_signs] h) 0 [some (.ref a_t), some (vI v1), some (vI v2)] [] := by
    have hs := hm
    exact g_X6_bring_0 ao ok_t_flaws ok_t_signs ok_v1 ok_v2 hs
  rw [FA_id hf] at hg
  exact Ct_of [some (.ref a_t), some (vI v1), some (vI v2)] ⟨by decide +kernel, rfl⟩ rfl (Nat.le_of_ble_eq_true rfl) hg

/-! ===== X6_go ===== -/
theorem e_X6_go_0 : DC cX6_go 0 (.aload_n 0) 1 1 := ⟨by decide +kernel, rfl⟩
theorem e_X6_go_1 : DC cX6_go 1 (.getfield 15) 3 4 := ⟨by decide +kernel, rfl⟩
theorem e_X6_go_4 : DC cX6_go 4 (.iload_n 1) 1 5 := ⟨by decide +kernel, rfl⟩
theorem e_X6_go_5 : DC cX6_go 5 (.iaload) 1 6 := ⟨by decide +kernel, rfl⟩
theorem e_X6_go_6 : DC cX6_go 6 (.istore 4) 2 8 := ⟨by decide +kernel, rfl⟩
theorem e_X6_go_8 : DC cX6_go 8 (.aload_n 0) 1 9 := ⟨by decide +kernel, rfl⟩
theorem e_X6_go_9 : DC cX6_go 9 (.iload 4) 2 11 := ⟨by decide +kernel, rfl⟩
theorem e_X6_go_11 : DC cX6_go 11 (.invokevirtual 110) 3 14 := ⟨by decide +kernel, rfl⟩
theorem e_X6_go_14 : DC cX6_go 14 (.istore 5) 2 16 := ⟨by decide +kernel, rfl⟩
theorem e_X6_go_16 : DC cX6_go 16 (.aload_n 0) 1 17 := ⟨by decide +kernel, rfl⟩
theorem e_X6_go_17 : DC cX6_go 17 (.getfield 18) 3 20 := ⟨by decide +kernel, rfl⟩
theorem e_X6_go_20 : DC cX6_go 20 (.iload_n 1) 1 21 := ⟨by decide +kernel, rfl⟩
theorem e_X6_go_21 : DC cX6_go 21 (.iaload) 1 22 := ⟨by decide +kernel, rfl⟩
theorem e_X6_go_22 : DC cX6_go 22 (.i2l) 1 23 := ⟨by decide +kernel, rfl⟩
theorem e_X6_go_23 : DC cX6_go 23 (.lload_n 2) 1 24 := ⟨by decide +kernel, rfl⟩
theorem e_X6_go_24 : DC cX6_go 24 (.lcmp) 1 25 := ⟨by decide +kernel, rfl⟩
theorem e_X6_go_25 : DB cX6_go 25 (.ifCond .le 7) (7) 3 28 32 := ⟨by decide +kernel, rfl, rfl⟩
theorem e_X6_go_28 : DC cX6_go 28 (.iconst 1) 1 29 := ⟨by decide +kernel, rfl⟩
theorem e_X6_go_29 : DB cX6_go 29 (.goto 21) (21) 3 32 50 := ⟨by decide +kernel, rfl, rfl⟩
theorem e_X6_go_32 : DC cX6_go 32 (.aload_n 0) 1 33 := ⟨by decide +kernel, rfl⟩
theorem e_X6_go_33 : DC cX6_go 33 (.getfield 18) 3 36 := ⟨by decide +kernel, rfl⟩
theorem e_X6_go_36 : DC cX6_go 36 (.iload_n 1) 1 37 := ⟨by decide +kernel, rfl⟩
theorem e_X6_go_37 : DC cX6_go 37 (.iaload) 1 38 := ⟨by decide +kernel, rfl⟩
theorem e_X6_go_38 : DC cX6_go 38 (.ineg) 1 39 := ⟨by decide +kernel, rfl⟩
theorem e_X6_go_39 : DC cX6_go 39 (.i2l) 1 40 := ⟨by decide +kernel, rfl⟩
theorem e_X6_go_40 : DC cX6_go 40 (.lload_n 2) 1 41 := ⟨by decide +kernel, rfl⟩
theorem e_X6_go_41 : DC cX6_go 41 (.lcmp) 1 42 := ⟨by decide +kernel, rfl⟩
theorem e_X6_go_42 : DB cX6_go 42 (.ifCond .le 7) (7) 3 45 49 := ⟨by decide +kernel, rfl, rfl⟩
theorem e_X6_go_45 : DC cX6_go 45 (.iconst (-1)) 1 46 := ⟨by decide +kernel, rfl⟩
theorem e_X6_go_46 : DB cX6_go 46 (.goto 4) (4) 3 49 50 := ⟨by decide +kernel, rfl, rfl⟩
theorem e_X6_go_49 : DC cX6_go 49 (.iconst 0) 1 50 := ⟨by decide +kernel, rfl⟩
theorem e_X6_go_50 : DC cX6_go 50 (.istore 6) 2 52 := ⟨by decide +kernel, rfl⟩
theorem e_X6_go_52 : DC cX6_go 52 (.iload 4) 2 54 := ⟨by decide +kernel, rfl⟩
theorem e_X6_go_54 : DC cX6_go 54 (.iload 6) 2 56 := ⟨by decide +kernel, rfl⟩
theorem e_X6_go_56 : DC cX6_go 56 (.iadd) 1 57 := ⟨by decide +kernel, rfl⟩
theorem e_X6_go_57 : DC cX6_go 57 (.istore 7) 2 59 := ⟨by decide +kernel, rfl⟩
theorem e_X6_go_59 : DC cX6_go 59 (.iload 5) 2 61 := ⟨by decide +kernel, rfl⟩
theorem e_X6_go_61 : DB cX6_go 61 (.ifCond .eq 19) (19) 3 64 80 := ⟨by decide +kernel, rfl, rfl⟩
theorem e_X6_go_64 : DC cX6_go 64 (.iload 6) 2 66 := ⟨by decide +kernel, rfl⟩
theorem e_X6_go_66 : DB cX6_go 66 (.ifCond .eq 14) (14) 3 69 80 := ⟨by decide +kernel, rfl, rfl⟩
theorem e_X6_go_69 : DC cX6_go 69 (.aload_n 0) 1 70 := ⟨by decide +kernel, rfl⟩
theorem e_X6_go_70 : DC cX6_go 70 (.iload 7) 2 72 := ⟨by decide +kernel, rfl⟩
theorem e_X6_go_72 : DC cX6_go 72 (.invokevirtual 110) 3 75 := ⟨by decide +kernel, rfl⟩
theorem e_X6_go_75 : DC cX6_go 75 (.iload 5) 2 77 := ⟨by decide +kernel, rfl⟩
theorem e_X6_go_77 : DB cX6_go 77 (.if_icmp .ne 5) (5) 3 80 82 := ⟨by decide +kernel, rfl, rfl⟩
theorem e_X6_go_80 : DC cX6_go 80 (.iconst 0) 1 81 := ⟨by decide +kernel, rfl⟩
theorem e_X6_go_81 : DC cX6_go 81 (.ireturn) 1 82 := ⟨by decide +kernel, rfl⟩
theorem e_X6_go_82 : DC cX6_go 82 (.aload_n 0) 1 83 := ⟨by decide +kernel, rfl⟩
theorem e_X6_go_83 : DC cX6_go 83 (.getfield 9) 3 86 := ⟨by decide +kernel, rfl⟩
theorem e_X6_go_86 : DC cX6_go 86 (.iload 4) 2 88 := ⟨by decide +kernel, rfl⟩
theorem e_X6_go_88 : DC cX6_go 88 (.iconst 0) 1 89 := ⟨by decide +kernel, rfl⟩
theorem e_X6_go_89 : DC cX6_go 89 (.iastore) 1 90 := ⟨by decide +kernel, rfl⟩
theorem e_X6_go_90 : DC cX6_go 90 (.iload 7) 2 92 := ⟨by decide +kernel, rfl⟩
theorem e_X6_go_92 : DC cX6_go 92 (.invokestatic 114) 3 95 := ⟨by decide +kernel, rfl⟩
theorem e_X6_go_95 : DB cX6_go 95 (.ifCond .ne 26) (26) 3 98 121 := ⟨by decide +kernel, rfl, rfl⟩
theorem e_X6_go_98 : DC cX6_go 98 (.aload_n 0) 1 99 := ⟨by decide +kernel, rfl⟩
theorem e_X6_go_99 : DC cX6_go 99 (.dup) 1 100 := ⟨by decide +kernel, rfl⟩
theorem e_X6_go_100 : DC cX6_go 100 (.getfield 27) 3 103 := ⟨by decide +kernel, rfl⟩
theorem e_X6_go_103 : DC cX6_go 103 (.iconst 1) 1 104 := ⟨by decide +kernel, rfl⟩
theorem e_X6_go_104 : DC cX6_go 104 (.isub) 1 105 := ⟨by decide +kernel, rfl⟩
theorem e_X6_go_105 : DC cX6_go 105 (.putfield 27) 3 108 := ⟨by decide +kernel, rfl⟩
theorem e_X6_go_108 : DC cX6_go 108 (.aload_n 0) 1 109 := ⟨by decide +kernel, rfl⟩
theorem e_X6_go_109 : DC cX6_go 109 (.dup) 1 110 := ⟨by decide +kernel, rfl⟩
theorem e_X6_go_110 : DC cX6_go 110 (.getfield 41) 3 113 := ⟨by decide +kernel, rfl⟩
theorem e_X6_go_113 : DC cX6_go 113 (.iconst 1) 1 114 := ⟨by decide +kernel, rfl⟩
theorem e_X6_go_114 : DC cX6_go 114 (.iadd) 1 115 := ⟨by decide +kernel, rfl⟩
theorem e_X6_go_115 : DC cX6_go 115 (.putfield 41) 3 118 := ⟨by decide +kernel, rfl⟩
theorem e_X6_go_118 : DB cX6_go 118 (.goto 53) (53) 3 121 171 := ⟨by decide +kernel, rfl, rfl⟩
theorem e_X6_go_121 : DC cX6_go 121 (.aload_n 0) 1 122 := ⟨by decide +kernel, rfl⟩
theorem e_X6_go_122 : DC cX6_go 122 (.getfield 9) 3 125 := ⟨by decide +kernel, rfl⟩
theorem e_X6_go_125 : DC cX6_go 125 (.iload 7) 2 127 := ⟨by decide +kernel, rfl⟩
theorem e_X6_go_127 : DC cX6_go 127 (.iaload) 1 128 := ⟨by decide +kernel, rfl⟩
theorem e_X6_go_128 : DB cX6_go 128 (.ifCond .ne 15) (15) 3 131 143 := ⟨by decide +kernel, rfl, rfl⟩
theorem e_X6_go_131 : DC cX6_go 131 (.aload_n 0) 1 132 := ⟨by decide +kernel, rfl⟩
theorem e_X6_go_132 : DC cX6_go 132 (.getfield 9) 3 135 := ⟨by decide +kernel, rfl⟩
theorem e_X6_go_135 : DC cX6_go 135 (.iload 7) 2 137 := ⟨by decide +kernel, rfl⟩
theorem e_X6_go_137 : DC cX6_go 137 (.iload 5) 2 139 := ⟨by decide +kernel, rfl⟩
theorem e_X6_go_139 : DC cX6_go 139 (.iastore) 1 140 := ⟨by decide +kernel, rfl⟩
theorem e_X6_go_140 : DB cX6_go 140 (.goto 31) (31) 3 143 171 := ⟨by decide +kernel, rfl, rfl⟩
theorem e_X6_go_143 : DC cX6_go 143 (.aload_n 0) 1 144 := ⟨by decide +kernel, rfl⟩
theorem e_X6_go_144 : DC cX6_go 144 (.getfield 9) 3 147 := ⟨by decide +kernel, rfl⟩
theorem e_X6_go_147 : DC cX6_go 147 (.iload 7) 2 149 := ⟨by decide +kernel, rfl⟩
theorem e_X6_go_149 : DC cX6_go 149 (.iconst 0) 1 150 := ⟨by decide +kernel, rfl⟩
theorem e_X6_go_150 : DC cX6_go 150 (.iastore) 1 151 := ⟨by decide +kernel, rfl⟩
theorem e_X6_go_151 : DC cX6_go 151 (.aload_n 0) 1 152 := ⟨by decide +kernel, rfl⟩
theorem e_X6_go_152 : DC cX6_go 152 (.dup) 1 153 := ⟨by decide +kernel, rfl⟩
theorem e_X6_go_153 : DC cX6_go 153 (.getfield 27) 3 156 := ⟨by decide +kernel, rfl⟩
theorem e_X6_go_156 : DC cX6_go 156 (.iconst 2) 1 157 := ⟨by decide +kernel, rfl⟩
theorem e_X6_go_157 : DC cX6_go 157 (.isub) 1 158 := ⟨by decide +kernel, rfl⟩
theorem e_X6_go_158 : DC cX6_go 158 (.putfield 27) 3 161 := ⟨by decide +kernel, rfl⟩
theorem e_X6_go_161 : DC cX6_go 161 (.aload_n 0) 1 162 := ⟨by decide +kernel, rfl⟩
theorem e_X6_go_162 : DC cX6_go 162 (.dup) 1 163 := ⟨by decide +kernel, rfl⟩
theorem e_X6_go_163 : DC cX6_go 163 (.getfield 44) 3 166 := ⟨by decide +kernel, rfl⟩
theorem e_X6_go_166 : DC cX6_go 166 (.iconst 2) 1 167 := ⟨by decide +kernel, rfl⟩
theorem e_X6_go_167 : DC cX6_go 167 (.iadd) 1 168 := ⟨by decide +kernel, rfl⟩
theorem e_X6_go_168 : DC cX6_go 168 (.putfield 44) 3 171 := ⟨by decide +kernel, rfl⟩
theorem e_X6_go_171 : DC cX6_go 171 (.aload_n 0) 1 172 := ⟨by decide +kernel, rfl⟩
theorem e_X6_go_172 : DC cX6_go 172 (.dup) 1 173 := ⟨by decide +kernel, rfl⟩
theorem e_X6_go_173 : DC cX6_go 173 (.getfield 31) 3 176 := ⟨by decide +kernel, rfl⟩
theorem e_X6_go_176 : DC cX6_go 176 (.iload 6) 2 178 := ⟨by decide +kernel, rfl⟩
theorem e_X6_go_178 : DC cX6_go 178 (.iload 5) 2 180 := ⟨by decide +kernel, rfl⟩
theorem e_X6_go_180 : DC cX6_go 180 (.imul) 1 181 := ⟨by decide +kernel, rfl⟩
theorem e_X6_go_181 : DC cX6_go 181 (.iadd) 1 182 := ⟨by decide +kernel, rfl⟩
theorem e_X6_go_182 : DC cX6_go 182 (.putfield 31) 3 185 := ⟨by decide +kernel, rfl⟩
theorem e_X6_go_185 : DC cX6_go 185 (.aload_n 0) 1 186 := ⟨by decide +kernel, rfl⟩
theorem e_X6_go_186 : DC cX6_go 186 (.dup) 1 187 := ⟨by decide +kernel, rfl⟩
theorem e_X6_go_187 : DC cX6_go 187 (.getfield 34) 3 190 := ⟨by decide +kernel, rfl⟩
theorem e_X6_go_190 : DC cX6_go 190 (.iconst 1) 1 191 := ⟨by decide +kernel, rfl⟩
theorem e_X6_go_191 : DC cX6_go 191 (.iadd) 1 192 := ⟨by decide +kernel, rfl⟩
theorem e_X6_go_192 : DC cX6_go 192 (.putfield 34) 3 195 := ⟨by decide +kernel, rfl⟩
theorem e_X6_go_195 : DC cX6_go 195 (.iconst 1) 1 196 := ⟨by decide +kernel, rfl⟩
theorem e_X6_go_196 : DC cX6_go 196 (.ireturn) 1 197 := ⟨by decide +kernel, rfl⟩
noncomputable def m_X6_go_171 (t_flaws : Int) (t_slipped : Int) (t_gone : Int) (t_out : Int) (t_lost : Int) (t_signs : Nat → Int) (v5 : Int) (v6 : Int) : Option (Int × Int × Int × Int × Int × Int × (Nat → Int)) :=
  chk (inI (t_slipped + (v6 * v5))) (chk (inI (t_gone + 1)) (some (1, t_flaws, t_slipped + (v6 * v5), t_gone + 1, t_out, t_lost, t_signs)))

set_option maxRecDepth 10000 in
theorem g_X6_go_171 {l : Launch} {E : EE} {b0 n : Nat} {h : AH} {a_t : Nat} {t_flaws t_slipped t_gone t_work t_out t_lost t_came v5 v6 : Int} {t_signs t_stood t_felt : Nat → Int} {r : Int × Int × Int × Int × Int × Int × (Nat → Int)} (ao : AO b0 n [a_t, (a_t + 1), (a_t + 2), (a_t + 3)]) (ok_t_flaws : inI t_flaws) (ok_t_slipped : inI t_slipped) (ok_t_gone : inI t_gone) (ok_t_out : inI t_out) (ok_t_lost : inI t_lost) (ok_t_signs : okA t_signs) (ok_t_stood : okA t_stood) (ok_t_felt : okA t_felt) (ok_v5 : inI v5) (ok_v6 : inI v6) (hs : m_X6_go_171 t_flaws t_slipped t_gone t_out t_lost t_signs v5 v6 = some r) : G l E b0 M_X6_go (fun _ => True) (ZM E b0 (some (vI r.1)) (ov [a_t, (a_t + 1), (a_t + 2), (a_t + 3)] [.inr (6, fsX6 a_t r.2.1 r.2.2.1 r.2.2.2.1 t_work r.2.2.2.2.1 r.2.2.2.2.2.1 t_came), IA E 100 r.2.2.2.2.2.2, IA E 30 t_stood, IA E 30 t_felt] h) n (inZ r.1 ∧ inI r.2.1 ∧ inI r.2.2.1 ∧ inI r.2.2.2.1 ∧ inI r.2.2.2.2.1 ∧ inI r.2.2.2.2.2.1 ∧ okA r.2.2.2.2.2.2) 0 0) 0 0 n (ov [a_t, (a_t + 1), (a_t + 2), (a_t + 3)] [.inr (6, fsX6 a_t t_flaws t_slipped t_gone t_work t_out t_lost t_came), IA E 100 t_signs, IA E 30 t_stood, IA E 30 t_felt] h) 171 [some (.ref a_t), none, none, none, none, some (vI v5), some (vI v6), none] [] := by
  rw [m_X6_go_171] at hs
  refine g_aload_n e_X6_go_171 rfl ?_
  refine g_dup e_X6_go_172 rfl ?_
  refine g_get 0 4 ao rfl rfl fsX6_g4 fl_X6_31 e_X6_go_173 ?_
  refine g_iload e_X6_go_176 rfl ?_
  refine g_iload e_X6_go_178 rfl ?_
  refine g_imul e_X6_go_180 ?_
  refine g_iadd e_X6_go_181 ?_
  obtain ⟨hc12, hs⟩ := chk_elim hs
  refine g_put 0 4 ao rfl rfl fsX6_k4 fsX6_s4 ls_0 fw_X6_31 (fun h => by cases h) ⟨rfl, rfl⟩ e_X6_go_182 ?_
  refine g_aload_n e_X6_go_185 rfl ?_
  refine g_dup e_X6_go_186 rfl ?_
  refine g_get 0 5 ao rfl rfl fsX6_g5 fl_X6_34 e_X6_go_187 ?_
  refine g_iconst e_X6_go_190 ?_
  refine g_iadd e_X6_go_191 ?_
  obtain ⟨hc13, hs⟩ := chk_elim hs
  refine g_put 0 5 ao rfl rfl fsX6_k5 fsX6_s5 ls_0 fw_X6_34 (fun h => by cases h) ⟨rfl, rfl⟩ e_X6_go_192 ?_
  refine g_iconst e_X6_go_195 ?_
  obtain rfl := Option.some.inj hs
  exact g_zret rfl (by decide : inZ 1) ⟨(by decide : inZ 1), ok_t_flaws, hc12, hc13, ok_t_out, ok_t_lost, ok_t_signs⟩ e_X6_go_196

noncomputable def m_X6_go_50 (t_flaws : Int) (t_slipped : Int) (t_gone : Int) (t_out : Int) (t_lost : Int) (t_signs : Nat → Int) (v4 : Int) (v5 : Int) (s0 : Int) : Option (Int × Int × Int × Int × Int × Int × (Nat → Int)) :=
  if v5 = 0 then (some (0, t_flaws, t_slipped, t_gone, t_out, t_lost, t_signs)) else (if s0 = 0 then (some (0, t_flaws, t_slipped, t_gone, t_out, t_lost, t_signs)) else (chk (inI (v4 + s0)) ((m_X6_signAt t_signs (v4 + s0)).bind (fun y7 => if y7 = v5 then (some (0, t_flaws, t_slipped, t_gone, t_out, t_lost, t_signs)) else (chk (inB v4 100) ((m_X10_isPlace (v4 + s0)).bind (fun y9 => if y9 = 0 then (chk (inI (t_flaws - 1)) (chk (inI (t_out + 1)) (m_X6_go_171 (t_flaws - 1) t_slipped t_gone (t_out + 1) t_lost (up t_signs (Int.toNat v4) 0) v5 s0))) else (chk (inB (v4 + s0) 100) (if ((up t_signs (Int.toNat v4) 0) (Int.toNat (v4 + s0))) = 0 then (chk (inB (v4 + s0) 100) (m_X6_go_171 t_flaws t_slipped t_gone t_out t_lost (up (up t_signs (Int.toNat v4) 0) (Int.toNat (v4 + s0)) v5) v5 s0)) else (chk (inB (v4 + s0) 100) (chk (inI (t_flaws - 2)) (chk (inI (t_lost + 2)) (m_X6_go_171 (t_flaws - 2) t_slipped t_gone t_out (t_lost + 2) (up (up t_signs (Int.toNat v4) 0) (Int.toNat (v4 + s0)) 0) v5 s0)))))))))))))

set_option maxRecDepth 10000 in
theorem g_X6_go_50 {l : Launch} {E : EE} {b0 n : Nat} {h : AH} {a_t : Nat} {t_flaws t_slipped t_gone t_work t_out t_lost t_came v4 v5 s0 : Int} {t_signs t_stood t_felt : Nat → Int} {r : Int × Int × Int × Int × Int × Int × (Nat → Int)} (ao : AO b0 n [a_t, (a_t + 1), (a_t + 2), (a_t + 3)]) (ok_t_flaws : inI t_flaws) (ok_t_slipped : inI t_slipped) (ok_t_gone : inI t_gone) (ok_t_out : inI t_out) (ok_t_lost : inI t_lost) (ok_t_signs : okA t_signs) (ok_t_stood : okA t_stood) (ok_t_felt : okA t_felt) (ok_v4 : inI v4) (ok_v5 : inI v5) (ok_s0 : inI s0) (hs : m_X6_go_50 t_flaws t_slipped t_gone t_out t_lost t_signs v4 v5 s0 = some r) : G l E b0 M_X6_go (fun _ => True) (ZM E b0 (some (vI r.1)) (ov [a_t, (a_t + 1), (a_t + 2), (a_t + 3)] [.inr (6, fsX6 a_t r.2.1 r.2.2.1 r.2.2.2.1 t_work r.2.2.2.2.1 r.2.2.2.2.2.1 t_came), IA E 100 r.2.2.2.2.2.2, IA E 30 t_stood, IA E 30 t_felt] h) n (inZ r.1 ∧ inI r.2.1 ∧ inI r.2.2.1 ∧ inI r.2.2.2.1 ∧ inI r.2.2.2.2.1 ∧ inI r.2.2.2.2.2.1 ∧ okA r.2.2.2.2.2.2) 0 0) 0 0 n (ov [a_t, (a_t + 1), (a_t + 2), (a_t + 3)] [.inr (6, fsX6 a_t t_flaws t_slipped t_gone t_work t_out t_lost t_came), IA E 100 t_signs, IA E 30 t_stood, IA E 30 t_felt] h) 50 [some (.ref a_t), none, none, none, some (vI v4), some (vI v5), none, none] [vI s0] := by
  rw [m_X6_go_50] at hs
  refine g_istore e_X6_go_50 st1_6 rfl ?_
  refine g_iload e_X6_go_52 rfl ?_
  refine g_iload e_X6_go_54 rfl ?_
  refine g_iadd e_X6_go_56 ?_
  refine g_istore e_X6_go_57 st1_7 rfl ?_
  refine g_iload e_X6_go_59 rfl ?_
  refine g_if_eq e_X6_go_61 ok_v5 hs (fun c61 hs => ?_) (fun c61 hs => ?_)
  · refine g_iconst e_X6_go_80 ?_
    obtain rfl := Option.some.inj hs
    exact g_zret rfl (by decide : inZ 0) ⟨(by decide : inZ 0), ok_t_flaws, ok_t_slipped, ok_t_gone, ok_t_out, ok_t_lost, ok_t_signs⟩ e_X6_go_81
  · refine g_iload e_X6_go_64 rfl ?_
    refine g_if_eq e_X6_go_66 ok_s0 hs (fun c66 hs => ?_) (fun c66 hs => ?_)
    · refine g_iconst e_X6_go_80 ?_
      obtain rfl := Option.some.inj hs
      exact g_zret rfl (by decide : inZ 0) ⟨(by decide : inZ 0), ok_t_flaws, ok_t_slipped, ok_t_gone, ok_t_out, ok_t_lost, ok_t_signs⟩ e_X6_go_81
    · refine g_aload_n e_X6_go_69 rfl ?_
      refine g_iload e_X6_go_70 rfl ?_
      obtain ⟨hc6, hs⟩ := chk_elim hs
      obtain ⟨y7, hy7, hs⟩ := bind_elim hs
      refine g_callVr [vI (v4 + s0)] cv_X6_110 ⟨rfl, rfl, Nat.le_of_ble_eq_true rfl, Nat.le_of_ble_eq_true rfl⟩ (ct_X6_signAt (AO_call [0, 1] ao (by decide) rfl) (FA_call [0, 1] ao.1 rfl rfl) ok_t_signs hc6 hy7) e_X6_go_72 (ao.2 0 _ rfl) (ov_get 0 ao.1 rfl rfl) rfl rfl rfl (Nat.le_of_ble_eq_true rfl) ⟨Nat.le_refl _, Nat.le_refl _⟩ (fun Py7 => ?_)
      refine g_iload e_X6_go_75 rfl ?_
      refine g_icmp_ne e_X6_go_77 Py7 ok_v5 hs (fun c77 hs => ?_) (fun c77 hs => ?_)
      · refine g_iconst e_X6_go_80 ?_
        obtain rfl := Option.some.inj hs
        exact g_zret rfl (by decide : inZ 0) ⟨(by decide : inZ 0), ok_t_flaws, ok_t_slipped, ok_t_gone, ok_t_out, ok_t_lost, ok_t_signs⟩ e_X6_go_81
      · refine g_aload_n e_X6_go_82 rfl ?_
        refine g_get 0 0 ao rfl rfl fsX6_g0 fl_X6_9 e_X6_go_83 ?_
        refine g_iload e_X6_go_86 rfl ?_
        refine g_iconst e_X6_go_88 ?_
        refine g_iast 1 ao rfl rfl ls_1 (Nat.le_of_ble_eq_true rfl) e_X6_go_89 hs (fun hi8 hs => ?_)
        refine g_iload e_X6_go_90 rfl ?_
        obtain ⟨y9, hy9, hs⟩ := bind_elim hs
        refine g_callSr [vI (v4 + s0)] cs_X6_114 ⟨rfl, rfl, Nat.le_of_ble_eq_true rfl, Nat.le_of_ble_eq_true rfl⟩ (ct_X10_isPlace ⟨List.nodup_nil, fun i a h => by simp at h⟩ (fun i a e h => by simp at h) hc6 hy9) e_X6_go_92 rfl rfl (Nat.le_of_ble_eq_true rfl) ⟨Nat.le_refl _, Nat.le_refl _⟩ (fun Py9 => ?_)
        refine g_if_ne e_X6_go_95 (inZ_I Py9) hs (fun c95 hs => ?_) (fun c95 hs => ?_)
        · refine g_aload_n e_X6_go_98 rfl ?_
          refine g_dup e_X6_go_99 rfl ?_
          refine g_get 0 3 ao rfl rfl fsX6_g3 fl_X6_27 e_X6_go_100 ?_
          refine g_iconst e_X6_go_103 ?_
          refine g_isub e_X6_go_104 ?_
          obtain ⟨hc10, hs⟩ := chk_elim hs
          refine g_put 0 3 ao rfl rfl fsX6_k3 fsX6_s3 ls_0 fw_X6_27 (fun h => by cases h) ⟨rfl, rfl⟩ e_X6_go_105 ?_
          refine g_aload_n e_X6_go_108 rfl ?_
          refine g_dup e_X6_go_109 rfl ?_
          refine g_get 0 7 ao rfl rfl fsX6_g7 fl_X6_41 e_X6_go_110 ?_
          refine g_iconst e_X6_go_113 ?_
          refine g_iadd e_X6_go_114 ?_
          obtain ⟨hc11, hs⟩ := chk_elim hs
          refine g_put 0 7 ao rfl rfl fsX6_k7 fsX6_s7 ls_0 fw_X6_41 (fun h => by cases h) ⟨rfl, rfl⟩ e_X6_go_115 ?_
          refine g_goto e_X6_go_118 ?_
          exact g_mask [true, true, true, true, false, true, true, false] (g_X6_go_171 ao hc10 ok_t_slipped ok_t_gone hc11 ok_t_lost (okA_up ok_t_signs (by decide : inI 0)) ok_t_stood ok_t_felt ok_v5 ok_s0 hs)
        · refine g_aload_n e_X6_go_121 rfl ?_
          refine g_get 0 0 ao rfl rfl fsX6_g0 fl_X6_9 e_X6_go_122 ?_
          refine g_iload e_X6_go_125 rfl ?_
          refine g_iald 1 ao rfl rfl (Nat.le_of_ble_eq_true rfl) e_X6_go_127 hs (fun hi14 hs => ?_)
          refine g_if_ne e_X6_go_128 ((okA_up ok_t_signs (by decide : inI 0)) _) hs (fun c128 hs => ?_) (fun c128 hs => ?_)
          · refine g_aload_n e_X6_go_131 rfl ?_
            refine g_get 0 0 ao rfl rfl fsX6_g0 fl_X6_9 e_X6_go_132 ?_
            refine g_iload e_X6_go_135 rfl ?_
            refine g_iload e_X6_go_137 rfl ?_
            refine g_iast 1 ao rfl rfl ls_1 (Nat.le_of_ble_eq_true rfl) e_X6_go_139 hs (fun hi15 hs => ?_)
            refine g_goto e_X6_go_140 ?_
            exact g_mask [true, true, true, true, false, true, true, false] (g_X6_go_171 ao ok_t_flaws ok_t_slipped ok_t_gone ok_t_out ok_t_lost (okA_up (okA_up ok_t_signs (by decide : inI 0)) ok_v5) ok_t_stood ok_t_felt ok_v5 ok_s0 hs)
          · refine g_aload_n e_X6_go_143 rfl ?_
            refine g_get 0 0 ao rfl rfl fsX6_g0 fl_X6_9 e_X6_go_144 ?_
            refine g_iload e_X6_go_147 rfl ?_
            refine g_iconst e_X6_go_149 ?_
            refine g_iast 1 ao rfl rfl ls_1 (Nat.le_of_ble_eq_true rfl) e_X6_go_150 hs (fun hi16 hs => ?_)
            refine g_aload_n e_X6_go_151 rfl ?_
            refine g_dup e_X6_go_152 rfl ?_
            refine g_get 0 3 ao rfl rfl fsX6_g3 fl_X6_27 e_X6_go_153 ?_
            refine g_iconst e_X6_go_156 ?_
            refine g_isub e_X6_go_157 ?_
            obtain ⟨hc17, hs⟩ := chk_elim hs
            refine g_put 0 3 ao rfl rfl fsX6_k3 fsX6_s3 ls_0 fw_X6_27 (fun h => by cases h) ⟨rfl, rfl⟩ e_X6_go_158 ?_
            refine g_aload_n e_X6_go_161 rfl ?_
            refine g_dup e_X6_go_162 rfl ?_
            refine g_get 0 8 ao rfl rfl fsX6_g8 fl_X6_44 e_X6_go_163 ?_
            refine g_iconst e_X6_go_166 ?_
            refine g_iadd e_X6_go_167 ?_
            obtain ⟨hc18, hs⟩ := chk_elim hs
            refine g_put 0 8 ao rfl rfl fsX6_k8 fsX6_s8 ls_0 fw_X6_44 (fun h => by cases h) ⟨rfl, rfl⟩ e_X6_go_168 ?_
            exact g_mask [true, true, true, true, false, true, true, false] (g_X6_go_171 ao hc17 ok_t_slipped ok_t_gone ok_t_out hc18 (okA_up (okA_up ok_t_signs (by decide : inI 0)) (by decide : inI 0)) ok_t_stood ok_t_felt ok_v5 ok_s0 hs)

noncomputable def m_X6_go_0 (t_flaws : Int) (t_slipped : Int) (t_gone : Int) (t_out : Int) (t_lost : Int) (t_signs : Nat → Int) (t_stood : Nat → Int) (t_felt : Nat → Int) (v1 : Int) (v2 : Int) : Option (Int × Int × Int × Int × Int × Int × (Nat → Int)) :=
  chk (inB v1 30) ((m_X6_signAt t_signs (t_stood (Int.toNat v1))).bind (fun y2 => chk (inB v1 30) (if (t_felt (Int.toNat v1)) ≤ v2 then (chk (inB v1 30) (chk (inI (-(t_felt (Int.toNat v1)))) (if (-(t_felt (Int.toNat v1))) ≤ v2 then (m_X6_go_50 t_flaws t_slipped t_gone t_out t_lost t_signs (t_stood (Int.toNat v1)) y2 0) else (m_X6_go_50 t_flaws t_slipped t_gone t_out t_lost t_signs (t_stood (Int.toNat v1)) y2 (-1))))) else (m_X6_go_50 t_flaws t_slipped t_gone t_out t_lost t_signs (t_stood (Int.toNat v1)) y2 1))))

set_option maxRecDepth 10000 in
theorem g_X6_go_0 {l : Launch} {E : EE} {b0 n : Nat} {h : AH} {a_t : Nat} {t_flaws t_slipped t_gone t_work t_out t_lost t_came v1 v2 : Int} {t_signs t_stood t_felt : Nat → Int} {r : Int × Int × Int × Int × Int × Int × (Nat → Int)} (ao : AO b0 n [a_t, (a_t + 1), (a_t + 2), (a_t + 3)]) (ok_t_flaws : inI t_flaws) (ok_t_slipped : inI t_slipped) (ok_t_gone : inI t_gone) (ok_t_out : inI t_out) (ok_t_lost : inI t_lost) (ok_t_signs : okA t_signs) (ok_t_stood : okA t_stood) (ok_t_felt : okA t_felt) (ok_v1 : inI v1) (ok_v2 : inJ v2) (hs : m_X6_go_0 t_flaws t_slipped t_gone t_out t_lost t_signs t_stood t_felt v1 v2 = some r) : G l E b0 M_X6_go (fun _ => True) (ZM E b0 (some (vI r.1)) (ov [a_t, (a_t + 1), (a_t + 2), (a_t + 3)] [.inr (6, fsX6 a_t r.2.1 r.2.2.1 r.2.2.2.1 t_work r.2.2.2.2.1 r.2.2.2.2.2.1 t_came), IA E 100 r.2.2.2.2.2.2, IA E 30 t_stood, IA E 30 t_felt] h) n (inZ r.1 ∧ inI r.2.1 ∧ inI r.2.2.1 ∧ inI r.2.2.2.1 ∧ inI r.2.2.2.2.1 ∧ inI r.2.2.2.2.2.1 ∧ okA r.2.2.2.2.2.2) 0 0) 0 0 n (ov [a_t, (a_t + 1), (a_t + 2), (a_t + 3)] [.inr (6, fsX6 a_t t_flaws t_slipped t_gone t_work t_out t_lost t_came), IA E 100 t_signs, IA E 30 t_stood, IA E 30 t_felt] h) 0 [some (.ref a_t), some (vI v1), some (vJ v2), none, none, none, none, none] [] := by
  rw [m_X6_go_0] at hs
  refine g_aload_n e_X6_go_0 rfl ?_
  refine g_get 0 1 ao rfl rfl fsX6_g1 fl_X6_15 e_X6_go_1 ?_
  refine g_iload_n e_X6_go_4 rfl ?_
  refine g_iald 2 ao rfl rfl (Nat.le_of_ble_eq_true rfl) e_X6_go_5 hs (fun hi1 hs => ?_)
  refine g_istore e_X6_go_6 st1_4 rfl ?_
  refine g_aload_n e_X6_go_8 rfl ?_
  refine g_iload e_X6_go_9 rfl ?_
  obtain ⟨y2, hy2, hs⟩ := bind_elim hs
  refine g_callVr [vI (t_stood (Int.toNat v1))] cv_X6_110 ⟨rfl, rfl, Nat.le_of_ble_eq_true rfl, Nat.le_of_ble_eq_true rfl⟩ (ct_X6_signAt (AO_call [0, 1] ao (by decide) rfl) (FA_call [0, 1] ao.1 rfl rfl) ok_t_signs (ok_t_stood _) hy2) e_X6_go_11 (ao.2 0 _ rfl) (ov_get 0 ao.1 rfl rfl) rfl rfl rfl (Nat.le_of_ble_eq_true rfl) ⟨Nat.le_refl _, Nat.le_refl _⟩ (fun Py2 => ?_)
  refine g_istore e_X6_go_14 st1_5 rfl ?_
  refine g_aload_n e_X6_go_16 rfl ?_
  refine g_get 0 2 ao rfl rfl fsX6_g2 fl_X6_18 e_X6_go_17 ?_
  refine g_iload_n e_X6_go_20 rfl ?_
  refine g_iald 3 ao rfl rfl (Nat.le_of_ble_eq_true rfl) e_X6_go_21 hs (fun hi3 hs => ?_)
  refine g_i2l e_X6_go_22 (ok_t_felt _) ?_
  refine g_lload_n e_X6_go_23 rfl ?_
  refine g_lcmp_le e_X6_go_24 e_X6_go_25 (inI_J (ok_t_felt _)) ok_v2 hs (fun c24 hs => ?_) (fun c24 hs => ?_)
  · refine g_aload_n e_X6_go_32 rfl ?_
    refine g_get 0 2 ao rfl rfl fsX6_g2 fl_X6_18 e_X6_go_33 ?_
    refine g_iload_n e_X6_go_36 rfl ?_
    refine g_iald 3 ao rfl rfl (Nat.le_of_ble_eq_true rfl) e_X6_go_37 hs (fun hi4 hs => ?_)
    refine g_ineg e_X6_go_38 ?_
    obtain ⟨hc5, hs⟩ := chk_elim hs
    refine g_i2l e_X6_go_39 hc5 ?_
    refine g_lload_n e_X6_go_40 rfl ?_
    refine g_lcmp_le e_X6_go_41 e_X6_go_42 (inI_J hc5) ok_v2 hs (fun c41 hs => ?_) (fun c41 hs => ?_)
    · refine g_iconst e_X6_go_49 ?_
      exact g_mask [true, false, false, true, true, true, true, true] (g_X6_go_50 ao ok_t_flaws ok_t_slipped ok_t_gone ok_t_out ok_t_lost ok_t_signs ok_t_stood ok_t_felt (ok_t_stood _) Py2 (by decide : inI 0) hs)
    · refine g_iconst e_X6_go_45 ?_
      refine g_goto e_X6_go_46 ?_
      exact g_mask [true, false, false, true, true, true, true, true] (g_X6_go_50 ao ok_t_flaws ok_t_slipped ok_t_gone ok_t_out ok_t_lost ok_t_signs ok_t_stood ok_t_felt (ok_t_stood _) Py2 (by decide : inI (-1)) hs)
  · refine g_iconst e_X6_go_28 ?_
    refine g_goto e_X6_go_29 ?_
    exact g_mask [true, false, false, true, true, true, true, true] (g_X6_go_50 ao ok_t_flaws ok_t_slipped ok_t_gone ok_t_out ok_t_lost ok_t_signs ok_t_stood ok_t_felt (ok_t_stood _) Py2 (by decide : inI 1) hs)

noncomputable def m_X6_go (t_flaws : Int) (t_slipped : Int) (t_gone : Int) (t_out : Int) (t_lost : Int) (t_signs : Nat → Int) (t_stood : Nat → Int) (t_felt : Nat → Int) (v1 : Int) (v2 : Int) : Option (Int × Int × Int × Int × Int × Int × (Nat → Int)) := m_X6_go_0 t_flaws t_slipped t_gone t_out t_lost t_signs t_stood t_felt v1 v2

set_option maxRecDepth 10000 in
theorem ct_X6_go {l : Launch} {E : EE} {b0 n : Nat} {h : AH} {a_t : Nat} {t_flaws t_slipped t_gone t_work t_out t_lost t_came : Int} {t_signs t_stood t_felt : Nat → Int} {v1 v2 : Int} (ao : AO b0 n [a_t, (a_t + 1), (a_t + 2), (a_t + 3)]) (hf : FA h [a_t, (a_t + 1), (a_t + 2), (a_t + 3)] [.inr (6, fsX6 a_t t_flaws t_slipped t_gone t_work t_out t_lost t_came), IA E 100 t_signs, IA E 30 t_stood, IA E 30 t_felt]) (ok_t_flaws : inI t_flaws) (ok_t_slipped : inI t_slipped) (ok_t_gone : inI t_gone) (ok_t_out : inI t_out) (ok_t_lost : inI t_lost) (ok_t_signs : okA t_signs) (ok_t_stood : okA t_stood) (ok_t_felt : okA t_felt) (ok_v1 : inI v1) (ok_v2 : inJ v2) {r : Int × Int × Int × Int × Int × Int × (Nat → Int)} (hm : m_X6_go t_flaws t_slipped t_gone t_out t_lost t_signs t_stood t_felt v1 v2 = some r) : Ct l E b0 M_X6_go 0 0 [.ref a_t, vI v1, vJ v2] h n (some (vI r.1)) (ov [a_t, (a_t + 1), (a_t + 2), (a_t + 3)] [.inr (6, fsX6 a_t r.2.1 r.2.2.1 r.2.2.2.1 t_work r.2.2.2.2.1 r.2.2.2.2.2.1 t_came), IA E 100 r.2.2.2.2.2.2, IA E 30 t_stood, IA E 30 t_felt] h) n (inZ r.1 ∧ inI r.2.1 ∧ inI r.2.2.1 ∧ inI r.2.2.2.1 ∧ inI r.2.2.2.2.1 ∧ inI r.2.2.2.2.2.1 ∧ okA r.2.2.2.2.2.2) := by
  rw [m_X6_go] at hm
  have hg : G l E b0 M_X6_go (fun _ => True) (ZM E b0 (some (vI r.1)) (ov [a_t, (a_t + 1), (a_t + 2), (a_t + 3)] [.inr (6, fsX6 a_t r.2.1 r.2.2.1 r.2.2.2.1 t_work r.2.2.2.2.1 r.2.2.2.2.2.1 t_came), IA E 100 r.2.2.2.2.2.2, IA E 30 t_stood, IA E 30 t_felt] h) n (inZ r.1 ∧ inI r.2.1 ∧ inI r.2.2.1 ∧ inI r.2.2.2.1 ∧ inI r.2.2.2.2.1 ∧ inI r.2.2.2.2.2.1 ∧ okA r.2.2.2.2.2.2) 0 0) 0 0 n (ov [a_t, (a_t + 1), (a_t + 2), (a_t + 3)] [.inr (6, fsX6 a_t t_flaws t_slipped t_gone t_work t_out t_lost t_came), IA E 100 t_signs, IA E 30 t_stood, IA E 30 t_felt] h) 0 [some (.ref a_t), some (vI v1), some (vJ v2), none, none, none, none, none] [] := by
    have hs := hm
    exact g_X6_go_0 ao ok_t_flaws ok_t_slipped ok_t_gone ok_t_out ok_t_lost ok_t_signs ok_t_stood ok_t_felt ok_v1 ok_v2 hs
  rw [FA_id hf] at hg
  exact Ct_of [some (.ref a_t), some (vI v1), some (vJ v2), none, none, none, none, none] ⟨by decide +kernel, rfl⟩ rfl (Nat.le_of_ble_eq_true rfl) hg

/-! ===== X6_shieldOf ===== -/
theorem e_X6_shieldOf_0 : DC cX6_shieldOf 0 (.iconst 0) 1 1 := ⟨by decide +kernel, rfl⟩
theorem e_X6_shieldOf_1 : DC cX6_shieldOf 1 (.istore_n 3) 1 2 := ⟨by decide +kernel, rfl⟩
theorem e_X6_shieldOf_2 : DC cX6_shieldOf 2 (.iconst 1) 1 3 := ⟨by decide +kernel, rfl⟩
theorem e_X6_shieldOf_3 : DC cX6_shieldOf 3 (.istore 4) 2 5 := ⟨by decide +kernel, rfl⟩
theorem e_X6_shieldOf_5 : DC cX6_shieldOf 5 (.iload 4) 2 7 := ⟨by decide +kernel, rfl⟩
theorem e_X6_shieldOf_7 : DC cX6_shieldOf 7 (.aload_n 1) 1 8 := ⟨by decide +kernel, rfl⟩
theorem e_X6_shieldOf_8 : DC cX6_shieldOf 8 (.getfield 67) 3 11 := ⟨by decide +kernel, rfl⟩
theorem e_X6_shieldOf_11 : DB cX6_shieldOf 11 (.if_icmp .gt 27) (27) 3 14 38 := ⟨by decide +kernel, rfl, rfl⟩
theorem e_X6_shieldOf_14 : DC cX6_shieldOf 14 (.iload_n 3) 1 15 := ⟨by decide +kernel, rfl⟩
theorem e_X6_shieldOf_15 : DC cX6_shieldOf 15 (.aload_n 0) 1 16 := ⟨by decide +kernel, rfl⟩
theorem e_X6_shieldOf_16 : DC cX6_shieldOf 16 (.iload_n 2) 1 17 := ⟨by decide +kernel, rfl⟩
theorem e_X6_shieldOf_17 : DC cX6_shieldOf 17 (.iload 4) 2 19 := ⟨by decide +kernel, rfl⟩
theorem e_X6_shieldOf_19 : DC cX6_shieldOf 19 (.iadd) 1 20 := ⟨by decide +kernel, rfl⟩
theorem e_X6_shieldOf_20 : DC cX6_shieldOf 20 (.invokevirtual 110) 3 23 := ⟨by decide +kernel, rfl⟩
theorem e_X6_shieldOf_23 : DC cX6_shieldOf 23 (.aload_n 1) 1 24 := ⟨by decide +kernel, rfl⟩
theorem e_X6_shieldOf_24 : DC cX6_shieldOf 24 (.iload 4) 2 26 := ⟨by decide +kernel, rfl⟩
theorem e_X6_shieldOf_26 : DC cX6_shieldOf 26 (.invokevirtual 120) 3 29 := ⟨by decide +kernel, rfl⟩
theorem e_X6_shieldOf_29 : DC cX6_shieldOf 29 (.imul) 1 30 := ⟨by decide +kernel, rfl⟩
theorem e_X6_shieldOf_30 : DC cX6_shieldOf 30 (.iadd) 1 31 := ⟨by decide +kernel, rfl⟩
theorem e_X6_shieldOf_31 : DC cX6_shieldOf 31 (.istore_n 3) 1 32 := ⟨by decide +kernel, rfl⟩
theorem e_X6_shieldOf_32 : DC cX6_shieldOf 32 (.iinc 4 1) 3 35 := ⟨by decide +kernel, rfl⟩
theorem e_X6_shieldOf_35 : DB cX6_shieldOf 35 (.goto (-30)) (-30) 3 38 5 := ⟨by decide +kernel, rfl, rfl⟩
theorem e_X6_shieldOf_38 : DC cX6_shieldOf 38 (.iload_n 3) 1 39 := ⟨by decide +kernel, rfl⟩
theorem e_X6_shieldOf_39 : DC cX6_shieldOf 39 (.ireturn) 1 40 := ⟨by decide +kernel, rfl⟩
noncomputable def m_X6_shieldOf_5 (t_signs : Nat → Int) (p1_reach : Int) (p1_pushes : Nat → Int) (v2 : Int) (k_38 : Int → Int → Option (Int)) : Nat → Int → Int → Option (Int)
  | 0, _, _ => none
  | F + 1, v3, v4 => if p1_reach < v4 then (some (v3)) else (chk (inI (v2 + v4)) ((m_X6_signAt t_signs (v2 + v4)).bind (fun y2 => (m_X3_pushAt p1_pushes v4).bind (fun y3 => chk (inI (v3 + (y2 * y3))) (chk (inI (v4 + 1)) (m_X6_shieldOf_5 t_signs p1_reach p1_pushes v2 k_38 F (v3 + (y2 * y3)) (v4 + 1)))))))

set_option maxRecDepth 10000 in
theorem g_X6_shieldOf_5 {l : Launch} {E : EE} {b0 n : Nat} {h : AH} {a_t a_p1 : Nat} {t_flaws t_slipped t_gone t_work t_out t_lost t_came p1_speckMany p1_sourceMany p1_baseTold p1_baseLow p1_baseHigh p1_reach v2 : Int} {t_signs p1_pushes : Nat → Int} {r : Int} {k_38 : Int → Int → Option (Int)} (ao : AO b0 n [a_t, (a_t + 1), a_p1, (a_p1 + 1)]) (ok_t_signs : okA t_signs) (ok_p1_reach : inI p1_reach) (ok_p1_pushes : okA p1_pushes) (ok_v2 : inI v2) (hk_38 : ∀ (v3_ : Int) (v4_ : Int), inI v3_ → inI v4_ → k_38 v3_ v4_ = some r → G l E b0 M_X6_shieldOf (fun _ => True) (ZM E b0 (some (vI r)) (ov [a_t, (a_t + 1), a_p1, (a_p1 + 1)] [.inr (6, fsX6 a_t t_flaws t_slipped t_gone t_work t_out t_lost t_came), IA E 100 t_signs, .inr (3, fsX3 a_p1 p1_speckMany p1_sourceMany p1_baseTold p1_baseLow p1_baseHigh p1_reach), IA E 21 p1_pushes] h) n (inI r) 0 0) 0 0 n (ov [a_t, (a_t + 1), a_p1, (a_p1 + 1)] [.inr (6, fsX6 a_t t_flaws t_slipped t_gone t_work t_out t_lost t_came), IA E 100 t_signs, .inr (3, fsX3 a_p1 p1_speckMany p1_sourceMany p1_baseTold p1_baseLow p1_baseHigh p1_reach), IA E 21 p1_pushes] h) 38 [none, none, none, some (vI v3_), none] []) :
    ∀ (F : Nat) (v3 : Int) (v4 : Int), inI v3 → inI v4 → m_X6_shieldOf_5 t_signs p1_reach p1_pushes v2 k_38 F v3 v4 = some r → G l E b0 M_X6_shieldOf (fun _ => True) (ZM E b0 (some (vI r)) (ov [a_t, (a_t + 1), a_p1, (a_p1 + 1)] [.inr (6, fsX6 a_t t_flaws t_slipped t_gone t_work t_out t_lost t_came), IA E 100 t_signs, .inr (3, fsX3 a_p1 p1_speckMany p1_sourceMany p1_baseTold p1_baseLow p1_baseHigh p1_reach), IA E 21 p1_pushes] h) n (inI r) 0 0) 0 0 n (ov [a_t, (a_t + 1), a_p1, (a_p1 + 1)] [.inr (6, fsX6 a_t t_flaws t_slipped t_gone t_work t_out t_lost t_came), IA E 100 t_signs, .inr (3, fsX3 a_p1 p1_speckMany p1_sourceMany p1_baseTold p1_baseLow p1_baseHigh p1_reach), IA E 21 p1_pushes] h) 5 [some (.ref a_t), some (.ref a_p1), some (vI v2), some (vI v3), some (vI v4)] [] := by
  intro F
  induction F with
  | zero =>
    intro v3 v4 ok_v3 ok_v4 hs
    rw [m_X6_shieldOf_5] at hs
    cases hs
  | succ F ih =>
    intro v3 v4 ok_v3 ok_v4 hs
    rw [m_X6_shieldOf_5] at hs
    refine g_iload e_X6_shieldOf_5 rfl ?_
    refine g_aload_n e_X6_shieldOf_7 rfl ?_
    refine g_get 2 13 ao rfl rfl fsX3_g13 fl_X6_67 e_X6_shieldOf_8 ?_
    refine g_icmp_gt e_X6_shieldOf_11 ok_v4 ok_p1_reach hs (fun c11 hs => ?_) (fun c11 hs => ?_)
    · refine g_iload_n e_X6_shieldOf_38 rfl ?_
      obtain rfl := Option.some.inj hs
      exact g_iret rfl ok_v3 e_X6_shieldOf_39
    · refine g_iload_n e_X6_shieldOf_14 rfl ?_
      refine g_aload_n e_X6_shieldOf_15 rfl ?_
      refine g_iload_n e_X6_shieldOf_16 rfl ?_
      refine g_iload e_X6_shieldOf_17 rfl ?_
      refine g_iadd e_X6_shieldOf_19 ?_
      obtain ⟨hc1, hs⟩ := chk_elim hs
      obtain ⟨y2, hy2, hs⟩ := bind_elim hs
      refine g_callVr [vI (v2 + v4)] cv_X6_110 ⟨rfl, rfl, Nat.le_of_ble_eq_true rfl, Nat.le_of_ble_eq_true rfl⟩ (ct_X6_signAt (AO_call [0, 1] ao (by decide) rfl) (FA_call [0, 1] ao.1 rfl rfl) ok_t_signs hc1 hy2) e_X6_shieldOf_20 (ao.2 0 _ rfl) (ov_get 0 ao.1 rfl rfl) rfl rfl rfl (Nat.le_of_ble_eq_true rfl) ⟨Nat.le_refl _, Nat.le_refl _⟩ (fun Py2 => ?_)
      refine g_aload_n e_X6_shieldOf_23 rfl ?_
      refine g_iload e_X6_shieldOf_24 rfl ?_
      obtain ⟨y3, hy3, hs⟩ := bind_elim hs
      refine g_callVr [vI v4] cv_X6_120 ⟨rfl, rfl, Nat.le_of_ble_eq_true rfl, Nat.le_of_ble_eq_true rfl⟩ (ct_X3_pushAt (AO_call [2, 3] ao (by decide) rfl) (FA_call [2, 3] ao.1 rfl rfl) ok_p1_pushes ok_v4 hy3) e_X6_shieldOf_26 (ao.2 2 _ rfl) (ov_get 2 ao.1 rfl rfl) rfl rfl rfl (Nat.le_of_ble_eq_true rfl) ⟨Nat.le_refl _, Nat.le_refl _⟩ (fun Py3 => ?_)
      refine g_imul e_X6_shieldOf_29 ?_
      refine g_iadd e_X6_shieldOf_30 ?_
      refine g_istore_n e_X6_shieldOf_31 st1_3 rfl ?_
      refine g_iinc e_X6_shieldOf_32 rfl st1_4 rfl ?_
      refine g_goto e_X6_shieldOf_35 ?_
      obtain ⟨hc4, hs⟩ := chk_elim hs
      obtain ⟨hc5, hs⟩ := chk_elim hs
      exact ih _ _ hc4 hc5 hs

noncomputable def m_X6_shieldOf_38 (v3 : Int) : Option (Int) :=
  some (v3)

set_option maxRecDepth 10000 in
theorem g_X6_shieldOf_38 {l : Launch} {E : EE} {b0 n : Nat} {h : AH} {a_t a_p1 : Nat} {t_flaws t_slipped t_gone t_work t_out t_lost t_came p1_speckMany p1_sourceMany p1_baseTold p1_baseLow p1_baseHigh p1_reach v3 : Int} {t_signs p1_pushes : Nat → Int} {r : Int} (ao : AO b0 n [a_t, (a_t + 1), a_p1, (a_p1 + 1)]) (ok_t_signs : okA t_signs) (ok_p1_reach : inI p1_reach) (ok_p1_pushes : okA p1_pushes) (ok_v3 : inI v3) (hs : m_X6_shieldOf_38 v3 = some r) : G l E b0 M_X6_shieldOf (fun _ => True) (ZM E b0 (some (vI r)) (ov [a_t, (a_t + 1), a_p1, (a_p1 + 1)] [.inr (6, fsX6 a_t t_flaws t_slipped t_gone t_work t_out t_lost t_came), IA E 100 t_signs, .inr (3, fsX3 a_p1 p1_speckMany p1_sourceMany p1_baseTold p1_baseLow p1_baseHigh p1_reach), IA E 21 p1_pushes] h) n (inI r) 0 0) 0 0 n (ov [a_t, (a_t + 1), a_p1, (a_p1 + 1)] [.inr (6, fsX6 a_t t_flaws t_slipped t_gone t_work t_out t_lost t_came), IA E 100 t_signs, .inr (3, fsX3 a_p1 p1_speckMany p1_sourceMany p1_baseTold p1_baseLow p1_baseHigh p1_reach), IA E 21 p1_pushes] h) 38 [none, none, none, some (vI v3), none] [] := by
  rw [m_X6_shieldOf_38] at hs
  refine g_iload_n e_X6_shieldOf_38 rfl ?_
  obtain rfl := Option.some.inj hs
  exact g_iret rfl ok_v3 e_X6_shieldOf_39

noncomputable def m_X6_shieldOf_0 (t_signs : Nat → Int) (p1_reach : Int) (p1_pushes : Nat → Int) (v2 : Int) : Option (Int) :=
  m_X6_shieldOf_5 t_signs p1_reach p1_pushes v2 (fun v3' v4' => m_X6_shieldOf_38 v3') FU 0 1

set_option maxRecDepth 10000 in
theorem g_X6_shieldOf_0 {l : Launch} {E : EE} {b0 n : Nat} {h : AH} {a_t a_p1 : Nat} {t_flaws t_slipped t_gone t_work t_out t_lost t_came p1_speckMany p1_sourceMany p1_baseTold p1_baseLow p1_baseHigh p1_reach v2 : Int} {t_signs p1_pushes : Nat → Int} {r : Int} (ao : AO b0 n [a_t, (a_t + 1), a_p1, (a_p1 + 1)]) (ok_t_signs : okA t_signs) (ok_p1_reach : inI p1_reach) (ok_p1_pushes : okA p1_pushes) (ok_v2 : inI v2) (hs : m_X6_shieldOf_0 t_signs p1_reach p1_pushes v2 = some r) : G l E b0 M_X6_shieldOf (fun _ => True) (ZM E b0 (some (vI r)) (ov [a_t, (a_t + 1), a_p1, (a_p1 + 1)] [.inr (6, fsX6 a_t t_flaws t_slipped t_gone t_work t_out t_lost t_came), IA E 100 t_signs, .inr (3, fsX3 a_p1 p1_speckMany p1_sourceMany p1_baseTold p1_baseLow p1_baseHigh p1_reach), IA E 21 p1_pushes] h) n (inI r) 0 0) 0 0 n (ov [a_t, (a_t + 1), a_p1, (a_p1 + 1)] [.inr (6, fsX6 a_t t_flaws t_slipped t_gone t_work t_out t_lost t_came), IA E 100 t_signs, .inr (3, fsX3 a_p1 p1_speckMany p1_sourceMany p1_baseTold p1_baseLow p1_baseHigh p1_reach), IA E 21 p1_pushes] h) 0 [some (.ref a_t), some (.ref a_p1), some (vI v2), none, none] [] := by
  rw [m_X6_shieldOf_0] at hs
  refine g_iconst e_X6_shieldOf_0 ?_
  refine g_istore_n e_X6_shieldOf_1 st1_3 rfl ?_
  refine g_iconst e_X6_shieldOf_2 ?_
  refine g_istore e_X6_shieldOf_3 st1_4 rfl ?_
  exact g_X6_shieldOf_5 ao ok_t_signs ok_p1_reach ok_p1_pushes ok_v2 (hk_38 := by
      intro v3' v4' ok_v3' ok_v4' hs
      exact g_X6_shieldOf_38 ao ok_t_signs ok_p1_reach ok_p1_pushes ok_v3' hs) FU _ _ (by decide : inI 0) (by decide : inI 1) hs

noncomputable def m_X6_shieldOf (t_signs : Nat → Int) (p1_reach : Int) (p1_pushes : Nat → Int) (v2 : Int) : Option (Int) := m_X6_shieldOf_0 t_signs p1_reach p1_pushes v2

set_option maxRecDepth 10000 in
theorem ct_X6_shieldOf {l : Launch} {E : EE} {b0 n : Nat} {h : AH} {a_t a_p1 : Nat} {t_flaws t_slipped t_gone t_work t_out t_lost t_came p1_speckMany p1_sourceMany p1_baseTold p1_baseLow p1_baseHigh p1_reach : Int} {t_signs p1_pushes : Nat → Int} {v2 : Int} (ao : AO b0 n [a_t, (a_t + 1), a_p1, (a_p1 + 1)]) (hf : FA h [a_t, (a_t + 1), a_p1, (a_p1 + 1)] [.inr (6, fsX6 a_t t_flaws t_slipped t_gone t_work t_out t_lost t_came), IA E 100 t_signs, .inr (3, fsX3 a_p1 p1_speckMany p1_sourceMany p1_baseTold p1_baseLow p1_baseHigh p1_reach), IA E 21 p1_pushes]) (ok_t_signs : okA t_signs) (ok_p1_reach : inI p1_reach) (ok_p1_pushes : okA p1_pushes) (ok_v2 : inI v2) {r : Int} (hm : m_X6_shieldOf t_signs p1_reach p1_pushes v2 = some r) : Ct l E b0 M_X6_shieldOf 0 0 [.ref a_t, .ref a_p1, vI v2] h n (some (vI r)) h n (inI r) := by
  rw [m_X6_shieldOf] at hm
  have hg : G l E b0 M_X6_shieldOf (fun _ => True) (ZM E b0 (some (vI r)) (ov [a_t, (a_t + 1), a_p1, (a_p1 + 1)] [.inr (6, fsX6 a_t t_flaws t_slipped t_gone t_work t_out t_lost t_came), IA E 100 t_signs, .inr (3, fsX3 a_p1 p1_speckMany p1_sourceMany p1_baseTold p1_baseLow p1_baseHigh p1_reach), IA E 21 p1_pushes] h) n (inI r) 0 0) 0 0 n (ov [a_t, (a_t + 1), a_p1, (a_p1 + 1)] [.inr (6, fsX6 a_t t_flaws t_slipped t_gone t_work t_out t_lost t_came), IA E 100 t_signs, .inr (3, fsX3 a_p1 p1_speckMany p1_sourceMany p1_baseTold p1_baseLow p1_baseHigh p1_reach), IA E 21 p1_pushes] h) 0 [some (.ref a_t), some (.ref a_p1), some (vI v2), none, none] [] := by
    have hs := hm
    exact g_X6_shieldOf_0 ao ok_t_signs ok_p1_reach ok_p1_pushes ok_v2 hs
  rw [FA_id hf] at hg
  exact Ct_of [some (.ref a_t), some (.ref a_p1), some (vI v2), none, none] ⟨by decide +kernel, rfl⟩ rfl (Nat.le_of_ble_eq_true rfl) hg

/-! ===== X6_crackEnd ===== -/
theorem e_X6_crackEnd_0 : DC cX6_crackEnd 0 (.iload_n 2) 1 1 := ⟨by decide +kernel, rfl⟩
theorem e_X6_crackEnd_1 : DC cX6_crackEnd 1 (.istore 6) 2 3 := ⟨by decide +kernel, rfl⟩
theorem e_X6_crackEnd_3 : DC cX6_crackEnd 3 (.iload_n 3) 1 4 := ⟨by decide +kernel, rfl⟩
theorem e_X6_crackEnd_4 : DC cX6_crackEnd 4 (.istore 7) 2 6 := ⟨by decide +kernel, rfl⟩
theorem e_X6_crackEnd_6 : DC cX6_crackEnd 6 (.iload 6) 2 8 := ⟨by decide +kernel, rfl⟩
theorem e_X6_crackEnd_8 : DC cX6_crackEnd 8 (.bipush 60) 2 10 := ⟨by decide +kernel, rfl⟩
theorem e_X6_crackEnd_10 : DB cX6_crackEnd 10 (.if_icmp .ge 42) (42) 3 13 52 := ⟨by decide +kernel, rfl, rfl⟩
theorem e_X6_crackEnd_13 : DC cX6_crackEnd 13 (.aload_n 0) 1 14 := ⟨by decide +kernel, rfl⟩
theorem e_X6_crackEnd_14 : DC cX6_crackEnd 14 (.iload 6) 2 16 := ⟨by decide +kernel, rfl⟩
theorem e_X6_crackEnd_16 : DC cX6_crackEnd 16 (.iconst 1) 1 17 := ⟨by decide +kernel, rfl⟩
theorem e_X6_crackEnd_17 : DC cX6_crackEnd 17 (.iadd) 1 18 := ⟨by decide +kernel, rfl⟩
theorem e_X6_crackEnd_18 : DC cX6_crackEnd 18 (.invokevirtual 60) 3 21 := ⟨by decide +kernel, rfl⟩
theorem e_X6_crackEnd_21 : DB cX6_crackEnd 21 (.ifCond .eq 31) (31) 3 24 52 := ⟨by decide +kernel, rfl, rfl⟩
theorem e_X6_crackEnd_24 : DC cX6_crackEnd 24 (.iload 7) 2 26 := ⟨by decide +kernel, rfl⟩
theorem e_X6_crackEnd_26 : DC cX6_crackEnd 26 (.aload_n 0) 1 27 := ⟨by decide +kernel, rfl⟩
theorem e_X6_crackEnd_27 : DC cX6_crackEnd 27 (.aload_n 1) 1 28 := ⟨by decide +kernel, rfl⟩
theorem e_X6_crackEnd_28 : DC cX6_crackEnd 28 (.iload 6) 2 30 := ⟨by decide +kernel, rfl⟩
theorem e_X6_crackEnd_30 : DC cX6_crackEnd 30 (.invokevirtual 123) 3 33 := ⟨by decide +kernel, rfl⟩
theorem e_X6_crackEnd_33 : DC cX6_crackEnd 33 (.isub) 1 34 := ⟨by decide +kernel, rfl⟩
theorem e_X6_crackEnd_34 : DC cX6_crackEnd 34 (.iload 4) 2 36 := ⟨by decide +kernel, rfl⟩
theorem e_X6_crackEnd_36 : DB cX6_crackEnd 36 (.if_icmp .le 16) (16) 3 39 52 := ⟨by decide +kernel, rfl, rfl⟩
theorem e_X6_crackEnd_39 : DC cX6_crackEnd 39 (.iinc 6 1) 3 42 := ⟨by decide +kernel, rfl⟩
theorem e_X6_crackEnd_42 : DC cX6_crackEnd 42 (.iload 7) 2 44 := ⟨by decide +kernel, rfl⟩
theorem e_X6_crackEnd_44 : DC cX6_crackEnd 44 (.iload 5) 2 46 := ⟨by decide +kernel, rfl⟩
theorem e_X6_crackEnd_46 : DC cX6_crackEnd 46 (.isub) 1 47 := ⟨by decide +kernel, rfl⟩
theorem e_X6_crackEnd_47 : DC cX6_crackEnd 47 (.istore 7) 2 49 := ⟨by decide +kernel, rfl⟩
theorem e_X6_crackEnd_49 : DB cX6_crackEnd 49 (.goto (-43)) (-43) 3 52 6 := ⟨by decide +kernel, rfl, rfl⟩
theorem e_X6_crackEnd_52 : DC cX6_crackEnd 52 (.iload 6) 2 54 := ⟨by decide +kernel, rfl⟩
theorem e_X6_crackEnd_54 : DC cX6_crackEnd 54 (.ireturn) 1 55 := ⟨by decide +kernel, rfl⟩
noncomputable def m_X6_crackEnd_6 (t_signs : Nat → Int) (p1_reach : Int) (p1_pushes : Nat → Int) (v4 : Int) (v5 : Int) (k_52 : Int → Int → Option (Int)) : Nat → Int → Int → Option (Int)
  | 0, _, _ => none
  | F + 1, v6, v7 => if 60 ≤ v6 then (some (v6)) else (chk (inI (v6 + 1)) ((m_X6_isFree t_signs (v6 + 1)).bind (fun y2 => if y2 = 0 then (some (v6)) else ((m_X6_shieldOf t_signs p1_reach p1_pushes v6).bind (fun y3 => chk (inI (v7 - y3)) (if (v7 - y3) ≤ v4 then (some (v6)) else (chk (inI (v7 - v5)) (m_X6_crackEnd_6 t_signs p1_reach p1_pushes v4 v5 k_52 F (v6 + 1) (v7 - v5)))))))))

set_option maxRecDepth 10000 in
theorem g_X6_crackEnd_6 {l : Launch} {E : EE} {b0 n : Nat} {h : AH} {a_t a_p1 : Nat} {t_flaws t_slipped t_gone t_work t_out t_lost t_came p1_speckMany p1_sourceMany p1_baseTold p1_baseLow p1_baseHigh p1_reach v4 v5 : Int} {t_signs p1_pushes : Nat → Int} {r : Int} {k_52 : Int → Int → Option (Int)} (ao : AO b0 n [a_t, (a_t + 1), a_p1, (a_p1 + 1)]) (ok_t_signs : okA t_signs) (ok_p1_reach : inI p1_reach) (ok_p1_pushes : okA p1_pushes) (ok_v4 : inI v4) (ok_v5 : inI v5) (hk_52 : ∀ (v6_ : Int) (v7_ : Int), inI v6_ → inI v7_ → k_52 v6_ v7_ = some r → G l E b0 M_X6_crackEnd (fun _ => True) (ZM E b0 (some (vI r)) (ov [a_t, (a_t + 1), a_p1, (a_p1 + 1)] [.inr (6, fsX6 a_t t_flaws t_slipped t_gone t_work t_out t_lost t_came), IA E 100 t_signs, .inr (3, fsX3 a_p1 p1_speckMany p1_sourceMany p1_baseTold p1_baseLow p1_baseHigh p1_reach), IA E 21 p1_pushes] h) n (inI r) 0 0) 0 0 n (ov [a_t, (a_t + 1), a_p1, (a_p1 + 1)] [.inr (6, fsX6 a_t t_flaws t_slipped t_gone t_work t_out t_lost t_came), IA E 100 t_signs, .inr (3, fsX3 a_p1 p1_speckMany p1_sourceMany p1_baseTold p1_baseLow p1_baseHigh p1_reach), IA E 21 p1_pushes] h) 52 [none, none, none, none, none, none, some (vI v6_), none] []) :
    ∀ (F : Nat) (v6 : Int) (v7 : Int), inI v6 → inI v7 → m_X6_crackEnd_6 t_signs p1_reach p1_pushes v4 v5 k_52 F v6 v7 = some r → G l E b0 M_X6_crackEnd (fun _ => True) (ZM E b0 (some (vI r)) (ov [a_t, (a_t + 1), a_p1, (a_p1 + 1)] [.inr (6, fsX6 a_t t_flaws t_slipped t_gone t_work t_out t_lost t_came), IA E 100 t_signs, .inr (3, fsX3 a_p1 p1_speckMany p1_sourceMany p1_baseTold p1_baseLow p1_baseHigh p1_reach), IA E 21 p1_pushes] h) n (inI r) 0 0) 0 0 n (ov [a_t, (a_t + 1), a_p1, (a_p1 + 1)] [.inr (6, fsX6 a_t t_flaws t_slipped t_gone t_work t_out t_lost t_came), IA E 100 t_signs, .inr (3, fsX3 a_p1 p1_speckMany p1_sourceMany p1_baseTold p1_baseLow p1_baseHigh p1_reach), IA E 21 p1_pushes] h) 6 [some (.ref a_t), some (.ref a_p1), none, none, some (vI v4), some (vI v5), some (vI v6), some (vI v7)] [] := by
  intro F
  induction F with
  | zero =>
    intro v6 v7 ok_v6 ok_v7 hs
    rw [m_X6_crackEnd_6] at hs
    cases hs
  | succ F ih =>
    intro v6 v7 ok_v6 ok_v7 hs
    rw [m_X6_crackEnd_6] at hs
    refine g_iload e_X6_crackEnd_6 rfl ?_
    refine g_bipush e_X6_crackEnd_8 bp_60 ?_
    refine g_icmp_ge e_X6_crackEnd_10 ok_v6 (by decide : inI 60) hs (fun c10 hs => ?_) (fun c10 hs => ?_)
    · refine g_iload e_X6_crackEnd_52 rfl ?_
      obtain rfl := Option.some.inj hs
      exact g_iret rfl ok_v6 e_X6_crackEnd_54
    · refine g_aload_n e_X6_crackEnd_13 rfl ?_
      refine g_iload e_X6_crackEnd_14 rfl ?_
      refine g_iconst e_X6_crackEnd_16 ?_
      refine g_iadd e_X6_crackEnd_17 ?_
      obtain ⟨hc1, hs⟩ := chk_elim hs
      obtain ⟨y2, hy2, hs⟩ := bind_elim hs
      refine g_callVr [vI (v6 + 1)] cv_X6_60 ⟨rfl, rfl, Nat.le_of_ble_eq_true rfl, Nat.le_of_ble_eq_true rfl⟩ (ct_X6_isFree (AO_call [0, 1] ao (by decide) rfl) (FA_call [0, 1] ao.1 rfl rfl) ok_t_signs hc1 hy2) e_X6_crackEnd_18 (ao.2 0 _ rfl) (ov_get 0 ao.1 rfl rfl) rfl rfl rfl (Nat.le_of_ble_eq_true rfl) ⟨Nat.le_refl _, Nat.le_refl _⟩ (fun Py2 => ?_)
      refine g_if_eq e_X6_crackEnd_21 (inZ_I Py2) hs (fun c21 hs => ?_) (fun c21 hs => ?_)
      · refine g_iload e_X6_crackEnd_52 rfl ?_
        obtain rfl := Option.some.inj hs
        exact g_iret rfl ok_v6 e_X6_crackEnd_54
      · refine g_iload e_X6_crackEnd_24 rfl ?_
        refine g_aload_n e_X6_crackEnd_26 rfl ?_
        refine g_aload_n e_X6_crackEnd_27 rfl ?_
        refine g_iload e_X6_crackEnd_28 rfl ?_
        obtain ⟨y3, hy3, hs⟩ := bind_elim hs
        refine g_callVr [.ref a_p1, vI v6] cv_X6_123 ⟨rfl, rfl, Nat.le_of_ble_eq_true rfl, Nat.le_of_ble_eq_true rfl⟩ (ct_X6_shieldOf (AO_call [0, 1, 2, 3] ao (by decide) rfl) (FA_call [0, 1, 2, 3] ao.1 rfl rfl) ok_t_signs ok_p1_reach ok_p1_pushes ok_v6 hy3) e_X6_crackEnd_30 (ao.2 0 _ rfl) (ov_get 0 ao.1 rfl rfl) rfl rfl rfl (Nat.le_of_ble_eq_true rfl) ⟨Nat.le_refl _, Nat.le_refl _⟩ (fun Py3 => ?_)
        refine g_isub e_X6_crackEnd_33 ?_
        refine g_iload e_X6_crackEnd_34 rfl ?_
        obtain ⟨hc4, hs⟩ := chk_elim hs
        refine g_icmp_le e_X6_crackEnd_36 hc4 ok_v4 hs (fun c36 hs => ?_) (fun c36 hs => ?_)
        · refine g_iload e_X6_crackEnd_52 rfl ?_
          obtain rfl := Option.some.inj hs
          exact g_iret rfl ok_v6 e_X6_crackEnd_54
        · refine g_iinc e_X6_crackEnd_39 rfl st1_6 rfl ?_
          refine g_iload e_X6_crackEnd_42 rfl ?_
          refine g_iload e_X6_crackEnd_44 rfl ?_
          refine g_isub e_X6_crackEnd_46 ?_
          refine g_istore e_X6_crackEnd_47 st1_7 rfl ?_
          refine g_goto e_X6_crackEnd_49 ?_
          obtain ⟨hc5, hs⟩ := chk_elim hs
          exact ih _ _ hc1 hc5 hs

noncomputable def m_X6_crackEnd_52 (v6 : Int) : Option (Int) :=
  some (v6)

set_option maxRecDepth 10000 in
theorem g_X6_crackEnd_52 {l : Launch} {E : EE} {b0 n : Nat} {h : AH} {a_t a_p1 : Nat} {t_flaws t_slipped t_gone t_work t_out t_lost t_came p1_speckMany p1_sourceMany p1_baseTold p1_baseLow p1_baseHigh p1_reach v6 : Int} {t_signs p1_pushes : Nat → Int} {r : Int} (ao : AO b0 n [a_t, (a_t + 1), a_p1, (a_p1 + 1)]) (ok_t_signs : okA t_signs) (ok_p1_reach : inI p1_reach) (ok_p1_pushes : okA p1_pushes) (ok_v6 : inI v6) (hs : m_X6_crackEnd_52 v6 = some r) : G l E b0 M_X6_crackEnd (fun _ => True) (ZM E b0 (some (vI r)) (ov [a_t, (a_t + 1), a_p1, (a_p1 + 1)] [.inr (6, fsX6 a_t t_flaws t_slipped t_gone t_work t_out t_lost t_came), IA E 100 t_signs, .inr (3, fsX3 a_p1 p1_speckMany p1_sourceMany p1_baseTold p1_baseLow p1_baseHigh p1_reach), IA E 21 p1_pushes] h) n (inI r) 0 0) 0 0 n (ov [a_t, (a_t + 1), a_p1, (a_p1 + 1)] [.inr (6, fsX6 a_t t_flaws t_slipped t_gone t_work t_out t_lost t_came), IA E 100 t_signs, .inr (3, fsX3 a_p1 p1_speckMany p1_sourceMany p1_baseTold p1_baseLow p1_baseHigh p1_reach), IA E 21 p1_pushes] h) 52 [none, none, none, none, none, none, some (vI v6), none] [] := by
  rw [m_X6_crackEnd_52] at hs
  refine g_iload e_X6_crackEnd_52 rfl ?_
  obtain rfl := Option.some.inj hs
  exact g_iret rfl ok_v6 e_X6_crackEnd_54

noncomputable def m_X6_crackEnd_0 (t_signs : Nat → Int) (p1_reach : Int) (p1_pushes : Nat → Int) (v2 : Int) (v3 : Int) (v4 : Int) (v5 : Int) : Option (Int) :=
  m_X6_crackEnd_6 t_signs p1_reach p1_pushes v4 v5 (fun v6' v7' => m_X6_crackEnd_52 v6') FU v2 v3

set_option maxRecDepth 10000 in
theorem g_X6_crackEnd_0 {l : Launch} {E : EE} {b0 n : Nat} {h : AH} {a_t a_p1 : Nat} {t_flaws t_slipped t_gone t_work t_out t_lost t_came p1_speckMany p1_sourceMany p1_baseTold p1_baseLow p1_baseHigh p1_reach v2 v3 v4 v5 : Int} {t_signs p1_pushes : Nat → Int} {r : Int} (ao : AO b0 n [a_t, (a_t + 1), a_p1, (a_p1 + 1)]) (ok_t_signs : okA t_signs) (ok_p1_reach : inI p1_reach) (ok_p1_pushes : okA p1_pushes) (ok_v2 : inI v2) (ok_v3 : inI v3) (ok_v4 : inI v4) (ok_v5 : inI v5) (hs : m_X6_crackEnd_0 t_signs p1_reach p1_pushes v2 v3 v4 v5 = some r) : G l E b0 M_X6_crackEnd (fun _ => True) (ZM E b0 (some (vI r)) (ov [a_t, (a_t + 1), a_p1, (a_p1 + 1)] [.inr (6, fsX6 a_t t_flaws t_slipped t_gone t_work t_out t_lost t_came), IA E 100 t_signs, .inr (3, fsX3 a_p1 p1_speckMany p1_sourceMany p1_baseTold p1_baseLow p1_baseHigh p1_reach), IA E 21 p1_pushes] h) n (inI r) 0 0) 0 0 n (ov [a_t, (a_t + 1), a_p1, (a_p1 + 1)] [.inr (6, fsX6 a_t t_flaws t_slipped t_gone t_work t_out t_lost t_came), IA E 100 t_signs, .inr (3, fsX3 a_p1 p1_speckMany p1_sourceMany p1_baseTold p1_baseLow p1_baseHigh p1_reach), IA E 21 p1_pushes] h) 0 [some (.ref a_t), some (.ref a_p1), some (vI v2), some (vI v3), some (vI v4), some (vI v5), none, none] [] := by
  rw [m_X6_crackEnd_0] at hs
  refine g_iload_n e_X6_crackEnd_0 rfl ?_
  refine g_istore e_X6_crackEnd_1 st1_6 rfl ?_
  refine g_iload_n e_X6_crackEnd_3 rfl ?_
  refine g_istore e_X6_crackEnd_4 st1_7 rfl ?_
  exact g_mask [true, true, false, false, true, true, true, true] (g_X6_crackEnd_6 ao ok_t_signs ok_p1_reach ok_p1_pushes ok_v4 ok_v5 (hk_52 := by
      intro v6' v7' ok_v6' ok_v7' hs
      exact g_X6_crackEnd_52 ao ok_t_signs ok_p1_reach ok_p1_pushes ok_v6' hs) FU _ _ ok_v2 ok_v3 hs)

noncomputable def m_X6_crackEnd (t_signs : Nat → Int) (p1_reach : Int) (p1_pushes : Nat → Int) (v2 : Int) (v3 : Int) (v4 : Int) (v5 : Int) : Option (Int) := m_X6_crackEnd_0 t_signs p1_reach p1_pushes v2 v3 v4 v5

set_option maxRecDepth 10000 in
theorem ct_X6_crackEnd {l : Launch} {E : EE} {b0 n : Nat} {h : AH} {a_t a_p1 : Nat} {t_flaws t_slipped t_gone t_work t_out t_lost t_came p1_speckMany p1_sourceMany p1_baseTold p1_baseLow p1_baseHigh p1_reach : Int} {t_signs p1_pushes : Nat → Int} {v2 v3 v4 v5 : Int} (ao : AO b0 n [a_t, (a_t + 1), a_p1, (a_p1 + 1)]) (hf : FA h [a_t, (a_t + 1), a_p1, (a_p1 + 1)] [.inr (6, fsX6 a_t t_flaws t_slipped t_gone t_work t_out t_lost t_came), IA E 100 t_signs, .inr (3, fsX3 a_p1 p1_speckMany p1_sourceMany p1_baseTold p1_baseLow p1_baseHigh p1_reach), IA E 21 p1_pushes]) (ok_t_signs : okA t_signs) (ok_p1_reach : inI p1_reach) (ok_p1_pushes : okA p1_pushes) (ok_v2 : inI v2) (ok_v3 : inI v3) (ok_v4 : inI v4) (ok_v5 : inI v5) {r : Int} (hm : m_X6_crackEnd t_signs p1_reach p1_pushes v2 v3 v4 v5 = some r) : Ct l E b0 M_X6_crackEnd 0 0 [.ref a_t, .ref a_p1, vI v2, vI v3, vI v4, vI v5] h n (some (vI r)) h n (inI r) := by
  rw [m_X6_crackEnd] at hm
  have hg : G l E b0 M_X6_crackEnd (fun _ => True) (ZM E b0 (some (vI r)) (ov [a_t, (a_t + 1), a_p1, (a_p1 + 1)] [.inr (6, fsX6 a_t t_flaws t_slipped t_gone t_work t_out t_lost t_came), IA E 100 t_signs, .inr (3, fsX3 a_p1 p1_speckMany p1_sourceMany p1_baseTold p1_baseLow p1_baseHigh p1_reach), IA E 21 p1_pushes] h) n (inI r) 0 0) 0 0 n (ov [a_t, (a_t + 1), a_p1, (a_p1 + 1)] [.inr (6, fsX6 a_t t_flaws t_slipped t_gone t_work t_out t_lost t_came), IA E 100 t_signs, .inr (3, fsX3 a_p1 p1_speckMany p1_sourceMany p1_baseTold p1_baseLow p1_baseHigh p1_reach), IA E 21 p1_pushes] h) 0 [some (.ref a_t), some (.ref a_p1), some (vI v2), some (vI v3), some (vI v4), some (vI v5), none, none] [] := by
    have hs := hm
    exact g_X6_crackEnd_0 ao ok_t_signs ok_p1_reach ok_p1_pushes ok_v2 ok_v3 ok_v4 ok_v5 hs
  rw [FA_id hf] at hg
  exact Ct_of [some (.ref a_t), some (.ref a_p1), some (vI v2), some (vI v3), some (vI v4), some (vI v5), none, none] ⟨by decide +kernel, rfl⟩ rfl (Nat.le_of_ble_eq_true rfl) hg

/-! ===== X6_tick ===== -/
theorem e_X6_tick_0 : DC cX6_tick 0 (.aload_n 0) 1 1 := ⟨by decide +kernel, rfl⟩
theorem e_X6_tick_1 : DC cX6_tick 1 (.aload_n 1) 1 2 := ⟨by decide +kernel, rfl⟩
theorem e_X6_tick_2 : DC cX6_tick 2 (.iload_n 2) 1 3 := ⟨by decide +kernel, rfl⟩
theorem e_X6_tick_3 : DC cX6_tick 3 (.invokevirtual 85) 3 6 := ⟨by decide +kernel, rfl⟩
theorem e_X6_tick_6 : DC cX6_tick 6 (.istore 6) 2 8 := ⟨by decide +kernel, rfl⟩
theorem e_X6_tick_8 : DC cX6_tick 8 (.aload_n 0) 1 9 := ⟨by decide +kernel, rfl⟩
theorem e_X6_tick_9 : DC cX6_tick 9 (.getfield 31) 3 12 := ⟨by decide +kernel, rfl⟩
theorem e_X6_tick_12 : DC cX6_tick 12 (.istore 7) 2 14 := ⟨by decide +kernel, rfl⟩
theorem e_X6_tick_14 : DC cX6_tick 14 (.aload_n 0) 1 15 := ⟨by decide +kernel, rfl⟩
theorem e_X6_tick_15 : DC cX6_tick 15 (.getfield 47) 3 18 := ⟨by decide +kernel, rfl⟩
theorem e_X6_tick_18 : DC cX6_tick 18 (.istore 8) 2 20 := ⟨by decide +kernel, rfl⟩
theorem e_X6_tick_20 : DC cX6_tick 20 (.iconst 0) 1 21 := ⟨by decide +kernel, rfl⟩
theorem e_X6_tick_21 : DC cX6_tick 21 (.istore 9) 2 23 := ⟨by decide +kernel, rfl⟩
theorem e_X6_tick_23 : DC cX6_tick 23 (.iconst 0) 1 24 := ⟨by decide +kernel, rfl⟩
theorem e_X6_tick_24 : DC cX6_tick 24 (.istore 10) 2 26 := ⟨by decide +kernel, rfl⟩
theorem e_X6_tick_26 : DC cX6_tick 26 (.iload 10) 2 28 := ⟨by decide +kernel, rfl⟩
theorem e_X6_tick_28 : DC cX6_tick 28 (.iload 6) 2 30 := ⟨by decide +kernel, rfl⟩
theorem e_X6_tick_30 : DB cX6_tick 30 (.if_icmp .ge 37) (37) 3 33 67 := ⟨by decide +kernel, rfl, rfl⟩
theorem e_X6_tick_33 : DC cX6_tick 33 (.aload_n 0) 1 34 := ⟨by decide +kernel, rfl⟩
theorem e_X6_tick_34 : DC cX6_tick 34 (.iload 10) 2 36 := ⟨by decide +kernel, rfl⟩
theorem e_X6_tick_36 : DC cX6_tick 36 (.aload_n 1) 1 37 := ⟨by decide +kernel, rfl⟩
theorem e_X6_tick_37 : DC cX6_tick 37 (.aload_n 0) 1 38 := ⟨by decide +kernel, rfl⟩
theorem e_X6_tick_38 : DC cX6_tick 38 (.getfield 15) 3 41 := ⟨by decide +kernel, rfl⟩
theorem e_X6_tick_41 : DC cX6_tick 41 (.iload 10) 2 43 := ⟨by decide +kernel, rfl⟩
theorem e_X6_tick_43 : DC cX6_tick 43 (.iaload) 1 44 := ⟨by decide +kernel, rfl⟩
theorem e_X6_tick_44 : DC cX6_tick 44 (.iload_n 3) 1 45 := ⟨by decide +kernel, rfl⟩
theorem e_X6_tick_45 : DC cX6_tick 45 (.invokevirtual 89) 3 48 := ⟨by decide +kernel, rfl⟩
theorem e_X6_tick_48 : DC cX6_tick 48 (.i2l) 1 49 := ⟨by decide +kernel, rfl⟩
theorem e_X6_tick_49 : DC cX6_tick 49 (.lload 4) 2 51 := ⟨by decide +kernel, rfl⟩
theorem e_X6_tick_51 : DC cX6_tick 51 (.ladd) 1 52 := ⟨by decide +kernel, rfl⟩
theorem e_X6_tick_52 : DC cX6_tick 52 (.invokevirtual 92) 3 55 := ⟨by decide +kernel, rfl⟩
theorem e_X6_tick_55 : DB cX6_tick 55 (.ifCond .eq 6) (6) 3 58 61 := ⟨by decide +kernel, rfl, rfl⟩
theorem e_X6_tick_58 : DC cX6_tick 58 (.iconst 1) 1 59 := ⟨by decide +kernel, rfl⟩
theorem e_X6_tick_59 : DC cX6_tick 59 (.istore 9) 2 61 := ⟨by decide +kernel, rfl⟩
theorem e_X6_tick_61 : DC cX6_tick 61 (.iinc 10 1) 3 64 := ⟨by decide +kernel, rfl⟩
theorem e_X6_tick_64 : DB cX6_tick 64 (.goto (-38)) (-38) 3 67 26 := ⟨by decide +kernel, rfl, rfl⟩
theorem e_X6_tick_67 : DC cX6_tick 67 (.iconst 0) 1 68 := ⟨by decide +kernel, rfl⟩
theorem e_X6_tick_68 : DC cX6_tick 68 (.istore 10) 2 70 := ⟨by decide +kernel, rfl⟩
theorem e_X6_tick_70 : DC cX6_tick 70 (.iload 10) 2 72 := ⟨by decide +kernel, rfl⟩
theorem e_X6_tick_72 : DC cX6_tick 72 (.aload_n 1) 1 73 := ⟨by decide +kernel, rfl⟩
theorem e_X6_tick_73 : DC cX6_tick 73 (.getfield 96) 3 76 := ⟨by decide +kernel, rfl⟩
theorem e_X6_tick_76 : DB cX6_tick 76 (.if_icmp .ge 22) (22) 3 79 98 := ⟨by decide +kernel, rfl, rfl⟩
theorem e_X6_tick_79 : DC cX6_tick 79 (.aload_n 0) 1 80 := ⟨by decide +kernel, rfl⟩
theorem e_X6_tick_80 : DC cX6_tick 80 (.aload_n 1) 1 81 := ⟨by decide +kernel, rfl⟩
theorem e_X6_tick_81 : DC cX6_tick 81 (.aload_n 1) 1 82 := ⟨by decide +kernel, rfl⟩
theorem e_X6_tick_82 : DC cX6_tick 82 (.getfield 99) 3 85 := ⟨by decide +kernel, rfl⟩
theorem e_X6_tick_85 : DC cX6_tick 85 (.iload 10) 2 87 := ⟨by decide +kernel, rfl⟩
theorem e_X6_tick_87 : DC cX6_tick 87 (.iaload) 1 88 := ⟨by decide +kernel, rfl⟩
theorem e_X6_tick_88 : DC cX6_tick 88 (.iload_n 2) 1 89 := ⟨by decide +kernel, rfl⟩
theorem e_X6_tick_89 : DC cX6_tick 89 (.invokevirtual 102) 3 92 := ⟨by decide +kernel, rfl⟩
theorem e_X6_tick_92 : DC cX6_tick 92 (.iinc 10 1) 3 95 := ⟨by decide +kernel, rfl⟩
theorem e_X6_tick_95 : DB cX6_tick 95 (.goto (-25)) (-25) 3 98 70 := ⟨by decide +kernel, rfl, rfl⟩
theorem e_X6_tick_98 : DC cX6_tick 98 (.aload_n 0) 1 99 := ⟨by decide +kernel, rfl⟩
theorem e_X6_tick_99 : DC cX6_tick 99 (.dup) 1 100 := ⟨by decide +kernel, rfl⟩
theorem e_X6_tick_100 : DC cX6_tick 100 (.getfield 37) 3 103 := ⟨by decide +kernel, rfl⟩
theorem e_X6_tick_103 : DC cX6_tick 103 (.iload_n 2) 1 104 := ⟨by decide +kernel, rfl⟩
theorem e_X6_tick_104 : DC cX6_tick 104 (.i2l) 1 105 := ⟨by decide +kernel, rfl⟩
theorem e_X6_tick_105 : DC cX6_tick 105 (.aload_n 0) 1 106 := ⟨by decide +kernel, rfl⟩
theorem e_X6_tick_106 : DC cX6_tick 106 (.getfield 31) 3 109 := ⟨by decide +kernel, rfl⟩
theorem e_X6_tick_109 : DC cX6_tick 109 (.iload 7) 2 111 := ⟨by decide +kernel, rfl⟩
theorem e_X6_tick_111 : DC cX6_tick 111 (.isub) 1 112 := ⟨by decide +kernel, rfl⟩
theorem e_X6_tick_112 : DC cX6_tick 112 (.i2l) 1 113 := ⟨by decide +kernel, rfl⟩
theorem e_X6_tick_113 : DC cX6_tick 113 (.lmul) 1 114 := ⟨by decide +kernel, rfl⟩
theorem e_X6_tick_114 : DC cX6_tick 114 (.ladd) 1 115 := ⟨by decide +kernel, rfl⟩
theorem e_X6_tick_115 : DC cX6_tick 115 (.putfield 37) 3 118 := ⟨by decide +kernel, rfl⟩
theorem e_X6_tick_118 : DC cX6_tick 118 (.iload 9) 2 120 := ⟨by decide +kernel, rfl⟩
theorem e_X6_tick_120 : DB cX6_tick 120 (.ifCond .ne 12) (12) 3 123 132 := ⟨by decide +kernel, rfl, rfl⟩
theorem e_X6_tick_123 : DC cX6_tick 123 (.aload_n 0) 1 124 := ⟨by decide +kernel, rfl⟩
theorem e_X6_tick_124 : DC cX6_tick 124 (.getfield 47) 3 127 := ⟨by decide +kernel, rfl⟩
theorem e_X6_tick_127 : DC cX6_tick 127 (.iload 8) 2 129 := ⟨by decide +kernel, rfl⟩
theorem e_X6_tick_129 : DB cX6_tick 129 (.if_icmp .eq 7) (7) 3 132 136 := ⟨by decide +kernel, rfl, rfl⟩
theorem e_X6_tick_132 : DC cX6_tick 132 (.iconst 1) 1 133 := ⟨by decide +kernel, rfl⟩
theorem e_X6_tick_133 : DB cX6_tick 133 (.goto 4) (4) 3 136 137 := ⟨by decide +kernel, rfl, rfl⟩
theorem e_X6_tick_136 : DC cX6_tick 136 (.iconst 0) 1 137 := ⟨by decide +kernel, rfl⟩
theorem e_X6_tick_137 : DC cX6_tick 137 (.ireturn) 1 138 := ⟨by decide +kernel, rfl⟩
noncomputable def m_X6_tick_61 (t_flaws : Int) (t_slipped : Int) (t_gone : Int) (t_out : Int) (t_lost : Int) (t_signs : Nat → Int) (t_stood : Nat → Int) (t_felt : Nat → Int) (p1_lows : Nat → Int) (p1_highs : Nat → Int) (v3 : Int) (v4 : Int) (v6 : Int) (v9 : Int) (v10 : Int) (ag : Int → Int → Int → Int → Int → (Nat → Int) → Int → Int → Option (Int × Int × Int × Int × Int × Int × Int × Int × (Nat → Int) × (Nat → Int) × (Nat → Int))) (k_67 : Int → Int → Int → Int → Int → (Nat → Int) → Int → Int → Option (Int × Int × Int × Int × Int × Int × Int × Int × (Nat → Int) × (Nat → Int) × (Nat → Int))) : Option (Int × Int × Int × Int × Int × Int × Int × Int × (Nat → Int) × (Nat → Int) × (Nat → Int)) :=
  chk (inI (v10 + 1)) (ag t_flaws t_slipped t_gone t_out t_lost t_signs v9 (v10 + 1))

set_option maxRecDepth 10000 in
theorem g_X6_tick_61 {l : Launch} {E : EE} {b0 n : Nat} {h : AH} {a_t a_p1 : Nat} {t_flaws t_slipped t_gone t_work t_out t_lost t_came p1_speckMany p1_sourceMany p1_baseTold p1_baseLow p1_baseHigh p1_reach v2 v3 v4 v6 v7 v8 v9 v10 : Int} {t_signs t_stood t_felt p1_pushes p1_lows p1_highs p1_sourceHolds p1_sources : Nat → Int} {r : Int × Int × Int × Int × Int × Int × Int × Int × (Nat → Int) × (Nat → Int) × (Nat → Int)} {ag : Int → Int → Int → Int → Int → (Nat → Int) → Int → Int → Option (Int × Int × Int × Int × Int × Int × Int × Int × (Nat → Int) × (Nat → Int) × (Nat → Int))} {k_67 : Int → Int → Int → Int → Int → (Nat → Int) → Int → Int → Option (Int × Int × Int × Int × Int × Int × Int × Int × (Nat → Int) × (Nat → Int) × (Nat → Int))} (ao : AO b0 n [a_t, (a_t + 1), (a_t + 2), (a_t + 3), a_p1, (a_p1 + 1), (a_p1 + 3), (a_p1 + 4), (a_p1 + 6), (a_p1 + 8)]) (ok_t_flaws : inI t_flaws) (ok_t_slipped : inI t_slipped) (ok_t_gone : inI t_gone) (ok_t_work : inJ t_work) (ok_t_out : inI t_out) (ok_t_lost : inI t_lost) (ok_t_came : inI t_came) (ok_t_signs : okA t_signs) (ok_t_stood : okA t_stood) (ok_t_felt : okA t_felt) (ok_p1_sourceMany : inI p1_sourceMany) (ok_p1_reach : inI p1_reach) (ok_p1_pushes : okA p1_pushes) (ok_p1_lows : okA p1_lows) (ok_p1_highs : okA p1_highs) (ok_p1_sourceHolds : okA p1_sourceHolds) (ok_p1_sources : okA p1_sources) (ok_v2 : inI v2) (ok_v3 : inI v3) (ok_v4 : inJ v4) (ok_v6 : inI v6) (ok_v7 : inI v7) (ok_v8 : inI v8) (ok_v9 : inZ v9) (ok_v10 : inI v10) (hag : ∀ (t_flaws_ : Int) (t_slipped_ : Int) (t_gone_ : Int) (t_out_ : Int) (t_lost_ : Int) (t_signs_ : Nat → Int) (v9_ : Int) (v10_ : Int), inI t_flaws_ → inI t_slipped_ → inI t_gone_ → inI t_out_ → inI t_lost_ → okA t_signs_ → inZ v9_ → inI v10_ → ag t_flaws_ t_slipped_ t_gone_ t_out_ t_lost_ t_signs_ v9_ v10_ = some r → G l E b0 M_X6_tick (fun _ => True) (ZM E b0 (some (vI r.1)) (ov [a_t, (a_t + 1), (a_t + 2), (a_t + 3), a_p1, (a_p1 + 1), (a_p1 + 3), (a_p1 + 4), (a_p1 + 6), (a_p1 + 8)] [.inr (6, fsX6 a_t r.2.1 r.2.2.1 r.2.2.2.1 r.2.2.2.2.1 r.2.2.2.2.2.1 r.2.2.2.2.2.2.1 r.2.2.2.2.2.2.2.1), IA E 100 r.2.2.2.2.2.2.2.2.1, IA E 30 r.2.2.2.2.2.2.2.2.2.1, IA E 30 r.2.2.2.2.2.2.2.2.2.2, .inr (3, fsX3 a_p1 p1_speckMany p1_sourceMany p1_baseTold p1_baseLow p1_baseHigh p1_reach), IA E 21 p1_pushes, IA E 100 p1_lows, IA E 100 p1_highs, IA E 100 p1_sourceHolds, IA E 5 p1_sources] h) n (inZ r.1 ∧ inI r.2.1 ∧ inI r.2.2.1 ∧ inI r.2.2.2.1 ∧ inJ r.2.2.2.2.1 ∧ inI r.2.2.2.2.2.1 ∧ inI r.2.2.2.2.2.2.1 ∧ inI r.2.2.2.2.2.2.2.1 ∧ okA r.2.2.2.2.2.2.2.2.1 ∧ okA r.2.2.2.2.2.2.2.2.2.1 ∧ okA r.2.2.2.2.2.2.2.2.2.2) 0 0) 0 0 n (ov [a_t, (a_t + 1), (a_t + 2), (a_t + 3), a_p1, (a_p1 + 1), (a_p1 + 3), (a_p1 + 4), (a_p1 + 6), (a_p1 + 8)] [.inr (6, fsX6 a_t t_flaws_ t_slipped_ t_gone_ t_work t_out_ t_lost_ t_came), IA E 100 t_signs_, IA E 30 t_stood, IA E 30 t_felt, .inr (3, fsX3 a_p1 p1_speckMany p1_sourceMany p1_baseTold p1_baseLow p1_baseHigh p1_reach), IA E 21 p1_pushes, IA E 100 p1_lows, IA E 100 p1_highs, IA E 100 p1_sourceHolds, IA E 5 p1_sources] h) 26 [some (.ref a_t), some (.ref a_p1), some (vI v2), some (vI v3), some (vJ v4), none, some (vI v6), some (vI v7), some (vI v8), some (vI v9_), some (vI v10_)] []) (hk_67 : ∀ (t_flaws_ : Int) (t_slipped_ : Int) (t_gone_ : Int) (t_out_ : Int) (t_lost_ : Int) (t_signs_ : Nat → Int) (v9_ : Int) (v10_ : Int), inI t_flaws_ → inI t_slipped_ → inI t_gone_ → inI t_out_ → inI t_lost_ → okA t_signs_ → inZ v9_ → inI v10_ → k_67 t_flaws_ t_slipped_ t_gone_ t_out_ t_lost_ t_signs_ v9_ v10_ = some r → G l E b0 M_X6_tick (fun _ => True) (ZM E b0 (some (vI r.1)) (ov [a_t, (a_t + 1), (a_t + 2), (a_t + 3), a_p1, (a_p1 + 1), (a_p1 + 3), (a_p1 + 4), (a_p1 + 6), (a_p1 + 8)] [.inr (6, fsX6 a_t r.2.1 r.2.2.1 r.2.2.2.1 r.2.2.2.2.1 r.2.2.2.2.2.1 r.2.2.2.2.2.2.1 r.2.2.2.2.2.2.2.1), IA E 100 r.2.2.2.2.2.2.2.2.1, IA E 30 r.2.2.2.2.2.2.2.2.2.1, IA E 30 r.2.2.2.2.2.2.2.2.2.2, .inr (3, fsX3 a_p1 p1_speckMany p1_sourceMany p1_baseTold p1_baseLow p1_baseHigh p1_reach), IA E 21 p1_pushes, IA E 100 p1_lows, IA E 100 p1_highs, IA E 100 p1_sourceHolds, IA E 5 p1_sources] h) n (inZ r.1 ∧ inI r.2.1 ∧ inI r.2.2.1 ∧ inI r.2.2.2.1 ∧ inJ r.2.2.2.2.1 ∧ inI r.2.2.2.2.2.1 ∧ inI r.2.2.2.2.2.2.1 ∧ inI r.2.2.2.2.2.2.2.1 ∧ okA r.2.2.2.2.2.2.2.2.1 ∧ okA r.2.2.2.2.2.2.2.2.2.1 ∧ okA r.2.2.2.2.2.2.2.2.2.2) 0 0) 0 0 n (ov [a_t, (a_t + 1), (a_t + 2), (a_t + 3), a_p1, (a_p1 + 1), (a_p1 + 3), (a_p1 + 4), (a_p1 + 6), (a_p1 + 8)] [.inr (6, fsX6 a_t t_flaws_ t_slipped_ t_gone_ t_work t_out_ t_lost_ t_came), IA E 100 t_signs_, IA E 30 t_stood, IA E 30 t_felt, .inr (3, fsX3 a_p1 p1_speckMany p1_sourceMany p1_baseTold p1_baseLow p1_baseHigh p1_reach), IA E 21 p1_pushes, IA E 100 p1_lows, IA E 100 p1_highs, IA E 100 p1_sourceHolds, IA E 5 p1_sources] h) 67 [some (.ref a_t), some (.ref a_p1), some (vI v2), none, none, none, none, some (vI v7), some (vI v8), some (vI v9_), none] []) (hs : m_X6_tick_61 t_flaws t_slipped t_gone t_out t_lost t_signs t_stood t_felt p1_lows p1_highs v3 v4 v6 v9 v10 ag k_67 = some r) : G l E b0 M_X6_tick (fun _ => True) (ZM E b0 (some (vI r.1)) (ov [a_t, (a_t + 1), (a_t + 2), (a_t + 3), a_p1, (a_p1 + 1), (a_p1 + 3), (a_p1 + 4), (a_p1 + 6), (a_p1 + 8)] [.inr (6, fsX6 a_t r.2.1 r.2.2.1 r.2.2.2.1 r.2.2.2.2.1 r.2.2.2.2.2.1 r.2.2.2.2.2.2.1 r.2.2.2.2.2.2.2.1), IA E 100 r.2.2.2.2.2.2.2.2.1, IA E 30 r.2.2.2.2.2.2.2.2.2.1, IA E 30 r.2.2.2.2.2.2.2.2.2.2, .inr (3, fsX3 a_p1 p1_speckMany p1_sourceMany p1_baseTold p1_baseLow p1_baseHigh p1_reach), IA E 21 p1_pushes, IA E 100 p1_lows, IA E 100 p1_highs, IA E 100 p1_sourceHolds, IA E 5 p1_sources] h) n (inZ r.1 ∧ inI r.2.1 ∧ inI r.2.2.1 ∧ inI r.2.2.2.1 ∧ inJ r.2.2.2.2.1 ∧ inI r.2.2.2.2.2.1 ∧ inI r.2.2.2.2.2.2.1 ∧ inI r.2.2.2.2.2.2.2.1 ∧ okA r.2.2.2.2.2.2.2.2.1 ∧ okA r.2.2.2.2.2.2.2.2.2.1 ∧ okA r.2.2.2.2.2.2.2.2.2.2) 0 0) 0 0 n (ov [a_t, (a_t + 1), (a_t + 2), (a_t + 3), a_p1, (a_p1 + 1), (a_p1 + 3), (a_p1 + 4), (a_p1 + 6), (a_p1 + 8)] [.inr (6, fsX6 a_t t_flaws t_slipped t_gone t_work t_out t_lost t_came), IA E 100 t_signs, IA E 30 t_stood, IA E 30 t_felt, .inr (3, fsX3 a_p1 p1_speckMany p1_sourceMany p1_baseTold p1_baseLow p1_baseHigh p1_reach), IA E 21 p1_pushes, IA E 100 p1_lows, IA E 100 p1_highs, IA E 100 p1_sourceHolds, IA E 5 p1_sources] h) 61 [some (.ref a_t), some (.ref a_p1), some (vI v2), some (vI v3), some (vJ v4), none, some (vI v6), some (vI v7), some (vI v8), some (vI v9), some (vI v10)] [] := by
  rw [m_X6_tick_61] at hs
  refine g_iinc e_X6_tick_61 rfl st1_10 rfl ?_
  refine g_goto e_X6_tick_64 ?_
  obtain ⟨hc6, hs⟩ := chk_elim hs
  exact hag _ _ _ _ _ _ _ _ ok_t_flaws ok_t_slipped ok_t_gone ok_t_out ok_t_lost ok_t_signs ok_v9 hc6 hs

noncomputable def m_X6_tick_26 (t_stood : Nat → Int) (t_felt : Nat → Int) (p1_lows : Nat → Int) (p1_highs : Nat → Int) (v3 : Int) (v4 : Int) (v6 : Int) (k_67 : Int → Int → Int → Int → Int → (Nat → Int) → Int → Int → Option (Int × Int × Int × Int × Int × Int × Int × Int × (Nat → Int) × (Nat → Int) × (Nat → Int))) : Nat → Int → Int → Int → Int → Int → (Nat → Int) → Int → Int → Option (Int × Int × Int × Int × Int × Int × Int × Int × (Nat → Int) × (Nat → Int) × (Nat → Int))
  | 0, _, _, _, _, _, _, _, _ => none
  | F + 1, t_flaws, t_slipped, t_gone, t_out, t_lost, t_signs, v9, v10 => if v6 ≤ v10 then (k_67 t_flaws t_slipped t_gone t_out t_lost t_signs v9 v10) else (chk (inB v10 30) ((m_X3_holdAt p1_lows p1_highs (t_stood (Int.toNat v10)) v3).bind (fun y3 => chk (inJ (y3 + v4)) ((m_X6_go t_flaws t_slipped t_gone t_out t_lost t_signs t_stood t_felt v10 (y3 + v4)).bind (fun y5 => if y5.1 = 0 then (m_X6_tick_61 y5.2.1 y5.2.2.1 y5.2.2.2.1 y5.2.2.2.2.1 y5.2.2.2.2.2.1 y5.2.2.2.2.2.2 t_stood t_felt p1_lows p1_highs v3 v4 v6 v9 v10 (m_X6_tick_26 t_stood t_felt p1_lows p1_highs v3 v4 v6 k_67 F) k_67) else (m_X6_tick_61 y5.2.1 y5.2.2.1 y5.2.2.2.1 y5.2.2.2.2.1 y5.2.2.2.2.2.1 y5.2.2.2.2.2.2 t_stood t_felt p1_lows p1_highs v3 v4 v6 1 v10 (m_X6_tick_26 t_stood t_felt p1_lows p1_highs v3 v4 v6 k_67 F) k_67))))))

set_option maxRecDepth 10000 in
theorem g_X6_tick_26 {l : Launch} {E : EE} {b0 n : Nat} {h : AH} {a_t a_p1 : Nat} {t_work t_came p1_speckMany p1_sourceMany p1_baseTold p1_baseLow p1_baseHigh p1_reach v2 v3 v4 v6 v7 v8 : Int} {t_stood t_felt p1_pushes p1_lows p1_highs p1_sourceHolds p1_sources : Nat → Int} {r : Int × Int × Int × Int × Int × Int × Int × Int × (Nat → Int) × (Nat → Int) × (Nat → Int)} {k_67 : Int → Int → Int → Int → Int → (Nat → Int) → Int → Int → Option (Int × Int × Int × Int × Int × Int × Int × Int × (Nat → Int) × (Nat → Int) × (Nat → Int))} (ao : AO b0 n [a_t, (a_t + 1), (a_t + 2), (a_t + 3), a_p1, (a_p1 + 1), (a_p1 + 3), (a_p1 + 4), (a_p1 + 6), (a_p1 + 8)]) (ok_t_work : inJ t_work) (ok_t_came : inI t_came) (ok_t_stood : okA t_stood) (ok_t_felt : okA t_felt) (ok_p1_sourceMany : inI p1_sourceMany) (ok_p1_reach : inI p1_reach) (ok_p1_pushes : okA p1_pushes) (ok_p1_lows : okA p1_lows) (ok_p1_highs : okA p1_highs) (ok_p1_sourceHolds : okA p1_sourceHolds) (ok_p1_sources : okA p1_sources) (ok_v2 : inI v2) (ok_v3 : inI v3) (ok_v4 : inJ v4) (ok_v6 : inI v6) (ok_v7 : inI v7) (ok_v8 : inI v8) (hk_67 : ∀ (t_flaws_ : Int) (t_slipped_ : Int) (t_gone_ : Int) (t_out_ : Int) (t_lost_ : Int) (t_signs_ : Nat → Int) (v9_ : Int) (v10_ : Int), inI t_flaws_ → inI t_slipped_ → inI t_gone_ → inI t_out_ → inI t_lost_ → okA t_signs_ → inZ v9_ → inI v10_ → k_67 t_flaws_ t_slipped_ t_gone_ t_out_ t_lost_ t_signs_ v9_ v10_ = some r → G l E b0 M_X6_tick (fun _ => True) (ZM E b0 (some (vI r.1)) (ov [a_t, (a_t + 1), (a_t + 2), (a_t + 3), a_p1, (a_p1 + 1), (a_p1 + 3), (a_p1 + 4), (a_p1 + 6), (a_p1 + 8)] [.inr (6, fsX6 a_t r.2.1 r.2.2.1 r.2.2.2.1 r.2.2.2.2.1 r.2.2.2.2.2.1 r.2.2.2.2.2.2.1 r.2.2.2.2.2.2.2.1), IA E 100 r.2.2.2.2.2.2.2.2.1, IA E 30 r.2.2.2.2.2.2.2.2.2.1, IA E 30 r.2.2.2.2.2.2.2.2.2.2, .inr (3, fsX3 a_p1 p1_speckMany p1_sourceMany p1_baseTold p1_baseLow p1_baseHigh p1_reach), IA E 21 p1_pushes, IA E 100 p1_lows, IA E 100 p1_highs, IA E 100 p1_sourceHolds, IA E 5 p1_sources] h) n (inZ r.1 ∧ inI r.2.1 ∧ inI r.2.2.1 ∧ inI r.2.2.2.1 ∧ inJ r.2.2.2.2.1 ∧ inI r.2.2.2.2.2.1 ∧ inI r.2.2.2.2.2.2.1 ∧ inI r.2.2.2.2.2.2.2.1 ∧ okA r.2.2.2.2.2.2.2.2.1 ∧ okA r.2.2.2.2.2.2.2.2.2.1 ∧ okA r.2.2.2.2.2.2.2.2.2.2) 0 0) 0 0 n (ov [a_t, (a_t + 1), (a_t + 2), (a_t + 3), a_p1, (a_p1 + 1), (a_p1 + 3), (a_p1 + 4), (a_p1 + 6), (a_p1 + 8)] [.inr (6, fsX6 a_t t_flaws_ t_slipped_ t_gone_ t_work t_out_ t_lost_ t_came), IA E 100 t_signs_, IA E 30 t_stood, IA E 30 t_felt, .inr (3, fsX3 a_p1 p1_speckMany p1_sourceMany p1_baseTold p1_baseLow p1_baseHigh p1_reach), IA E 21 p1_pushes, IA E 100 p1_lows, IA E 100 p1_highs, IA E 100 p1_sourceHolds, IA E 5 p1_sources] h) 67 [some (.ref a_t), some (.ref a_p1), some (vI v2), none, none, none, none, some (vI v7), some (vI v8), some (vI v9_), none] []) :
    ∀ (F : Nat) (t_flaws : Int) (t_slipped : Int) (t_gone : Int) (t_out : Int) (t_lost : Int) (t_signs : Nat → Int) (v9 : Int) (v10 : Int), inI t_flaws → inI t_slipped → inI t_gone → inI t_out → inI t_lost → okA t_signs → inZ v9 → inI v10 → m_X6_tick_26 t_stood t_felt p1_lows p1_highs v3 v4 v6 k_67 F t_flaws t_slipped t_gone t_out t_lost t_signs v9 v10 = some r → G l E b0 M_X6_tick (fun _ => True) (ZM E b0 (some (vI r.1)) (ov [a_t, (a_t + 1), (a_t + 2), (a_t + 3), a_p1, (a_p1 + 1), (a_p1 + 3), (a_p1 + 4), (a_p1 + 6), (a_p1 + 8)] [.inr (6, fsX6 a_t r.2.1 r.2.2.1 r.2.2.2.1 r.2.2.2.2.1 r.2.2.2.2.2.1 r.2.2.2.2.2.2.1 r.2.2.2.2.2.2.2.1), IA E 100 r.2.2.2.2.2.2.2.2.1, IA E 30 r.2.2.2.2.2.2.2.2.2.1, IA E 30 r.2.2.2.2.2.2.2.2.2.2, .inr (3, fsX3 a_p1 p1_speckMany p1_sourceMany p1_baseTold p1_baseLow p1_baseHigh p1_reach), IA E 21 p1_pushes, IA E 100 p1_lows, IA E 100 p1_highs, IA E 100 p1_sourceHolds, IA E 5 p1_sources] h) n (inZ r.1 ∧ inI r.2.1 ∧ inI r.2.2.1 ∧ inI r.2.2.2.1 ∧ inJ r.2.2.2.2.1 ∧ inI r.2.2.2.2.2.1 ∧ inI r.2.2.2.2.2.2.1 ∧ inI r.2.2.2.2.2.2.2.1 ∧ okA r.2.2.2.2.2.2.2.2.1 ∧ okA r.2.2.2.2.2.2.2.2.2.1 ∧ okA r.2.2.2.2.2.2.2.2.2.2) 0 0) 0 0 n (ov [a_t, (a_t + 1), (a_t + 2), (a_t + 3), a_p1, (a_p1 + 1), (a_p1 + 3), (a_p1 + 4), (a_p1 + 6), (a_p1 + 8)] [.inr (6, fsX6 a_t t_flaws t_slipped t_gone t_work t_out t_lost t_came), IA E 100 t_signs, IA E 30 t_stood, IA E 30 t_felt, .inr (3, fsX3 a_p1 p1_speckMany p1_sourceMany p1_baseTold p1_baseLow p1_baseHigh p1_reach), IA E 21 p1_pushes, IA E 100 p1_lows, IA E 100 p1_highs, IA E 100 p1_sourceHolds, IA E 5 p1_sources] h) 26 [some (.ref a_t), some (.ref a_p1), some (vI v2), some (vI v3), some (vJ v4), none, some (vI v6), some (vI v7), some (vI v8), some (vI v9), some (vI v10)] [] := by
  intro F
  induction F with
  | zero =>
    intro t_flaws t_slipped t_gone t_out t_lost t_signs v9 v10 ok_t_flaws ok_t_slipped ok_t_gone ok_t_out ok_t_lost ok_t_signs ok_v9 ok_v10 hs
    rw [m_X6_tick_26] at hs
    cases hs
  | succ F ih =>
    intro t_flaws t_slipped t_gone t_out t_lost t_signs v9 v10 ok_t_flaws ok_t_slipped ok_t_gone ok_t_out ok_t_lost ok_t_signs ok_v9 ok_v10 hs
    rw [m_X6_tick_26] at hs
    refine g_iload e_X6_tick_26 rfl ?_
    refine g_iload e_X6_tick_28 rfl ?_
    refine g_icmp_ge e_X6_tick_30 ok_v10 ok_v6 hs (fun c30 hs => ?_) (fun c30 hs => ?_)
    · exact g_mask [true, true, true, false, false, true, false, true, true, true, false] (hk_67 _ _ _ _ _ _ _ _ ok_t_flaws ok_t_slipped ok_t_gone ok_t_out ok_t_lost ok_t_signs ok_v9 ok_v10 hs)
    · refine g_aload_n e_X6_tick_33 rfl ?_
      refine g_iload e_X6_tick_34 rfl ?_
      refine g_aload_n e_X6_tick_36 rfl ?_
      refine g_aload_n e_X6_tick_37 rfl ?_
      refine g_get 0 1 ao rfl rfl fsX6_g1 fl_X6_15 e_X6_tick_38 ?_
      refine g_iload e_X6_tick_41 rfl ?_
      refine g_iald 2 ao rfl rfl (Nat.le_of_ble_eq_true rfl) e_X6_tick_43 hs (fun hi2 hs => ?_)
      refine g_iload_n e_X6_tick_44 rfl ?_
      obtain ⟨y3, hy3, hs⟩ := bind_elim hs
      refine g_callVr [vI (t_stood (Int.toNat v10)), vI v3] cv_X6_89 ⟨rfl, rfl, Nat.le_of_ble_eq_true rfl, Nat.le_of_ble_eq_true rfl⟩ (ct_X3_holdAt (AO_call [4, 6, 7] ao (by decide) rfl) (FA_call [4, 6, 7] ao.1 rfl rfl) ok_p1_lows ok_p1_highs (ok_t_stood _) ok_v3 hy3) e_X6_tick_45 (ao.2 4 _ rfl) (ov_get 4 ao.1 rfl rfl) rfl rfl rfl (Nat.le_of_ble_eq_true rfl) ⟨Nat.le_refl _, Nat.le_refl _⟩ (fun Py3 => ?_)
      refine g_i2l e_X6_tick_48 Py3 ?_
      refine g_lload e_X6_tick_49 rfl ?_
      refine g_ladd e_X6_tick_51 ?_
      obtain ⟨hc4, hs⟩ := chk_elim hs
      obtain ⟨y5, hy5, hs⟩ := bind_elim hs
      refine g_callVr [vI v10, vJ (y3 + v4)] cv_X6_92 ⟨rfl, rfl, Nat.le_of_ble_eq_true rfl, Nat.le_of_ble_eq_true rfl⟩ (Ct_heap (ct_X6_go (AO_call [0, 1, 2, 3] ao (by decide) rfl) (FA_call [0, 1, 2, 3] ao.1 rfl rfl) ok_t_flaws ok_t_slipped ok_t_gone ok_t_out ok_t_lost ok_t_signs ok_t_stood ok_t_felt ok_v10 hc4 hy5) (ov_call (esn := [.inr (6, fsX6 a_t y5.2.1 y5.2.2.1 y5.2.2.2.1 t_work y5.2.2.2.2.1 y5.2.2.2.2.2.1 t_came), IA E 100 y5.2.2.2.2.2.2, IA E 30 t_stood, IA E 30 t_felt, .inr (3, fsX3 a_p1 p1_speckMany p1_sourceMany p1_baseTold p1_baseLow p1_baseHigh p1_reach), IA E 21 p1_pushes, IA E 100 p1_lows, IA E 100 p1_highs, IA E 100 p1_sourceHolds, IA E 5 p1_sources]) [0, 1, 2, 3] ao.1 rfl rfl rfl rfl)) e_X6_tick_52 (ao.2 0 _ rfl) (ov_get 0 ao.1 rfl rfl) rfl rfl rfl (Nat.le_of_ble_eq_true rfl) ⟨Nat.le_refl _, Nat.le_refl _⟩ (fun Py5 => ?_)
      refine g_if_eq e_X6_tick_55 (inZ_I Py5.1) hs (fun c55 hs => ?_) (fun c55 hs => ?_)
      · exact g_X6_tick_61 ao Py5.2.1 Py5.2.2.1 Py5.2.2.2.1 ok_t_work Py5.2.2.2.2.1 Py5.2.2.2.2.2.1 ok_t_came Py5.2.2.2.2.2.2 ok_t_stood ok_t_felt ok_p1_sourceMany ok_p1_reach ok_p1_pushes ok_p1_lows ok_p1_highs ok_p1_sourceHolds ok_p1_sources ok_v2 ok_v3 ok_v4 ok_v6 ok_v7 ok_v8 ok_v9 ok_v10 ih hk_67 hs
      · refine g_iconst e_X6_tick_58 ?_
        refine g_istore e_X6_tick_59 st1_9 rfl ?_
        exact g_X6_tick_61 ao Py5.2.1 Py5.2.2.1 Py5.2.2.2.1 ok_t_work Py5.2.2.2.2.1 Py5.2.2.2.2.2.1 ok_t_came Py5.2.2.2.2.2.2 ok_t_stood ok_t_felt ok_p1_sourceMany ok_p1_reach ok_p1_pushes ok_p1_lows ok_p1_highs ok_p1_sourceHolds ok_p1_sources ok_v2 ok_v3 ok_v4 ok_v6 ok_v7 ok_v8 (by decide : inZ 1) ok_v10 ih hk_67 hs

noncomputable def m_X6_tick_70 (p1_sourceMany : Int) (p1_reach : Int) (p1_pushes : Nat → Int) (p1_sourceHolds : Nat → Int) (p1_sources : Nat → Int) (v2 : Int) (k_98 : Int → Int → (Nat → Int) → Int → Option (Int × Int × Int × Int × Int × Int × Int × Int × (Nat → Int) × (Nat → Int) × (Nat → Int))) : Nat → Int → Int → (Nat → Int) → Int → Option (Int × Int × Int × Int × Int × Int × Int × Int × (Nat → Int) × (Nat → Int) × (Nat → Int))
  | 0, _, _, _, _ => none
  | F + 1, t_flaws, t_came, t_signs, v10 => if p1_sourceMany ≤ v10 then (k_98 t_flaws t_came t_signs v10) else (chk (inB v10 5) ((m_X6_give t_flaws t_came t_signs p1_reach p1_pushes p1_sourceHolds (p1_sources (Int.toNat v10)) v2).bind (fun y8 => chk (inI (v10 + 1)) (m_X6_tick_70 p1_sourceMany p1_reach p1_pushes p1_sourceHolds p1_sources v2 k_98 F y8.1 y8.2.1 y8.2.2 (v10 + 1)))))

set_option maxRecDepth 10000 in
theorem g_X6_tick_70 {l : Launch} {E : EE} {b0 n : Nat} {h : AH} {a_t a_p1 : Nat} {t_slipped t_gone t_work t_out t_lost p1_speckMany p1_sourceMany p1_baseTold p1_baseLow p1_baseHigh p1_reach v2 v7 v8 v9 : Int} {t_stood t_felt p1_pushes p1_lows p1_highs p1_sourceHolds p1_sources : Nat → Int} {r : Int × Int × Int × Int × Int × Int × Int × Int × (Nat → Int) × (Nat → Int) × (Nat → Int)} {k_98 : Int → Int → (Nat → Int) → Int → Option (Int × Int × Int × Int × Int × Int × Int × Int × (Nat → Int) × (Nat → Int) × (Nat → Int))} (ao : AO b0 n [a_t, (a_t + 1), (a_t + 2), (a_t + 3), a_p1, (a_p1 + 1), (a_p1 + 3), (a_p1 + 4), (a_p1 + 6), (a_p1 + 8)]) (ok_t_slipped : inI t_slipped) (ok_t_gone : inI t_gone) (ok_t_work : inJ t_work) (ok_t_out : inI t_out) (ok_t_lost : inI t_lost) (ok_t_stood : okA t_stood) (ok_t_felt : okA t_felt) (ok_p1_sourceMany : inI p1_sourceMany) (ok_p1_reach : inI p1_reach) (ok_p1_pushes : okA p1_pushes) (ok_p1_lows : okA p1_lows) (ok_p1_highs : okA p1_highs) (ok_p1_sourceHolds : okA p1_sourceHolds) (ok_p1_sources : okA p1_sources) (ok_v2 : inI v2) (ok_v7 : inI v7) (ok_v8 : inI v8) (ok_v9 : inZ v9) (hk_98 : ∀ (t_flaws_ : Int) (t_came_ : Int) (t_signs_ : Nat → Int) (v10_ : Int), inI t_flaws_ → inI t_came_ → okA t_signs_ → inI v10_ → k_98 t_flaws_ t_came_ t_signs_ v10_ = some r → G l E b0 M_X6_tick (fun _ => True) (ZM E b0 (some (vI r.1)) (ov [a_t, (a_t + 1), (a_t + 2), (a_t + 3), a_p1, (a_p1 + 1), (a_p1 + 3), (a_p1 + 4), (a_p1 + 6), (a_p1 + 8)] [.inr (6, fsX6 a_t r.2.1 r.2.2.1 r.2.2.2.1 r.2.2.2.2.1 r.2.2.2.2.2.1 r.2.2.2.2.2.2.1 r.2.2.2.2.2.2.2.1), IA E 100 r.2.2.2.2.2.2.2.2.1, IA E 30 r.2.2.2.2.2.2.2.2.2.1, IA E 30 r.2.2.2.2.2.2.2.2.2.2, .inr (3, fsX3 a_p1 p1_speckMany p1_sourceMany p1_baseTold p1_baseLow p1_baseHigh p1_reach), IA E 21 p1_pushes, IA E 100 p1_lows, IA E 100 p1_highs, IA E 100 p1_sourceHolds, IA E 5 p1_sources] h) n (inZ r.1 ∧ inI r.2.1 ∧ inI r.2.2.1 ∧ inI r.2.2.2.1 ∧ inJ r.2.2.2.2.1 ∧ inI r.2.2.2.2.2.1 ∧ inI r.2.2.2.2.2.2.1 ∧ inI r.2.2.2.2.2.2.2.1 ∧ okA r.2.2.2.2.2.2.2.2.1 ∧ okA r.2.2.2.2.2.2.2.2.2.1 ∧ okA r.2.2.2.2.2.2.2.2.2.2) 0 0) 0 0 n (ov [a_t, (a_t + 1), (a_t + 2), (a_t + 3), a_p1, (a_p1 + 1), (a_p1 + 3), (a_p1 + 4), (a_p1 + 6), (a_p1 + 8)] [.inr (6, fsX6 a_t t_flaws_ t_slipped t_gone t_work t_out t_lost t_came_), IA E 100 t_signs_, IA E 30 t_stood, IA E 30 t_felt, .inr (3, fsX3 a_p1 p1_speckMany p1_sourceMany p1_baseTold p1_baseLow p1_baseHigh p1_reach), IA E 21 p1_pushes, IA E 100 p1_lows, IA E 100 p1_highs, IA E 100 p1_sourceHolds, IA E 5 p1_sources] h) 98 [some (.ref a_t), none, some (vI v2), none, none, none, none, some (vI v7), some (vI v8), some (vI v9), none] []) :
    ∀ (F : Nat) (t_flaws : Int) (t_came : Int) (t_signs : Nat → Int) (v10 : Int), inI t_flaws → inI t_came → okA t_signs → inI v10 → m_X6_tick_70 p1_sourceMany p1_reach p1_pushes p1_sourceHolds p1_sources v2 k_98 F t_flaws t_came t_signs v10 = some r → G l E b0 M_X6_tick (fun _ => True) (ZM E b0 (some (vI r.1)) (ov [a_t, (a_t + 1), (a_t + 2), (a_t + 3), a_p1, (a_p1 + 1), (a_p1 + 3), (a_p1 + 4), (a_p1 + 6), (a_p1 + 8)] [.inr (6, fsX6 a_t r.2.1 r.2.2.1 r.2.2.2.1 r.2.2.2.2.1 r.2.2.2.2.2.1 r.2.2.2.2.2.2.1 r.2.2.2.2.2.2.2.1), IA E 100 r.2.2.2.2.2.2.2.2.1, IA E 30 r.2.2.2.2.2.2.2.2.2.1, IA E 30 r.2.2.2.2.2.2.2.2.2.2, .inr (3, fsX3 a_p1 p1_speckMany p1_sourceMany p1_baseTold p1_baseLow p1_baseHigh p1_reach), IA E 21 p1_pushes, IA E 100 p1_lows, IA E 100 p1_highs, IA E 100 p1_sourceHolds, IA E 5 p1_sources] h) n (inZ r.1 ∧ inI r.2.1 ∧ inI r.2.2.1 ∧ inI r.2.2.2.1 ∧ inJ r.2.2.2.2.1 ∧ inI r.2.2.2.2.2.1 ∧ inI r.2.2.2.2.2.2.1 ∧ inI r.2.2.2.2.2.2.2.1 ∧ okA r.2.2.2.2.2.2.2.2.1 ∧ okA r.2.2.2.2.2.2.2.2.2.1 ∧ okA r.2.2.2.2.2.2.2.2.2.2) 0 0) 0 0 n (ov [a_t, (a_t + 1), (a_t + 2), (a_t + 3), a_p1, (a_p1 + 1), (a_p1 + 3), (a_p1 + 4), (a_p1 + 6), (a_p1 + 8)] [.inr (6, fsX6 a_t t_flaws t_slipped t_gone t_work t_out t_lost t_came), IA E 100 t_signs, IA E 30 t_stood, IA E 30 t_felt, .inr (3, fsX3 a_p1 p1_speckMany p1_sourceMany p1_baseTold p1_baseLow p1_baseHigh p1_reach), IA E 21 p1_pushes, IA E 100 p1_lows, IA E 100 p1_highs, IA E 100 p1_sourceHolds, IA E 5 p1_sources] h) 70 [some (.ref a_t), some (.ref a_p1), some (vI v2), none, none, none, none, some (vI v7), some (vI v8), some (vI v9), some (vI v10)] [] := by
  intro F
  induction F with
  | zero =>
    intro t_flaws t_came t_signs v10 ok_t_flaws ok_t_came ok_t_signs ok_v10 hs
    rw [m_X6_tick_70] at hs
    cases hs
  | succ F ih =>
    intro t_flaws t_came t_signs v10 ok_t_flaws ok_t_came ok_t_signs ok_v10 hs
    rw [m_X6_tick_70] at hs
    refine g_iload e_X6_tick_70 rfl ?_
    refine g_aload_n e_X6_tick_72 rfl ?_
    refine g_get 4 9 ao rfl rfl fsX3_g9 fl_X6_96 e_X6_tick_73 ?_
    refine g_icmp_ge e_X6_tick_76 ok_v10 ok_p1_sourceMany hs (fun c76 hs => ?_) (fun c76 hs => ?_)
    · exact g_mask [true, false, true, true, true, true, true, true, true, true, false] (hk_98 _ _ _ _ ok_t_flaws ok_t_came ok_t_signs ok_v10 hs)
    · refine g_aload_n e_X6_tick_79 rfl ?_
      refine g_aload_n e_X6_tick_80 rfl ?_
      refine g_aload_n e_X6_tick_81 rfl ?_
      refine g_get 4 7 ao rfl rfl fsX3_g7 fl_X6_99 e_X6_tick_82 ?_
      refine g_iload e_X6_tick_85 rfl ?_
      refine g_iald 9 ao rfl rfl (Nat.le_of_ble_eq_true rfl) e_X6_tick_87 hs (fun hi7 hs => ?_)
      refine g_iload_n e_X6_tick_88 rfl ?_
      obtain ⟨y8, hy8, hs⟩ := bind_elim hs
      refine g_callVv [.ref a_p1, vI (p1_sources (Int.toNat v10)), vI v2] cv_X6_102 ⟨rfl, rfl, Nat.le_of_ble_eq_true rfl, Nat.le_of_ble_eq_true rfl⟩ (Ct_heap (ct_X6_give (AO_call [0, 1, 4, 5, 8] ao (by decide) rfl) (FA_call [0, 1, 4, 5, 8] ao.1 rfl rfl) ok_t_flaws ok_t_came ok_t_signs ok_p1_reach ok_p1_pushes ok_p1_sourceHolds (ok_p1_sources _) ok_v2 hy8) (ov_call (esn := [.inr (6, fsX6 a_t y8.1 t_slipped t_gone t_work t_out t_lost y8.2.1), IA E 100 y8.2.2, IA E 30 t_stood, IA E 30 t_felt, .inr (3, fsX3 a_p1 p1_speckMany p1_sourceMany p1_baseTold p1_baseLow p1_baseHigh p1_reach), IA E 21 p1_pushes, IA E 100 p1_lows, IA E 100 p1_highs, IA E 100 p1_sourceHolds, IA E 5 p1_sources]) [0, 1, 4, 5, 8] ao.1 rfl rfl rfl rfl)) e_X6_tick_89 (ao.2 0 _ rfl) (ov_get 0 ao.1 rfl rfl) rfl rfl rfl (Nat.le_of_ble_eq_true rfl) ⟨Nat.le_refl _, Nat.le_refl _⟩ (fun Py8 => ?_)
      refine g_iinc e_X6_tick_92 rfl st1_10 rfl ?_
      refine g_goto e_X6_tick_95 ?_
      obtain ⟨hc9, hs⟩ := chk_elim hs
      exact ih _ _ _ _ Py8.1 Py8.2.1 Py8.2.2 hc9 hs

noncomputable def m_X6_tick_132 (t_flaws : Int) (t_slipped : Int) (t_gone : Int) (t_work : Int) (t_out : Int) (t_lost : Int) (t_came : Int) (t_signs : Nat → Int) (t_stood : Nat → Int) (t_felt : Nat → Int) : Option (Int × Int × Int × Int × Int × Int × Int × Int × (Nat → Int) × (Nat → Int) × (Nat → Int)) :=
  some (1, t_flaws, t_slipped, t_gone, t_work, t_out, t_lost, t_came, t_signs, t_stood, t_felt)

set_option maxRecDepth 10000 in
theorem g_X6_tick_132 {l : Launch} {E : EE} {b0 n : Nat} {h : AH} {a_t a_p1 : Nat} {t_flaws t_slipped t_gone t_work t_out t_lost t_came p1_speckMany p1_sourceMany p1_baseTold p1_baseLow p1_baseHigh p1_reach : Int} {t_signs t_stood t_felt p1_pushes p1_lows p1_highs p1_sourceHolds p1_sources : Nat → Int} {r : Int × Int × Int × Int × Int × Int × Int × Int × (Nat → Int) × (Nat → Int) × (Nat → Int)} (ao : AO b0 n [a_t, (a_t + 1), (a_t + 2), (a_t + 3), a_p1, (a_p1 + 1), (a_p1 + 3), (a_p1 + 4), (a_p1 + 6), (a_p1 + 8)]) (ok_t_flaws : inI t_flaws) (ok_t_slipped : inI t_slipped) (ok_t_gone : inI t_gone) (ok_t_work : inJ t_work) (ok_t_out : inI t_out) (ok_t_lost : inI t_lost) (ok_t_came : inI t_came) (ok_t_signs : okA t_signs) (ok_t_stood : okA t_stood) (ok_t_felt : okA t_felt) (ok_p1_sourceMany : inI p1_sourceMany) (ok_p1_reach : inI p1_reach) (ok_p1_pushes : okA p1_pushes) (ok_p1_lows : okA p1_lows) (ok_p1_highs : okA p1_highs) (ok_p1_sourceHolds : okA p1_sourceHolds) (ok_p1_sources : okA p1_sources) (hs : m_X6_tick_132 t_flaws t_slipped t_gone t_work t_out t_lost t_came t_signs t_stood t_felt = some r) : G l E b0 M_X6_tick (fun _ => True) (ZM E b0 (some (vI r.1)) (ov [a_t, (a_t + 1), (a_t + 2), (a_t + 3), a_p1, (a_p1 + 1), (a_p1 + 3), (a_p1 + 4), (a_p1 + 6), (a_p1 + 8)] [.inr (6, fsX6 a_t r.2.1 r.2.2.1 r.2.2.2.1 r.2.2.2.2.1 r.2.2.2.2.2.1 r.2.2.2.2.2.2.1 r.2.2.2.2.2.2.2.1), IA E 100 r.2.2.2.2.2.2.2.2.1, IA E 30 r.2.2.2.2.2.2.2.2.2.1, IA E 30 r.2.2.2.2.2.2.2.2.2.2, .inr (3, fsX3 a_p1 p1_speckMany p1_sourceMany p1_baseTold p1_baseLow p1_baseHigh p1_reach), IA E 21 p1_pushes, IA E 100 p1_lows, IA E 100 p1_highs, IA E 100 p1_sourceHolds, IA E 5 p1_sources] h) n (inZ r.1 ∧ inI r.2.1 ∧ inI r.2.2.1 ∧ inI r.2.2.2.1 ∧ inJ r.2.2.2.2.1 ∧ inI r.2.2.2.2.2.1 ∧ inI r.2.2.2.2.2.2.1 ∧ inI r.2.2.2.2.2.2.2.1 ∧ okA r.2.2.2.2.2.2.2.2.1 ∧ okA r.2.2.2.2.2.2.2.2.2.1 ∧ okA r.2.2.2.2.2.2.2.2.2.2) 0 0) 0 0 n (ov [a_t, (a_t + 1), (a_t + 2), (a_t + 3), a_p1, (a_p1 + 1), (a_p1 + 3), (a_p1 + 4), (a_p1 + 6), (a_p1 + 8)] [.inr (6, fsX6 a_t t_flaws t_slipped t_gone t_work t_out t_lost t_came), IA E 100 t_signs, IA E 30 t_stood, IA E 30 t_felt, .inr (3, fsX3 a_p1 p1_speckMany p1_sourceMany p1_baseTold p1_baseLow p1_baseHigh p1_reach), IA E 21 p1_pushes, IA E 100 p1_lows, IA E 100 p1_highs, IA E 100 p1_sourceHolds, IA E 5 p1_sources] h) 132 [none, none, none, none, none, none, none, none, none, none, none] [] := by
  rw [m_X6_tick_132] at hs
  refine g_iconst e_X6_tick_132 ?_
  refine g_goto e_X6_tick_133 ?_
  obtain rfl := Option.some.inj hs
  exact g_zret rfl (by decide : inZ 1) ⟨(by decide : inZ 1), ok_t_flaws, ok_t_slipped, ok_t_gone, ok_t_work, ok_t_out, ok_t_lost, ok_t_came, ok_t_signs, ok_t_stood, ok_t_felt⟩ e_X6_tick_137

noncomputable def m_X6_tick_98 (t_flaws : Int) (t_slipped : Int) (t_gone : Int) (t_work : Int) (t_out : Int) (t_lost : Int) (t_came : Int) (t_signs : Nat → Int) (t_stood : Nat → Int) (t_felt : Nat → Int) (v2 : Int) (v7 : Int) (v8 : Int) (v9 : Int) : Option (Int × Int × Int × Int × Int × Int × Int × Int × (Nat → Int) × (Nat → Int) × (Nat → Int)) :=
  chk (inI (t_slipped - v7)) (chk (inJ (t_work + (v2 * (t_slipped - v7)))) (if v9 = 0 then (if t_came = v8 then (some (0, t_flaws, t_slipped, t_gone, t_work + (v2 * (t_slipped - v7)), t_out, t_lost, t_came, t_signs, t_stood, t_felt)) else (m_X6_tick_132 t_flaws t_slipped t_gone (t_work + (v2 * (t_slipped - v7))) t_out t_lost t_came t_signs t_stood t_felt)) else (m_X6_tick_132 t_flaws t_slipped t_gone (t_work + (v2 * (t_slipped - v7))) t_out t_lost t_came t_signs t_stood t_felt)))

set_option maxRecDepth 10000 in
theorem g_X6_tick_98 {l : Launch} {E : EE} {b0 n : Nat} {h : AH} {a_t a_p1 : Nat} {t_flaws t_slipped t_gone t_work t_out t_lost t_came p1_speckMany p1_sourceMany p1_baseTold p1_baseLow p1_baseHigh p1_reach v2 v7 v8 v9 : Int} {t_signs t_stood t_felt p1_pushes p1_lows p1_highs p1_sourceHolds p1_sources : Nat → Int} {r : Int × Int × Int × Int × Int × Int × Int × Int × (Nat → Int) × (Nat → Int) × (Nat → Int)} (ao : AO b0 n [a_t, (a_t + 1), (a_t + 2), (a_t + 3), a_p1, (a_p1 + 1), (a_p1 + 3), (a_p1 + 4), (a_p1 + 6), (a_p1 + 8)]) (ok_t_flaws : inI t_flaws) (ok_t_slipped : inI t_slipped) (ok_t_gone : inI t_gone) (ok_t_work : inJ t_work) (ok_t_out : inI t_out) (ok_t_lost : inI t_lost) (ok_t_came : inI t_came) (ok_t_signs : okA t_signs) (ok_t_stood : okA t_stood) (ok_t_felt : okA t_felt) (ok_p1_sourceMany : inI p1_sourceMany) (ok_p1_reach : inI p1_reach) (ok_p1_pushes : okA p1_pushes) (ok_p1_lows : okA p1_lows) (ok_p1_highs : okA p1_highs) (ok_p1_sourceHolds : okA p1_sourceHolds) (ok_p1_sources : okA p1_sources) (ok_v2 : inI v2) (ok_v7 : inI v7) (ok_v8 : inI v8) (ok_v9 : inZ v9) (hs : m_X6_tick_98 t_flaws t_slipped t_gone t_work t_out t_lost t_came t_signs t_stood t_felt v2 v7 v8 v9 = some r) : G l E b0 M_X6_tick (fun _ => True) (ZM E b0 (some (vI r.1)) (ov [a_t, (a_t + 1), (a_t + 2), (a_t + 3), a_p1, (a_p1 + 1), (a_p1 + 3), (a_p1 + 4), (a_p1 + 6), (a_p1 + 8)] [.inr (6, fsX6 a_t r.2.1 r.2.2.1 r.2.2.2.1 r.2.2.2.2.1 r.2.2.2.2.2.1 r.2.2.2.2.2.2.1 r.2.2.2.2.2.2.2.1), IA E 100 r.2.2.2.2.2.2.2.2.1, IA E 30 r.2.2.2.2.2.2.2.2.2.1, IA E 30 r.2.2.2.2.2.2.2.2.2.2, .inr (3, fsX3 a_p1 p1_speckMany p1_sourceMany p1_baseTold p1_baseLow p1_baseHigh p1_reach), IA E 21 p1_pushes, IA E 100 p1_lows, IA E 100 p1_highs, IA E 100 p1_sourceHolds, IA E 5 p1_sources] h) n (inZ r.1 ∧ inI r.2.1 ∧ inI r.2.2.1 ∧ inI r.2.2.2.1 ∧ inJ r.2.2.2.2.1 ∧ inI r.2.2.2.2.2.1 ∧ inI r.2.2.2.2.2.2.1 ∧ inI r.2.2.2.2.2.2.2.1 ∧ okA r.2.2.2.2.2.2.2.2.1 ∧ okA r.2.2.2.2.2.2.2.2.2.1 ∧ okA r.2.2.2.2.2.2.2.2.2.2) 0 0) 0 0 n (ov [a_t, (a_t + 1), (a_t + 2), (a_t + 3), a_p1, (a_p1 + 1), (a_p1 + 3), (a_p1 + 4), (a_p1 + 6), (a_p1 + 8)] [.inr (6, fsX6 a_t t_flaws t_slipped t_gone t_work t_out t_lost t_came), IA E 100 t_signs, IA E 30 t_stood, IA E 30 t_felt, .inr (3, fsX3 a_p1 p1_speckMany p1_sourceMany p1_baseTold p1_baseLow p1_baseHigh p1_reach), IA E 21 p1_pushes, IA E 100 p1_lows, IA E 100 p1_highs, IA E 100 p1_sourceHolds, IA E 5 p1_sources] h) 98 [some (.ref a_t), none, some (vI v2), none, none, none, none, some (vI v7), some (vI v8), some (vI v9), none] [] := by
  rw [m_X6_tick_98] at hs
  refine g_aload_n e_X6_tick_98 rfl ?_
  refine g_dup e_X6_tick_99 rfl ?_
  refine g_get 0 6 ao rfl rfl fsX6_g6 fl_X6_37 e_X6_tick_100 ?_
  refine g_iload_n e_X6_tick_103 rfl ?_
  refine g_i2l e_X6_tick_104 ok_v2 ?_
  refine g_aload_n e_X6_tick_105 rfl ?_
  refine g_get 0 4 ao rfl rfl fsX6_g4 fl_X6_31 e_X6_tick_106 ?_
  refine g_iload e_X6_tick_109 rfl ?_
  refine g_isub e_X6_tick_111 ?_
  obtain ⟨hc10, hs⟩ := chk_elim hs
  refine g_i2l e_X6_tick_112 hc10 ?_
  refine g_lmul e_X6_tick_113 ?_
  refine g_ladd e_X6_tick_114 ?_
  obtain ⟨hc11, hs⟩ := chk_elim hs
  refine g_put 0 6 ao rfl rfl fsX6_k6 fsX6_s6 ls_0 fw_X6_37 (fun h => by cases h) ⟨rfl, rfl⟩ e_X6_tick_115 ?_
  refine g_iload e_X6_tick_118 rfl ?_
  refine g_if_ne e_X6_tick_120 (inZ_I ok_v9) hs (fun c120 hs => ?_) (fun c120 hs => ?_)
  · refine g_aload_n e_X6_tick_123 rfl ?_
    refine g_get 0 9 ao rfl rfl fsX6_g9 fl_X6_47 e_X6_tick_124 ?_
    refine g_iload e_X6_tick_127 rfl ?_
    refine g_icmp_eq e_X6_tick_129 ok_t_came ok_v8 hs (fun c129 hs => ?_) (fun c129 hs => ?_)
    · refine g_iconst e_X6_tick_136 ?_
      obtain rfl := Option.some.inj hs
      exact g_zret rfl (by decide : inZ 0) ⟨(by decide : inZ 0), ok_t_flaws, ok_t_slipped, ok_t_gone, hc11, ok_t_out, ok_t_lost, ok_t_came, ok_t_signs, ok_t_stood, ok_t_felt⟩ e_X6_tick_137
    · exact g_mask [false, true, false, true, true, true, true, false, false, false, true] (g_X6_tick_132 ao ok_t_flaws ok_t_slipped ok_t_gone hc11 ok_t_out ok_t_lost ok_t_came ok_t_signs ok_t_stood ok_t_felt ok_p1_sourceMany ok_p1_reach ok_p1_pushes ok_p1_lows ok_p1_highs ok_p1_sourceHolds ok_p1_sources hs)
  · exact g_mask [false, true, false, true, true, true, true, false, false, false, true] (g_X6_tick_132 ao ok_t_flaws ok_t_slipped ok_t_gone hc11 ok_t_out ok_t_lost ok_t_came ok_t_signs ok_t_stood ok_t_felt ok_p1_sourceMany ok_p1_reach ok_p1_pushes ok_p1_lows ok_p1_highs ok_p1_sourceHolds ok_p1_sources hs)

noncomputable def m_X6_tick_67 (t_flaws : Int) (t_slipped : Int) (t_gone : Int) (t_work : Int) (t_out : Int) (t_lost : Int) (t_came : Int) (t_signs : Nat → Int) (t_stood : Nat → Int) (t_felt : Nat → Int) (p1_sourceMany : Int) (p1_reach : Int) (p1_pushes : Nat → Int) (p1_sourceHolds : Nat → Int) (p1_sources : Nat → Int) (v2 : Int) (v7 : Int) (v8 : Int) (v9 : Int) : Option (Int × Int × Int × Int × Int × Int × Int × Int × (Nat → Int) × (Nat → Int) × (Nat → Int)) :=
  m_X6_tick_70 p1_sourceMany p1_reach p1_pushes p1_sourceHolds p1_sources v2 (fun t_flaws' t_came' t_signs' v10' => m_X6_tick_98 t_flaws' t_slipped t_gone t_work t_out t_lost t_came' t_signs' t_stood t_felt v2 v7 v8 v9) FU t_flaws t_came t_signs 0

set_option maxRecDepth 10000 in
theorem g_X6_tick_67 {l : Launch} {E : EE} {b0 n : Nat} {h : AH} {a_t a_p1 : Nat} {t_flaws t_slipped t_gone t_work t_out t_lost t_came p1_speckMany p1_sourceMany p1_baseTold p1_baseLow p1_baseHigh p1_reach v2 v7 v8 v9 : Int} {t_signs t_stood t_felt p1_pushes p1_lows p1_highs p1_sourceHolds p1_sources : Nat → Int} {r : Int × Int × Int × Int × Int × Int × Int × Int × (Nat → Int) × (Nat → Int) × (Nat → Int)} (ao : AO b0 n [a_t, (a_t + 1), (a_t + 2), (a_t + 3), a_p1, (a_p1 + 1), (a_p1 + 3), (a_p1 + 4), (a_p1 + 6), (a_p1 + 8)]) (ok_t_flaws : inI t_flaws) (ok_t_slipped : inI t_slipped) (ok_t_gone : inI t_gone) (ok_t_work : inJ t_work) (ok_t_out : inI t_out) (ok_t_lost : inI t_lost) (ok_t_came : inI t_came) (ok_t_signs : okA t_signs) (ok_t_stood : okA t_stood) (ok_t_felt : okA t_felt) (ok_p1_sourceMany : inI p1_sourceMany) (ok_p1_reach : inI p1_reach) (ok_p1_pushes : okA p1_pushes) (ok_p1_lows : okA p1_lows) (ok_p1_highs : okA p1_highs) (ok_p1_sourceHolds : okA p1_sourceHolds) (ok_p1_sources : okA p1_sources) (ok_v2 : inI v2) (ok_v7 : inI v7) (ok_v8 : inI v8) (ok_v9 : inZ v9) (hs : m_X6_tick_67 t_flaws t_slipped t_gone t_work t_out t_lost t_came t_signs t_stood t_felt p1_sourceMany p1_reach p1_pushes p1_sourceHolds p1_sources v2 v7 v8 v9 = some r) : G l E b0 M_X6_tick (fun _ => True) (ZM E b0 (some (vI r.1)) (ov [a_t, (a_t + 1), (a_t + 2), (a_t + 3), a_p1, (a_p1 + 1), (a_p1 + 3), (a_p1 + 4), (a_p1 + 6), (a_p1 + 8)] [.inr (6, fsX6 a_t r.2.1 r.2.2.1 r.2.2.2.1 r.2.2.2.2.1 r.2.2.2.2.2.1 r.2.2.2.2.2.2.1 r.2.2.2.2.2.2.2.1), IA E 100 r.2.2.2.2.2.2.2.2.1, IA E 30 r.2.2.2.2.2.2.2.2.2.1, IA E 30 r.2.2.2.2.2.2.2.2.2.2, .inr (3, fsX3 a_p1 p1_speckMany p1_sourceMany p1_baseTold p1_baseLow p1_baseHigh p1_reach), IA E 21 p1_pushes, IA E 100 p1_lows, IA E 100 p1_highs, IA E 100 p1_sourceHolds, IA E 5 p1_sources] h) n (inZ r.1 ∧ inI r.2.1 ∧ inI r.2.2.1 ∧ inI r.2.2.2.1 ∧ inJ r.2.2.2.2.1 ∧ inI r.2.2.2.2.2.1 ∧ inI r.2.2.2.2.2.2.1 ∧ inI r.2.2.2.2.2.2.2.1 ∧ okA r.2.2.2.2.2.2.2.2.1 ∧ okA r.2.2.2.2.2.2.2.2.2.1 ∧ okA r.2.2.2.2.2.2.2.2.2.2) 0 0) 0 0 n (ov [a_t, (a_t + 1), (a_t + 2), (a_t + 3), a_p1, (a_p1 + 1), (a_p1 + 3), (a_p1 + 4), (a_p1 + 6), (a_p1 + 8)] [.inr (6, fsX6 a_t t_flaws t_slipped t_gone t_work t_out t_lost t_came), IA E 100 t_signs, IA E 30 t_stood, IA E 30 t_felt, .inr (3, fsX3 a_p1 p1_speckMany p1_sourceMany p1_baseTold p1_baseLow p1_baseHigh p1_reach), IA E 21 p1_pushes, IA E 100 p1_lows, IA E 100 p1_highs, IA E 100 p1_sourceHolds, IA E 5 p1_sources] h) 67 [some (.ref a_t), some (.ref a_p1), some (vI v2), none, none, none, none, some (vI v7), some (vI v8), some (vI v9), none] [] := by
  rw [m_X6_tick_67] at hs
  refine g_iconst e_X6_tick_67 ?_
  refine g_istore e_X6_tick_68 st1_10 rfl ?_
  exact g_X6_tick_70 ao ok_t_slipped ok_t_gone ok_t_work ok_t_out ok_t_lost ok_t_stood ok_t_felt ok_p1_sourceMany ok_p1_reach ok_p1_pushes ok_p1_lows ok_p1_highs ok_p1_sourceHolds ok_p1_sources ok_v2 ok_v7 ok_v8 ok_v9 (hk_98 := by
      intro t_flaws' t_came' t_signs' v10' ok_t_flaws' ok_t_came' ok_t_signs' ok_v10' hs
      exact g_X6_tick_98 ao ok_t_flaws' ok_t_slipped ok_t_gone ok_t_work ok_t_out ok_t_lost ok_t_came' ok_t_signs' ok_t_stood ok_t_felt ok_p1_sourceMany ok_p1_reach ok_p1_pushes ok_p1_lows ok_p1_highs ok_p1_sourceHolds ok_p1_sources ok_v2 ok_v7 ok_v8 ok_v9 hs) FU _ _ _ _ ok_t_flaws ok_t_came ok_t_signs (by decide : inI 0) hs

noncomputable def m_X6_tick_0 (t_flaws : Int) (t_slipped : Int) (t_gone : Int) (t_work : Int) (t_out : Int) (t_lost : Int) (t_came : Int) (t_signs : Nat → Int) (t_stood : Nat → Int) (t_felt : Nat → Int) (p1_sourceMany : Int) (p1_reach : Int) (p1_pushes : Nat → Int) (p1_lows : Nat → Int) (p1_highs : Nat → Int) (p1_sourceHolds : Nat → Int) (p1_sources : Nat → Int) (v2 : Int) (v3 : Int) (v4 : Int) : Option (Int × Int × Int × Int × Int × Int × Int × Int × (Nat → Int) × (Nat → Int) × (Nat → Int)) :=
  (m_X6_feelAll t_signs t_stood t_felt p1_reach p1_pushes v2).bind (fun y1 => m_X6_tick_26 y1.2.1 y1.2.2 p1_lows p1_highs v3 v4 y1.1 (fun t_flaws' t_slipped' t_gone' t_out' t_lost' t_signs' v9' v10' => m_X6_tick_67 t_flaws' t_slipped' t_gone' t_work t_out' t_lost' t_came t_signs' y1.2.1 y1.2.2 p1_sourceMany p1_reach p1_pushes p1_sourceHolds p1_sources v2 t_slipped t_came v9') FU t_flaws t_slipped t_gone t_out t_lost t_signs 0 0)

set_option maxRecDepth 10000 in
theorem g_X6_tick_0 {l : Launch} {E : EE} {b0 n : Nat} {h : AH} {a_t a_p1 : Nat} {t_flaws t_slipped t_gone t_work t_out t_lost t_came p1_speckMany p1_sourceMany p1_baseTold p1_baseLow p1_baseHigh p1_reach v2 v3 v4 : Int} {t_signs t_stood t_felt p1_pushes p1_lows p1_highs p1_sourceHolds p1_sources : Nat → Int} {r : Int × Int × Int × Int × Int × Int × Int × Int × (Nat → Int) × (Nat → Int) × (Nat → Int)} (ao : AO b0 n [a_t, (a_t + 1), (a_t + 2), (a_t + 3), a_p1, (a_p1 + 1), (a_p1 + 3), (a_p1 + 4), (a_p1 + 6), (a_p1 + 8)]) (ok_t_flaws : inI t_flaws) (ok_t_slipped : inI t_slipped) (ok_t_gone : inI t_gone) (ok_t_work : inJ t_work) (ok_t_out : inI t_out) (ok_t_lost : inI t_lost) (ok_t_came : inI t_came) (ok_t_signs : okA t_signs) (ok_t_stood : okA t_stood) (ok_t_felt : okA t_felt) (ok_p1_sourceMany : inI p1_sourceMany) (ok_p1_reach : inI p1_reach) (ok_p1_pushes : okA p1_pushes) (ok_p1_lows : okA p1_lows) (ok_p1_highs : okA p1_highs) (ok_p1_sourceHolds : okA p1_sourceHolds) (ok_p1_sources : okA p1_sources) (ok_v2 : inI v2) (ok_v3 : inI v3) (ok_v4 : inJ v4) (hs : m_X6_tick_0 t_flaws t_slipped t_gone t_work t_out t_lost t_came t_signs t_stood t_felt p1_sourceMany p1_reach p1_pushes p1_lows p1_highs p1_sourceHolds p1_sources v2 v3 v4 = some r) : G l E b0 M_X6_tick (fun _ => True) (ZM E b0 (some (vI r.1)) (ov [a_t, (a_t + 1), (a_t + 2), (a_t + 3), a_p1, (a_p1 + 1), (a_p1 + 3), (a_p1 + 4), (a_p1 + 6), (a_p1 + 8)] [.inr (6, fsX6 a_t r.2.1 r.2.2.1 r.2.2.2.1 r.2.2.2.2.1 r.2.2.2.2.2.1 r.2.2.2.2.2.2.1 r.2.2.2.2.2.2.2.1), IA E 100 r.2.2.2.2.2.2.2.2.1, IA E 30 r.2.2.2.2.2.2.2.2.2.1, IA E 30 r.2.2.2.2.2.2.2.2.2.2, .inr (3, fsX3 a_p1 p1_speckMany p1_sourceMany p1_baseTold p1_baseLow p1_baseHigh p1_reach), IA E 21 p1_pushes, IA E 100 p1_lows, IA E 100 p1_highs, IA E 100 p1_sourceHolds, IA E 5 p1_sources] h) n (inZ r.1 ∧ inI r.2.1 ∧ inI r.2.2.1 ∧ inI r.2.2.2.1 ∧ inJ r.2.2.2.2.1 ∧ inI r.2.2.2.2.2.1 ∧ inI r.2.2.2.2.2.2.1 ∧ inI r.2.2.2.2.2.2.2.1 ∧ okA r.2.2.2.2.2.2.2.2.1 ∧ okA r.2.2.2.2.2.2.2.2.2.1 ∧ okA r.2.2.2.2.2.2.2.2.2.2) 0 0) 0 0 n (ov [a_t, (a_t + 1), (a_t + 2), (a_t + 3), a_p1, (a_p1 + 1), (a_p1 + 3), (a_p1 + 4), (a_p1 + 6), (a_p1 + 8)] [.inr (6, fsX6 a_t t_flaws t_slipped t_gone t_work t_out t_lost t_came), IA E 100 t_signs, IA E 30 t_stood, IA E 30 t_felt, .inr (3, fsX3 a_p1 p1_speckMany p1_sourceMany p1_baseTold p1_baseLow p1_baseHigh p1_reach), IA E 21 p1_pushes, IA E 100 p1_lows, IA E 100 p1_highs, IA E 100 p1_sourceHolds, IA E 5 p1_sources] h) 0 [some (.ref a_t), some (.ref a_p1), some (vI v2), some (vI v3), some (vJ v4), none, none, none, none, none, none] [] := by
  rw [m_X6_tick_0] at hs
  refine g_aload_n e_X6_tick_0 rfl ?_
  refine g_aload_n e_X6_tick_1 rfl ?_
  refine g_iload_n e_X6_tick_2 rfl ?_
  obtain ⟨y1, hy1, hs⟩ := bind_elim hs
  refine g_callVr [.ref a_p1, vI v2] cv_X6_85 ⟨rfl, rfl, Nat.le_of_ble_eq_true rfl, Nat.le_of_ble_eq_true rfl⟩ (Ct_heap (ct_X6_feelAll (AO_call [0, 1, 2, 3, 4, 5] ao (by decide) rfl) (FA_call [0, 1, 2, 3, 4, 5] ao.1 rfl rfl) ok_t_signs ok_t_stood ok_t_felt ok_p1_reach ok_p1_pushes ok_v2 hy1) (ov_call (esn := [.inr (6, fsX6 a_t t_flaws t_slipped t_gone t_work t_out t_lost t_came), IA E 100 t_signs, IA E 30 y1.2.1, IA E 30 y1.2.2, .inr (3, fsX3 a_p1 p1_speckMany p1_sourceMany p1_baseTold p1_baseLow p1_baseHigh p1_reach), IA E 21 p1_pushes, IA E 100 p1_lows, IA E 100 p1_highs, IA E 100 p1_sourceHolds, IA E 5 p1_sources]) [0, 1, 2, 3, 4, 5] ao.1 rfl rfl rfl rfl)) e_X6_tick_3 (ao.2 0 _ rfl) (ov_get 0 ao.1 rfl rfl) rfl rfl rfl (Nat.le_of_ble_eq_true rfl) ⟨Nat.le_refl _, Nat.le_refl _⟩ (fun Py1 => ?_)
  refine g_istore e_X6_tick_6 st1_6 rfl ?_
  refine g_aload_n e_X6_tick_8 rfl ?_
  refine g_get 0 4 ao rfl rfl fsX6_g4 fl_X6_31 e_X6_tick_9 ?_
  refine g_istore e_X6_tick_12 st1_7 rfl ?_
  refine g_aload_n e_X6_tick_14 rfl ?_
  refine g_get 0 9 ao rfl rfl fsX6_g9 fl_X6_47 e_X6_tick_15 ?_
  refine g_istore e_X6_tick_18 st1_8 rfl ?_
  refine g_iconst e_X6_tick_20 ?_
  refine g_istore e_X6_tick_21 st1_9 rfl ?_
  refine g_iconst e_X6_tick_23 ?_
  refine g_istore e_X6_tick_24 st1_10 rfl ?_
  exact g_X6_tick_26 ao ok_t_work ok_t_came Py1.2.1 Py1.2.2 ok_p1_sourceMany ok_p1_reach ok_p1_pushes ok_p1_lows ok_p1_highs ok_p1_sourceHolds ok_p1_sources ok_v2 ok_v3 ok_v4 Py1.1 ok_t_slipped ok_t_came (hk_67 := by
      intro t_flaws' t_slipped' t_gone' t_out' t_lost' t_signs' v9' v10' ok_t_flaws' ok_t_slipped' ok_t_gone' ok_t_out' ok_t_lost' ok_t_signs' ok_v9' ok_v10' hs
      exact g_X6_tick_67 ao ok_t_flaws' ok_t_slipped' ok_t_gone' ok_t_work ok_t_out' ok_t_lost' ok_t_came ok_t_signs' Py1.2.1 Py1.2.2 ok_p1_sourceMany ok_p1_reach ok_p1_pushes ok_p1_lows ok_p1_highs ok_p1_sourceHolds ok_p1_sources ok_v2 ok_t_slipped ok_t_came ok_v9' hs) FU _ _ _ _ _ _ _ _ ok_t_flaws ok_t_slipped ok_t_gone ok_t_out ok_t_lost ok_t_signs (by decide : inZ 0) (by decide : inI 0) hs

noncomputable def m_X6_tick (t_flaws : Int) (t_slipped : Int) (t_gone : Int) (t_work : Int) (t_out : Int) (t_lost : Int) (t_came : Int) (t_signs : Nat → Int) (t_stood : Nat → Int) (t_felt : Nat → Int) (p1_sourceMany : Int) (p1_reach : Int) (p1_pushes : Nat → Int) (p1_lows : Nat → Int) (p1_highs : Nat → Int) (p1_sourceHolds : Nat → Int) (p1_sources : Nat → Int) (v2 : Int) (v3 : Int) (v4 : Int) : Option (Int × Int × Int × Int × Int × Int × Int × Int × (Nat → Int) × (Nat → Int) × (Nat → Int)) := m_X6_tick_0 t_flaws t_slipped t_gone t_work t_out t_lost t_came t_signs t_stood t_felt p1_sourceMany p1_reach p1_pushes p1_lows p1_highs p1_sourceHolds p1_sources v2 v3 v4

set_option maxRecDepth 10000 in
theorem ct_X6_tick {l : Launch} {E : EE} {b0 n : Nat} {h : AH} {a_t a_p1 : Nat} {t_flaws t_slipped t_gone t_work t_out t_lost t_came p1_speckMany p1_sourceMany p1_baseTold p1_baseLow p1_baseHigh p1_reach : Int} {t_signs t_stood t_felt p1_pushes p1_lows p1_highs p1_sourceHolds p1_sources : Nat → Int} {v2 v3 v4 : Int} (ao : AO b0 n [a_t, (a_t + 1), (a_t + 2), (a_t + 3), a_p1, (a_p1 + 1), (a_p1 + 3), (a_p1 + 4), (a_p1 + 6), (a_p1 + 8)]) (hf : FA h [a_t, (a_t + 1), (a_t + 2), (a_t + 3), a_p1, (a_p1 + 1), (a_p1 + 3), (a_p1 + 4), (a_p1 + 6), (a_p1 + 8)] [.inr (6, fsX6 a_t t_flaws t_slipped t_gone t_work t_out t_lost t_came), IA E 100 t_signs, IA E 30 t_stood, IA E 30 t_felt, .inr (3, fsX3 a_p1 p1_speckMany p1_sourceMany p1_baseTold p1_baseLow p1_baseHigh p1_reach), IA E 21 p1_pushes, IA E 100 p1_lows, IA E 100 p1_highs, IA E 100 p1_sourceHolds, IA E 5 p1_sources]) (ok_t_flaws : inI t_flaws) (ok_t_slipped : inI t_slipped) (ok_t_gone : inI t_gone) (ok_t_work : inJ t_work) (ok_t_out : inI t_out) (ok_t_lost : inI t_lost) (ok_t_came : inI t_came) (ok_t_signs : okA t_signs) (ok_t_stood : okA t_stood) (ok_t_felt : okA t_felt) (ok_p1_sourceMany : inI p1_sourceMany) (ok_p1_reach : inI p1_reach) (ok_p1_pushes : okA p1_pushes) (ok_p1_lows : okA p1_lows) (ok_p1_highs : okA p1_highs) (ok_p1_sourceHolds : okA p1_sourceHolds) (ok_p1_sources : okA p1_sources) (ok_v2 : inI v2) (ok_v3 : inI v3) (ok_v4 : inJ v4) {r : Int × Int × Int × Int × Int × Int × Int × Int × (Nat → Int) × (Nat → Int) × (Nat → Int)} (hm : m_X6_tick t_flaws t_slipped t_gone t_work t_out t_lost t_came t_signs t_stood t_felt p1_sourceMany p1_reach p1_pushes p1_lows p1_highs p1_sourceHolds p1_sources v2 v3 v4 = some r) : Ct l E b0 M_X6_tick 0 0 [.ref a_t, .ref a_p1, vI v2, vI v3, vJ v4] h n (some (vI r.1)) (ov [a_t, (a_t + 1), (a_t + 2), (a_t + 3), a_p1, (a_p1 + 1), (a_p1 + 3), (a_p1 + 4), (a_p1 + 6), (a_p1 + 8)] [.inr (6, fsX6 a_t r.2.1 r.2.2.1 r.2.2.2.1 r.2.2.2.2.1 r.2.2.2.2.2.1 r.2.2.2.2.2.2.1 r.2.2.2.2.2.2.2.1), IA E 100 r.2.2.2.2.2.2.2.2.1, IA E 30 r.2.2.2.2.2.2.2.2.2.1, IA E 30 r.2.2.2.2.2.2.2.2.2.2, .inr (3, fsX3 a_p1 p1_speckMany p1_sourceMany p1_baseTold p1_baseLow p1_baseHigh p1_reach), IA E 21 p1_pushes, IA E 100 p1_lows, IA E 100 p1_highs, IA E 100 p1_sourceHolds, IA E 5 p1_sources] h) n (inZ r.1 ∧ inI r.2.1 ∧ inI r.2.2.1 ∧ inI r.2.2.2.1 ∧ inJ r.2.2.2.2.1 ∧ inI r.2.2.2.2.2.1 ∧ inI r.2.2.2.2.2.2.1 ∧ inI r.2.2.2.2.2.2.2.1 ∧ okA r.2.2.2.2.2.2.2.2.1 ∧ okA r.2.2.2.2.2.2.2.2.2.1 ∧ okA r.2.2.2.2.2.2.2.2.2.2) := by
  rw [m_X6_tick] at hm
  have hg : G l E b0 M_X6_tick (fun _ => True) (ZM E b0 (some (vI r.1)) (ov [a_t, (a_t + 1), (a_t + 2), (a_t + 3), a_p1, (a_p1 + 1), (a_p1 + 3), (a_p1 + 4), (a_p1 + 6), (a_p1 + 8)] [.inr (6, fsX6 a_t r.2.1 r.2.2.1 r.2.2.2.1 r.2.2.2.2.1 r.2.2.2.2.2.1 r.2.2.2.2.2.2.1 r.2.2.2.2.2.2.2.1), IA E 100 r.2.2.2.2.2.2.2.2.1, IA E 30 r.2.2.2.2.2.2.2.2.2.1, IA E 30 r.2.2.2.2.2.2.2.2.2.2, .inr (3, fsX3 a_p1 p1_speckMany p1_sourceMany p1_baseTold p1_baseLow p1_baseHigh p1_reach), IA E 21 p1_pushes, IA E 100 p1_lows, IA E 100 p1_highs, IA E 100 p1_sourceHolds, IA E 5 p1_sources] h) n (inZ r.1 ∧ inI r.2.1 ∧ inI r.2.2.1 ∧ inI r.2.2.2.1 ∧ inJ r.2.2.2.2.1 ∧ inI r.2.2.2.2.2.1 ∧ inI r.2.2.2.2.2.2.1 ∧ inI r.2.2.2.2.2.2.2.1 ∧ okA r.2.2.2.2.2.2.2.2.1 ∧ okA r.2.2.2.2.2.2.2.2.2.1 ∧ okA r.2.2.2.2.2.2.2.2.2.2) 0 0) 0 0 n (ov [a_t, (a_t + 1), (a_t + 2), (a_t + 3), a_p1, (a_p1 + 1), (a_p1 + 3), (a_p1 + 4), (a_p1 + 6), (a_p1 + 8)] [.inr (6, fsX6 a_t t_flaws t_slipped t_gone t_work t_out t_lost t_came), IA E 100 t_signs, IA E 30 t_stood, IA E 30 t_felt, .inr (3, fsX3 a_p1 p1_speckMany p1_sourceMany p1_baseTold p1_baseLow p1_baseHigh p1_reach), IA E 21 p1_pushes, IA E 100 p1_lows, IA E 100 p1_highs, IA E 100 p1_sourceHolds, IA E 5 p1_sources] h) 0 [some (.ref a_t), some (.ref a_p1), some (vI v2), some (vI v3), some (vJ v4), none, none, none, none, none, none] [] := by
    have hs := hm
    exact g_X6_tick_0 ao ok_t_flaws ok_t_slipped ok_t_gone ok_t_work ok_t_out ok_t_lost ok_t_came ok_t_signs ok_t_stood ok_t_felt ok_p1_sourceMany ok_p1_reach ok_p1_pushes ok_p1_lows ok_p1_highs ok_p1_sourceHolds ok_p1_sources ok_v2 ok_v3 ok_v4 hs
  rw [FA_id hf] at hg
  exact Ct_of [some (.ref a_t), some (.ref a_p1), some (vI v2), some (vI v3), some (vJ v4), none, none, none, none, none, none] ⟨by decide +kernel, rfl⟩ rfl (Nat.le_of_ble_eq_true rfl) hg

/-! ===== X6_runOn ===== -/
theorem e_X6_runOn_0 : DC cX6_runOn 0 (.iconst 0) 1 1 := ⟨by decide +kernel, rfl⟩
theorem e_X6_runOn_1 : DC cX6_runOn 1 (.istore 5) 2 3 := ⟨by decide +kernel, rfl⟩
theorem e_X6_runOn_3 : DC cX6_runOn 3 (.iload 5) 2 5 := ⟨by decide +kernel, rfl⟩
theorem e_X6_runOn_5 : DC cX6_runOn 5 (.iload_n 3) 1 6 := ⟨by decide +kernel, rfl⟩
theorem e_X6_runOn_6 : DB cX6_runOn 6 (.if_icmp .ge 24) (24) 3 9 30 := ⟨by decide +kernel, rfl, rfl⟩
theorem e_X6_runOn_9 : DC cX6_runOn 9 (.aload_n 0) 1 10 := ⟨by decide +kernel, rfl⟩
theorem e_X6_runOn_10 : DC cX6_runOn 10 (.aload_n 1) 1 11 := ⟨by decide +kernel, rfl⟩
theorem e_X6_runOn_11 : DC cX6_runOn 11 (.iload_n 2) 1 12 := ⟨by decide +kernel, rfl⟩
theorem e_X6_runOn_12 : DC cX6_runOn 12 (.iload 4) 2 14 := ⟨by decide +kernel, rfl⟩
theorem e_X6_runOn_14 : DC cX6_runOn 14 (.lconst 0) 1 15 := ⟨by decide +kernel, rfl⟩
theorem e_X6_runOn_15 : DC cX6_runOn 15 (.invokevirtual 75) 3 18 := ⟨by decide +kernel, rfl⟩
theorem e_X6_runOn_18 : DB cX6_runOn 18 (.ifCond .ne 6) (6) 3 21 24 := ⟨by decide +kernel, rfl, rfl⟩
theorem e_X6_runOn_21 : DC cX6_runOn 21 (.iload 5) 2 23 := ⟨by decide +kernel, rfl⟩
theorem e_X6_runOn_23 : DC cX6_runOn 23 (.ireturn) 1 24 := ⟨by decide +kernel, rfl⟩
theorem e_X6_runOn_24 : DC cX6_runOn 24 (.iinc 5 1) 3 27 := ⟨by decide +kernel, rfl⟩
theorem e_X6_runOn_27 : DB cX6_runOn 27 (.goto (-24)) (-24) 3 30 3 := ⟨by decide +kernel, rfl, rfl⟩
theorem e_X6_runOn_30 : DC cX6_runOn 30 (.iconst 0) 1 31 := ⟨by decide +kernel, rfl⟩
theorem e_X6_runOn_31 : DC cX6_runOn 31 (.iload_n 3) 1 32 := ⟨by decide +kernel, rfl⟩
theorem e_X6_runOn_32 : DC cX6_runOn 32 (.invokestatic 79) 3 35 := ⟨by decide +kernel, rfl⟩
theorem e_X6_runOn_35 : DC cX6_runOn 35 (.ireturn) 1 36 := ⟨by decide +kernel, rfl⟩
noncomputable def m_X6_runOn_3 (p1_sourceMany : Int) (p1_reach : Int) (p1_pushes : Nat → Int) (p1_lows : Nat → Int) (p1_highs : Nat → Int) (p1_sourceHolds : Nat → Int) (p1_sources : Nat → Int) (v2 : Int) (v3 : Int) (v4 : Int) (k_30 : Int → Int → Int → Int → Int → Int → Int → (Nat → Int) → (Nat → Int) → (Nat → Int) → Int → Option (Int × Int × Int × Int × Int × Int × Int × Int × (Nat → Int) × (Nat → Int) × (Nat → Int))) (k_21 : Int → Int → Int → Int → Int → Int → Int → (Nat → Int) → (Nat → Int) → (Nat → Int) → Int → Option (Int × Int × Int × Int × Int × Int × Int × Int × (Nat → Int) × (Nat → Int) × (Nat → Int))) : Nat → Int → Int → Int → Int → Int → Int → Int → (Nat → Int) → (Nat → Int) → (Nat → Int) → Int → Option (Int × Int × Int × Int × Int × Int × Int × Int × (Nat → Int) × (Nat → Int) × (Nat → Int))
  | 0, _, _, _, _, _, _, _, _, _, _, _ => none
  | F + 1, t_flaws, t_slipped, t_gone, t_work, t_out, t_lost, t_came, t_signs, t_stood, t_felt, v5 => if v3 ≤ v5 then (k_30 t_flaws t_slipped t_gone t_work t_out t_lost t_came t_signs t_stood t_felt v5) else ((m_X6_tick t_flaws t_slipped t_gone t_work t_out t_lost t_came t_signs t_stood t_felt p1_sourceMany p1_reach p1_pushes p1_lows p1_highs p1_sourceHolds p1_sources v2 v4 0).bind (fun y1 => if y1.1 = 0 then (some (v5, y1.2.1, y1.2.2.1, y1.2.2.2.1, y1.2.2.2.2.1, y1.2.2.2.2.2.1, y1.2.2.2.2.2.2.1, y1.2.2.2.2.2.2.2.1, y1.2.2.2.2.2.2.2.2.1, y1.2.2.2.2.2.2.2.2.2.1, y1.2.2.2.2.2.2.2.2.2.2)) else (chk (inI (v5 + 1)) (m_X6_runOn_3 p1_sourceMany p1_reach p1_pushes p1_lows p1_highs p1_sourceHolds p1_sources v2 v3 v4 k_30 k_21 F y1.2.1 y1.2.2.1 y1.2.2.2.1 y1.2.2.2.2.1 y1.2.2.2.2.2.1 y1.2.2.2.2.2.2.1 y1.2.2.2.2.2.2.2.1 y1.2.2.2.2.2.2.2.2.1 y1.2.2.2.2.2.2.2.2.2.1 y1.2.2.2.2.2.2.2.2.2.2 (v5 + 1)))))

set_option maxRecDepth 10000 in
theorem g_X6_runOn_3 {l : Launch} {E : EE} {b0 n : Nat} {h : AH} {a_t a_p1 : Nat} {p1_speckMany p1_sourceMany p1_baseTold p1_baseLow p1_baseHigh p1_reach v2 v3 v4 : Int} {p1_pushes p1_lows p1_highs p1_sourceHolds p1_sources : Nat → Int} {r : Int × Int × Int × Int × Int × Int × Int × Int × (Nat → Int) × (Nat → Int) × (Nat → Int)} {k_30 : Int → Int → Int → Int → Int → Int → Int → (Nat → Int) → (Nat → Int) → (Nat → Int) → Int → Option (Int × Int × Int × Int × Int × Int × Int × Int × (Nat → Int) × (Nat → Int) × (Nat → Int))} {k_21 : Int → Int → Int → Int → Int → Int → Int → (Nat → Int) → (Nat → Int) → (Nat → Int) → Int → Option (Int × Int × Int × Int × Int × Int × Int × Int × (Nat → Int) × (Nat → Int) × (Nat → Int))} (ao : AO b0 n [a_t, (a_t + 1), (a_t + 2), (a_t + 3), a_p1, (a_p1 + 1), (a_p1 + 3), (a_p1 + 4), (a_p1 + 6), (a_p1 + 8)]) (ok_p1_sourceMany : inI p1_sourceMany) (ok_p1_reach : inI p1_reach) (ok_p1_pushes : okA p1_pushes) (ok_p1_lows : okA p1_lows) (ok_p1_highs : okA p1_highs) (ok_p1_sourceHolds : okA p1_sourceHolds) (ok_p1_sources : okA p1_sources) (ok_v2 : inI v2) (ok_v3 : inI v3) (ok_v4 : inI v4) (hk_30 : ∀ (t_flaws_ : Int) (t_slipped_ : Int) (t_gone_ : Int) (t_work_ : Int) (t_out_ : Int) (t_lost_ : Int) (t_came_ : Int) (t_signs_ : Nat → Int) (t_stood_ : Nat → Int) (t_felt_ : Nat → Int) (v5_ : Int), inI t_flaws_ → inI t_slipped_ → inI t_gone_ → inJ t_work_ → inI t_out_ → inI t_lost_ → inI t_came_ → okA t_signs_ → okA t_stood_ → okA t_felt_ → inI v5_ → k_30 t_flaws_ t_slipped_ t_gone_ t_work_ t_out_ t_lost_ t_came_ t_signs_ t_stood_ t_felt_ v5_ = some r → G l E b0 M_X6_runOn (fun _ => True) (ZM E b0 (some (vI r.1)) (ov [a_t, (a_t + 1), (a_t + 2), (a_t + 3), a_p1, (a_p1 + 1), (a_p1 + 3), (a_p1 + 4), (a_p1 + 6), (a_p1 + 8)] [.inr (6, fsX6 a_t r.2.1 r.2.2.1 r.2.2.2.1 r.2.2.2.2.1 r.2.2.2.2.2.1 r.2.2.2.2.2.2.1 r.2.2.2.2.2.2.2.1), IA E 100 r.2.2.2.2.2.2.2.2.1, IA E 30 r.2.2.2.2.2.2.2.2.2.1, IA E 30 r.2.2.2.2.2.2.2.2.2.2, .inr (3, fsX3 a_p1 p1_speckMany p1_sourceMany p1_baseTold p1_baseLow p1_baseHigh p1_reach), IA E 21 p1_pushes, IA E 100 p1_lows, IA E 100 p1_highs, IA E 100 p1_sourceHolds, IA E 5 p1_sources] h) n (inI r.1 ∧ inI r.2.1 ∧ inI r.2.2.1 ∧ inI r.2.2.2.1 ∧ inJ r.2.2.2.2.1 ∧ inI r.2.2.2.2.2.1 ∧ inI r.2.2.2.2.2.2.1 ∧ inI r.2.2.2.2.2.2.2.1 ∧ okA r.2.2.2.2.2.2.2.2.1 ∧ okA r.2.2.2.2.2.2.2.2.2.1 ∧ okA r.2.2.2.2.2.2.2.2.2.2) 0 0) 0 0 n (ov [a_t, (a_t + 1), (a_t + 2), (a_t + 3), a_p1, (a_p1 + 1), (a_p1 + 3), (a_p1 + 4), (a_p1 + 6), (a_p1 + 8)] [.inr (6, fsX6 a_t t_flaws_ t_slipped_ t_gone_ t_work_ t_out_ t_lost_ t_came_), IA E 100 t_signs_, IA E 30 t_stood_, IA E 30 t_felt_, .inr (3, fsX3 a_p1 p1_speckMany p1_sourceMany p1_baseTold p1_baseLow p1_baseHigh p1_reach), IA E 21 p1_pushes, IA E 100 p1_lows, IA E 100 p1_highs, IA E 100 p1_sourceHolds, IA E 5 p1_sources] h) 30 [none, none, none, some (vI v3), none, none] []) (hk_21 : ∀ (t_flaws_ : Int) (t_slipped_ : Int) (t_gone_ : Int) (t_work_ : Int) (t_out_ : Int) (t_lost_ : Int) (t_came_ : Int) (t_signs_ : Nat → Int) (t_stood_ : Nat → Int) (t_felt_ : Nat → Int) (v5_ : Int), inI t_flaws_ → inI t_slipped_ → inI t_gone_ → inJ t_work_ → inI t_out_ → inI t_lost_ → inI t_came_ → okA t_signs_ → okA t_stood_ → okA t_felt_ → inI v5_ → k_21 t_flaws_ t_slipped_ t_gone_ t_work_ t_out_ t_lost_ t_came_ t_signs_ t_stood_ t_felt_ v5_ = some r → G l E b0 M_X6_runOn (fun _ => True) (ZM E b0 (some (vI r.1)) (ov [a_t, (a_t + 1), (a_t + 2), (a_t + 3), a_p1, (a_p1 + 1), (a_p1 + 3), (a_p1 + 4), (a_p1 + 6), (a_p1 + 8)] [.inr (6, fsX6 a_t r.2.1 r.2.2.1 r.2.2.2.1 r.2.2.2.2.1 r.2.2.2.2.2.1 r.2.2.2.2.2.2.1 r.2.2.2.2.2.2.2.1), IA E 100 r.2.2.2.2.2.2.2.2.1, IA E 30 r.2.2.2.2.2.2.2.2.2.1, IA E 30 r.2.2.2.2.2.2.2.2.2.2, .inr (3, fsX3 a_p1 p1_speckMany p1_sourceMany p1_baseTold p1_baseLow p1_baseHigh p1_reach), IA E 21 p1_pushes, IA E 100 p1_lows, IA E 100 p1_highs, IA E 100 p1_sourceHolds, IA E 5 p1_sources] h) n (inI r.1 ∧ inI r.2.1 ∧ inI r.2.2.1 ∧ inI r.2.2.2.1 ∧ inJ r.2.2.2.2.1 ∧ inI r.2.2.2.2.2.1 ∧ inI r.2.2.2.2.2.2.1 ∧ inI r.2.2.2.2.2.2.2.1 ∧ okA r.2.2.2.2.2.2.2.2.1 ∧ okA r.2.2.2.2.2.2.2.2.2.1 ∧ okA r.2.2.2.2.2.2.2.2.2.2) 0 0) 0 0 n (ov [a_t, (a_t + 1), (a_t + 2), (a_t + 3), a_p1, (a_p1 + 1), (a_p1 + 3), (a_p1 + 4), (a_p1 + 6), (a_p1 + 8)] [.inr (6, fsX6 a_t t_flaws_ t_slipped_ t_gone_ t_work_ t_out_ t_lost_ t_came_), IA E 100 t_signs_, IA E 30 t_stood_, IA E 30 t_felt_, .inr (3, fsX3 a_p1 p1_speckMany p1_sourceMany p1_baseTold p1_baseLow p1_baseHigh p1_reach), IA E 21 p1_pushes, IA E 100 p1_lows, IA E 100 p1_highs, IA E 100 p1_sourceHolds, IA E 5 p1_sources] h) 21 [none, none, none, none, none, some (vI v5_)] []) :
    ∀ (F : Nat) (t_flaws : Int) (t_slipped : Int) (t_gone : Int) (t_work : Int) (t_out : Int) (t_lost : Int) (t_came : Int) (t_signs : Nat → Int) (t_stood : Nat → Int) (t_felt : Nat → Int) (v5 : Int), inI t_flaws → inI t_slipped → inI t_gone → inJ t_work → inI t_out → inI t_lost → inI t_came → okA t_signs → okA t_stood → okA t_felt → inI v5 → m_X6_runOn_3 p1_sourceMany p1_reach p1_pushes p1_lows p1_highs p1_sourceHolds p1_sources v2 v3 v4 k_30 k_21 F t_flaws t_slipped t_gone t_work t_out t_lost t_came t_signs t_stood t_felt v5 = some r → G l E b0 M_X6_runOn (fun _ => True) (ZM E b0 (some (vI r.1)) (ov [a_t, (a_t + 1), (a_t + 2), (a_t + 3), a_p1, (a_p1 + 1), (a_p1 + 3), (a_p1 + 4), (a_p1 + 6), (a_p1 + 8)] [.inr (6, fsX6 a_t r.2.1 r.2.2.1 r.2.2.2.1 r.2.2.2.2.1 r.2.2.2.2.2.1 r.2.2.2.2.2.2.1 r.2.2.2.2.2.2.2.1), IA E 100 r.2.2.2.2.2.2.2.2.1, IA E 30 r.2.2.2.2.2.2.2.2.2.1, IA E 30 r.2.2.2.2.2.2.2.2.2.2, .inr (3, fsX3 a_p1 p1_speckMany p1_sourceMany p1_baseTold p1_baseLow p1_baseHigh p1_reach), IA E 21 p1_pushes, IA E 100 p1_lows, IA E 100 p1_highs, IA E 100 p1_sourceHolds, IA E 5 p1_sources] h) n (inI r.1 ∧ inI r.2.1 ∧ inI r.2.2.1 ∧ inI r.2.2.2.1 ∧ inJ r.2.2.2.2.1 ∧ inI r.2.2.2.2.2.1 ∧ inI r.2.2.2.2.2.2.1 ∧ inI r.2.2.2.2.2.2.2.1 ∧ okA r.2.2.2.2.2.2.2.2.1 ∧ okA r.2.2.2.2.2.2.2.2.2.1 ∧ okA r.2.2.2.2.2.2.2.2.2.2) 0 0) 0 0 n (ov [a_t, (a_t + 1), (a_t + 2), (a_t + 3), a_p1, (a_p1 + 1), (a_p1 + 3), (a_p1 + 4), (a_p1 + 6), (a_p1 + 8)] [.inr (6, fsX6 a_t t_flaws t_slipped t_gone t_work t_out t_lost t_came), IA E 100 t_signs, IA E 30 t_stood, IA E 30 t_felt, .inr (3, fsX3 a_p1 p1_speckMany p1_sourceMany p1_baseTold p1_baseLow p1_baseHigh p1_reach), IA E 21 p1_pushes, IA E 100 p1_lows, IA E 100 p1_highs, IA E 100 p1_sourceHolds, IA E 5 p1_sources] h) 3 [some (.ref a_t), some (.ref a_p1), some (vI v2), some (vI v3), some (vI v4), some (vI v5)] [] := by
  intro F
  induction F with
  | zero =>
    intro t_flaws t_slipped t_gone t_work t_out t_lost t_came t_signs t_stood t_felt v5 ok_t_flaws ok_t_slipped ok_t_gone ok_t_work ok_t_out ok_t_lost ok_t_came ok_t_signs ok_t_stood ok_t_felt ok_v5 hs
    rw [m_X6_runOn_3] at hs
    cases hs
  | succ F ih =>
    intro t_flaws t_slipped t_gone t_work t_out t_lost t_came t_signs t_stood t_felt v5 ok_t_flaws ok_t_slipped ok_t_gone ok_t_work ok_t_out ok_t_lost ok_t_came ok_t_signs ok_t_stood ok_t_felt ok_v5 hs
    rw [m_X6_runOn_3] at hs
    refine g_iload e_X6_runOn_3 rfl ?_
    refine g_iload_n e_X6_runOn_5 rfl ?_
    refine g_icmp_ge e_X6_runOn_6 ok_v5 ok_v3 hs (fun c6 hs => ?_) (fun c6 hs => ?_)
    · exact g_mask [false, false, false, true, false, false] (hk_30 _ _ _ _ _ _ _ _ _ _ _ ok_t_flaws ok_t_slipped ok_t_gone ok_t_work ok_t_out ok_t_lost ok_t_came ok_t_signs ok_t_stood ok_t_felt ok_v5 hs)
    · refine g_aload_n e_X6_runOn_9 rfl ?_
      refine g_aload_n e_X6_runOn_10 rfl ?_
      refine g_iload_n e_X6_runOn_11 rfl ?_
      refine g_iload e_X6_runOn_12 rfl ?_
      refine g_lconst (a := 0) e_X6_runOn_14 rfl ?_
      obtain ⟨y1, hy1, hs⟩ := bind_elim hs
      refine g_callVr [.ref a_p1, vI v2, vI v4, vJ 0] cv_X6_75 ⟨rfl, rfl, Nat.le_of_ble_eq_true rfl, Nat.le_of_ble_eq_true rfl⟩ (Ct_heap (ct_X6_tick (AO_call [0, 1, 2, 3, 4, 5, 6, 7, 8, 9] ao (by decide) rfl) (FA_call [0, 1, 2, 3, 4, 5, 6, 7, 8, 9] ao.1 rfl rfl) ok_t_flaws ok_t_slipped ok_t_gone ok_t_work ok_t_out ok_t_lost ok_t_came ok_t_signs ok_t_stood ok_t_felt ok_p1_sourceMany ok_p1_reach ok_p1_pushes ok_p1_lows ok_p1_highs ok_p1_sourceHolds ok_p1_sources ok_v2 ok_v4 (by decide : inJ 0) hy1) (ov_call (esn := [.inr (6, fsX6 a_t y1.2.1 y1.2.2.1 y1.2.2.2.1 y1.2.2.2.2.1 y1.2.2.2.2.2.1 y1.2.2.2.2.2.2.1 y1.2.2.2.2.2.2.2.1), IA E 100 y1.2.2.2.2.2.2.2.2.1, IA E 30 y1.2.2.2.2.2.2.2.2.2.1, IA E 30 y1.2.2.2.2.2.2.2.2.2.2, .inr (3, fsX3 a_p1 p1_speckMany p1_sourceMany p1_baseTold p1_baseLow p1_baseHigh p1_reach), IA E 21 p1_pushes, IA E 100 p1_lows, IA E 100 p1_highs, IA E 100 p1_sourceHolds, IA E 5 p1_sources]) [0, 1, 2, 3, 4, 5, 6, 7, 8, 9] ao.1 rfl rfl rfl rfl)) e_X6_runOn_15 (ao.2 0 _ rfl) (ov_get 0 ao.1 rfl rfl) rfl rfl rfl (Nat.le_of_ble_eq_true rfl) ⟨Nat.le_refl _, Nat.le_refl _⟩ (fun Py1 => ?_)
      refine g_if_ne e_X6_runOn_18 (inZ_I Py1.1) hs (fun c18 hs => ?_) (fun c18 hs => ?_)
      · refine g_iload e_X6_runOn_21 rfl ?_
        obtain rfl := Option.some.inj hs
        exact g_iret rfl ⟨ok_v5, Py1.2.1, Py1.2.2.1, Py1.2.2.2.1, Py1.2.2.2.2.1, Py1.2.2.2.2.2.1, Py1.2.2.2.2.2.2.1, Py1.2.2.2.2.2.2.2.1, Py1.2.2.2.2.2.2.2.2.1, Py1.2.2.2.2.2.2.2.2.2.1, Py1.2.2.2.2.2.2.2.2.2.2⟩ e_X6_runOn_23
      · refine g_iinc e_X6_runOn_24 rfl st1_5 rfl ?_
        refine g_goto e_X6_runOn_27 ?_
        obtain ⟨hc2, hs⟩ := chk_elim hs
        exact ih _ _ _ _ _ _ _ _ _ _ _ Py1.2.1 Py1.2.2.1 Py1.2.2.2.1 Py1.2.2.2.2.1 Py1.2.2.2.2.2.1 Py1.2.2.2.2.2.2.1 Py1.2.2.2.2.2.2.2.1 Py1.2.2.2.2.2.2.2.2.1 Py1.2.2.2.2.2.2.2.2.2.1 Py1.2.2.2.2.2.2.2.2.2.2 hc2 hs

noncomputable def m_X6_runOn_30 (t_flaws : Int) (t_slipped : Int) (t_gone : Int) (t_work : Int) (t_out : Int) (t_lost : Int) (t_came : Int) (t_signs : Nat → Int) (t_stood : Nat → Int) (t_felt : Nat → Int) (v3 : Int) : Option (Int × Int × Int × Int × Int × Int × Int × Int × (Nat → Int) × (Nat → Int) × (Nat → Int)) :=
  some (if 0 < v3 then v3 else 0, t_flaws, t_slipped, t_gone, t_work, t_out, t_lost, t_came, t_signs, t_stood, t_felt)

set_option maxRecDepth 10000 in
theorem g_X6_runOn_30 {l : Launch} {E : EE} {b0 n : Nat} {h : AH} {a_t a_p1 : Nat} {t_flaws t_slipped t_gone t_work t_out t_lost t_came p1_speckMany p1_sourceMany p1_baseTold p1_baseLow p1_baseHigh p1_reach v3 : Int} {t_signs t_stood t_felt p1_pushes p1_lows p1_highs p1_sourceHolds p1_sources : Nat → Int} {r : Int × Int × Int × Int × Int × Int × Int × Int × (Nat → Int) × (Nat → Int) × (Nat → Int)} (ao : AO b0 n [a_t, (a_t + 1), (a_t + 2), (a_t + 3), a_p1, (a_p1 + 1), (a_p1 + 3), (a_p1 + 4), (a_p1 + 6), (a_p1 + 8)]) (ok_t_flaws : inI t_flaws) (ok_t_slipped : inI t_slipped) (ok_t_gone : inI t_gone) (ok_t_work : inJ t_work) (ok_t_out : inI t_out) (ok_t_lost : inI t_lost) (ok_t_came : inI t_came) (ok_t_signs : okA t_signs) (ok_t_stood : okA t_stood) (ok_t_felt : okA t_felt) (ok_p1_sourceMany : inI p1_sourceMany) (ok_p1_reach : inI p1_reach) (ok_p1_pushes : okA p1_pushes) (ok_p1_lows : okA p1_lows) (ok_p1_highs : okA p1_highs) (ok_p1_sourceHolds : okA p1_sourceHolds) (ok_p1_sources : okA p1_sources) (ok_v3 : inI v3) (hs : m_X6_runOn_30 t_flaws t_slipped t_gone t_work t_out t_lost t_came t_signs t_stood t_felt v3 = some r) : G l E b0 M_X6_runOn (fun _ => True) (ZM E b0 (some (vI r.1)) (ov [a_t, (a_t + 1), (a_t + 2), (a_t + 3), a_p1, (a_p1 + 1), (a_p1 + 3), (a_p1 + 4), (a_p1 + 6), (a_p1 + 8)] [.inr (6, fsX6 a_t r.2.1 r.2.2.1 r.2.2.2.1 r.2.2.2.2.1 r.2.2.2.2.2.1 r.2.2.2.2.2.2.1 r.2.2.2.2.2.2.2.1), IA E 100 r.2.2.2.2.2.2.2.2.1, IA E 30 r.2.2.2.2.2.2.2.2.2.1, IA E 30 r.2.2.2.2.2.2.2.2.2.2, .inr (3, fsX3 a_p1 p1_speckMany p1_sourceMany p1_baseTold p1_baseLow p1_baseHigh p1_reach), IA E 21 p1_pushes, IA E 100 p1_lows, IA E 100 p1_highs, IA E 100 p1_sourceHolds, IA E 5 p1_sources] h) n (inI r.1 ∧ inI r.2.1 ∧ inI r.2.2.1 ∧ inI r.2.2.2.1 ∧ inJ r.2.2.2.2.1 ∧ inI r.2.2.2.2.2.1 ∧ inI r.2.2.2.2.2.2.1 ∧ inI r.2.2.2.2.2.2.2.1 ∧ okA r.2.2.2.2.2.2.2.2.1 ∧ okA r.2.2.2.2.2.2.2.2.2.1 ∧ okA r.2.2.2.2.2.2.2.2.2.2) 0 0) 0 0 n (ov [a_t, (a_t + 1), (a_t + 2), (a_t + 3), a_p1, (a_p1 + 1), (a_p1 + 3), (a_p1 + 4), (a_p1 + 6), (a_p1 + 8)] [.inr (6, fsX6 a_t t_flaws t_slipped t_gone t_work t_out t_lost t_came), IA E 100 t_signs, IA E 30 t_stood, IA E 30 t_felt, .inr (3, fsX3 a_p1 p1_speckMany p1_sourceMany p1_baseTold p1_baseLow p1_baseHigh p1_reach), IA E 21 p1_pushes, IA E 100 p1_lows, IA E 100 p1_highs, IA E 100 p1_sourceHolds, IA E 5 p1_sources] h) 30 [none, none, none, some (vI v3), none, none] [] := by
  rw [m_X6_runOn_30] at hs
  refine g_iconst e_X6_runOn_30 ?_
  refine g_iload_n e_X6_runOn_31 rfl ?_
  refine g_max jm_X6_79 e_X6_runOn_32 ⟨Nat.le_of_ble_eq_true rfl, Nat.le_of_ble_eq_true rfl, Nat.le_of_ble_eq_true rfl⟩ (Nat.le_of_ble_eq_true rfl) (by decide : inI 0) ok_v3 ?_
  obtain rfl := Option.some.inj hs
  exact g_iret rfl ⟨(ite_I ok_v3 (by decide : inI 0)), ok_t_flaws, ok_t_slipped, ok_t_gone, ok_t_work, ok_t_out, ok_t_lost, ok_t_came, ok_t_signs, ok_t_stood, ok_t_felt⟩ e_X6_runOn_35

noncomputable def m_X6_runOn_21 (t_flaws : Int) (t_slipped : Int) (t_gone : Int) (t_work : Int) (t_out : Int) (t_lost : Int) (t_came : Int) (t_signs : Nat → Int) (t_stood : Nat → Int) (t_felt : Nat → Int) (v5 : Int) : Option (Int × Int × Int × Int × Int × Int × Int × Int × (Nat → Int) × (Nat → Int) × (Nat → Int)) :=
  some (v5, t_flaws, t_slipped, t_gone, t_work, t_out, t_lost, t_came, t_signs, t_stood, t_felt)

set_option maxRecDepth 10000 in
theorem g_X6_runOn_21 {l : Launch} {E : EE} {b0 n : Nat} {h : AH} {a_t a_p1 : Nat} {t_flaws t_slipped t_gone t_work t_out t_lost t_came p1_speckMany p1_sourceMany p1_baseTold p1_baseLow p1_baseHigh p1_reach v5 : Int} {t_signs t_stood t_felt p1_pushes p1_lows p1_highs p1_sourceHolds p1_sources : Nat → Int} {r : Int × Int × Int × Int × Int × Int × Int × Int × (Nat → Int) × (Nat → Int) × (Nat → Int)} (ao : AO b0 n [a_t, (a_t + 1), (a_t + 2), (a_t + 3), a_p1, (a_p1 + 1), (a_p1 + 3), (a_p1 + 4), (a_p1 + 6), (a_p1 + 8)]) (ok_t_flaws : inI t_flaws) (ok_t_slipped : inI t_slipped) (ok_t_gone : inI t_gone) (ok_t_work : inJ t_work) (ok_t_out : inI t_out) (ok_t_lost : inI t_lost) (ok_t_came : inI t_came) (ok_t_signs : okA t_signs) (ok_t_stood : okA t_stood) (ok_t_felt : okA t_felt) (ok_p1_sourceMany : inI p1_sourceMany) (ok_p1_reach : inI p1_reach) (ok_p1_pushes : okA p1_pushes) (ok_p1_lows : okA p1_lows) (ok_p1_highs : okA p1_highs) (ok_p1_sourceHolds : okA p1_sourceHolds) (ok_p1_sources : okA p1_sources) (ok_v5 : inI v5) (hs : m_X6_runOn_21 t_flaws t_slipped t_gone t_work t_out t_lost t_came t_signs t_stood t_felt v5 = some r) : G l E b0 M_X6_runOn (fun _ => True) (ZM E b0 (some (vI r.1)) (ov [a_t, (a_t + 1), (a_t + 2), (a_t + 3), a_p1, (a_p1 + 1), (a_p1 + 3), (a_p1 + 4), (a_p1 + 6), (a_p1 + 8)] [.inr (6, fsX6 a_t r.2.1 r.2.2.1 r.2.2.2.1 r.2.2.2.2.1 r.2.2.2.2.2.1 r.2.2.2.2.2.2.1 r.2.2.2.2.2.2.2.1), IA E 100 r.2.2.2.2.2.2.2.2.1, IA E 30 r.2.2.2.2.2.2.2.2.2.1, IA E 30 r.2.2.2.2.2.2.2.2.2.2, .inr (3, fsX3 a_p1 p1_speckMany p1_sourceMany p1_baseTold p1_baseLow p1_baseHigh p1_reach), IA E 21 p1_pushes, IA E 100 p1_lows, IA E 100 p1_highs, IA E 100 p1_sourceHolds, IA E 5 p1_sources] h) n (inI r.1 ∧ inI r.2.1 ∧ inI r.2.2.1 ∧ inI r.2.2.2.1 ∧ inJ r.2.2.2.2.1 ∧ inI r.2.2.2.2.2.1 ∧ inI r.2.2.2.2.2.2.1 ∧ inI r.2.2.2.2.2.2.2.1 ∧ okA r.2.2.2.2.2.2.2.2.1 ∧ okA r.2.2.2.2.2.2.2.2.2.1 ∧ okA r.2.2.2.2.2.2.2.2.2.2) 0 0) 0 0 n (ov [a_t, (a_t + 1), (a_t + 2), (a_t + 3), a_p1, (a_p1 + 1), (a_p1 + 3), (a_p1 + 4), (a_p1 + 6), (a_p1 + 8)] [.inr (6, fsX6 a_t t_flaws t_slipped t_gone t_work t_out t_lost t_came), IA E 100 t_signs, IA E 30 t_stood, IA E 30 t_felt, .inr (3, fsX3 a_p1 p1_speckMany p1_sourceMany p1_baseTold p1_baseLow p1_baseHigh p1_reach), IA E 21 p1_pushes, IA E 100 p1_lows, IA E 100 p1_highs, IA E 100 p1_sourceHolds, IA E 5 p1_sources] h) 21 [none, none, none, none, none, some (vI v5)] [] := by
  rw [m_X6_runOn_21] at hs
  refine g_iload e_X6_runOn_21 rfl ?_
  obtain rfl := Option.some.inj hs
  exact g_iret rfl ⟨ok_v5, ok_t_flaws, ok_t_slipped, ok_t_gone, ok_t_work, ok_t_out, ok_t_lost, ok_t_came, ok_t_signs, ok_t_stood, ok_t_felt⟩ e_X6_runOn_23

noncomputable def m_X6_runOn_0 (t_flaws : Int) (t_slipped : Int) (t_gone : Int) (t_work : Int) (t_out : Int) (t_lost : Int) (t_came : Int) (t_signs : Nat → Int) (t_stood : Nat → Int) (t_felt : Nat → Int) (p1_sourceMany : Int) (p1_reach : Int) (p1_pushes : Nat → Int) (p1_lows : Nat → Int) (p1_highs : Nat → Int) (p1_sourceHolds : Nat → Int) (p1_sources : Nat → Int) (v2 : Int) (v3 : Int) (v4 : Int) : Option (Int × Int × Int × Int × Int × Int × Int × Int × (Nat → Int) × (Nat → Int) × (Nat → Int)) :=
  m_X6_runOn_3 p1_sourceMany p1_reach p1_pushes p1_lows p1_highs p1_sourceHolds p1_sources v2 v3 v4 (fun t_flaws' t_slipped' t_gone' t_work' t_out' t_lost' t_came' t_signs' t_stood' t_felt' v5' => m_X6_runOn_30 t_flaws' t_slipped' t_gone' t_work' t_out' t_lost' t_came' t_signs' t_stood' t_felt' v3) (fun t_flaws' t_slipped' t_gone' t_work' t_out' t_lost' t_came' t_signs' t_stood' t_felt' v5' => m_X6_runOn_21 t_flaws' t_slipped' t_gone' t_work' t_out' t_lost' t_came' t_signs' t_stood' t_felt' v5') FU t_flaws t_slipped t_gone t_work t_out t_lost t_came t_signs t_stood t_felt 0

set_option maxRecDepth 10000 in
theorem g_X6_runOn_0 {l : Launch} {E : EE} {b0 n : Nat} {h : AH} {a_t a_p1 : Nat} {t_flaws t_slipped t_gone t_work t_out t_lost t_came p1_speckMany p1_sourceMany p1_baseTold p1_baseLow p1_baseHigh p1_reach v2 v3 v4 : Int} {t_signs t_stood t_felt p1_pushes p1_lows p1_highs p1_sourceHolds p1_sources : Nat → Int} {r : Int × Int × Int × Int × Int × Int × Int × Int × (Nat → Int) × (Nat → Int) × (Nat → Int)} (ao : AO b0 n [a_t, (a_t + 1), (a_t + 2), (a_t + 3), a_p1, (a_p1 + 1), (a_p1 + 3), (a_p1 + 4), (a_p1 + 6), (a_p1 + 8)]) (ok_t_flaws : inI t_flaws) (ok_t_slipped : inI t_slipped) (ok_t_gone : inI t_gone) (ok_t_work : inJ t_work) (ok_t_out : inI t_out) (ok_t_lost : inI t_lost) (ok_t_came : inI t_came) (ok_t_signs : okA t_signs) (ok_t_stood : okA t_stood) (ok_t_felt : okA t_felt) (ok_p1_sourceMany : inI p1_sourceMany) (ok_p1_reach : inI p1_reach) (ok_p1_pushes : okA p1_pushes) (ok_p1_lows : okA p1_lows) (ok_p1_highs : okA p1_highs) (ok_p1_sourceHolds : okA p1_sourceHolds) (ok_p1_sources : okA p1_sources) (ok_v2 : inI v2) (ok_v3 : inI v3) (ok_v4 : inI v4) (hs : m_X6_runOn_0 t_flaws t_slipped t_gone t_work t_out t_lost t_came t_signs t_stood t_felt p1_sourceMany p1_reach p1_pushes p1_lows p1_highs p1_sourceHolds p1_sources v2 v3 v4 = some r) : G l E b0 M_X6_runOn (fun _ => True) (ZM E b0 (some (vI r.1)) (ov [a_t, (a_t + 1), (a_t + 2), (a_t + 3), a_p1, (a_p1 + 1), (a_p1 + 3), (a_p1 + 4), (a_p1 + 6), (a_p1 + 8)] [.inr (6, fsX6 a_t r.2.1 r.2.2.1 r.2.2.2.1 r.2.2.2.2.1 r.2.2.2.2.2.1 r.2.2.2.2.2.2.1 r.2.2.2.2.2.2.2.1), IA E 100 r.2.2.2.2.2.2.2.2.1, IA E 30 r.2.2.2.2.2.2.2.2.2.1, IA E 30 r.2.2.2.2.2.2.2.2.2.2, .inr (3, fsX3 a_p1 p1_speckMany p1_sourceMany p1_baseTold p1_baseLow p1_baseHigh p1_reach), IA E 21 p1_pushes, IA E 100 p1_lows, IA E 100 p1_highs, IA E 100 p1_sourceHolds, IA E 5 p1_sources] h) n (inI r.1 ∧ inI r.2.1 ∧ inI r.2.2.1 ∧ inI r.2.2.2.1 ∧ inJ r.2.2.2.2.1 ∧ inI r.2.2.2.2.2.1 ∧ inI r.2.2.2.2.2.2.1 ∧ inI r.2.2.2.2.2.2.2.1 ∧ okA r.2.2.2.2.2.2.2.2.1 ∧ okA r.2.2.2.2.2.2.2.2.2.1 ∧ okA r.2.2.2.2.2.2.2.2.2.2) 0 0) 0 0 n (ov [a_t, (a_t + 1), (a_t + 2), (a_t + 3), a_p1, (a_p1 + 1), (a_p1 + 3), (a_p1 + 4), (a_p1 + 6), (a_p1 + 8)] [.inr (6, fsX6 a_t t_flaws t_slipped t_gone t_work t_out t_lost t_came), IA E 100 t_signs, IA E 30 t_stood, IA E 30 t_felt, .inr (3, fsX3 a_p1 p1_speckMany p1_sourceMany p1_baseTold p1_baseLow p1_baseHigh p1_reach), IA E 21 p1_pushes, IA E 100 p1_lows, IA E 100 p1_highs, IA E 100 p1_sourceHolds, IA E 5 p1_sources] h) 0 [some (.ref a_t), some (.ref a_p1), some (vI v2), some (vI v3), some (vI v4), none] [] := by
  rw [m_X6_runOn_0] at hs
  refine g_iconst e_X6_runOn_0 ?_
  refine g_istore e_X6_runOn_1 st1_5 rfl ?_
  exact g_X6_runOn_3 ao ok_p1_sourceMany ok_p1_reach ok_p1_pushes ok_p1_lows ok_p1_highs ok_p1_sourceHolds ok_p1_sources ok_v2 ok_v3 ok_v4 (hk_30 := by
      intro t_flaws' t_slipped' t_gone' t_work' t_out' t_lost' t_came' t_signs' t_stood' t_felt' v5' ok_t_flaws' ok_t_slipped' ok_t_gone' ok_t_work' ok_t_out' ok_t_lost' ok_t_came' ok_t_signs' ok_t_stood' ok_t_felt' ok_v5' hs
      exact g_X6_runOn_30 ao ok_t_flaws' ok_t_slipped' ok_t_gone' ok_t_work' ok_t_out' ok_t_lost' ok_t_came' ok_t_signs' ok_t_stood' ok_t_felt' ok_p1_sourceMany ok_p1_reach ok_p1_pushes ok_p1_lows ok_p1_highs ok_p1_sourceHolds ok_p1_sources ok_v3 hs) (hk_21 := by
      intro t_flaws' t_slipped' t_gone' t_work' t_out' t_lost' t_came' t_signs' t_stood' t_felt' v5' ok_t_flaws' ok_t_slipped' ok_t_gone' ok_t_work' ok_t_out' ok_t_lost' ok_t_came' ok_t_signs' ok_t_stood' ok_t_felt' ok_v5' hs
      exact g_X6_runOn_21 ao ok_t_flaws' ok_t_slipped' ok_t_gone' ok_t_work' ok_t_out' ok_t_lost' ok_t_came' ok_t_signs' ok_t_stood' ok_t_felt' ok_p1_sourceMany ok_p1_reach ok_p1_pushes ok_p1_lows ok_p1_highs ok_p1_sourceHolds ok_p1_sources ok_v5' hs) FU _ _ _ _ _ _ _ _ _ _ _ ok_t_flaws ok_t_slipped ok_t_gone ok_t_work ok_t_out ok_t_lost ok_t_came ok_t_signs ok_t_stood ok_t_felt (by decide : inI 0) hs

noncomputable def m_X6_runOn (t_flaws : Int) (t_slipped : Int) (t_gone : Int) (t_work : Int) (t_out : Int) (t_lost : Int) (t_came : Int) (t_signs : Nat → Int) (t_stood : Nat → Int) (t_felt : Nat → Int) (p1_sourceMany : Int) (p1_reach : Int) (p1_pushes : Nat → Int) (p1_lows : Nat → Int) (p1_highs : Nat → Int) (p1_sourceHolds : Nat → Int) (p1_sources : Nat → Int) (v2 : Int) (v3 : Int) (v4 : Int) : Option (Int × Int × Int × Int × Int × Int × Int × Int × (Nat → Int) × (Nat → Int) × (Nat → Int)) := m_X6_runOn_0 t_flaws t_slipped t_gone t_work t_out t_lost t_came t_signs t_stood t_felt p1_sourceMany p1_reach p1_pushes p1_lows p1_highs p1_sourceHolds p1_sources v2 v3 v4

set_option maxRecDepth 10000 in
theorem ct_X6_runOn {l : Launch} {E : EE} {b0 n : Nat} {h : AH} {a_t a_p1 : Nat} {t_flaws t_slipped t_gone t_work t_out t_lost t_came p1_speckMany p1_sourceMany p1_baseTold p1_baseLow p1_baseHigh p1_reach : Int} {t_signs t_stood t_felt p1_pushes p1_lows p1_highs p1_sourceHolds p1_sources : Nat → Int} {v2 v3 v4 : Int} (ao : AO b0 n [a_t, (a_t + 1), (a_t + 2), (a_t + 3), a_p1, (a_p1 + 1), (a_p1 + 3), (a_p1 + 4), (a_p1 + 6), (a_p1 + 8)]) (hf : FA h [a_t, (a_t + 1), (a_t + 2), (a_t + 3), a_p1, (a_p1 + 1), (a_p1 + 3), (a_p1 + 4), (a_p1 + 6), (a_p1 + 8)] [.inr (6, fsX6 a_t t_flaws t_slipped t_gone t_work t_out t_lost t_came), IA E 100 t_signs, IA E 30 t_stood, IA E 30 t_felt, .inr (3, fsX3 a_p1 p1_speckMany p1_sourceMany p1_baseTold p1_baseLow p1_baseHigh p1_reach), IA E 21 p1_pushes, IA E 100 p1_lows, IA E 100 p1_highs, IA E 100 p1_sourceHolds, IA E 5 p1_sources]) (ok_t_flaws : inI t_flaws) (ok_t_slipped : inI t_slipped) (ok_t_gone : inI t_gone) (ok_t_work : inJ t_work) (ok_t_out : inI t_out) (ok_t_lost : inI t_lost) (ok_t_came : inI t_came) (ok_t_signs : okA t_signs) (ok_t_stood : okA t_stood) (ok_t_felt : okA t_felt) (ok_p1_sourceMany : inI p1_sourceMany) (ok_p1_reach : inI p1_reach) (ok_p1_pushes : okA p1_pushes) (ok_p1_lows : okA p1_lows) (ok_p1_highs : okA p1_highs) (ok_p1_sourceHolds : okA p1_sourceHolds) (ok_p1_sources : okA p1_sources) (ok_v2 : inI v2) (ok_v3 : inI v3) (ok_v4 : inI v4) {r : Int × Int × Int × Int × Int × Int × Int × Int × (Nat → Int) × (Nat → Int) × (Nat → Int)} (hm : m_X6_runOn t_flaws t_slipped t_gone t_work t_out t_lost t_came t_signs t_stood t_felt p1_sourceMany p1_reach p1_pushes p1_lows p1_highs p1_sourceHolds p1_sources v2 v3 v4 = some r) : Ct l E b0 M_X6_runOn 0 0 [.ref a_t, .ref a_p1, vI v2, vI v3, vI v4] h n (some (vI r.1)) (ov [a_t, (a_t + 1), (a_t + 2), (a_t + 3), a_p1, (a_p1 + 1), (a_p1 + 3), (a_p1 + 4), (a_p1 + 6), (a_p1 + 8)] [.inr (6, fsX6 a_t r.2.1 r.2.2.1 r.2.2.2.1 r.2.2.2.2.1 r.2.2.2.2.2.1 r.2.2.2.2.2.2.1 r.2.2.2.2.2.2.2.1), IA E 100 r.2.2.2.2.2.2.2.2.1, IA E 30 r.2.2.2.2.2.2.2.2.2.1, IA E 30 r.2.2.2.2.2.2.2.2.2.2, .inr (3, fsX3 a_p1 p1_speckMany p1_sourceMany p1_baseTold p1_baseLow p1_baseHigh p1_reach), IA E 21 p1_pushes, IA E 100 p1_lows, IA E 100 p1_highs, IA E 100 p1_sourceHolds, IA E 5 p1_sources] h) n (inI r.1 ∧ inI r.2.1 ∧ inI r.2.2.1 ∧ inI r.2.2.2.1 ∧ inJ r.2.2.2.2.1 ∧ inI r.2.2.2.2.2.1 ∧ inI r.2.2.2.2.2.2.1 ∧ inI r.2.2.2.2.2.2.2.1 ∧ okA r.2.2.2.2.2.2.2.2.1 ∧ okA r.2.2.2.2.2.2.2.2.2.1 ∧ okA r.2.2.2.2.2.2.2.2.2.2) := by
  rw [m_X6_runOn] at hm
  have hg : G l E b0 M_X6_runOn (fun _ => True) (ZM E b0 (some (vI r.1)) (ov [a_t, (a_t + 1), (a_t + 2), (a_t + 3), a_p1, (a_p1 + 1), (a_p1 + 3), (a_p1 + 4), (a_p1 + 6), (a_p1 + 8)] [.inr (6, fsX6 a_t r.2.1 r.2.2.1 r.2.2.2.1 r.2.2.2.2.1 r.2.2.2.2.2.1 r.2.2.2.2.2.2.1 r.2.2.2.2.2.2.2.1), IA E 100 r.2.2.2.2.2.2.2.2.1, IA E 30 r.2.2.2.2.2.2.2.2.2.1, IA E 30 r.2.2.2.2.2.2.2.2.2.2, .inr (3, fsX3 a_p1 p1_speckMany p1_sourceMany p1_baseTold p1_baseLow p1_baseHigh p1_reach), IA E 21 p1_pushes, IA E 100 p1_lows, IA E 100 p1_highs, IA E 100 p1_sourceHolds, IA E 5 p1_sources] h) n (inI r.1 ∧ inI r.2.1 ∧ inI r.2.2.1 ∧ inI r.2.2.2.1 ∧ inJ r.2.2.2.2.1 ∧ inI r.2.2.2.2.2.1 ∧ inI r.2.2.2.2.2.2.1 ∧ inI r.2.2.2.2.2.2.2.1 ∧ okA r.2.2.2.2.2.2.2.2.1 ∧ okA r.2.2.2.2.2.2.2.2.2.1 ∧ okA r.2.2.2.2.2.2.2.2.2.2) 0 0) 0 0 n (ov [a_t, (a_t + 1), (a_t + 2), (a_t + 3), a_p1, (a_p1 + 1), (a_p1 + 3), (a_p1 + 4), (a_p1 + 6), (a_p1 + 8)] [.inr (6, fsX6 a_t t_flaws t_slipped t_gone t_work t_out t_lost t_came), IA E 100 t_signs, IA E 30 t_stood, IA E 30 t_felt, .inr (3, fsX3 a_p1 p1_speckMany p1_sourceMany p1_baseTold p1_baseLow p1_baseHigh p1_reach), IA E 21 p1_pushes, IA E 100 p1_lows, IA E 100 p1_highs, IA E 100 p1_sourceHolds, IA E 5 p1_sources] h) 0 [some (.ref a_t), some (.ref a_p1), some (vI v2), some (vI v3), some (vI v4), none] [] := by
    have hs := hm
    exact g_X6_runOn_0 ao ok_t_flaws ok_t_slipped ok_t_gone ok_t_work ok_t_out ok_t_lost ok_t_came ok_t_signs ok_t_stood ok_t_felt ok_p1_sourceMany ok_p1_reach ok_p1_pushes ok_p1_lows ok_p1_highs ok_p1_sourceHolds ok_p1_sources ok_v2 ok_v3 ok_v4 hs
  rw [FA_id hf] at hg
  exact Ct_of [some (.ref a_t), some (.ref a_p1), some (vI v2), some (vI v3), some (vI v4), none] ⟨by decide +kernel, rfl⟩ rfl (Nat.le_of_ble_eq_true rfl) hg


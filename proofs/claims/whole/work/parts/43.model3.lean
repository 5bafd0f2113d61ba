def M_X11_aimed : MB := (yX11_aimed, cX11_aimed, 2, (some .int), ({ frames := 2, cells := 0, slots := 0, locals := 62 } : Room), RX11)
def M_X11_fit : MB := (yX11_fit, cX11_fit, 11, (some .int), ({ frames := 4, cells := 0, slots := 0, locals := 118 } : Room), RX11)
def M_X11_fitted : MB := (yX11_fitted, cX11_fitted, 3, (some .int), ({ frames := 2, cells := 0, slots := 0, locals := 62 } : Room), RX11)
def M_X11_seen : MB := (yX11_seen, cX11_seen, 3, (some .int), ({ frames := 3, cells := 0, slots := 0, locals := 84 } : Room), RX11)
def M_X11_sight : MB := (yX11_sight, cX11_sight, 3, (some .int), ({ frames := 3, cells := 0, slots := 0, locals := 84 } : Room), RX11)
def M_X11_forget : MB := (yX11_forget, cX11_forget, 2, (some .int), ({ frames := 1, cells := 0, slots := 0, locals := 40 } : Room), RX11)
def M_X11_isSeen : MB := (yX11_isSeen, cX11_isSeen, 3, (some .boolean), ({ frames := 2, cells := 0, slots := 0, locals := 66 } : Room), RX11)
def M_X11_fitsSights : MB := (yX11_fitsSights, cX11_fitsSights, 4, (some .boolean), ({ frames := 3, cells := 0, slots := 0, locals := 88 } : Room), RX11)
def M_X11_readBack : MB := (yX11_readBack, cX11_readBack, 4, (some .int), ({ frames := 4, cells := 0, slots := 0, locals := 111 } : Room), RX11)
def M_X11_nextEye : MB := (yX11_nextEye, cX11_nextEye, 7, (some .int), ({ frames := 5, cells := 0, slots := 0, locals := 134 } : Room), RX11)
def M_X11_system : MB := (yX11_system, cX11_system, 4, (some .int), ({ frames := 4, cells := 0, slots := 0, locals := 106 } : Room), RX11)
def M_X11_isSystem : MB := (yX11_isSystem, cX11_isSystem, 2, (some .boolean), ({ frames := 2, cells := 0, slots := 0, locals := 62 } : Room), RX11)
def M_X11_harder : MB := (yX11_harder, cX11_harder, 3, (some .boolean), ({ frames := 2, cells := 0, slots := 0, locals := 62 } : Room), RX11)
def M_X11_fill : MB := (yX11_fill, cX11_fill, 4, (some .boolean), ({ frames := 3, cells := 0, slots := 0, locals := 83 } : Room), RX11)
def M_X11_harderOf : MB := (yX11_harderOf, cX11_harderOf, 5, (some .int), ({ frames := 1, cells := 0, slots := 0, locals := 40 } : Room), RX11)
def M_X11_systems : MB := (yX11_systems, cX11_systems, 3, (some .long), ({ frames := 3, cells := 0, slots := 0, locals := 83 } : Room), RX11)
def M_X11_alongOf : MB := (yX11_alongOf, cX11_alongOf, 7, (some .long), ({ frames := 1, cells := 0, slots := 0, locals := 40 } : Room), RX11)
def M_X11_pulledOn : MB := (yX11_pulledOn, cX11_pulledOn, 17, (some .int), ({ frames := 2, cells := 0, slots := 0, locals := 66 } : Room), RX11)
def M_X11_pulled : MB := (yX11_pulled, cX11_pulled, 6, (some .int), ({ frames := 3, cells := 0, slots := 0, locals := 102 } : Room), RX11)
def M_X11_steps : MB := (yX11_steps, cX11_steps, 8, (some .boolean), ({ frames := 3, cells := 0, slots := 0, locals := 102 } : Room), RX11)
theorem cb_X11_alongOf : CB M_X11_alongOf 4 := ⟨GW_of 2037 (by decide +kernel) (by decide +kernel), GW_of 96 (by decide +kernel) (by decide +kernel), by decide +kernel, by decide +kernel, by decide +kernel⟩
theorem cb_X11_fitsSights : CB M_X11_fitsSights 1 := ⟨GW_of 1990 (by decide +kernel) (by decide +kernel), GW_of 96 (by decide +kernel) (by decide +kernel), by decide +kernel, by decide +kernel, by decide +kernel⟩
theorem cb_X11_harderOf : CB M_X11_harderOf 1 := ⟨GW_of 2024 (by decide +kernel) (by decide +kernel), GW_of 96 (by decide +kernel) (by decide +kernel), by decide +kernel, by decide +kernel, by decide +kernel⟩
theorem cb_X11_isSeen : CB M_X11_isSeen 2 := ⟨GW_of 1994 (by decide +kernel) (by decide +kernel), GW_of 96 (by decide +kernel) (by decide +kernel), by decide +kernel, by decide +kernel, by decide +kernel⟩
theorem cb_X11_isSystem : CB M_X11_isSystem 1 := ⟨GW_of 2015 (by decide +kernel) (by decide +kernel), GW_of 96 (by decide +kernel) (by decide +kernel), by decide +kernel, by decide +kernel, by decide +kernel⟩
theorem cb_X11_pulledOn : CB M_X11_pulledOn 5 := ⟨GW_of 2033 (by decide +kernel) (by decide +kernel), GW_of 96 (by decide +kernel) (by decide +kernel), by decide +kernel, by decide +kernel, by decide +kernel⟩
theorem cb_X11_readBack : CB M_X11_readBack 1 := ⟨GW_of 1986 (by decide +kernel) (by decide +kernel), GW_of 96 (by decide +kernel) (by decide +kernel), by decide +kernel, by decide +kernel, by decide +kernel⟩
theorem k_X11_410 : Cond.constantLong RX11 410 (Int64.ofInt (100)) ∈ GW := GW_of 2025 (by decide +kernel) (by decide +kernel)
theorem k_X11_412 : Cond.constantLong RX11 412 (Int64.ofInt (-1000000)) ∈ GW := GW_of 2020 (by decide +kernel) (by decide +kernel)
theorem k_X11_424 : Cond.constant RX11 424 (Int32.ofInt (-1000000)) ∈ GW := GW_of 2038 (by decide +kernel) (by decide +kernel)
theorem fl_X11_380 : FL RX11 380 11 51 := ⟨RX11, TX11, 71, rfl, by decide, rfl, Or.inl (GW_of 1493 (by decide +kernel) (by decide +kernel))⟩
theorem fl_X11_130 : FL RX11 130 11 56 := ⟨RX11, TX11, 71, rfl, by decide, rfl, Or.inl (GW_of 1498 (by decide +kernel) (by decide +kernel))⟩
theorem fw_X11_383 : FW RX11 383 11 54 false .int := ⟨RX11, TX11, 71, rfl, by decide, rfl, rfl, by decide +kernel, Or.inl (GW_of 1496 (by decide +kernel) (by decide +kernel)), fun h => by cases h⟩
theorem fw_X11_386 : FW RX11 386 11 55 false .int := ⟨RX11, TX11, 71, rfl, by decide, rfl, rfl, by decide +kernel, Or.inl (GW_of 1497 (by decide +kernel) (by decide +kernel)), fun h => by cases h⟩
theorem fl_X11_133 : FL RX11 133 11 57 := ⟨RX11, TX11, 71, rfl, by decide, rfl, Or.inl (GW_of 1499 (by decide +kernel) (by decide +kernel))⟩
theorem fl_X11_383 : FL RX11 383 11 54 := ⟨RX11, TX11, 71, rfl, by decide, rfl, Or.inl (GW_of 1496 (by decide +kernel) (by decide +kernel))⟩
theorem fl_X11_386 : FL RX11 386 11 55 := ⟨RX11, TX11, 71, rfl, by decide, rfl, Or.inl (GW_of 1497 (by decide +kernel) (by decide +kernel))⟩
theorem fl_X11_258 : FL RX11 258 11 58 := ⟨RX11, TX11, 71, rfl, by decide, rfl, Or.inl (GW_of 1500 (by decide +kernel) (by decide +kernel))⟩
theorem fl_X11_136 : FL RX11 136 11 59 := ⟨RX11, TX11, 71, rfl, by decide, rfl, Or.inl (GW_of 1501 (by decide +kernel) (by decide +kernel))⟩
theorem fl_X11_139 : FL RX11 139 11 60 := ⟨RX11, TX11, 71, rfl, by decide, rfl, Or.inl (GW_of 1502 (by decide +kernel) (by decide +kernel))⟩
theorem fl_X11_398 : FL RX11 398 11 61 := ⟨RX11, TX11, 71, rfl, by decide, rfl, Or.inl (GW_of 1503 (by decide +kernel) (by decide +kernel))⟩
theorem fl_X11_145 : FL RX11 145 11 65 := ⟨RX11, TX11, 71, rfl, by decide, rfl, Or.inl (GW_of 1507 (by decide +kernel) (by decide +kernel))⟩
theorem fw_X11_398 : FW RX11 398 11 61 false .int := ⟨RX11, TX11, 71, rfl, by decide, rfl, rfl, by decide +kernel, Or.inl (GW_of 1503 (by decide +kernel) (by decide +kernel)), fun h => by cases h⟩
theorem fw_X11_401 : FW RX11 401 11 62 false .int := ⟨RX11, TX11, 71, rfl, by decide, rfl, rfl, by decide +kernel, Or.inl (GW_of 1504 (by decide +kernel) (by decide +kernel)), fun h => by cases h⟩
theorem fw_X11_404 : FW RX11 404 11 63 false .int := ⟨RX11, TX11, 71, rfl, by decide, rfl, rfl, by decide +kernel, Or.inl (GW_of 1505 (by decide +kernel) (by decide +kernel)), fun h => by cases h⟩
theorem fl_X11_142 : FL RX11 142 11 64 := ⟨RX11, TX11, 71, rfl, by decide, rfl, Or.inl (GW_of 1506 (by decide +kernel) (by decide +kernel))⟩
theorem fl_X11_151 : FL RX11 151 11 67 := ⟨RX11, TX11, 71, rfl, by decide, rfl, Or.inl (GW_of 1509 (by decide +kernel) (by decide +kernel))⟩
theorem fl_X11_401 : FL RX11 401 11 62 := ⟨RX11, TX11, 71, rfl, by decide, rfl, Or.inl (GW_of 1504 (by decide +kernel) (by decide +kernel))⟩
theorem fl_X11_404 : FL RX11 404 11 63 := ⟨RX11, TX11, 71, rfl, by decide, rfl, Or.inl (GW_of 1505 (by decide +kernel) (by decide +kernel))⟩
theorem fl_X11_148 : FL RX11 148 11 66 := ⟨RX11, TX11, 71, rfl, by decide, rfl, Or.inl (GW_of 1508 (by decide +kernel) (by decide +kernel))⟩
theorem cv_X11_389 : CV RX11 389 M_X11_isSeen 2 := ⟨cb_X11_isSeen, Or.inl (GW_of 1991 (by decide +kernel) (by decide +kernel)), GW_of 1993 (by decide +kernel) (by decide +kernel), GW_of 73 (by decide +kernel) (by decide +kernel)⟩
theorem cv_X11_392 : CV RX11 392 M_X11_fitsSights 1 := ⟨cb_X11_fitsSights, Or.inl (GW_of 1987 (by decide +kernel) (by decide +kernel)), GW_of 1989 (by decide +kernel) (by decide +kernel), GW_of 72 (by decide +kernel) (by decide +kernel)⟩
theorem cv_X11_395 : CV RX11 395 M_X11_readBack 1 := ⟨cb_X11_readBack, Or.inl (GW_of 1999 (by decide +kernel) (by decide +kernel)), GW_of 1984 (by decide +kernel) (by decide +kernel), GW_of 1985 (by decide +kernel) (by decide +kernel)⟩
theorem cv_X11_407 : CV RX11 407 M_X11_isSystem 1 := ⟨cb_X11_isSystem, Or.inl (GW_of 2012 (by decide +kernel) (by decide +kernel)), GW_of 2014 (by decide +kernel) (by decide +kernel), GW_of 74 (by decide +kernel) (by decide +kernel)⟩
theorem cv_X11_414 : CV RX11 414 M_X11_harderOf 1 := ⟨cb_X11_harderOf, Or.inl (GW_of 2021 (by decide +kernel) (by decide +kernel)), GW_of 2023 (by decide +kernel) (by decide +kernel), GW_of 75 (by decide +kernel) (by decide +kernel)⟩
theorem cv_X11_417 : CV RX11 417 M_X11_alongOf 4 := ⟨cb_X11_alongOf, Or.inl (GW_of 2034 (by decide +kernel) (by decide +kernel)), GW_of 2036 (by decide +kernel) (by decide +kernel), GW_of 77 (by decide +kernel) (by decide +kernel)⟩
theorem cv_X11_421 : CV RX11 421 M_X11_pulledOn 5 := ⟨cb_X11_pulledOn, Or.inl (GW_of 2030 (by decide +kernel) (by decide +kernel)), GW_of 2032 (by decide +kernel) (by decide +kernel), GW_of 76 (by decide +kernel) (by decide +kernel)⟩
/-! ===== X11_aimed ===== -/
theorem e_X11_aimed_0 : DC cX11_aimed 0 (.iload_n 1) 1 1 := ⟨by decide +kernel, rfl⟩
theorem e_X11_aimed_1 : DC cX11_aimed 1 (.iconst 0) 1 2 := ⟨by decide +kernel, rfl⟩
theorem e_X11_aimed_2 : DC cX11_aimed 2 (.aload_n 0) 1 3 := ⟨by decide +kernel, rfl⟩
theorem e_X11_aimed_3 : DC cX11_aimed 3 (.getfield 380) 3 6 := ⟨by decide +kernel, rfl⟩
theorem e_X11_aimed_6 : DC cX11_aimed 6 (.iconst 1) 1 7 := ⟨by decide +kernel, rfl⟩
theorem e_X11_aimed_7 : DC cX11_aimed 7 (.isub) 1 8 := ⟨by decide +kernel, rfl⟩
theorem e_X11_aimed_8 : DC cX11_aimed 8 (.invokestatic 226) 3 11 := ⟨by decide +kernel, rfl⟩
theorem e_X11_aimed_11 : DB cX11_aimed 11 (.ifCond .eq 12) (12) 3 14 23 := ⟨by decide +kernel, rfl, rfl⟩
theorem e_X11_aimed_14 : DC cX11_aimed 14 (.aload_n 0) 1 15 := ⟨by decide +kernel, rfl⟩
theorem e_X11_aimed_15 : DC cX11_aimed 15 (.getfield 127) 3 18 := ⟨by decide +kernel, rfl⟩
theorem e_X11_aimed_18 : DC cX11_aimed 18 (.iload_n 1) 1 19 := ⟨by decide +kernel, rfl⟩
theorem e_X11_aimed_19 : DC cX11_aimed 19 (.iaload) 1 20 := ⟨by decide +kernel, rfl⟩
theorem e_X11_aimed_20 : DB cX11_aimed 20 (.goto 4) (4) 3 23 24 := ⟨by decide +kernel, rfl, rfl⟩
theorem e_X11_aimed_23 : DC cX11_aimed 23 (.iconst (-1)) 1 24 := ⟨by decide +kernel, rfl⟩
theorem e_X11_aimed_24 : DC cX11_aimed 24 (.ireturn) 1 25 := ⟨by decide +kernel, rfl⟩
noncomputable def m_X11_aimed_0 (t_aimedMany : Int) (t_aimed : Nat → Int) (v1 : Int) : Option (Int) :=
  chk (inI (t_aimedMany - 1)) ((m_X11_in v1 0 (t_aimedMany - 1)).bind (fun y2 => if y2 = 0 then (some ((-1))) else (chk (inB v1 5) (some (t_aimed (Int.toNat v1))))))

set_option maxRecDepth 10000 in
set_option maxHeartbeats 8000000 in
theorem g_X11_aimed_0 {l : Launch} {E : EE} {b0 n : Nat} {h : AH} {a_t : Nat} {t_thrown t_taped t_p t_fault t_baseLow t_baseHigh t_newBaseLow t_newBaseHigh t_from t_knots t_lines t_chosen t_undos t_redos t_aimedMany t_fits t_fitOf t_sights t_systems t_own t_cross t_curveLong t_wallFirst v1 : Int} {t_aimed : Nat → Int} {r : Int} (ao : AO b0 n [a_t, (a_t + 39)]) (ok_t_aimedMany : inI t_aimedMany) (ok_t_aimed : okA t_aimed) (ok_v1 : inI v1) (hs : m_X11_aimed_0 t_aimedMany t_aimed v1 = some r) : G l E b0 M_X11_aimed (fun _ => True) (ZM E b0 (some (vI r)) (ov [a_t, (a_t + 39)] [.inr (11, fsX11 a_t t_thrown t_taped t_p t_fault t_baseLow t_baseHigh t_newBaseLow t_newBaseHigh t_from t_knots t_lines t_chosen t_undos t_redos t_aimedMany t_fits t_fitOf t_sights t_systems t_own t_cross t_curveLong t_wallFirst), IA E 5 t_aimed] h) n (inI r) 0 0) 0 0 n (ov [a_t, (a_t + 39)] [.inr (11, fsX11 a_t t_thrown t_taped t_p t_fault t_baseLow t_baseHigh t_newBaseLow t_newBaseHigh t_from t_knots t_lines t_chosen t_undos t_redos t_aimedMany t_fits t_fitOf t_sights t_systems t_own t_cross t_curveLong t_wallFirst), IA E 5 t_aimed] h) 0 [some (.ref a_t), some (vI v1)] [] := by
  rw [m_X11_aimed_0] at hs
  refine g_iload_n e_X11_aimed_0 rfl ?_
  refine g_iconst e_X11_aimed_1 ?_
  refine g_aload_n e_X11_aimed_2 rfl ?_
  refine g_get 0 51 ao rfl rfl fsX11_g51 fl_X11_380 e_X11_aimed_3 ?_
  refine g_iconst e_X11_aimed_6 ?_
  refine g_isub e_X11_aimed_7 ?_
  obtain ⟨hc1, hs⟩ := chk_elim hs
  obtain ⟨y2, hy2, hs⟩ := bind_elim hs
  refine g_callSr [vI v1, vI 0, vI (t_aimedMany - 1)] cs_X11_226 ⟨rfl, rfl, Nat.le_of_ble_eq_true rfl, Nat.le_of_ble_eq_true rfl⟩ (ct_X11_in ⟨List.nodup_nil, fun i a h => by simp at h⟩ (fun i a e h => by simp at h) ok_v1 (by decide : inI 0) hc1 hy2) e_X11_aimed_8 rfl rfl (Nat.le_of_ble_eq_true rfl) ⟨Nat.le_refl _, Nat.le_refl _⟩ (fun Py2 => ?_)
  refine g_if_eq e_X11_aimed_11 (inZ_I Py2) hs (fun c11 hs => ?_) (fun c11 hs => ?_)
  · refine g_iconst e_X11_aimed_23 ?_
    obtain rfl := Option.some.inj hs
    exact g_iret rfl (by decide : inI (-1)) e_X11_aimed_24
  · refine g_aload_n e_X11_aimed_14 rfl ?_
    refine g_get 0 53 ao rfl rfl fsX11_g53 fl_X11_127 e_X11_aimed_15 ?_
    refine g_iload_n e_X11_aimed_18 rfl ?_
    refine g_iald 1 ao rfl rfl (Nat.le_of_ble_eq_true rfl) e_X11_aimed_19 hs (fun hi3 hs => ?_)
    refine g_goto e_X11_aimed_20 ?_
    obtain rfl := Option.some.inj hs
    exact g_iret rfl (ok_t_aimed _) e_X11_aimed_24

noncomputable def m_X11_aimed (t_aimedMany : Int) (t_aimed : Nat → Int) (v1 : Int) : Option (Int) := m_X11_aimed_0 t_aimedMany t_aimed v1

set_option maxRecDepth 10000 in
set_option maxHeartbeats 8000000 in
theorem ct_X11_aimed {l : Launch} {E : EE} {b0 n : Nat} {h : AH} {a_t : Nat} {t_thrown t_taped t_p t_fault t_baseLow t_baseHigh t_newBaseLow t_newBaseHigh t_from t_knots t_lines t_chosen t_undos t_redos t_aimedMany t_fits t_fitOf t_sights t_systems t_own t_cross t_curveLong t_wallFirst : Int} {t_aimed : Nat → Int} {v1 : Int} (ao : AO b0 n [a_t, (a_t + 39)]) (hf : FA h [a_t, (a_t + 39)] [.inr (11, fsX11 a_t t_thrown t_taped t_p t_fault t_baseLow t_baseHigh t_newBaseLow t_newBaseHigh t_from t_knots t_lines t_chosen t_undos t_redos t_aimedMany t_fits t_fitOf t_sights t_systems t_own t_cross t_curveLong t_wallFirst), IA E 5 t_aimed]) (ok_t_aimedMany : inI t_aimedMany) (ok_t_aimed : okA t_aimed) (ok_v1 : inI v1) {r : Int} (hm : m_X11_aimed t_aimedMany t_aimed v1 = some r) : Ct l E b0 M_X11_aimed 0 0 [.ref a_t, vI v1] h n (some (vI r)) h n (inI r) := by
  rw [m_X11_aimed] at hm
  have hg : G l E b0 M_X11_aimed (fun _ => True) (ZM E b0 (some (vI r)) (ov [a_t, (a_t + 39)] [.inr (11, fsX11 a_t t_thrown t_taped t_p t_fault t_baseLow t_baseHigh t_newBaseLow t_newBaseHigh t_from t_knots t_lines t_chosen t_undos t_redos t_aimedMany t_fits t_fitOf t_sights t_systems t_own t_cross t_curveLong t_wallFirst), IA E 5 t_aimed] h) n (inI r) 0 0) 0 0 n (ov [a_t, (a_t + 39)] [.inr (11, fsX11 a_t t_thrown t_taped t_p t_fault t_baseLow t_baseHigh t_newBaseLow t_newBaseHigh t_from t_knots t_lines t_chosen t_undos t_redos t_aimedMany t_fits t_fitOf t_sights t_systems t_own t_cross t_curveLong t_wallFirst), IA E 5 t_aimed] h) 0 [some (.ref a_t), some (vI v1)] [] := by
    have hs := hm
    exact g_X11_aimed_0 ao ok_t_aimedMany ok_t_aimed ok_v1 hs
  rw [FA_id hf] at hg
  exact Ct_of [some (.ref a_t), some (vI v1)] ⟨by decide +kernel, rfl⟩ rfl (Nat.le_of_ble_eq_true rfl) hg

/-! ===== X11_fit ===== -/
theorem e_X11_fit_0 : DC cX11_fit 0 (.iload_n 1) 1 1 := ⟨by decide +kernel, rfl⟩
theorem e_X11_fit_1 : DC cX11_fit 1 (.iconst 1) 1 2 := ⟨by decide +kernel, rfl⟩
theorem e_X11_fit_2 : DC cX11_fit 2 (.iconst 3) 1 3 := ⟨by decide +kernel, rfl⟩
theorem e_X11_fit_3 : DC cX11_fit 3 (.invokestatic 226) 3 6 := ⟨by decide +kernel, rfl⟩
theorem e_X11_fit_6 : DB cX11_fit 6 (.ifCond .eq 40) (40) 3 9 46 := ⟨by decide +kernel, rfl, rfl⟩
theorem e_X11_fit_9 : DC cX11_fit 9 (.iload 5) 2 11 := ⟨by decide +kernel, rfl⟩
theorem e_X11_fit_11 : DC cX11_fit 11 (.iconst 1) 1 12 := ⟨by decide +kernel, rfl⟩
theorem e_X11_fit_12 : DC cX11_fit 12 (.bipush 100) 2 14 := ⟨by decide +kernel, rfl⟩
theorem e_X11_fit_14 : DC cX11_fit 14 (.invokestatic 226) 3 17 := ⟨by decide +kernel, rfl⟩
theorem e_X11_fit_17 : DB cX11_fit 17 (.ifCond .eq 29) (29) 3 20 46 := ⟨by decide +kernel, rfl, rfl⟩
theorem e_X11_fit_20 : DC cX11_fit 20 (.iload 6) 2 22 := ⟨by decide +kernel, rfl⟩
theorem e_X11_fit_22 : DC cX11_fit 22 (.sipush (-9999)) 3 25 := ⟨by decide +kernel, rfl⟩
theorem e_X11_fit_25 : DC cX11_fit 25 (.sipush 9999) 3 28 := ⟨by decide +kernel, rfl⟩
theorem e_X11_fit_28 : DC cX11_fit 28 (.invokestatic 226) 3 31 := ⟨by decide +kernel, rfl⟩
theorem e_X11_fit_31 : DB cX11_fit 31 (.ifCond .eq 15) (15) 3 34 46 := ⟨by decide +kernel, rfl, rfl⟩
theorem e_X11_fit_34 : DC cX11_fit 34 (.iload 7) 2 36 := ⟨by decide +kernel, rfl⟩
theorem e_X11_fit_36 : DC cX11_fit 36 (.iconst 0) 1 37 := ⟨by decide +kernel, rfl⟩
theorem e_X11_fit_37 : DC cX11_fit 37 (.sipush 200) 3 40 := ⟨by decide +kernel, rfl⟩
theorem e_X11_fit_40 : DC cX11_fit 40 (.invokestatic 226) 3 43 := ⟨by decide +kernel, rfl⟩
theorem e_X11_fit_43 : DB cX11_fit 43 (.ifCond .ne 5) (5) 3 46 48 := ⟨by decide +kernel, rfl, rfl⟩
theorem e_X11_fit_46 : DC cX11_fit 46 (.iconst (-1)) 1 47 := ⟨by decide +kernel, rfl⟩
theorem e_X11_fit_47 : DC cX11_fit 47 (.ireturn) 1 48 := ⟨by decide +kernel, rfl⟩
theorem e_X11_fit_48 : DC cX11_fit 48 (.iload_n 2) 1 49 := ⟨by decide +kernel, rfl⟩
theorem e_X11_fit_49 : DC cX11_fit 49 (.iconst 1) 1 50 := ⟨by decide +kernel, rfl⟩
theorem e_X11_fit_50 : DC cX11_fit 50 (.bipush 20) 2 52 := ⟨by decide +kernel, rfl⟩
theorem e_X11_fit_52 : DC cX11_fit 52 (.invokestatic 226) 3 55 := ⟨by decide +kernel, rfl⟩
theorem e_X11_fit_55 : DB cX11_fit 55 (.ifCond .eq 51) (51) 3 58 106 := ⟨by decide +kernel, rfl, rfl⟩
theorem e_X11_fit_58 : DC cX11_fit 58 (.iload_n 1) 1 59 := ⟨by decide +kernel, rfl⟩
theorem e_X11_fit_59 : DC cX11_fit 59 (.iconst 1) 1 60 := ⟨by decide +kernel, rfl⟩
theorem e_X11_fit_60 : DB cX11_fit 60 (.if_icmp .le 18) (18) 3 63 78 := ⟨by decide +kernel, rfl, rfl⟩
theorem e_X11_fit_63 : DC cX11_fit 63 (.iload_n 3) 1 64 := ⟨by decide +kernel, rfl⟩
theorem e_X11_fit_64 : DC cX11_fit 64 (.iconst 1) 1 65 := ⟨by decide +kernel, rfl⟩
theorem e_X11_fit_65 : DC cX11_fit 65 (.bipush 20) 2 67 := ⟨by decide +kernel, rfl⟩
theorem e_X11_fit_67 : DC cX11_fit 67 (.invokestatic 226) 3 70 := ⟨by decide +kernel, rfl⟩
theorem e_X11_fit_70 : DB cX11_fit 70 (.ifCond .eq 36) (36) 3 73 106 := ⟨by decide +kernel, rfl, rfl⟩
theorem e_X11_fit_73 : DC cX11_fit 73 (.iload_n 3) 1 74 := ⟨by decide +kernel, rfl⟩
theorem e_X11_fit_74 : DC cX11_fit 74 (.iload_n 2) 1 75 := ⟨by decide +kernel, rfl⟩
theorem e_X11_fit_75 : DB cX11_fit 75 (.if_icmp .eq 31) (31) 3 78 106 := ⟨by decide +kernel, rfl, rfl⟩
theorem e_X11_fit_78 : DC cX11_fit 78 (.iload_n 1) 1 79 := ⟨by decide +kernel, rfl⟩
theorem e_X11_fit_79 : DC cX11_fit 79 (.iconst 2) 1 80 := ⟨by decide +kernel, rfl⟩
theorem e_X11_fit_80 : DB cX11_fit 80 (.if_icmp .le 28) (28) 3 83 108 := ⟨by decide +kernel, rfl, rfl⟩
theorem e_X11_fit_83 : DC cX11_fit 83 (.iload 4) 2 85 := ⟨by decide +kernel, rfl⟩
theorem e_X11_fit_85 : DC cX11_fit 85 (.iconst 1) 1 86 := ⟨by decide +kernel, rfl⟩
theorem e_X11_fit_86 : DC cX11_fit 86 (.bipush 20) 2 88 := ⟨by decide +kernel, rfl⟩
theorem e_X11_fit_88 : DC cX11_fit 88 (.invokestatic 226) 3 91 := ⟨by decide +kernel, rfl⟩
theorem e_X11_fit_91 : DB cX11_fit 91 (.ifCond .eq 15) (15) 3 94 106 := ⟨by decide +kernel, rfl, rfl⟩
theorem e_X11_fit_94 : DC cX11_fit 94 (.iload 4) 2 96 := ⟨by decide +kernel, rfl⟩
theorem e_X11_fit_96 : DC cX11_fit 96 (.iload_n 2) 1 97 := ⟨by decide +kernel, rfl⟩
theorem e_X11_fit_97 : DB cX11_fit 97 (.if_icmp .eq 9) (9) 3 100 106 := ⟨by decide +kernel, rfl, rfl⟩
theorem e_X11_fit_100 : DC cX11_fit 100 (.iload 4) 2 102 := ⟨by decide +kernel, rfl⟩
theorem e_X11_fit_102 : DC cX11_fit 102 (.iload_n 3) 1 103 := ⟨by decide +kernel, rfl⟩
theorem e_X11_fit_103 : DB cX11_fit 103 (.if_icmp .ne 5) (5) 3 106 108 := ⟨by decide +kernel, rfl, rfl⟩
theorem e_X11_fit_106 : DC cX11_fit 106 (.iconst (-1)) 1 107 := ⟨by decide +kernel, rfl⟩
theorem e_X11_fit_107 : DC cX11_fit 107 (.ireturn) 1 108 := ⟨by decide +kernel, rfl⟩
theorem e_X11_fit_108 : DC cX11_fit 108 (.aload_n 0) 1 109 := ⟨by decide +kernel, rfl⟩
theorem e_X11_fit_109 : DC cX11_fit 109 (.getfield 130) 3 112 := ⟨by decide +kernel, rfl⟩
theorem e_X11_fit_112 : DC cX11_fit 112 (.iconst 0) 1 113 := ⟨by decide +kernel, rfl⟩
theorem e_X11_fit_113 : DC cX11_fit 113 (.iload_n 2) 1 114 := ⟨by decide +kernel, rfl⟩
theorem e_X11_fit_114 : DC cX11_fit 114 (.iastore) 1 115 := ⟨by decide +kernel, rfl⟩
theorem e_X11_fit_115 : DC cX11_fit 115 (.aload_n 0) 1 116 := ⟨by decide +kernel, rfl⟩
theorem e_X11_fit_116 : DC cX11_fit 116 (.getfield 130) 3 119 := ⟨by decide +kernel, rfl⟩
theorem e_X11_fit_119 : DC cX11_fit 119 (.iconst 1) 1 120 := ⟨by decide +kernel, rfl⟩
theorem e_X11_fit_120 : DC cX11_fit 120 (.iload_n 3) 1 121 := ⟨by decide +kernel, rfl⟩
theorem e_X11_fit_121 : DC cX11_fit 121 (.iastore) 1 122 := ⟨by decide +kernel, rfl⟩
theorem e_X11_fit_122 : DC cX11_fit 122 (.aload_n 0) 1 123 := ⟨by decide +kernel, rfl⟩
theorem e_X11_fit_123 : DC cX11_fit 123 (.getfield 130) 3 126 := ⟨by decide +kernel, rfl⟩
theorem e_X11_fit_126 : DC cX11_fit 126 (.iconst 2) 1 127 := ⟨by decide +kernel, rfl⟩
theorem e_X11_fit_127 : DC cX11_fit 127 (.iload 4) 2 129 := ⟨by decide +kernel, rfl⟩
theorem e_X11_fit_129 : DC cX11_fit 129 (.iastore) 1 130 := ⟨by decide +kernel, rfl⟩
theorem e_X11_fit_130 : DC cX11_fit 130 (.aload_n 0) 1 131 := ⟨by decide +kernel, rfl⟩
theorem e_X11_fit_131 : DC cX11_fit 131 (.iconst 0) 1 132 := ⟨by decide +kernel, rfl⟩
theorem e_X11_fit_132 : DC cX11_fit 132 (.putfield 383) 3 135 := ⟨by decide +kernel, rfl⟩
theorem e_X11_fit_135 : DC cX11_fit 135 (.aload_n 0) 1 136 := ⟨by decide +kernel, rfl⟩
theorem e_X11_fit_136 : DC cX11_fit 136 (.iload_n 1) 1 137 := ⟨by decide +kernel, rfl⟩
theorem e_X11_fit_137 : DC cX11_fit 137 (.putfield 386) 3 140 := ⟨by decide +kernel, rfl⟩
theorem e_X11_fit_140 : DC cX11_fit 140 (.iconst 0) 1 141 := ⟨by decide +kernel, rfl⟩
theorem e_X11_fit_141 : DC cX11_fit 141 (.istore 8) 2 143 := ⟨by decide +kernel, rfl⟩
theorem e_X11_fit_143 : DC cX11_fit 143 (.iload 8) 2 145 := ⟨by decide +kernel, rfl⟩
theorem e_X11_fit_145 : DC cX11_fit 145 (.iconst 1) 1 146 := ⟨by decide +kernel, rfl⟩
theorem e_X11_fit_146 : DC cX11_fit 146 (.iconst 3) 1 147 := ⟨by decide +kernel, rfl⟩
theorem e_X11_fit_147 : DC cX11_fit 147 (.iload_n 1) 1 148 := ⟨by decide +kernel, rfl⟩
theorem e_X11_fit_148 : DC cX11_fit 148 (.imul) 1 149 := ⟨by decide +kernel, rfl⟩
theorem e_X11_fit_149 : DC cX11_fit 149 (.ishl) 1 150 := ⟨by decide +kernel, rfl⟩
theorem e_X11_fit_150 : DB cX11_fit 150 (.if_icmp .ge 144) (144) 3 153 294 := ⟨by decide +kernel, rfl, rfl⟩
theorem e_X11_fit_153 : DC cX11_fit 153 (.aload_n 0) 1 154 := ⟨by decide +kernel, rfl⟩
theorem e_X11_fit_154 : DC cX11_fit 154 (.invokevirtual 343) 3 157 := ⟨by decide +kernel, rfl⟩
theorem e_X11_fit_157 : DC cX11_fit 157 (.iconst 0) 1 158 := ⟨by decide +kernel, rfl⟩
theorem e_X11_fit_158 : DC cX11_fit 158 (.istore 9) 2 160 := ⟨by decide +kernel, rfl⟩
theorem e_X11_fit_160 : DC cX11_fit 160 (.iload 9) 2 162 := ⟨by decide +kernel, rfl⟩
theorem e_X11_fit_162 : DC cX11_fit 162 (.iload_n 1) 1 163 := ⟨by decide +kernel, rfl⟩
theorem e_X11_fit_163 : DB cX11_fit 163 (.if_icmp .ge 38) (38) 3 166 201 := ⟨by decide +kernel, rfl, rfl⟩
theorem e_X11_fit_166 : DC cX11_fit 166 (.aload_n 0) 1 167 := ⟨by decide +kernel, rfl⟩
theorem e_X11_fit_167 : DC cX11_fit 167 (.getfield 90) 3 170 := ⟨by decide +kernel, rfl⟩
theorem e_X11_fit_170 : DC cX11_fit 170 (.aload_n 0) 1 171 := ⟨by decide +kernel, rfl⟩
theorem e_X11_fit_171 : DC cX11_fit 171 (.getfield 130) 3 174 := ⟨by decide +kernel, rfl⟩
theorem e_X11_fit_174 : DC cX11_fit 174 (.iload 9) 2 176 := ⟨by decide +kernel, rfl⟩
theorem e_X11_fit_176 : DC cX11_fit 176 (.iaload) 1 177 := ⟨by decide +kernel, rfl⟩
theorem e_X11_fit_177 : DC cX11_fit 177 (.iload 5) 2 179 := ⟨by decide +kernel, rfl⟩
theorem e_X11_fit_179 : DC cX11_fit 179 (.iload 8) 2 181 := ⟨by decide +kernel, rfl⟩
theorem e_X11_fit_181 : DC cX11_fit 181 (.iconst 3) 1 182 := ⟨by decide +kernel, rfl⟩
theorem e_X11_fit_182 : DC cX11_fit 182 (.iload_n 1) 1 183 := ⟨by decide +kernel, rfl⟩
theorem e_X11_fit_183 : DC cX11_fit 183 (.iconst 1) 1 184 := ⟨by decide +kernel, rfl⟩
theorem e_X11_fit_184 : DC cX11_fit 184 (.isub) 1 185 := ⟨by decide +kernel, rfl⟩
theorem e_X11_fit_185 : DC cX11_fit 185 (.iload 9) 2 187 := ⟨by decide +kernel, rfl⟩
theorem e_X11_fit_187 : DC cX11_fit 187 (.isub) 1 188 := ⟨by decide +kernel, rfl⟩
theorem e_X11_fit_188 : DC cX11_fit 188 (.imul) 1 189 := ⟨by decide +kernel, rfl⟩
theorem e_X11_fit_189 : DC cX11_fit 189 (.ishr) 1 190 := ⟨by decide +kernel, rfl⟩
theorem e_X11_fit_190 : DC cX11_fit 190 (.bipush 7) 2 192 := ⟨by decide +kernel, rfl⟩
theorem e_X11_fit_192 : DC cX11_fit 192 (.iand) 1 193 := ⟨by decide +kernel, rfl⟩
theorem e_X11_fit_193 : DC cX11_fit 193 (.imul) 1 194 := ⟨by decide +kernel, rfl⟩
theorem e_X11_fit_194 : DC cX11_fit 194 (.iastore) 1 195 := ⟨by decide +kernel, rfl⟩
theorem e_X11_fit_195 : DC cX11_fit 195 (.iinc 9 1) 3 198 := ⟨by decide +kernel, rfl⟩
theorem e_X11_fit_198 : DB cX11_fit 198 (.goto (-38)) (-38) 3 201 160 := ⟨by decide +kernel, rfl, rfl⟩
theorem e_X11_fit_201 : DC cX11_fit 201 (.aload_n 0) 1 202 := ⟨by decide +kernel, rfl⟩
theorem e_X11_fit_202 : DC cX11_fit 202 (.aload_n 0) 1 203 := ⟨by decide +kernel, rfl⟩
theorem e_X11_fit_203 : DC cX11_fit 203 (.getfield 100) 3 206 := ⟨by decide +kernel, rfl⟩
theorem e_X11_fit_206 : DC cX11_fit 206 (.iconst 0) 1 207 := ⟨by decide +kernel, rfl⟩
theorem e_X11_fit_207 : DC cX11_fit 207 (.aload_n 0) 1 208 := ⟨by decide +kernel, rfl⟩
theorem e_X11_fit_208 : DC cX11_fit 208 (.getfield 103) 3 211 := ⟨by decide +kernel, rfl⟩
theorem e_X11_fit_211 : DC cX11_fit 211 (.iconst 0) 1 212 := ⟨by decide +kernel, rfl⟩
theorem e_X11_fit_212 : DC cX11_fit 212 (.invokevirtual 346) 3 215 := ⟨by decide +kernel, rfl⟩
theorem e_X11_fit_215 : DC cX11_fit 215 (.aload_n 0) 1 216 := ⟨by decide +kernel, rfl⟩
theorem e_X11_fit_216 : DC cX11_fit 216 (.iload 6) 2 218 := ⟨by decide +kernel, rfl⟩
theorem e_X11_fit_218 : DC cX11_fit 218 (.iload 7) 2 220 := ⟨by decide +kernel, rfl⟩
theorem e_X11_fit_220 : DC cX11_fit 220 (.iconst 0) 1 221 := ⟨by decide +kernel, rfl⟩
theorem e_X11_fit_221 : DC cX11_fit 221 (.invokevirtual 368) 3 224 := ⟨by decide +kernel, rfl⟩
theorem e_X11_fit_224 : DC cX11_fit 224 (.istore 9) 2 226 := ⟨by decide +kernel, rfl⟩
theorem e_X11_fit_226 : DC cX11_fit 226 (.aload_n 0) 1 227 := ⟨by decide +kernel, rfl⟩
theorem e_X11_fit_227 : DC cX11_fit 227 (.aload_n 0) 1 228 := ⟨by decide +kernel, rfl⟩
theorem e_X11_fit_228 : DC cX11_fit 228 (.getfield 97) 3 231 := ⟨by decide +kernel, rfl⟩
theorem e_X11_fit_231 : DC cX11_fit 231 (.invokevirtual 371) 3 234 := ⟨by decide +kernel, rfl⟩
theorem e_X11_fit_234 : DB cX11_fit 234 (.ifCond .eq 54) (54) 3 237 288 := ⟨by decide +kernel, rfl, rfl⟩
theorem e_X11_fit_237 : DC cX11_fit 237 (.iconst 0) 1 238 := ⟨by decide +kernel, rfl⟩
theorem e_X11_fit_238 : DC cX11_fit 238 (.istore 10) 2 240 := ⟨by decide +kernel, rfl⟩
theorem e_X11_fit_240 : DC cX11_fit 240 (.iload 10) 2 242 := ⟨by decide +kernel, rfl⟩
theorem e_X11_fit_242 : DC cX11_fit 242 (.iload_n 1) 1 243 := ⟨by decide +kernel, rfl⟩
theorem e_X11_fit_243 : DB cX11_fit 243 (.if_icmp .ge 35) (35) 3 246 278 := ⟨by decide +kernel, rfl, rfl⟩
theorem e_X11_fit_246 : DC cX11_fit 246 (.aload_n 0) 1 247 := ⟨by decide +kernel, rfl⟩
theorem e_X11_fit_247 : DC cX11_fit 247 (.getfield 133) 3 250 := ⟨by decide +kernel, rfl⟩
theorem e_X11_fit_250 : DC cX11_fit 250 (.iconst 3) 1 251 := ⟨by decide +kernel, rfl⟩
theorem e_X11_fit_251 : DC cX11_fit 251 (.aload_n 0) 1 252 := ⟨by decide +kernel, rfl⟩
theorem e_X11_fit_252 : DC cX11_fit 252 (.getfield 383) 3 255 := ⟨by decide +kernel, rfl⟩
theorem e_X11_fit_255 : DC cX11_fit 255 (.imul) 1 256 := ⟨by decide +kernel, rfl⟩
theorem e_X11_fit_256 : DC cX11_fit 256 (.iload 10) 2 258 := ⟨by decide +kernel, rfl⟩
theorem e_X11_fit_258 : DC cX11_fit 258 (.iadd) 1 259 := ⟨by decide +kernel, rfl⟩
theorem e_X11_fit_259 : DC cX11_fit 259 (.aload_n 0) 1 260 := ⟨by decide +kernel, rfl⟩
theorem e_X11_fit_260 : DC cX11_fit 260 (.getfield 90) 3 263 := ⟨by decide +kernel, rfl⟩
theorem e_X11_fit_263 : DC cX11_fit 263 (.aload_n 0) 1 264 := ⟨by decide +kernel, rfl⟩
theorem e_X11_fit_264 : DC cX11_fit 264 (.getfield 130) 3 267 := ⟨by decide +kernel, rfl⟩
theorem e_X11_fit_267 : DC cX11_fit 267 (.iload 10) 2 269 := ⟨by decide +kernel, rfl⟩
theorem e_X11_fit_269 : DC cX11_fit 269 (.iaload) 1 270 := ⟨by decide +kernel, rfl⟩
theorem e_X11_fit_270 : DC cX11_fit 270 (.iaload) 1 271 := ⟨by decide +kernel, rfl⟩
theorem e_X11_fit_271 : DC cX11_fit 271 (.iastore) 1 272 := ⟨by decide +kernel, rfl⟩
theorem e_X11_fit_272 : DC cX11_fit 272 (.iinc 10 1) 3 275 := ⟨by decide +kernel, rfl⟩
theorem e_X11_fit_275 : DB cX11_fit 275 (.goto (-35)) (-35) 3 278 240 := ⟨by decide +kernel, rfl, rfl⟩
theorem e_X11_fit_278 : DC cX11_fit 278 (.aload_n 0) 1 279 := ⟨by decide +kernel, rfl⟩
theorem e_X11_fit_279 : DC cX11_fit 279 (.dup) 1 280 := ⟨by decide +kernel, rfl⟩
theorem e_X11_fit_280 : DC cX11_fit 280 (.getfield 383) 3 283 := ⟨by decide +kernel, rfl⟩
theorem e_X11_fit_283 : DC cX11_fit 283 (.iconst 1) 1 284 := ⟨by decide +kernel, rfl⟩
theorem e_X11_fit_284 : DC cX11_fit 284 (.iadd) 1 285 := ⟨by decide +kernel, rfl⟩
theorem e_X11_fit_285 : DC cX11_fit 285 (.putfield 383) 3 288 := ⟨by decide +kernel, rfl⟩
theorem e_X11_fit_288 : DC cX11_fit 288 (.iinc 8 1) 3 291 := ⟨by decide +kernel, rfl⟩
theorem e_X11_fit_291 : DB cX11_fit 291 (.goto (-148)) (-148) 3 294 143 := ⟨by decide +kernel, rfl, rfl⟩
theorem e_X11_fit_294 : DC cX11_fit 294 (.aload_n 0) 1 295 := ⟨by decide +kernel, rfl⟩
theorem e_X11_fit_295 : DC cX11_fit 295 (.getfield 383) 3 298 := ⟨by decide +kernel, rfl⟩
theorem e_X11_fit_298 : DC cX11_fit 298 (.ireturn) 1 299 := ⟨by decide +kernel, rfl⟩
noncomputable def m_X11_fit_160 (t_distance : Nat → Int) (v1 : Int) (v5 : Int) (v8 : Int) (k_201 : (Nat → Int) → Int → Option (Int × Int × Int × (Nat → Int) × (Nat → Int) × (Nat → Int) × (Nat → Int) × (Nat → Int) × (Nat → Int) × (Nat → Int))) : Nat → (Nat → Int) → Int → Option (Int × Int × Int × (Nat → Int) × (Nat → Int) × (Nat → Int) × (Nat → Int) × (Nat → Int) × (Nat → Int) × (Nat → Int))
  | 0, _, _ => none
  | F + 1, t_pushAt, v9 => if v1 ≤ v9 then (k_201 t_pushAt v9) else (chk (inB v9 3) (chk (inI (v5 * (bAnd (bShr v8 (3 * ((v1 - 1) - v9))) 7))) (chk (inB (t_distance (Int.toNat v9)) 21) (chk (inI (v9 + 1)) (m_X11_fit_160 t_distance v1 v5 v8 k_201 F (up t_pushAt (Int.toNat (t_distance (Int.toNat v9))) (v5 * (bAnd (bShr v8 (3 * ((v1 - 1) - v9))) 7))) (v9 + 1))))))

set_option maxRecDepth 10000 in
set_option maxHeartbeats 8000000 in
theorem g_X11_fit_160 {l : Launch} {E : EE} {b0 n : Nat} {h : AH} {a_t : Nat} {t_thrown t_taped t_p t_fault t_baseLow t_baseHigh t_newBaseLow t_newBaseHigh t_from t_knots t_lines t_chosen t_undos t_redos t_aimedMany t_fits t_fitOf t_sights t_systems t_own t_cross t_curveLong t_wallFirst v1 v5 v6 v7 v8 : Int} {t_push t_speckLow t_speckHigh t_sourceHold t_cur t_was t_feel t_curSum t_row t_marked t_sums t_distance t_fitted : Nat → Int} {r : Int × Int × Int × (Nat → Int) × (Nat → Int) × (Nat → Int) × (Nat → Int) × (Nat → Int) × (Nat → Int) × (Nat → Int)} {k_201 : (Nat → Int) → Int → Option (Int × Int × Int × (Nat → Int) × (Nat → Int) × (Nat → Int) × (Nat → Int) × (Nat → Int) × (Nat → Int) × (Nat → Int))} (ao : AO b0 n [a_t, (a_t + 6), (a_t + 8), (a_t + 9), (a_t + 10), (a_t + 24), (a_t + 25), (a_t + 26), (a_t + 27), (a_t + 28), (a_t + 29), (a_t + 30), (a_t + 31), (a_t + 40), (a_t + 41)]) (ok_t_baseLow : inI t_baseLow) (ok_t_baseHigh : inI t_baseHigh) (ok_t_fits : inI t_fits) (ok_t_fitOf : inI t_fitOf) (ok_t_push : okA t_push) (ok_t_speckLow : okA t_speckLow) (ok_t_speckHigh : okA t_speckHigh) (ok_t_sourceHold : okA t_sourceHold) (ok_t_cur : okA t_cur) (ok_t_was : okA t_was) (ok_t_feel : okA t_feel) (ok_t_curSum : okJ t_curSum) (ok_t_row : okA t_row) (ok_t_marked : okA t_marked) (ok_t_sums : okJ t_sums) (ok_t_distance : okA t_distance) (ok_t_fitted : okA t_fitted) (ok_v1 : inI v1) (ok_v5 : inI v5) (ok_v6 : inI v6) (ok_v7 : inI v7) (ok_v8 : inI v8) (hk_201 : ∀ (t_pushAt_ : Nat → Int) (v9_ : Int), okA t_pushAt_ → inI v9_ → k_201 t_pushAt_ v9_ = some r → G l E b0 M_X11_fit (fun _ => True) (ZM E b0 (some (vI r.1)) (ov [a_t, (a_t + 6), (a_t + 8), (a_t + 9), (a_t + 10), (a_t + 24), (a_t + 25), (a_t + 26), (a_t + 27), (a_t + 28), (a_t + 29), (a_t + 30), (a_t + 31), (a_t + 40), (a_t + 41)] [.inr (11, fsX11 a_t t_thrown t_taped t_p t_fault t_baseLow t_baseHigh t_newBaseLow t_newBaseHigh t_from t_knots t_lines t_chosen t_undos t_redos t_aimedMany r.2.1 r.2.2.1 t_sights t_systems t_own t_cross t_curveLong t_wallFirst), IA E 21 t_push, IA E 100 t_speckLow, IA E 100 t_speckHigh, IA E 100 t_sourceHold, IA E 100 r.2.2.2.1, IA E 100 r.2.2.2.2.1, IA E 100 r.2.2.2.2.2.1, IA E 21 r.2.2.2.2.2.2.1, JA E 6 r.2.2.2.2.2.2.2.1, IA E 100 t_row, IA E 100 t_marked, JA E 6 t_sums, IA E 3 r.2.2.2.2.2.2.2.2.1, IA E 1536 r.2.2.2.2.2.2.2.2.2] h) n (inI r.1 ∧ inI r.2.1 ∧ inI r.2.2.1 ∧ okA r.2.2.2.1 ∧ okA r.2.2.2.2.1 ∧ okA r.2.2.2.2.2.1 ∧ okA r.2.2.2.2.2.2.1 ∧ okJ r.2.2.2.2.2.2.2.1 ∧ okA r.2.2.2.2.2.2.2.2.1 ∧ okA r.2.2.2.2.2.2.2.2.2) 0 0) 0 0 n (ov [a_t, (a_t + 6), (a_t + 8), (a_t + 9), (a_t + 10), (a_t + 24), (a_t + 25), (a_t + 26), (a_t + 27), (a_t + 28), (a_t + 29), (a_t + 30), (a_t + 31), (a_t + 40), (a_t + 41)] [.inr (11, fsX11 a_t t_thrown t_taped t_p t_fault t_baseLow t_baseHigh t_newBaseLow t_newBaseHigh t_from t_knots t_lines t_chosen t_undos t_redos t_aimedMany t_fits t_fitOf t_sights t_systems t_own t_cross t_curveLong t_wallFirst), IA E 21 t_push, IA E 100 t_speckLow, IA E 100 t_speckHigh, IA E 100 t_sourceHold, IA E 100 t_cur, IA E 100 t_was, IA E 100 t_feel, IA E 21 t_pushAt_, JA E 6 t_curSum, IA E 100 t_row, IA E 100 t_marked, JA E 6 t_sums, IA E 3 t_distance, IA E 1536 t_fitted] h) 201 [some (.ref a_t), some (vI v1), none, none, none, some (vI v5), some (vI v6), some (vI v7), some (vI v8), none, none] []) :
    ∀ (F : Nat) (t_pushAt : Nat → Int) (v9 : Int), okA t_pushAt → inI v9 → m_X11_fit_160 t_distance v1 v5 v8 k_201 F t_pushAt v9 = some r → G l E b0 M_X11_fit (fun _ => True) (ZM E b0 (some (vI r.1)) (ov [a_t, (a_t + 6), (a_t + 8), (a_t + 9), (a_t + 10), (a_t + 24), (a_t + 25), (a_t + 26), (a_t + 27), (a_t + 28), (a_t + 29), (a_t + 30), (a_t + 31), (a_t + 40), (a_t + 41)] [.inr (11, fsX11 a_t t_thrown t_taped t_p t_fault t_baseLow t_baseHigh t_newBaseLow t_newBaseHigh t_from t_knots t_lines t_chosen t_undos t_redos t_aimedMany r.2.1 r.2.2.1 t_sights t_systems t_own t_cross t_curveLong t_wallFirst), IA E 21 t_push, IA E 100 t_speckLow, IA E 100 t_speckHigh, IA E 100 t_sourceHold, IA E 100 r.2.2.2.1, IA E 100 r.2.2.2.2.1, IA E 100 r.2.2.2.2.2.1, IA E 21 r.2.2.2.2.2.2.1, JA E 6 r.2.2.2.2.2.2.2.1, IA E 100 t_row, IA E 100 t_marked, JA E 6 t_sums, IA E 3 r.2.2.2.2.2.2.2.2.1, IA E 1536 r.2.2.2.2.2.2.2.2.2] h) n (inI r.1 ∧ inI r.2.1 ∧ inI r.2.2.1 ∧ okA r.2.2.2.1 ∧ okA r.2.2.2.2.1 ∧ okA r.2.2.2.2.2.1 ∧ okA r.2.2.2.2.2.2.1 ∧ okJ r.2.2.2.2.2.2.2.1 ∧ okA r.2.2.2.2.2.2.2.2.1 ∧ okA r.2.2.2.2.2.2.2.2.2) 0 0) 0 0 n (ov [a_t, (a_t + 6), (a_t + 8), (a_t + 9), (a_t + 10), (a_t + 24), (a_t + 25), (a_t + 26), (a_t + 27), (a_t + 28), (a_t + 29), (a_t + 30), (a_t + 31), (a_t + 40), (a_t + 41)] [.inr (11, fsX11 a_t t_thrown t_taped t_p t_fault t_baseLow t_baseHigh t_newBaseLow t_newBaseHigh t_from t_knots t_lines t_chosen t_undos t_redos t_aimedMany t_fits t_fitOf t_sights t_systems t_own t_cross t_curveLong t_wallFirst), IA E 21 t_push, IA E 100 t_speckLow, IA E 100 t_speckHigh, IA E 100 t_sourceHold, IA E 100 t_cur, IA E 100 t_was, IA E 100 t_feel, IA E 21 t_pushAt, JA E 6 t_curSum, IA E 100 t_row, IA E 100 t_marked, JA E 6 t_sums, IA E 3 t_distance, IA E 1536 t_fitted] h) 160 [some (.ref a_t), some (vI v1), none, none, none, some (vI v5), some (vI v6), some (vI v7), some (vI v8), some (vI v9), none] [] := by
  intro F
  induction F with
  | zero =>
    intro t_pushAt v9 ok_t_pushAt ok_v9 hs
    rw [m_X11_fit_160] at hs
    cases hs
  | succ F ih =>
    intro t_pushAt v9 ok_t_pushAt ok_v9 hs
    rw [m_X11_fit_160] at hs
    refine g_iload e_X11_fit_160 rfl ?_
    refine g_iload_n e_X11_fit_162 rfl ?_
    refine g_icmp_ge e_X11_fit_163 ok_v9 ok_v1 hs (fun c163 hs => ?_) (fun c163 hs => ?_)
    · exact g_mask [true, true, true, true, true, true, true, true, true, false, true] (hk_201 _ _ ok_t_pushAt ok_v9 hs)
    · refine g_aload_n e_X11_fit_166 rfl ?_
      refine g_get 0 38 ao rfl rfl fsX11_g38 fl_X11_90 e_X11_fit_167 ?_
      refine g_aload_n e_X11_fit_170 rfl ?_
      refine g_get 0 56 ao rfl rfl fsX11_g56 fl_X11_130 e_X11_fit_171 ?_
      refine g_iload e_X11_fit_174 rfl ?_
      refine g_iald 13 ao rfl rfl (Nat.le_of_ble_eq_true rfl) e_X11_fit_176 hs (fun hi10 hs => ?_)
      refine g_iload e_X11_fit_177 rfl ?_
      refine g_iload e_X11_fit_179 rfl ?_
      refine g_iconst e_X11_fit_181 ?_
      refine g_iload_n e_X11_fit_182 rfl ?_
      refine g_iconst e_X11_fit_183 ?_
      refine g_isub e_X11_fit_184 ?_
      refine g_iload e_X11_fit_185 rfl ?_
      refine g_isub e_X11_fit_187 ?_
      refine g_imul e_X11_fit_188 ?_
      refine g_ishr e_X11_fit_189 ?_
      refine g_bipush e_X11_fit_190 bp_7 ?_
      refine g_iand e_X11_fit_192 ?_
      refine g_imul e_X11_fit_193 ?_
      obtain ⟨hc11, hs⟩ := chk_elim hs
      refine g_iast 8 ao rfl rfl ls_8 (Nat.le_of_ble_eq_true rfl) e_X11_fit_194 hs (fun hi12 hs => ?_)
      refine g_iinc e_X11_fit_195 rfl st1_9 rfl ?_
      refine g_goto e_X11_fit_198 ?_
      obtain ⟨hc13, hs⟩ := chk_elim hs
      exact ih _ _ (okA_up ok_t_pushAt hc11) hc13 hs

noncomputable def m_X11_fit_288 (t_baseLow : Int) (t_baseHigh : Int) (t_fits : Int) (t_push : Nat → Int) (t_speckLow : Nat → Int) (t_speckHigh : Nat → Int) (t_sourceHold : Nat → Int) (t_cur : Nat → Int) (t_was : Nat → Int) (t_feel : Nat → Int) (t_pushAt : Nat → Int) (t_curSum : Nat → Int) (t_row : Nat → Int) (t_marked : Nat → Int) (t_sums : Nat → Int) (t_distance : Nat → Int) (t_fitted : Nat → Int) (v1 : Int) (v5 : Int) (v6 : Int) (v7 : Int) (v8 : Int) (ag : Int → (Nat → Int) → (Nat → Int) → (Nat → Int) → (Nat → Int) → (Nat → Int) → (Nat → Int) → Int → Option (Int × Int × Int × (Nat → Int) × (Nat → Int) × (Nat → Int) × (Nat → Int) × (Nat → Int) × (Nat → Int) × (Nat → Int))) (k_294 : Int → (Nat → Int) → (Nat → Int) → (Nat → Int) → (Nat → Int) → (Nat → Int) → (Nat → Int) → Int → Option (Int × Int × Int × (Nat → Int) × (Nat → Int) × (Nat → Int) × (Nat → Int) × (Nat → Int) × (Nat → Int) × (Nat → Int))) : Option (Int × Int × Int × (Nat → Int) × (Nat → Int) × (Nat → Int) × (Nat → Int) × (Nat → Int) × (Nat → Int) × (Nat → Int)) :=
  chk (inI (v8 + 1)) (ag t_fits t_cur t_was t_feel t_pushAt t_curSum t_fitted (v8 + 1))

set_option maxRecDepth 10000 in
set_option maxHeartbeats 8000000 in
theorem g_X11_fit_288 {l : Launch} {E : EE} {b0 n : Nat} {h : AH} {a_t : Nat} {t_thrown t_taped t_p t_fault t_baseLow t_baseHigh t_newBaseLow t_newBaseHigh t_from t_knots t_lines t_chosen t_undos t_redos t_aimedMany t_fits t_fitOf t_sights t_systems t_own t_cross t_curveLong t_wallFirst v1 v5 v6 v7 v8 : Int} {t_push t_speckLow t_speckHigh t_sourceHold t_cur t_was t_feel t_pushAt t_curSum t_row t_marked t_sums t_distance t_fitted : Nat → Int} {r : Int × Int × Int × (Nat → Int) × (Nat → Int) × (Nat → Int) × (Nat → Int) × (Nat → Int) × (Nat → Int) × (Nat → Int)} {ag : Int → (Nat → Int) → (Nat → Int) → (Nat → Int) → (Nat → Int) → (Nat → Int) → (Nat → Int) → Int → Option (Int × Int × Int × (Nat → Int) × (Nat → Int) × (Nat → Int) × (Nat → Int) × (Nat → Int) × (Nat → Int) × (Nat → Int))} {k_294 : Int → (Nat → Int) → (Nat → Int) → (Nat → Int) → (Nat → Int) → (Nat → Int) → (Nat → Int) → Int → Option (Int × Int × Int × (Nat → Int) × (Nat → Int) × (Nat → Int) × (Nat → Int) × (Nat → Int) × (Nat → Int) × (Nat → Int))} (ao : AO b0 n [a_t, (a_t + 6), (a_t + 8), (a_t + 9), (a_t + 10), (a_t + 24), (a_t + 25), (a_t + 26), (a_t + 27), (a_t + 28), (a_t + 29), (a_t + 30), (a_t + 31), (a_t + 40), (a_t + 41)]) (ok_t_baseLow : inI t_baseLow) (ok_t_baseHigh : inI t_baseHigh) (ok_t_fits : inI t_fits) (ok_t_fitOf : inI t_fitOf) (ok_t_push : okA t_push) (ok_t_speckLow : okA t_speckLow) (ok_t_speckHigh : okA t_speckHigh) (ok_t_sourceHold : okA t_sourceHold) (ok_t_cur : okA t_cur) (ok_t_was : okA t_was) (ok_t_feel : okA t_feel) (ok_t_pushAt : okA t_pushAt) (ok_t_curSum : okJ t_curSum) (ok_t_row : okA t_row) (ok_t_marked : okA t_marked) (ok_t_sums : okJ t_sums) (ok_t_distance : okA t_distance) (ok_t_fitted : okA t_fitted) (ok_v1 : inI v1) (ok_v5 : inI v5) (ok_v6 : inI v6) (ok_v7 : inI v7) (ok_v8 : inI v8) (hag : ∀ (t_fits_ : Int) (t_cur_ : Nat → Int) (t_was_ : Nat → Int) (t_feel_ : Nat → Int) (t_pushAt_ : Nat → Int) (t_curSum_ : Nat → Int) (t_fitted_ : Nat → Int) (v8_ : Int), inI t_fits_ → okA t_cur_ → okA t_was_ → okA t_feel_ → okA t_pushAt_ → okJ t_curSum_ → okA t_fitted_ → inI v8_ → ag t_fits_ t_cur_ t_was_ t_feel_ t_pushAt_ t_curSum_ t_fitted_ v8_ = some r → G l E b0 M_X11_fit (fun _ => True) (ZM E b0 (some (vI r.1)) (ov [a_t, (a_t + 6), (a_t + 8), (a_t + 9), (a_t + 10), (a_t + 24), (a_t + 25), (a_t + 26), (a_t + 27), (a_t + 28), (a_t + 29), (a_t + 30), (a_t + 31), (a_t + 40), (a_t + 41)] [.inr (11, fsX11 a_t t_thrown t_taped t_p t_fault t_baseLow t_baseHigh t_newBaseLow t_newBaseHigh t_from t_knots t_lines t_chosen t_undos t_redos t_aimedMany r.2.1 r.2.2.1 t_sights t_systems t_own t_cross t_curveLong t_wallFirst), IA E 21 t_push, IA E 100 t_speckLow, IA E 100 t_speckHigh, IA E 100 t_sourceHold, IA E 100 r.2.2.2.1, IA E 100 r.2.2.2.2.1, IA E 100 r.2.2.2.2.2.1, IA E 21 r.2.2.2.2.2.2.1, JA E 6 r.2.2.2.2.2.2.2.1, IA E 100 t_row, IA E 100 t_marked, JA E 6 t_sums, IA E 3 r.2.2.2.2.2.2.2.2.1, IA E 1536 r.2.2.2.2.2.2.2.2.2] h) n (inI r.1 ∧ inI r.2.1 ∧ inI r.2.2.1 ∧ okA r.2.2.2.1 ∧ okA r.2.2.2.2.1 ∧ okA r.2.2.2.2.2.1 ∧ okA r.2.2.2.2.2.2.1 ∧ okJ r.2.2.2.2.2.2.2.1 ∧ okA r.2.2.2.2.2.2.2.2.1 ∧ okA r.2.2.2.2.2.2.2.2.2) 0 0) 0 0 n (ov [a_t, (a_t + 6), (a_t + 8), (a_t + 9), (a_t + 10), (a_t + 24), (a_t + 25), (a_t + 26), (a_t + 27), (a_t + 28), (a_t + 29), (a_t + 30), (a_t + 31), (a_t + 40), (a_t + 41)] [.inr (11, fsX11 a_t t_thrown t_taped t_p t_fault t_baseLow t_baseHigh t_newBaseLow t_newBaseHigh t_from t_knots t_lines t_chosen t_undos t_redos t_aimedMany t_fits_ t_fitOf t_sights t_systems t_own t_cross t_curveLong t_wallFirst), IA E 21 t_push, IA E 100 t_speckLow, IA E 100 t_speckHigh, IA E 100 t_sourceHold, IA E 100 t_cur_, IA E 100 t_was_, IA E 100 t_feel_, IA E 21 t_pushAt_, JA E 6 t_curSum_, IA E 100 t_row, IA E 100 t_marked, JA E 6 t_sums, IA E 3 t_distance, IA E 1536 t_fitted_] h) 143 [some (.ref a_t), some (vI v1), none, none, none, some (vI v5), some (vI v6), some (vI v7), some (vI v8_), none, none] []) (hk_294 : ∀ (t_fits_ : Int) (t_cur_ : Nat → Int) (t_was_ : Nat → Int) (t_feel_ : Nat → Int) (t_pushAt_ : Nat → Int) (t_curSum_ : Nat → Int) (t_fitted_ : Nat → Int) (v8_ : Int), inI t_fits_ → okA t_cur_ → okA t_was_ → okA t_feel_ → okA t_pushAt_ → okJ t_curSum_ → okA t_fitted_ → inI v8_ → k_294 t_fits_ t_cur_ t_was_ t_feel_ t_pushAt_ t_curSum_ t_fitted_ v8_ = some r → G l E b0 M_X11_fit (fun _ => True) (ZM E b0 (some (vI r.1)) (ov [a_t, (a_t + 6), (a_t + 8), (a_t + 9), (a_t + 10), (a_t + 24), (a_t + 25), (a_t + 26), (a_t + 27), (a_t + 28), (a_t + 29), (a_t + 30), (a_t + 31), (a_t + 40), (a_t + 41)] [.inr (11, fsX11 a_t t_thrown t_taped t_p t_fault t_baseLow t_baseHigh t_newBaseLow t_newBaseHigh t_from t_knots t_lines t_chosen t_undos t_redos t_aimedMany r.2.1 r.2.2.1 t_sights t_systems t_own t_cross t_curveLong t_wallFirst), IA E 21 t_push, IA E 100 t_speckLow, IA E 100 t_speckHigh, IA E 100 t_sourceHold, IA E 100 r.2.2.2.1, IA E 100 r.2.2.2.2.1, IA E 100 r.2.2.2.2.2.1, IA E 21 r.2.2.2.2.2.2.1, JA E 6 r.2.2.2.2.2.2.2.1, IA E 100 t_row, IA E 100 t_marked, JA E 6 t_sums, IA E 3 r.2.2.2.2.2.2.2.2.1, IA E 1536 r.2.2.2.2.2.2.2.2.2] h) n (inI r.1 ∧ inI r.2.1 ∧ inI r.2.2.1 ∧ okA r.2.2.2.1 ∧ okA r.2.2.2.2.1 ∧ okA r.2.2.2.2.2.1 ∧ okA r.2.2.2.2.2.2.1 ∧ okJ r.2.2.2.2.2.2.2.1 ∧ okA r.2.2.2.2.2.2.2.2.1 ∧ okA r.2.2.2.2.2.2.2.2.2) 0 0) 0 0 n (ov [a_t, (a_t + 6), (a_t + 8), (a_t + 9), (a_t + 10), (a_t + 24), (a_t + 25), (a_t + 26), (a_t + 27), (a_t + 28), (a_t + 29), (a_t + 30), (a_t + 31), (a_t + 40), (a_t + 41)] [.inr (11, fsX11 a_t t_thrown t_taped t_p t_fault t_baseLow t_baseHigh t_newBaseLow t_newBaseHigh t_from t_knots t_lines t_chosen t_undos t_redos t_aimedMany t_fits_ t_fitOf t_sights t_systems t_own t_cross t_curveLong t_wallFirst), IA E 21 t_push, IA E 100 t_speckLow, IA E 100 t_speckHigh, IA E 100 t_sourceHold, IA E 100 t_cur_, IA E 100 t_was_, IA E 100 t_feel_, IA E 21 t_pushAt_, JA E 6 t_curSum_, IA E 100 t_row, IA E 100 t_marked, JA E 6 t_sums, IA E 3 t_distance, IA E 1536 t_fitted_] h) 294 [some (.ref a_t), none, none, none, none, none, none, none, none, none, none] []) (hs : m_X11_fit_288 t_baseLow t_baseHigh t_fits t_push t_speckLow t_speckHigh t_sourceHold t_cur t_was t_feel t_pushAt t_curSum t_row t_marked t_sums t_distance t_fitted v1 v5 v6 v7 v8 ag k_294 = some r) : G l E b0 M_X11_fit (fun _ => True) (ZM E b0 (some (vI r.1)) (ov [a_t, (a_t + 6), (a_t + 8), (a_t + 9), (a_t + 10), (a_t + 24), (a_t + 25), (a_t + 26), (a_t + 27), (a_t + 28), (a_t + 29), (a_t + 30), (a_t + 31), (a_t + 40), (a_t + 41)] [.inr (11, fsX11 a_t t_thrown t_taped t_p t_fault t_baseLow t_baseHigh t_newBaseLow t_newBaseHigh t_from t_knots t_lines t_chosen t_undos t_redos t_aimedMany r.2.1 r.2.2.1 t_sights t_systems t_own t_cross t_curveLong t_wallFirst), IA E 21 t_push, IA E 100 t_speckLow, IA E 100 t_speckHigh, IA E 100 t_sourceHold, IA E 100 r.2.2.2.1, IA E 100 r.2.2.2.2.1, IA E 100 r.2.2.2.2.2.1, IA E 21 r.2.2.2.2.2.2.1, JA E 6 r.2.2.2.2.2.2.2.1, IA E 100 t_row, IA E 100 t_marked, JA E 6 t_sums, IA E 3 r.2.2.2.2.2.2.2.2.1, IA E 1536 r.2.2.2.2.2.2.2.2.2] h) n (inI r.1 ∧ inI r.2.1 ∧ inI r.2.2.1 ∧ okA r.2.2.2.1 ∧ okA r.2.2.2.2.1 ∧ okA r.2.2.2.2.2.1 ∧ okA r.2.2.2.2.2.2.1 ∧ okJ r.2.2.2.2.2.2.2.1 ∧ okA r.2.2.2.2.2.2.2.2.1 ∧ okA r.2.2.2.2.2.2.2.2.2) 0 0) 0 0 n (ov [a_t, (a_t + 6), (a_t + 8), (a_t + 9), (a_t + 10), (a_t + 24), (a_t + 25), (a_t + 26), (a_t + 27), (a_t + 28), (a_t + 29), (a_t + 30), (a_t + 31), (a_t + 40), (a_t + 41)] [.inr (11, fsX11 a_t t_thrown t_taped t_p t_fault t_baseLow t_baseHigh t_newBaseLow t_newBaseHigh t_from t_knots t_lines t_chosen t_undos t_redos t_aimedMany t_fits t_fitOf t_sights t_systems t_own t_cross t_curveLong t_wallFirst), IA E 21 t_push, IA E 100 t_speckLow, IA E 100 t_speckHigh, IA E 100 t_sourceHold, IA E 100 t_cur, IA E 100 t_was, IA E 100 t_feel, IA E 21 t_pushAt, JA E 6 t_curSum, IA E 100 t_row, IA E 100 t_marked, JA E 6 t_sums, IA E 3 t_distance, IA E 1536 t_fitted] h) 288 [some (.ref a_t), some (vI v1), none, none, none, some (vI v5), some (vI v6), some (vI v7), some (vI v8), none, none] [] := by
  rw [m_X11_fit_288] at hs
  refine g_iinc e_X11_fit_288 rfl st1_8 rfl ?_
  refine g_goto e_X11_fit_291 ?_
  obtain ⟨hc17, hs⟩ := chk_elim hs
  exact hag _ _ _ _ _ _ _ _ ok_t_fits ok_t_cur ok_t_was ok_t_feel ok_t_pushAt ok_t_curSum ok_t_fitted hc17 hs

noncomputable def m_X11_fit_240 (t_fits : Int) (t_pushAt : Nat → Int) (t_distance : Nat → Int) (v1 : Int) (k_278 : (Nat → Int) → Int → Option (Int × Int × Int × (Nat → Int) × (Nat → Int) × (Nat → Int) × (Nat → Int) × (Nat → Int) × (Nat → Int) × (Nat → Int))) : Nat → (Nat → Int) → Int → Option (Int × Int × Int × (Nat → Int) × (Nat → Int) × (Nat → Int) × (Nat → Int) × (Nat → Int) × (Nat → Int) × (Nat → Int))
  | 0, _, _ => none
  | F + 1, t_fitted, v10 => if v1 ≤ v10 then (k_278 t_fitted v10) else (chk (inB v10 3) (chk (inB (t_distance (Int.toNat v10)) 21) (chk (inB ((3 * t_fits) + v10) 1536) (chk (inI (v10 + 1)) (m_X11_fit_240 t_fits t_pushAt t_distance v1 k_278 F (up t_fitted (Int.toNat ((3 * t_fits) + v10)) (t_pushAt (Int.toNat (t_distance (Int.toNat v10))))) (v10 + 1))))))

set_option maxRecDepth 10000 in
set_option maxHeartbeats 8000000 in
theorem g_X11_fit_240 {l : Launch} {E : EE} {b0 n : Nat} {h : AH} {a_t : Nat} {t_thrown t_taped t_p t_fault t_baseLow t_baseHigh t_newBaseLow t_newBaseHigh t_from t_knots t_lines t_chosen t_undos t_redos t_aimedMany t_fits t_fitOf t_sights t_systems t_own t_cross t_curveLong t_wallFirst v1 v5 v6 v7 v8 : Int} {t_push t_speckLow t_speckHigh t_sourceHold t_cur t_was t_feel t_pushAt t_curSum t_row t_marked t_sums t_distance : Nat → Int} {r : Int × Int × Int × (Nat → Int) × (Nat → Int) × (Nat → Int) × (Nat → Int) × (Nat → Int) × (Nat → Int) × (Nat → Int)} {k_278 : (Nat → Int) → Int → Option (Int × Int × Int × (Nat → Int) × (Nat → Int) × (Nat → Int) × (Nat → Int) × (Nat → Int) × (Nat → Int) × (Nat → Int))} (ao : AO b0 n [a_t, (a_t + 6), (a_t + 8), (a_t + 9), (a_t + 10), (a_t + 24), (a_t + 25), (a_t + 26), (a_t + 27), (a_t + 28), (a_t + 29), (a_t + 30), (a_t + 31), (a_t + 40), (a_t + 41)]) (ok_t_baseLow : inI t_baseLow) (ok_t_baseHigh : inI t_baseHigh) (ok_t_fits : inI t_fits) (ok_t_fitOf : inI t_fitOf) (ok_t_push : okA t_push) (ok_t_speckLow : okA t_speckLow) (ok_t_speckHigh : okA t_speckHigh) (ok_t_sourceHold : okA t_sourceHold) (ok_t_cur : okA t_cur) (ok_t_was : okA t_was) (ok_t_feel : okA t_feel) (ok_t_pushAt : okA t_pushAt) (ok_t_curSum : okJ t_curSum) (ok_t_row : okA t_row) (ok_t_marked : okA t_marked) (ok_t_sums : okJ t_sums) (ok_t_distance : okA t_distance) (ok_v1 : inI v1) (ok_v5 : inI v5) (ok_v6 : inI v6) (ok_v7 : inI v7) (ok_v8 : inI v8) (hk_278 : ∀ (t_fitted_ : Nat → Int) (v10_ : Int), okA t_fitted_ → inI v10_ → k_278 t_fitted_ v10_ = some r → G l E b0 M_X11_fit (fun _ => True) (ZM E b0 (some (vI r.1)) (ov [a_t, (a_t + 6), (a_t + 8), (a_t + 9), (a_t + 10), (a_t + 24), (a_t + 25), (a_t + 26), (a_t + 27), (a_t + 28), (a_t + 29), (a_t + 30), (a_t + 31), (a_t + 40), (a_t + 41)] [.inr (11, fsX11 a_t t_thrown t_taped t_p t_fault t_baseLow t_baseHigh t_newBaseLow t_newBaseHigh t_from t_knots t_lines t_chosen t_undos t_redos t_aimedMany r.2.1 r.2.2.1 t_sights t_systems t_own t_cross t_curveLong t_wallFirst), IA E 21 t_push, IA E 100 t_speckLow, IA E 100 t_speckHigh, IA E 100 t_sourceHold, IA E 100 r.2.2.2.1, IA E 100 r.2.2.2.2.1, IA E 100 r.2.2.2.2.2.1, IA E 21 r.2.2.2.2.2.2.1, JA E 6 r.2.2.2.2.2.2.2.1, IA E 100 t_row, IA E 100 t_marked, JA E 6 t_sums, IA E 3 r.2.2.2.2.2.2.2.2.1, IA E 1536 r.2.2.2.2.2.2.2.2.2] h) n (inI r.1 ∧ inI r.2.1 ∧ inI r.2.2.1 ∧ okA r.2.2.2.1 ∧ okA r.2.2.2.2.1 ∧ okA r.2.2.2.2.2.1 ∧ okA r.2.2.2.2.2.2.1 ∧ okJ r.2.2.2.2.2.2.2.1 ∧ okA r.2.2.2.2.2.2.2.2.1 ∧ okA r.2.2.2.2.2.2.2.2.2) 0 0) 0 0 n (ov [a_t, (a_t + 6), (a_t + 8), (a_t + 9), (a_t + 10), (a_t + 24), (a_t + 25), (a_t + 26), (a_t + 27), (a_t + 28), (a_t + 29), (a_t + 30), (a_t + 31), (a_t + 40), (a_t + 41)] [.inr (11, fsX11 a_t t_thrown t_taped t_p t_fault t_baseLow t_baseHigh t_newBaseLow t_newBaseHigh t_from t_knots t_lines t_chosen t_undos t_redos t_aimedMany t_fits t_fitOf t_sights t_systems t_own t_cross t_curveLong t_wallFirst), IA E 21 t_push, IA E 100 t_speckLow, IA E 100 t_speckHigh, IA E 100 t_sourceHold, IA E 100 t_cur, IA E 100 t_was, IA E 100 t_feel, IA E 21 t_pushAt, JA E 6 t_curSum, IA E 100 t_row, IA E 100 t_marked, JA E 6 t_sums, IA E 3 t_distance, IA E 1536 t_fitted_] h) 278 [some (.ref a_t), some (vI v1), none, none, none, some (vI v5), some (vI v6), some (vI v7), some (vI v8), none, none] []) :
    ∀ (F : Nat) (t_fitted : Nat → Int) (v10 : Int), okA t_fitted → inI v10 → m_X11_fit_240 t_fits t_pushAt t_distance v1 k_278 F t_fitted v10 = some r → G l E b0 M_X11_fit (fun _ => True) (ZM E b0 (some (vI r.1)) (ov [a_t, (a_t + 6), (a_t + 8), (a_t + 9), (a_t + 10), (a_t + 24), (a_t + 25), (a_t + 26), (a_t + 27), (a_t + 28), (a_t + 29), (a_t + 30), (a_t + 31), (a_t + 40), (a_t + 41)] [.inr (11, fsX11 a_t t_thrown t_taped t_p t_fault t_baseLow t_baseHigh t_newBaseLow t_newBaseHigh t_from t_knots t_lines t_chosen t_undos t_redos t_aimedMany r.2.1 r.2.2.1 t_sights t_systems t_own t_cross t_curveLong t_wallFirst), IA E 21 t_push, IA E 100 t_speckLow, IA E 100 t_speckHigh, IA E 100 t_sourceHold, IA E 100 r.2.2.2.1, IA E 100 r.2.2.2.2.1, IA E 100 r.2.2.2.2.2.1, IA E 21 r.2.2.2.2.2.2.1, JA E 6 r.2.2.2.2.2.2.2.1, IA E 100 t_row, IA E 100 t_marked, JA E 6 t_sums, IA E 3 r.2.2.2.2.2.2.2.2.1, IA E 1536 r.2.2.2.2.2.2.2.2.2] h) n (inI r.1 ∧ inI r.2.1 ∧ inI r.2.2.1 ∧ okA r.2.2.2.1 ∧ okA r.2.2.2.2.1 ∧ okA r.2.2.2.2.2.1 ∧ okA r.2.2.2.2.2.2.1 ∧ okJ r.2.2.2.2.2.2.2.1 ∧ okA r.2.2.2.2.2.2.2.2.1 ∧ okA r.2.2.2.2.2.2.2.2.2) 0 0) 0 0 n (ov [a_t, (a_t + 6), (a_t + 8), (a_t + 9), (a_t + 10), (a_t + 24), (a_t + 25), (a_t + 26), (a_t + 27), (a_t + 28), (a_t + 29), (a_t + 30), (a_t + 31), (a_t + 40), (a_t + 41)] [.inr (11, fsX11 a_t t_thrown t_taped t_p t_fault t_baseLow t_baseHigh t_newBaseLow t_newBaseHigh t_from t_knots t_lines t_chosen t_undos t_redos t_aimedMany t_fits t_fitOf t_sights t_systems t_own t_cross t_curveLong t_wallFirst), IA E 21 t_push, IA E 100 t_speckLow, IA E 100 t_speckHigh, IA E 100 t_sourceHold, IA E 100 t_cur, IA E 100 t_was, IA E 100 t_feel, IA E 21 t_pushAt, JA E 6 t_curSum, IA E 100 t_row, IA E 100 t_marked, JA E 6 t_sums, IA E 3 t_distance, IA E 1536 t_fitted] h) 240 [some (.ref a_t), some (vI v1), none, none, none, some (vI v5), some (vI v6), some (vI v7), some (vI v8), none, some (vI v10)] [] := by
  intro F
  induction F with
  | zero =>
    intro t_fitted v10 ok_t_fitted ok_v10 hs
    rw [m_X11_fit_240] at hs
    cases hs
  | succ F ih =>
    intro t_fitted v10 ok_t_fitted ok_v10 hs
    rw [m_X11_fit_240] at hs
    refine g_iload e_X11_fit_240 rfl ?_
    refine g_iload_n e_X11_fit_242 rfl ?_
    refine g_icmp_ge e_X11_fit_243 ok_v10 ok_v1 hs (fun c243 hs => ?_) (fun c243 hs => ?_)
    · exact g_mask [true, true, true, true, true, true, true, true, true, true, false] (hk_278 _ _ ok_t_fitted ok_v10 hs)
    · refine g_aload_n e_X11_fit_246 rfl ?_
      refine g_get 0 57 ao rfl rfl fsX11_g57 fl_X11_133 e_X11_fit_247 ?_
      refine g_iconst e_X11_fit_250 ?_
      refine g_aload_n e_X11_fit_251 rfl ?_
      refine g_get 0 54 ao rfl rfl fsX11_g54 fl_X11_383 e_X11_fit_252 ?_
      refine g_imul e_X11_fit_255 ?_
      refine g_iload e_X11_fit_256 rfl ?_
      refine g_iadd e_X11_fit_258 ?_
      refine g_aload_n e_X11_fit_259 rfl ?_
      refine g_get 0 38 ao rfl rfl fsX11_g38 fl_X11_90 e_X11_fit_260 ?_
      refine g_aload_n e_X11_fit_263 rfl ?_
      refine g_get 0 56 ao rfl rfl fsX11_g56 fl_X11_130 e_X11_fit_264 ?_
      refine g_iload e_X11_fit_267 rfl ?_
      refine g_iald 13 ao rfl rfl (Nat.le_of_ble_eq_true rfl) e_X11_fit_269 hs (fun hi18 hs => ?_)
      refine g_iald 8 ao rfl rfl (Nat.le_of_ble_eq_true rfl) e_X11_fit_270 hs (fun hi19 hs => ?_)
      refine g_iast 14 ao rfl rfl ls_14 (Nat.le_of_ble_eq_true rfl) e_X11_fit_271 hs (fun hi20 hs => ?_)
      refine g_iinc e_X11_fit_272 rfl st1_10 rfl ?_
      refine g_goto e_X11_fit_275 ?_
      obtain ⟨hc21, hs⟩ := chk_elim hs
      exact ih _ _ (okA_up ok_t_fitted (ok_t_pushAt _)) hc21 hs

noncomputable def m_X11_fit_278 (t_baseLow : Int) (t_baseHigh : Int) (t_fits : Int) (t_push : Nat → Int) (t_speckLow : Nat → Int) (t_speckHigh : Nat → Int) (t_sourceHold : Nat → Int) (t_cur : Nat → Int) (t_was : Nat → Int) (t_feel : Nat → Int) (t_pushAt : Nat → Int) (t_curSum : Nat → Int) (t_row : Nat → Int) (t_marked : Nat → Int) (t_sums : Nat → Int) (t_distance : Nat → Int) (t_fitted : Nat → Int) (v1 : Int) (v5 : Int) (v6 : Int) (v7 : Int) (v8 : Int) (ag : Int → (Nat → Int) → (Nat → Int) → (Nat → Int) → (Nat → Int) → (Nat → Int) → (Nat → Int) → Int → Option (Int × Int × Int × (Nat → Int) × (Nat → Int) × (Nat → Int) × (Nat → Int) × (Nat → Int) × (Nat → Int) × (Nat → Int))) (k_294 : Int → (Nat → Int) → (Nat → Int) → (Nat → Int) → (Nat → Int) → (Nat → Int) → (Nat → Int) → Int → Option (Int × Int × Int × (Nat → Int) × (Nat → Int) × (Nat → Int) × (Nat → Int) × (Nat → Int) × (Nat → Int) × (Nat → Int))) : Option (Int × Int × Int × (Nat → Int) × (Nat → Int) × (Nat → Int) × (Nat → Int) × (Nat → Int) × (Nat → Int) × (Nat → Int)) :=
  chk (inI (t_fits + 1)) (m_X11_fit_288 t_baseLow t_baseHigh (t_fits + 1) t_push t_speckLow t_speckHigh t_sourceHold t_cur t_was t_feel t_pushAt t_curSum t_row t_marked t_sums t_distance t_fitted v1 v5 v6 v7 v8 ag k_294)

set_option maxRecDepth 10000 in
set_option maxHeartbeats 8000000 in
theorem g_X11_fit_278 {l : Launch} {E : EE} {b0 n : Nat} {h : AH} {a_t : Nat} {t_thrown t_taped t_p t_fault t_baseLow t_baseHigh t_newBaseLow t_newBaseHigh t_from t_knots t_lines t_chosen t_undos t_redos t_aimedMany t_fits t_fitOf t_sights t_systems t_own t_cross t_curveLong t_wallFirst v1 v5 v6 v7 v8 : Int} {t_push t_speckLow t_speckHigh t_sourceHold t_cur t_was t_feel t_pushAt t_curSum t_row t_marked t_sums t_distance t_fitted : Nat → Int} {r : Int × Int × Int × (Nat → Int) × (Nat → Int) × (Nat → Int) × (Nat → Int) × (Nat → Int) × (Nat → Int) × (Nat → Int)} {ag : Int → (Nat → Int) → (Nat → Int) → (Nat → Int) → (Nat → Int) → (Nat → Int) → (Nat → Int) → Int → Option (Int × Int × Int × (Nat → Int) × (Nat → Int) × (Nat → Int) × (Nat → Int) × (Nat → Int) × (Nat → Int) × (Nat → Int))} {k_294 : Int → (Nat → Int) → (Nat → Int) → (Nat → Int) → (Nat → Int) → (Nat → Int) → (Nat → Int) → Int → Option (Int × Int × Int × (Nat → Int) × (Nat → Int) × (Nat → Int) × (Nat → Int) × (Nat → Int) × (Nat → Int) × (Nat → Int))} (ao : AO b0 n [a_t, (a_t + 6), (a_t + 8), (a_t + 9), (a_t + 10), (a_t + 24), (a_t + 25), (a_t + 26), (a_t + 27), (a_t + 28), (a_t + 29), (a_t + 30), (a_t + 31), (a_t + 40), (a_t + 41)]) (ok_t_baseLow : inI t_baseLow) (ok_t_baseHigh : inI t_baseHigh) (ok_t_fits : inI t_fits) (ok_t_fitOf : inI t_fitOf) (ok_t_push : okA t_push) (ok_t_speckLow : okA t_speckLow) (ok_t_speckHigh : okA t_speckHigh) (ok_t_sourceHold : okA t_sourceHold) (ok_t_cur : okA t_cur) (ok_t_was : okA t_was) (ok_t_feel : okA t_feel) (ok_t_pushAt : okA t_pushAt) (ok_t_curSum : okJ t_curSum) (ok_t_row : okA t_row) (ok_t_marked : okA t_marked) (ok_t_sums : okJ t_sums) (ok_t_distance : okA t_distance) (ok_t_fitted : okA t_fitted) (ok_v1 : inI v1) (ok_v5 : inI v5) (ok_v6 : inI v6) (ok_v7 : inI v7) (ok_v8 : inI v8) (hag : ∀ (t_fits_ : Int) (t_cur_ : Nat → Int) (t_was_ : Nat → Int) (t_feel_ : Nat → Int) (t_pushAt_ : Nat → Int) (t_curSum_ : Nat → Int) (t_fitted_ : Nat → Int) (v8_ : Int), inI t_fits_ → okA t_cur_ → okA t_was_ → okA t_feel_ → okA t_pushAt_ → okJ t_curSum_ → okA t_fitted_ → inI v8_ → ag t_fits_ t_cur_ t_was_ t_feel_ t_pushAt_ t_curSum_ t_fitted_ v8_ = some r → G l E b0 M_X11_fit (fun _ => True) (ZM E b0 (some (vI r.1)) (ov [a_t, (a_t + 6), (a_t + 8), (a_t + 9), (a_t + 10), (a_t + 24), (a_t + 25), (a_t + 26), (a_t + 27), (a_t + 28), (a_t + 29), (a_t + 30), (a_t + 31), (a_t + 40), (a_t + 41)] [.inr (11, fsX11 a_t t_thrown t_taped t_p t_fault t_baseLow t_baseHigh t_newBaseLow t_newBaseHigh t_from t_knots t_lines t_chosen t_undos t_redos t_aimedMany r.2.1 r.2.2.1 t_sights t_systems t_own t_cross t_curveLong t_wallFirst), IA E 21 t_push, IA E 100 t_speckLow, IA E 100 t_speckHigh, IA E 100 t_sourceHold, IA E 100 r.2.2.2.1, IA E 100 r.2.2.2.2.1, IA E 100 r.2.2.2.2.2.1, IA E 21 r.2.2.2.2.2.2.1, JA E 6 r.2.2.2.2.2.2.2.1, IA E 100 t_row, IA E 100 t_marked, JA E 6 t_sums, IA E 3 r.2.2.2.2.2.2.2.2.1, IA E 1536 r.2.2.2.2.2.2.2.2.2] h) n (inI r.1 ∧ inI r.2.1 ∧ inI r.2.2.1 ∧ okA r.2.2.2.1 ∧ okA r.2.2.2.2.1 ∧ okA r.2.2.2.2.2.1 ∧ okA r.2.2.2.2.2.2.1 ∧ okJ r.2.2.2.2.2.2.2.1 ∧ okA r.2.2.2.2.2.2.2.2.1 ∧ okA r.2.2.2.2.2.2.2.2.2) 0 0) 0 0 n (ov [a_t, (a_t + 6), (a_t + 8), (a_t + 9), (a_t + 10), (a_t + 24), (a_t + 25), (a_t + 26), (a_t + 27), (a_t + 28), (a_t + 29), (a_t + 30), (a_t + 31), (a_t + 40), (a_t + 41)] [.inr (11, fsX11 a_t t_thrown t_taped t_p t_fault t_baseLow t_baseHigh t_newBaseLow t_newBaseHigh t_from t_knots t_lines t_chosen t_undos t_redos t_aimedMany t_fits_ t_fitOf t_sights t_systems t_own t_cross t_curveLong t_wallFirst), IA E 21 t_push, IA E 100 t_speckLow, IA E 100 t_speckHigh, IA E 100 t_sourceHold, IA E 100 t_cur_, IA E 100 t_was_, IA E 100 t_feel_, IA E 21 t_pushAt_, JA E 6 t_curSum_, IA E 100 t_row, IA E 100 t_marked, JA E 6 t_sums, IA E 3 t_distance, IA E 1536 t_fitted_] h) 143 [some (.ref a_t), some (vI v1), none, none, none, some (vI v5), some (vI v6), some (vI v7), some (vI v8_), none, none] []) (hk_294 : ∀ (t_fits_ : Int) (t_cur_ : Nat → Int) (t_was_ : Nat → Int) (t_feel_ : Nat → Int) (t_pushAt_ : Nat → Int) (t_curSum_ : Nat → Int) (t_fitted_ : Nat → Int) (v8_ : Int), inI t_fits_ → okA t_cur_ → okA t_was_ → okA t_feel_ → okA t_pushAt_ → okJ t_curSum_ → okA t_fitted_ → inI v8_ → k_294 t_fits_ t_cur_ t_was_ t_feel_ t_pushAt_ t_curSum_ t_fitted_ v8_ = some r → G l E b0 M_X11_fit (fun _ => True) (ZM E b0 (some (vI r.1)) (ov [a_t, (a_t + 6), (a_t + 8), (a_t + 9), (a_t + 10), (a_t + 24), (a_t + 25), (a_t + 26), (a_t + 27), (a_t + 28), (a_t + 29), (a_t + 30), (a_t + 31), (a_t + 40), (a_t + 41)] [.inr (11, fsX11 a_t t_thrown t_taped t_p t_fault t_baseLow t_baseHigh t_newBaseLow t_newBaseHigh t_from t_knots t_lines t_chosen t_undos t_redos t_aimedMany r.2.1 r.2.2.1 t_sights t_systems t_own t_cross t_curveLong t_wallFirst), IA E 21 t_push, IA E 100 t_speckLow, IA E 100 t_speckHigh, IA E 100 t_sourceHold, IA E 100 r.2.2.2.1, IA E 100 r.2.2.2.2.1, IA E 100 r.2.2.2.2.2.1, IA E 21 r.2.2.2.2.2.2.1, JA E 6 r.2.2.2.2.2.2.2.1, IA E 100 t_row, IA E 100 t_marked, JA E 6 t_sums, IA E 3 r.2.2.2.2.2.2.2.2.1, IA E 1536 r.2.2.2.2.2.2.2.2.2] h) n (inI r.1 ∧ inI r.2.1 ∧ inI r.2.2.1 ∧ okA r.2.2.2.1 ∧ okA r.2.2.2.2.1 ∧ okA r.2.2.2.2.2.1 ∧ okA r.2.2.2.2.2.2.1 ∧ okJ r.2.2.2.2.2.2.2.1 ∧ okA r.2.2.2.2.2.2.2.2.1 ∧ okA r.2.2.2.2.2.2.2.2.2) 0 0) 0 0 n (ov [a_t, (a_t + 6), (a_t + 8), (a_t + 9), (a_t + 10), (a_t + 24), (a_t + 25), (a_t + 26), (a_t + 27), (a_t + 28), (a_t + 29), (a_t + 30), (a_t + 31), (a_t + 40), (a_t + 41)] [.inr (11, fsX11 a_t t_thrown t_taped t_p t_fault t_baseLow t_baseHigh t_newBaseLow t_newBaseHigh t_from t_knots t_lines t_chosen t_undos t_redos t_aimedMany t_fits_ t_fitOf t_sights t_systems t_own t_cross t_curveLong t_wallFirst), IA E 21 t_push, IA E 100 t_speckLow, IA E 100 t_speckHigh, IA E 100 t_sourceHold, IA E 100 t_cur_, IA E 100 t_was_, IA E 100 t_feel_, IA E 21 t_pushAt_, JA E 6 t_curSum_, IA E 100 t_row, IA E 100 t_marked, JA E 6 t_sums, IA E 3 t_distance, IA E 1536 t_fitted_] h) 294 [some (.ref a_t), none, none, none, none, none, none, none, none, none, none] []) (hs : m_X11_fit_278 t_baseLow t_baseHigh t_fits t_push t_speckLow t_speckHigh t_sourceHold t_cur t_was t_feel t_pushAt t_curSum t_row t_marked t_sums t_distance t_fitted v1 v5 v6 v7 v8 ag k_294 = some r) : G l E b0 M_X11_fit (fun _ => True) (ZM E b0 (some (vI r.1)) (ov [a_t, (a_t + 6), (a_t + 8), (a_t + 9), (a_t + 10), (a_t + 24), (a_t + 25), (a_t + 26), (a_t + 27), (a_t + 28), (a_t + 29), (a_t + 30), (a_t + 31), (a_t + 40), (a_t + 41)] [.inr (11, fsX11 a_t t_thrown t_taped t_p t_fault t_baseLow t_baseHigh t_newBaseLow t_newBaseHigh t_from t_knots t_lines t_chosen t_undos t_redos t_aimedMany r.2.1 r.2.2.1 t_sights t_systems t_own t_cross t_curveLong t_wallFirst), IA E 21 t_push, IA E 100 t_speckLow, IA E 100 t_speckHigh, IA E 100 t_sourceHold, IA E 100 r.2.2.2.1, IA E 100 r.2.2.2.2.1, IA E 100 r.2.2.2.2.2.1, IA E 21 r.2.2.2.2.2.2.1, JA E 6 r.2.2.2.2.2.2.2.1, IA E 100 t_row, IA E 100 t_marked, JA E 6 t_sums, IA E 3 r.2.2.2.2.2.2.2.2.1, IA E 1536 r.2.2.2.2.2.2.2.2.2] h) n (inI r.1 ∧ inI r.2.1 ∧ inI r.2.2.1 ∧ okA r.2.2.2.1 ∧ okA r.2.2.2.2.1 ∧ okA r.2.2.2.2.2.1 ∧ okA r.2.2.2.2.2.2.1 ∧ okJ r.2.2.2.2.2.2.2.1 ∧ okA r.2.2.2.2.2.2.2.2.1 ∧ okA r.2.2.2.2.2.2.2.2.2) 0 0) 0 0 n (ov [a_t, (a_t + 6), (a_t + 8), (a_t + 9), (a_t + 10), (a_t + 24), (a_t + 25), (a_t + 26), (a_t + 27), (a_t + 28), (a_t + 29), (a_t + 30), (a_t + 31), (a_t + 40), (a_t + 41)] [.inr (11, fsX11 a_t t_thrown t_taped t_p t_fault t_baseLow t_baseHigh t_newBaseLow t_newBaseHigh t_from t_knots t_lines t_chosen t_undos t_redos t_aimedMany t_fits t_fitOf t_sights t_systems t_own t_cross t_curveLong t_wallFirst), IA E 21 t_push, IA E 100 t_speckLow, IA E 100 t_speckHigh, IA E 100 t_sourceHold, IA E 100 t_cur, IA E 100 t_was, IA E 100 t_feel, IA E 21 t_pushAt, JA E 6 t_curSum, IA E 100 t_row, IA E 100 t_marked, JA E 6 t_sums, IA E 3 t_distance, IA E 1536 t_fitted] h) 278 [some (.ref a_t), some (vI v1), none, none, none, some (vI v5), some (vI v6), some (vI v7), some (vI v8), none, none] [] := by
  rw [m_X11_fit_278] at hs
  refine g_aload_n e_X11_fit_278 rfl ?_
  refine g_dup e_X11_fit_279 rfl ?_
  refine g_get 0 54 ao rfl rfl fsX11_g54 fl_X11_383 e_X11_fit_280 ?_
  refine g_iconst e_X11_fit_283 ?_
  refine g_iadd e_X11_fit_284 ?_
  obtain ⟨hc22, hs⟩ := chk_elim hs
  refine g_put 0 54 ao rfl rfl fsX11_k54 fsX11_s54 ls_0 fw_X11_383 (fun h => by cases h) ⟨rfl, rfl⟩ e_X11_fit_285 ?_
  exact g_X11_fit_288 ao ok_t_baseLow ok_t_baseHigh hc22 ok_t_fitOf ok_t_push ok_t_speckLow ok_t_speckHigh ok_t_sourceHold ok_t_cur ok_t_was ok_t_feel ok_t_pushAt ok_t_curSum ok_t_row ok_t_marked ok_t_sums ok_t_distance ok_t_fitted ok_v1 ok_v5 ok_v6 ok_v7 ok_v8 hag hk_294 hs

noncomputable def m_X11_fit_201 (t_baseLow : Int) (t_baseHigh : Int) (t_fits : Int) (t_push : Nat → Int) (t_speckLow : Nat → Int) (t_speckHigh : Nat → Int) (t_sourceHold : Nat → Int) (t_cur : Nat → Int) (t_was : Nat → Int) (t_feel : Nat → Int) (t_pushAt : Nat → Int) (t_curSum : Nat → Int) (t_row : Nat → Int) (t_marked : Nat → Int) (t_sums : Nat → Int) (t_distance : Nat → Int) (t_fitted : Nat → Int) (v1 : Int) (v5 : Int) (v6 : Int) (v7 : Int) (v8 : Int) (ag : Int → (Nat → Int) → (Nat → Int) → (Nat → Int) → (Nat → Int) → (Nat → Int) → (Nat → Int) → Int → Option (Int × Int × Int × (Nat → Int) × (Nat → Int) × (Nat → Int) × (Nat → Int) × (Nat → Int) × (Nat → Int) × (Nat → Int))) (k_294 : Int → (Nat → Int) → (Nat → Int) → (Nat → Int) → (Nat → Int) → (Nat → Int) → (Nat → Int) → Int → Option (Int × Int × Int × (Nat → Int) × (Nat → Int) × (Nat → Int) × (Nat → Int) × (Nat → Int) × (Nat → Int) × (Nat → Int))) : Option (Int × Int × Int × (Nat → Int) × (Nat → Int) × (Nat → Int) × (Nat → Int) × (Nat → Int) × (Nat → Int) × (Nat → Int)) :=
  (m_X11_takes 100 6 t_cur t_curSum t_marked t_sums 0 0).bind (fun y14 => (m_X11_runs t_baseLow t_baseHigh t_speckLow t_speckHigh t_sourceHold y14.1 t_was t_feel t_pushAt y14.2 v6 v7 0).bind (fun y15 => (m_X11_isAs 100 y15.2.1 t_row).bind (fun y16 => if y16 = 0 then (m_X11_fit_288 t_baseLow t_baseHigh t_fits t_push t_speckLow t_speckHigh t_sourceHold y15.2.1 y15.2.2.1 y15.2.2.2.1 t_pushAt y15.2.2.2.2 t_row t_marked t_sums t_distance t_fitted v1 v5 v6 v7 v8 ag k_294) else (m_X11_fit_240 t_fits t_pushAt t_distance v1 (fun t_fitted' v10' => m_X11_fit_278 t_baseLow t_baseHigh t_fits t_push t_speckLow t_speckHigh t_sourceHold y15.2.1 y15.2.2.1 y15.2.2.2.1 t_pushAt y15.2.2.2.2 t_row t_marked t_sums t_distance t_fitted' v1 v5 v6 v7 v8 ag k_294) FU t_fitted 0))))

set_option maxRecDepth 10000 in
set_option maxHeartbeats 8000000 in
theorem g_X11_fit_201 {l : Launch} {E : EE} {b0 n : Nat} {h : AH} {a_t : Nat} {t_thrown t_taped t_p t_fault t_baseLow t_baseHigh t_newBaseLow t_newBaseHigh t_from t_knots t_lines t_chosen t_undos t_redos t_aimedMany t_fits t_fitOf t_sights t_systems t_own t_cross t_curveLong t_wallFirst v1 v5 v6 v7 v8 : Int} {t_push t_speckLow t_speckHigh t_sourceHold t_cur t_was t_feel t_pushAt t_curSum t_row t_marked t_sums t_distance t_fitted : Nat → Int} {r : Int × Int × Int × (Nat → Int) × (Nat → Int) × (Nat → Int) × (Nat → Int) × (Nat → Int) × (Nat → Int) × (Nat → Int)} {ag : Int → (Nat → Int) → (Nat → Int) → (Nat → Int) → (Nat → Int) → (Nat → Int) → (Nat → Int) → Int → Option (Int × Int × Int × (Nat → Int) × (Nat → Int) × (Nat → Int) × (Nat → Int) × (Nat → Int) × (Nat → Int) × (Nat → Int))} {k_294 : Int → (Nat → Int) → (Nat → Int) → (Nat → Int) → (Nat → Int) → (Nat → Int) → (Nat → Int) → Int → Option (Int × Int × Int × (Nat → Int) × (Nat → Int) × (Nat → Int) × (Nat → Int) × (Nat → Int) × (Nat → Int) × (Nat → Int))} (ao : AO b0 n [a_t, (a_t + 6), (a_t + 8), (a_t + 9), (a_t + 10), (a_t + 24), (a_t + 25), (a_t + 26), (a_t + 27), (a_t + 28), (a_t + 29), (a_t + 30), (a_t + 31), (a_t + 40), (a_t + 41)]) (ok_t_baseLow : inI t_baseLow) (ok_t_baseHigh : inI t_baseHigh) (ok_t_fits : inI t_fits) (ok_t_fitOf : inI t_fitOf) (ok_t_push : okA t_push) (ok_t_speckLow : okA t_speckLow) (ok_t_speckHigh : okA t_speckHigh) (ok_t_sourceHold : okA t_sourceHold) (ok_t_cur : okA t_cur) (ok_t_was : okA t_was) (ok_t_feel : okA t_feel) (ok_t_pushAt : okA t_pushAt) (ok_t_curSum : okJ t_curSum) (ok_t_row : okA t_row) (ok_t_marked : okA t_marked) (ok_t_sums : okJ t_sums) (ok_t_distance : okA t_distance) (ok_t_fitted : okA t_fitted) (ok_v1 : inI v1) (ok_v5 : inI v5) (ok_v6 : inI v6) (ok_v7 : inI v7) (ok_v8 : inI v8) (hag : ∀ (t_fits_ : Int) (t_cur_ : Nat → Int) (t_was_ : Nat → Int) (t_feel_ : Nat → Int) (t_pushAt_ : Nat → Int) (t_curSum_ : Nat → Int) (t_fitted_ : Nat → Int) (v8_ : Int), inI t_fits_ → okA t_cur_ → okA t_was_ → okA t_feel_ → okA t_pushAt_ → okJ t_curSum_ → okA t_fitted_ → inI v8_ → ag t_fits_ t_cur_ t_was_ t_feel_ t_pushAt_ t_curSum_ t_fitted_ v8_ = some r → G l E b0 M_X11_fit (fun _ => True) (ZM E b0 (some (vI r.1)) (ov [a_t, (a_t + 6), (a_t + 8), (a_t + 9), (a_t + 10), (a_t + 24), (a_t + 25), (a_t + 26), (a_t + 27), (a_t + 28), (a_t + 29), (a_t + 30), (a_t + 31), (a_t + 40), (a_t + 41)] [.inr (11, fsX11 a_t t_thrown t_taped t_p t_fault t_baseLow t_baseHigh t_newBaseLow t_newBaseHigh t_from t_knots t_lines t_chosen t_undos t_redos t_aimedMany r.2.1 r.2.2.1 t_sights t_systems t_own t_cross t_curveLong t_wallFirst), IA E 21 t_push, IA E 100 t_speckLow, IA E 100 t_speckHigh, IA E 100 t_sourceHold, IA E 100 r.2.2.2.1, IA E 100 r.2.2.2.2.1, IA E 100 r.2.2.2.2.2.1, IA E 21 r.2.2.2.2.2.2.1, JA E 6 r.2.2.2.2.2.2.2.1, IA E 100 t_row, IA E 100 t_marked, JA E 6 t_sums, IA E 3 r.2.2.2.2.2.2.2.2.1, IA E 1536 r.2.2.2.2.2.2.2.2.2] h) n (inI r.1 ∧ inI r.2.1 ∧ inI r.2.2.1 ∧ okA r.2.2.2.1 ∧ okA r.2.2.2.2.1 ∧ okA r.2.2.2.2.2.1 ∧ okA r.2.2.2.2.2.2.1 ∧ okJ r.2.2.2.2.2.2.2.1 ∧ okA r.2.2.2.2.2.2.2.2.1 ∧ okA r.2.2.2.2.2.2.2.2.2) 0 0) 0 0 n (ov [a_t, (a_t + 6), (a_t + 8), (a_t + 9), (a_t + 10), (a_t + 24), (a_t + 25), (a_t + 26), (a_t + 27), (a_t + 28), (a_t + 29), (a_t + 30), (a_t + 31), (a_t + 40), (a_t + 41)] [.inr (11, fsX11 a_t t_thrown t_taped t_p t_fault t_baseLow t_baseHigh t_newBaseLow t_newBaseHigh t_from t_knots t_lines t_chosen t_undos t_redos t_aimedMany t_fits_ t_fitOf t_sights t_systems t_own t_cross t_curveLong t_wallFirst), IA E 21 t_push, IA E 100 t_speckLow, IA E 100 t_speckHigh, IA E 100 t_sourceHold, IA E 100 t_cur_, IA E 100 t_was_, IA E 100 t_feel_, IA E 21 t_pushAt_, JA E 6 t_curSum_, IA E 100 t_row, IA E 100 t_marked, JA E 6 t_sums, IA E 3 t_distance, IA E 1536 t_fitted_] h) 143 [some (.ref a_t), some (vI v1), none, none, none, some (vI v5), some (vI v6), some (vI v7), some (vI v8_), none, none] []) (hk_294 : ∀ (t_fits_ : Int) (t_cur_ : Nat → Int) (t_was_ : Nat → Int) (t_feel_ : Nat → Int) (t_pushAt_ : Nat → Int) (t_curSum_ : Nat → Int) (t_fitted_ : Nat → Int) (v8_ : Int), inI t_fits_ → okA t_cur_ → okA t_was_ → okA t_feel_ → okA t_pushAt_ → okJ t_curSum_ → okA t_fitted_ → inI v8_ → k_294 t_fits_ t_cur_ t_was_ t_feel_ t_pushAt_ t_curSum_ t_fitted_ v8_ = some r → G l E b0 M_X11_fit (fun _ => True) (ZM E b0 (some (vI r.1)) (ov [a_t, (a_t + 6), (a_t + 8), (a_t + 9), (a_t + 10), (a_t + 24), (a_t + 25), (a_t + 26), (a_t + 27), (a_t + 28), (a_t + 29), (a_t + 30), (a_t + 31), (a_t + 40), (a_t + 41)] [.inr (11, fsX11 a_t t_thrown t_taped t_p t_fault t_baseLow t_baseHigh t_newBaseLow t_newBaseHigh t_from t_knots t_lines t_chosen t_undos t_redos t_aimedMany r.2.1 r.2.2.1 t_sights t_systems t_own t_cross t_curveLong t_wallFirst), IA E 21 t_push, IA E 100 t_speckLow, IA E 100 t_speckHigh, IA E 100 t_sourceHold, IA E 100 r.2.2.2.1, IA E 100 r.2.2.2.2.1, IA E 100 r.2.2.2.2.2.1, IA E 21 r.2.2.2.2.2.2.1, JA E 6 r.2.2.2.2.2.2.2.1, IA E 100 t_row, IA E 100 t_marked, JA E 6 t_sums, IA E 3 r.2.2.2.2.2.2.2.2.1, IA E 1536 r.2.2.2.2.2.2.2.2.2] h) n (inI r.1 ∧ inI r.2.1 ∧ inI r.2.2.1 ∧ okA r.2.2.2.1 ∧ okA r.2.2.2.2.1 ∧ okA r.2.2.2.2.2.1 ∧ okA r.2.2.2.2.2.2.1 ∧ okJ r.2.2.2.2.2.2.2.1 ∧ okA r.2.2.2.2.2.2.2.2.1 ∧ okA r.2.2.2.2.2.2.2.2.2) 0 0) 0 0 n (ov [a_t, (a_t + 6), (a_t + 8), (a_t + 9), (a_t + 10), (a_t + 24), (a_t + 25), (a_t + 26), (a_t + 27), (a_t + 28), (a_t + 29), (a_t + 30), (a_t + 31), (a_t + 40), (a_t + 41)] [.inr (11, fsX11 a_t t_thrown t_taped t_p t_fault t_baseLow t_baseHigh t_newBaseLow t_newBaseHigh t_from t_knots t_lines t_chosen t_undos t_redos t_aimedMany t_fits_ t_fitOf t_sights t_systems t_own t_cross t_curveLong t_wallFirst), IA E 21 t_push, IA E 100 t_speckLow, IA E 100 t_speckHigh, IA E 100 t_sourceHold, IA E 100 t_cur_, IA E 100 t_was_, IA E 100 t_feel_, IA E 21 t_pushAt_, JA E 6 t_curSum_, IA E 100 t_row, IA E 100 t_marked, JA E 6 t_sums, IA E 3 t_distance, IA E 1536 t_fitted_] h) 294 [some (.ref a_t), none, none, none, none, none, none, none, none, none, none] []) (hs : m_X11_fit_201 t_baseLow t_baseHigh t_fits t_push t_speckLow t_speckHigh t_sourceHold t_cur t_was t_feel t_pushAt t_curSum t_row t_marked t_sums t_distance t_fitted v1 v5 v6 v7 v8 ag k_294 = some r) : G l E b0 M_X11_fit (fun _ => True) (ZM E b0 (some (vI r.1)) (ov [a_t, (a_t + 6), (a_t + 8), (a_t + 9), (a_t + 10), (a_t + 24), (a_t + 25), (a_t + 26), (a_t + 27), (a_t + 28), (a_t + 29), (a_t + 30), (a_t + 31), (a_t + 40), (a_t + 41)] [.inr (11, fsX11 a_t t_thrown t_taped t_p t_fault t_baseLow t_baseHigh t_newBaseLow t_newBaseHigh t_from t_knots t_lines t_chosen t_undos t_redos t_aimedMany r.2.1 r.2.2.1 t_sights t_systems t_own t_cross t_curveLong t_wallFirst), IA E 21 t_push, IA E 100 t_speckLow, IA E 100 t_speckHigh, IA E 100 t_sourceHold, IA E 100 r.2.2.2.1, IA E 100 r.2.2.2.2.1, IA E 100 r.2.2.2.2.2.1, IA E 21 r.2.2.2.2.2.2.1, JA E 6 r.2.2.2.2.2.2.2.1, IA E 100 t_row, IA E 100 t_marked, JA E 6 t_sums, IA E 3 r.2.2.2.2.2.2.2.2.1, IA E 1536 r.2.2.2.2.2.2.2.2.2] h) n (inI r.1 ∧ inI r.2.1 ∧ inI r.2.2.1 ∧ okA r.2.2.2.1 ∧ okA r.2.2.2.2.1 ∧ okA r.2.2.2.2.2.1 ∧ okA r.2.2.2.2.2.2.1 ∧ okJ r.2.2.2.2.2.2.2.1 ∧ okA r.2.2.2.2.2.2.2.2.1 ∧ okA r.2.2.2.2.2.2.2.2.2) 0 0) 0 0 n (ov [a_t, (a_t + 6), (a_t + 8), (a_t + 9), (a_t + 10), (a_t + 24), (a_t + 25), (a_t + 26), (a_t + 27), (a_t + 28), (a_t + 29), (a_t + 30), (a_t + 31), (a_t + 40), (a_t + 41)] [.inr (11, fsX11 a_t t_thrown t_taped t_p t_fault t_baseLow t_baseHigh t_newBaseLow t_newBaseHigh t_from t_knots t_lines t_chosen t_undos t_redos t_aimedMany t_fits t_fitOf t_sights t_systems t_own t_cross t_curveLong t_wallFirst), IA E 21 t_push, IA E 100 t_speckLow, IA E 100 t_speckHigh, IA E 100 t_sourceHold, IA E 100 t_cur, IA E 100 t_was, IA E 100 t_feel, IA E 21 t_pushAt, JA E 6 t_curSum, IA E 100 t_row, IA E 100 t_marked, JA E 6 t_sums, IA E 3 t_distance, IA E 1536 t_fitted] h) 201 [some (.ref a_t), some (vI v1), none, none, none, some (vI v5), some (vI v6), some (vI v7), some (vI v8), none, none] [] := by
  rw [m_X11_fit_201] at hs
  refine g_aload_n e_X11_fit_201 rfl ?_
  refine g_aload_n e_X11_fit_202 rfl ?_
  refine g_get 0 41 ao rfl rfl fsX11_g41 fl_X11_100 e_X11_fit_203 ?_
  refine g_iconst e_X11_fit_206 ?_
  refine g_aload_n e_X11_fit_207 rfl ?_
  refine g_get 0 42 ao rfl rfl fsX11_g42 fl_X11_103 e_X11_fit_208 ?_
  refine g_iconst e_X11_fit_211 ?_
  obtain ⟨y14, hy14, hs⟩ := bind_elim hs
  refine g_callVv [.ref (a_t + 30), vI 0, .ref (a_t + 31), vI 0] cv_X11_346 ⟨rfl, rfl, Nat.le_of_ble_eq_true rfl, Nat.le_of_ble_eq_true rfl⟩ (Ct_heap (ct_X11_takes (a_t := a_t) (a_p1 := (a_t + 30)) (a_p3 := (a_t + 31)) (AO_call [0, 5, 9, 11, 12] ao (by decide) rfl) (by omega) (by omega) (FA_call [0, 5, 9, 11, 12] ao.1 rfl rfl) ok_t_cur ok_t_curSum ok_t_marked ok_t_sums (by decide : inI 0) (by decide : inI 0) hy14) (ov_call (esn := [.inr (11, fsX11 a_t t_thrown t_taped t_p t_fault t_baseLow t_baseHigh t_newBaseLow t_newBaseHigh t_from t_knots t_lines t_chosen t_undos t_redos t_aimedMany t_fits t_fitOf t_sights t_systems t_own t_cross t_curveLong t_wallFirst), IA E 21 t_push, IA E 100 t_speckLow, IA E 100 t_speckHigh, IA E 100 t_sourceHold, IA E 100 y14.1, IA E 100 t_was, IA E 100 t_feel, IA E 21 t_pushAt, JA E 6 y14.2, IA E 100 t_row, IA E 100 t_marked, JA E 6 t_sums, IA E 3 t_distance, IA E 1536 t_fitted]) [0, 5, 9, 11, 12] ao.1 rfl rfl rfl rfl)) e_X11_fit_212 (ao.2 0 _ rfl) (ov_get 0 ao.1 rfl rfl) rfl rfl rfl (Nat.le_of_ble_eq_true rfl) ⟨Nat.le_refl _, Nat.le_refl _⟩ (fun Py14 => ?_)
  refine g_aload_n e_X11_fit_215 rfl ?_
  refine g_iload e_X11_fit_216 rfl ?_
  refine g_iload e_X11_fit_218 rfl ?_
  refine g_iconst e_X11_fit_220 ?_
  obtain ⟨y15, hy15, hs⟩ := bind_elim hs
  refine g_callVr [vI v6, vI v7, vI 0] cv_X11_368 ⟨rfl, rfl, Nat.le_of_ble_eq_true rfl, Nat.le_of_ble_eq_true rfl⟩ (Ct_heap (ct_X11_runs (a_t := a_t) (AO_call [0, 2, 3, 4, 5, 6, 7, 8, 9] ao (by decide) rfl) (FA_call [0, 2, 3, 4, 5, 6, 7, 8, 9] ao.1 rfl rfl) ok_t_baseLow ok_t_baseHigh ok_t_speckLow ok_t_speckHigh ok_t_sourceHold Py14.1 ok_t_was ok_t_feel ok_t_pushAt Py14.2 ok_v6 ok_v7 (by decide : inI 0) hy15) (ov_call (esn := [.inr (11, fsX11 a_t t_thrown t_taped t_p t_fault t_baseLow t_baseHigh t_newBaseLow t_newBaseHigh t_from t_knots t_lines t_chosen t_undos t_redos t_aimedMany t_fits t_fitOf t_sights t_systems t_own t_cross t_curveLong t_wallFirst), IA E 21 t_push, IA E 100 t_speckLow, IA E 100 t_speckHigh, IA E 100 t_sourceHold, IA E 100 y15.2.1, IA E 100 y15.2.2.1, IA E 100 y15.2.2.2.1, IA E 21 t_pushAt, JA E 6 y15.2.2.2.2, IA E 100 t_row, IA E 100 t_marked, JA E 6 t_sums, IA E 3 t_distance, IA E 1536 t_fitted]) [0, 2, 3, 4, 5, 6, 7, 8, 9] ao.1 rfl rfl rfl rfl)) e_X11_fit_221 (ao.2 0 _ rfl) (ov_get 0 ao.1 rfl rfl) rfl rfl rfl (Nat.le_of_ble_eq_true rfl) ⟨Nat.le_refl _, Nat.le_refl _⟩ (fun Py15 => ?_)
  refine g_istore e_X11_fit_224 st1_9 rfl ?_
  refine g_aload_n e_X11_fit_226 rfl ?_
  refine g_aload_n e_X11_fit_227 rfl ?_
  refine g_get 0 40 ao rfl rfl fsX11_g40 fl_X11_97 e_X11_fit_228 ?_
  obtain ⟨y16, hy16, hs⟩ := bind_elim hs
  refine g_callVr [.ref (a_t + 29)] cv_X11_371 ⟨rfl, rfl, Nat.le_of_ble_eq_true rfl, Nat.le_of_ble_eq_true rfl⟩ (ct_X11_isAs (a_t := a_t) (a_p1 := (a_t + 29)) (AO_call [0, 5, 10] ao (by decide) rfl) (by omega) (FA_call [0, 5, 10] ao.1 rfl rfl) Py15.2.1 ok_t_row hy16) e_X11_fit_231 (ao.2 0 _ rfl) (ov_get 0 ao.1 rfl rfl) rfl rfl rfl (Nat.le_of_ble_eq_true rfl) ⟨Nat.le_refl _, Nat.le_refl _⟩ (fun Py16 => ?_)
  refine g_if_eq e_X11_fit_234 (inZ_I Py16) hs (fun c234 hs => ?_) (fun c234 hs => ?_)
  · exact g_mask [true, true, true, true, true, true, true, true, true, false, true] (g_X11_fit_288 ao ok_t_baseLow ok_t_baseHigh ok_t_fits ok_t_fitOf ok_t_push ok_t_speckLow ok_t_speckHigh ok_t_sourceHold Py15.2.1 Py15.2.2.1 Py15.2.2.2.1 ok_t_pushAt Py15.2.2.2.2 ok_t_row ok_t_marked ok_t_sums ok_t_distance ok_t_fitted ok_v1 ok_v5 ok_v6 ok_v7 ok_v8 hag hk_294 hs)
  · refine g_iconst e_X11_fit_237 ?_
    refine g_istore e_X11_fit_238 st1_10 rfl ?_
    exact g_mask [true, true, true, true, true, true, true, true, true, false, true] (g_X11_fit_240 ao ok_t_baseLow ok_t_baseHigh ok_t_fits ok_t_fitOf ok_t_push ok_t_speckLow ok_t_speckHigh ok_t_sourceHold Py15.2.1 Py15.2.2.1 Py15.2.2.2.1 ok_t_pushAt Py15.2.2.2.2 ok_t_row ok_t_marked ok_t_sums ok_t_distance ok_v1 ok_v5 ok_v6 ok_v7 ok_v8 (hk_278 := by
      intro t_fitted' v10' ok_t_fitted' ok_v10' hs
      exact g_X11_fit_278 ao ok_t_baseLow ok_t_baseHigh ok_t_fits ok_t_fitOf ok_t_push ok_t_speckLow ok_t_speckHigh ok_t_sourceHold Py15.2.1 Py15.2.2.1 Py15.2.2.2.1 ok_t_pushAt Py15.2.2.2.2 ok_t_row ok_t_marked ok_t_sums ok_t_distance ok_t_fitted' ok_v1 ok_v5 ok_v6 ok_v7 ok_v8 hag hk_294 hs) FU _ _ ok_t_fitted (by decide : inI 0) hs)

noncomputable def m_X11_fit_143 (t_baseLow : Int) (t_baseHigh : Int) (t_push : Nat → Int) (t_speckLow : Nat → Int) (t_speckHigh : Nat → Int) (t_sourceHold : Nat → Int) (t_row : Nat → Int) (t_marked : Nat → Int) (t_sums : Nat → Int) (t_distance : Nat → Int) (v1 : Int) (v5 : Int) (v6 : Int) (v7 : Int) (k_294 : Int → (Nat → Int) → (Nat → Int) → (Nat → Int) → (Nat → Int) → (Nat → Int) → (Nat → Int) → Int → Option (Int × Int × Int × (Nat → Int) × (Nat → Int) × (Nat → Int) × (Nat → Int) × (Nat → Int) × (Nat → Int) × (Nat → Int))) : Nat → Int → (Nat → Int) → (Nat → Int) → (Nat → Int) → (Nat → Int) → (Nat → Int) → (Nat → Int) → Int → Option (Int × Int × Int × (Nat → Int) × (Nat → Int) × (Nat → Int) × (Nat → Int) × (Nat → Int) × (Nat → Int) × (Nat → Int))
  | 0, _, _, _, _, _, _, _, _ => none
  | F + 1, t_fits, t_cur, t_was, t_feel, t_pushAt, t_curSum, t_fitted, v8 => if (bShl 1 (3 * v1)) ≤ v8 then (k_294 t_fits t_cur t_was t_feel t_pushAt t_curSum t_fitted v8) else ((m_X11_pushesAsRead t_push t_pushAt).bind (fun y9 => m_X11_fit_160 t_distance v1 v5 v8 (fun t_pushAt' v9' => m_X11_fit_201 t_baseLow t_baseHigh t_fits t_push t_speckLow t_speckHigh t_sourceHold t_cur t_was t_feel t_pushAt' t_curSum t_row t_marked t_sums t_distance t_fitted v1 v5 v6 v7 v8 (m_X11_fit_143 t_baseLow t_baseHigh t_push t_speckLow t_speckHigh t_sourceHold t_row t_marked t_sums t_distance v1 v5 v6 v7 k_294 F) k_294) FU y9 0))

set_option maxRecDepth 10000 in
set_option maxHeartbeats 8000000 in
theorem g_X11_fit_143 {l : Launch} {E : EE} {b0 n : Nat} {h : AH} {a_t : Nat} {t_thrown t_taped t_p t_fault t_baseLow t_baseHigh t_newBaseLow t_newBaseHigh t_from t_knots t_lines t_chosen t_undos t_redos t_aimedMany t_fitOf t_sights t_systems t_own t_cross t_curveLong t_wallFirst v1 v5 v6 v7 : Int} {t_push t_speckLow t_speckHigh t_sourceHold t_row t_marked t_sums t_distance : Nat → Int} {r : Int × Int × Int × (Nat → Int) × (Nat → Int) × (Nat → Int) × (Nat → Int) × (Nat → Int) × (Nat → Int) × (Nat → Int)} {k_294 : Int → (Nat → Int) → (Nat → Int) → (Nat → Int) → (Nat → Int) → (Nat → Int) → (Nat → Int) → Int → Option (Int × Int × Int × (Nat → Int) × (Nat → Int) × (Nat → Int) × (Nat → Int) × (Nat → Int) × (Nat → Int) × (Nat → Int))} (ao : AO b0 n [a_t, (a_t + 6), (a_t + 8), (a_t + 9), (a_t + 10), (a_t + 24), (a_t + 25), (a_t + 26), (a_t + 27), (a_t + 28), (a_t + 29), (a_t + 30), (a_t + 31), (a_t + 40), (a_t + 41)]) (ok_t_baseLow : inI t_baseLow) (ok_t_baseHigh : inI t_baseHigh) (ok_t_fitOf : inI t_fitOf) (ok_t_push : okA t_push) (ok_t_speckLow : okA t_speckLow) (ok_t_speckHigh : okA t_speckHigh) (ok_t_sourceHold : okA t_sourceHold) (ok_t_row : okA t_row) (ok_t_marked : okA t_marked) (ok_t_sums : okJ t_sums) (ok_t_distance : okA t_distance) (ok_v1 : inI v1) (ok_v5 : inI v5) (ok_v6 : inI v6) (ok_v7 : inI v7) (hk_294 : ∀ (t_fits_ : Int) (t_cur_ : Nat → Int) (t_was_ : Nat → Int) (t_feel_ : Nat → Int) (t_pushAt_ : Nat → Int) (t_curSum_ : Nat → Int) (t_fitted_ : Nat → Int) (v8_ : Int), inI t_fits_ → okA t_cur_ → okA t_was_ → okA t_feel_ → okA t_pushAt_ → okJ t_curSum_ → okA t_fitted_ → inI v8_ → k_294 t_fits_ t_cur_ t_was_ t_feel_ t_pushAt_ t_curSum_ t_fitted_ v8_ = some r → G l E b0 M_X11_fit (fun _ => True) (ZM E b0 (some (vI r.1)) (ov [a_t, (a_t + 6), (a_t + 8), (a_t + 9), (a_t + 10), (a_t + 24), (a_t + 25), (a_t + 26), (a_t + 27), (a_t + 28), (a_t + 29), (a_t + 30), (a_t + 31), (a_t + 40), (a_t + 41)] [.inr (11, fsX11 a_t t_thrown t_taped t_p t_fault t_baseLow t_baseHigh t_newBaseLow t_newBaseHigh t_from t_knots t_lines t_chosen t_undos t_redos t_aimedMany r.2.1 r.2.2.1 t_sights t_systems t_own t_cross t_curveLong t_wallFirst), IA E 21 t_push, IA E 100 t_speckLow, IA E 100 t_speckHigh, IA E 100 t_sourceHold, IA E 100 r.2.2.2.1, IA E 100 r.2.2.2.2.1, IA E 100 r.2.2.2.2.2.1, IA E 21 r.2.2.2.2.2.2.1, JA E 6 r.2.2.2.2.2.2.2.1, IA E 100 t_row, IA E 100 t_marked, JA E 6 t_sums, IA E 3 r.2.2.2.2.2.2.2.2.1, IA E 1536 r.2.2.2.2.2.2.2.2.2] h) n (inI r.1 ∧ inI r.2.1 ∧ inI r.2.2.1 ∧ okA r.2.2.2.1 ∧ okA r.2.2.2.2.1 ∧ okA r.2.2.2.2.2.1 ∧ okA r.2.2.2.2.2.2.1 ∧ okJ r.2.2.2.2.2.2.2.1 ∧ okA r.2.2.2.2.2.2.2.2.1 ∧ okA r.2.2.2.2.2.2.2.2.2) 0 0) 0 0 n (ov [a_t, (a_t + 6), (a_t + 8), (a_t + 9), (a_t + 10), (a_t + 24), (a_t + 25), (a_t + 26), (a_t + 27), (a_t + 28), (a_t + 29), (a_t + 30), (a_t + 31), (a_t + 40), (a_t + 41)] [.inr (11, fsX11 a_t t_thrown t_taped t_p t_fault t_baseLow t_baseHigh t_newBaseLow t_newBaseHigh t_from t_knots t_lines t_chosen t_undos t_redos t_aimedMany t_fits_ t_fitOf t_sights t_systems t_own t_cross t_curveLong t_wallFirst), IA E 21 t_push, IA E 100 t_speckLow, IA E 100 t_speckHigh, IA E 100 t_sourceHold, IA E 100 t_cur_, IA E 100 t_was_, IA E 100 t_feel_, IA E 21 t_pushAt_, JA E 6 t_curSum_, IA E 100 t_row, IA E 100 t_marked, JA E 6 t_sums, IA E 3 t_distance, IA E 1536 t_fitted_] h) 294 [some (.ref a_t), none, none, none, none, none, none, none, none, none, none] []) :
    ∀ (F : Nat) (t_fits : Int) (t_cur : Nat → Int) (t_was : Nat → Int) (t_feel : Nat → Int) (t_pushAt : Nat → Int) (t_curSum : Nat → Int) (t_fitted : Nat → Int) (v8 : Int), inI t_fits → okA t_cur → okA t_was → okA t_feel → okA t_pushAt → okJ t_curSum → okA t_fitted → inI v8 → m_X11_fit_143 t_baseLow t_baseHigh t_push t_speckLow t_speckHigh t_sourceHold t_row t_marked t_sums t_distance v1 v5 v6 v7 k_294 F t_fits t_cur t_was t_feel t_pushAt t_curSum t_fitted v8 = some r → G l E b0 M_X11_fit (fun _ => True) (ZM E b0 (some (vI r.1)) (ov [a_t, (a_t + 6), (a_t + 8), (a_t + 9), (a_t + 10), (a_t + 24), (a_t + 25), (a_t + 26), (a_t + 27), (a_t + 28), (a_t + 29), (a_t + 30), (a_t + 31), (a_t + 40), (a_t + 41)] [.inr (11, fsX11 a_t t_thrown t_taped t_p t_fault t_baseLow t_baseHigh t_newBaseLow t_newBaseHigh t_from t_knots t_lines t_chosen t_undos t_redos t_aimedMany r.2.1 r.2.2.1 t_sights t_systems t_own t_cross t_curveLong t_wallFirst), IA E 21 t_push, IA E 100 t_speckLow, IA E 100 t_speckHigh, IA E 100 t_sourceHold, IA E 100 r.2.2.2.1, IA E 100 r.2.2.2.2.1, IA E 100 r.2.2.2.2.2.1, IA E 21 r.2.2.2.2.2.2.1, JA E 6 r.2.2.2.2.2.2.2.1, IA E 100 t_row, IA E 100 t_marked, JA E 6 t_sums, IA E 3 r.2.2.2.2.2.2.2.2.1, IA E 1536 r.2.2.2.2.2.2.2.2.2] h) n (inI r.1 ∧ inI r.2.1 ∧ inI r.2.2.1 ∧ okA r.2.2.2.1 ∧ okA r.2.2.2.2.1 ∧ okA r.2.2.2.2.2.1 ∧ okA r.2.2.2.2.2.2.1 ∧ okJ r.2.2.2.2.2.2.2.1 ∧ okA r.2.2.2.2.2.2.2.2.1 ∧ okA r.2.2.2.2.2.2.2.2.2) 0 0) 0 0 n (ov [a_t, (a_t + 6), (a_t + 8), (a_t + 9), (a_t + 10), (a_t + 24), (a_t + 25), (a_t + 26), (a_t + 27), (a_t + 28), (a_t + 29), (a_t + 30), (a_t + 31), (a_t + 40), (a_t + 41)] [.inr (11, fsX11 a_t t_thrown t_taped t_p t_fault t_baseLow t_baseHigh t_newBaseLow t_newBaseHigh t_from t_knots t_lines t_chosen t_undos t_redos t_aimedMany t_fits t_fitOf t_sights t_systems t_own t_cross t_curveLong t_wallFirst), IA E 21 t_push, IA E 100 t_speckLow, IA E 100 t_speckHigh, IA E 100 t_sourceHold, IA E 100 t_cur, IA E 100 t_was, IA E 100 t_feel, IA E 21 t_pushAt, JA E 6 t_curSum, IA E 100 t_row, IA E 100 t_marked, JA E 6 t_sums, IA E 3 t_distance, IA E 1536 t_fitted] h) 143 [some (.ref a_t), some (vI v1), none, none, none, some (vI v5), some (vI v6), some (vI v7), some (vI v8), none, none] [] := by
  intro F
  induction F with
  | zero =>
    intro t_fits t_cur t_was t_feel t_pushAt t_curSum t_fitted v8 ok_t_fits ok_t_cur ok_t_was ok_t_feel ok_t_pushAt ok_t_curSum ok_t_fitted ok_v8 hs
    rw [m_X11_fit_143] at hs
    cases hs
  | succ F ih =>
    intro t_fits t_cur t_was t_feel t_pushAt t_curSum t_fitted v8 ok_t_fits ok_t_cur ok_t_was ok_t_feel ok_t_pushAt ok_t_curSum ok_t_fitted ok_v8 hs
    rw [m_X11_fit_143] at hs
    refine g_iload e_X11_fit_143 rfl ?_
    refine g_iconst e_X11_fit_145 ?_
    refine g_iconst e_X11_fit_146 ?_
    refine g_iload_n e_X11_fit_147 rfl ?_
    refine g_imul e_X11_fit_148 ?_
    refine g_ishl e_X11_fit_149 ?_
    refine g_icmp_ge e_X11_fit_150 ok_v8 (bShl_I _ _) hs (fun c150 hs => ?_) (fun c150 hs => ?_)
    · exact g_mask [true, false, true, true, true, false, false, false, false, true, true] (hk_294 _ _ _ _ _ _ _ _ ok_t_fits ok_t_cur ok_t_was ok_t_feel ok_t_pushAt ok_t_curSum ok_t_fitted ok_v8 hs)
    · refine g_aload_n e_X11_fit_153 rfl ?_
      obtain ⟨y9, hy9, hs⟩ := bind_elim hs
      refine g_callVv [] cv_X11_343 ⟨rfl, rfl, Nat.le_of_ble_eq_true rfl, Nat.le_of_ble_eq_true rfl⟩ (Ct_heap (ct_X11_pushesAsRead (a_t := a_t) (AO_call [0, 1, 8] ao (by decide) rfl) (FA_call [0, 1, 8] ao.1 rfl rfl) ok_t_push ok_t_pushAt hy9) (ov_call (esn := [.inr (11, fsX11 a_t t_thrown t_taped t_p t_fault t_baseLow t_baseHigh t_newBaseLow t_newBaseHigh t_from t_knots t_lines t_chosen t_undos t_redos t_aimedMany t_fits t_fitOf t_sights t_systems t_own t_cross t_curveLong t_wallFirst), IA E 21 t_push, IA E 100 t_speckLow, IA E 100 t_speckHigh, IA E 100 t_sourceHold, IA E 100 t_cur, IA E 100 t_was, IA E 100 t_feel, IA E 21 y9, JA E 6 t_curSum, IA E 100 t_row, IA E 100 t_marked, JA E 6 t_sums, IA E 3 t_distance, IA E 1536 t_fitted]) [0, 1, 8] ao.1 rfl rfl rfl rfl)) e_X11_fit_154 (ao.2 0 _ rfl) (ov_get 0 ao.1 rfl rfl) rfl rfl rfl (Nat.le_of_ble_eq_true rfl) ⟨Nat.le_refl _, Nat.le_refl _⟩ (fun Py9 => ?_)
      refine g_iconst e_X11_fit_157 ?_
      refine g_istore e_X11_fit_158 st1_9 rfl ?_
      exact g_X11_fit_160 ao ok_t_baseLow ok_t_baseHigh ok_t_fits ok_t_fitOf ok_t_push ok_t_speckLow ok_t_speckHigh ok_t_sourceHold ok_t_cur ok_t_was ok_t_feel ok_t_curSum ok_t_row ok_t_marked ok_t_sums ok_t_distance ok_t_fitted ok_v1 ok_v5 ok_v6 ok_v7 ok_v8 (hk_201 := by
      intro t_pushAt' v9' ok_t_pushAt' ok_v9' hs
      exact g_X11_fit_201 ao ok_t_baseLow ok_t_baseHigh ok_t_fits ok_t_fitOf ok_t_push ok_t_speckLow ok_t_speckHigh ok_t_sourceHold ok_t_cur ok_t_was ok_t_feel ok_t_pushAt' ok_t_curSum ok_t_row ok_t_marked ok_t_sums ok_t_distance ok_t_fitted ok_v1 ok_v5 ok_v6 ok_v7 ok_v8 ih hk_294 hs) FU _ _ Py9 (by decide : inI 0) hs

noncomputable def m_X11_fit_294 (t_fits : Int) (t_fitOf : Int) (t_cur : Nat → Int) (t_was : Nat → Int) (t_feel : Nat → Int) (t_pushAt : Nat → Int) (t_curSum : Nat → Int) (t_distance : Nat → Int) (t_fitted : Nat → Int) : Option (Int × Int × Int × (Nat → Int) × (Nat → Int) × (Nat → Int) × (Nat → Int) × (Nat → Int) × (Nat → Int) × (Nat → Int)) :=
  some (t_fits, t_fits, t_fitOf, t_cur, t_was, t_feel, t_pushAt, t_curSum, t_distance, t_fitted)

set_option maxRecDepth 10000 in
set_option maxHeartbeats 8000000 in
theorem g_X11_fit_294 {l : Launch} {E : EE} {b0 n : Nat} {h : AH} {a_t : Nat} {t_thrown t_taped t_p t_fault t_baseLow t_baseHigh t_newBaseLow t_newBaseHigh t_from t_knots t_lines t_chosen t_undos t_redos t_aimedMany t_fits t_fitOf t_sights t_systems t_own t_cross t_curveLong t_wallFirst : Int} {t_push t_speckLow t_speckHigh t_sourceHold t_cur t_was t_feel t_pushAt t_curSum t_row t_marked t_sums t_distance t_fitted : Nat → Int} {r : Int × Int × Int × (Nat → Int) × (Nat → Int) × (Nat → Int) × (Nat → Int) × (Nat → Int) × (Nat → Int) × (Nat → Int)} (ao : AO b0 n [a_t, (a_t + 6), (a_t + 8), (a_t + 9), (a_t + 10), (a_t + 24), (a_t + 25), (a_t + 26), (a_t + 27), (a_t + 28), (a_t + 29), (a_t + 30), (a_t + 31), (a_t + 40), (a_t + 41)]) (ok_t_baseLow : inI t_baseLow) (ok_t_baseHigh : inI t_baseHigh) (ok_t_fits : inI t_fits) (ok_t_fitOf : inI t_fitOf) (ok_t_push : okA t_push) (ok_t_speckLow : okA t_speckLow) (ok_t_speckHigh : okA t_speckHigh) (ok_t_sourceHold : okA t_sourceHold) (ok_t_cur : okA t_cur) (ok_t_was : okA t_was) (ok_t_feel : okA t_feel) (ok_t_pushAt : okA t_pushAt) (ok_t_curSum : okJ t_curSum) (ok_t_row : okA t_row) (ok_t_marked : okA t_marked) (ok_t_sums : okJ t_sums) (ok_t_distance : okA t_distance) (ok_t_fitted : okA t_fitted) (hs : m_X11_fit_294 t_fits t_fitOf t_cur t_was t_feel t_pushAt t_curSum t_distance t_fitted = some r) : G l E b0 M_X11_fit (fun _ => True) (ZM E b0 (some (vI r.1)) (ov [a_t, (a_t + 6), (a_t + 8), (a_t + 9), (a_t + 10), (a_t + 24), (a_t + 25), (a_t + 26), (a_t + 27), (a_t + 28), (a_t + 29), (a_t + 30), (a_t + 31), (a_t + 40), (a_t + 41)] [.inr (11, fsX11 a_t t_thrown t_taped t_p t_fault t_baseLow t_baseHigh t_newBaseLow t_newBaseHigh t_from t_knots t_lines t_chosen t_undos t_redos t_aimedMany r.2.1 r.2.2.1 t_sights t_systems t_own t_cross t_curveLong t_wallFirst), IA E 21 t_push, IA E 100 t_speckLow, IA E 100 t_speckHigh, IA E 100 t_sourceHold, IA E 100 r.2.2.2.1, IA E 100 r.2.2.2.2.1, IA E 100 r.2.2.2.2.2.1, IA E 21 r.2.2.2.2.2.2.1, JA E 6 r.2.2.2.2.2.2.2.1, IA E 100 t_row, IA E 100 t_marked, JA E 6 t_sums, IA E 3 r.2.2.2.2.2.2.2.2.1, IA E 1536 r.2.2.2.2.2.2.2.2.2] h) n (inI r.1 ∧ inI r.2.1 ∧ inI r.2.2.1 ∧ okA r.2.2.2.1 ∧ okA r.2.2.2.2.1 ∧ okA r.2.2.2.2.2.1 ∧ okA r.2.2.2.2.2.2.1 ∧ okJ r.2.2.2.2.2.2.2.1 ∧ okA r.2.2.2.2.2.2.2.2.1 ∧ okA r.2.2.2.2.2.2.2.2.2) 0 0) 0 0 n (ov [a_t, (a_t + 6), (a_t + 8), (a_t + 9), (a_t + 10), (a_t + 24), (a_t + 25), (a_t + 26), (a_t + 27), (a_t + 28), (a_t + 29), (a_t + 30), (a_t + 31), (a_t + 40), (a_t + 41)] [.inr (11, fsX11 a_t t_thrown t_taped t_p t_fault t_baseLow t_baseHigh t_newBaseLow t_newBaseHigh t_from t_knots t_lines t_chosen t_undos t_redos t_aimedMany t_fits t_fitOf t_sights t_systems t_own t_cross t_curveLong t_wallFirst), IA E 21 t_push, IA E 100 t_speckLow, IA E 100 t_speckHigh, IA E 100 t_sourceHold, IA E 100 t_cur, IA E 100 t_was, IA E 100 t_feel, IA E 21 t_pushAt, JA E 6 t_curSum, IA E 100 t_row, IA E 100 t_marked, JA E 6 t_sums, IA E 3 t_distance, IA E 1536 t_fitted] h) 294 [some (.ref a_t), none, none, none, none, none, none, none, none, none, none] [] := by
  rw [m_X11_fit_294] at hs
  refine g_aload_n e_X11_fit_294 rfl ?_
  refine g_get 0 54 ao rfl rfl fsX11_g54 fl_X11_383 e_X11_fit_295 ?_
  obtain rfl := Option.some.inj hs
  exact g_iret rfl ⟨ok_t_fits, ok_t_fits, ok_t_fitOf, ok_t_cur, ok_t_was, ok_t_feel, ok_t_pushAt, ok_t_curSum, ok_t_distance, ok_t_fitted⟩ e_X11_fit_298

noncomputable def m_X11_fit_108 (t_baseLow : Int) (t_baseHigh : Int) (t_fits : Int) (t_fitOf : Int) (t_push : Nat → Int) (t_speckLow : Nat → Int) (t_speckHigh : Nat → Int) (t_sourceHold : Nat → Int) (t_cur : Nat → Int) (t_was : Nat → Int) (t_feel : Nat → Int) (t_pushAt : Nat → Int) (t_curSum : Nat → Int) (t_row : Nat → Int) (t_marked : Nat → Int) (t_sums : Nat → Int) (t_distance : Nat → Int) (t_fitted : Nat → Int) (v1 : Int) (v2 : Int) (v3 : Int) (v4 : Int) (v5 : Int) (v6 : Int) (v7 : Int) : Option (Int × Int × Int × (Nat → Int) × (Nat → Int) × (Nat → Int) × (Nat → Int) × (Nat → Int) × (Nat → Int) × (Nat → Int)) :=
  chk (inB 0 3) (chk (inB 1 3) (chk (inB 2 3) (m_X11_fit_143 t_baseLow t_baseHigh t_push t_speckLow t_speckHigh t_sourceHold t_row t_marked t_sums (up (up (up t_distance (Int.toNat 0) v2) (Int.toNat 1) v3) (Int.toNat 2) v4) v1 v5 v6 v7 (fun t_fits' t_cur' t_was' t_feel' t_pushAt' t_curSum' t_fitted' v8' => m_X11_fit_294 t_fits' v1 t_cur' t_was' t_feel' t_pushAt' t_curSum' (up (up (up t_distance (Int.toNat 0) v2) (Int.toNat 1) v3) (Int.toNat 2) v4) t_fitted') FU 0 t_cur t_was t_feel t_pushAt t_curSum t_fitted 0)))

set_option maxRecDepth 10000 in
set_option maxHeartbeats 8000000 in
theorem g_X11_fit_108 {l : Launch} {E : EE} {b0 n : Nat} {h : AH} {a_t : Nat} {t_thrown t_taped t_p t_fault t_baseLow t_baseHigh t_newBaseLow t_newBaseHigh t_from t_knots t_lines t_chosen t_undos t_redos t_aimedMany t_fits t_fitOf t_sights t_systems t_own t_cross t_curveLong t_wallFirst v1 v2 v3 v4 v5 v6 v7 : Int} {t_push t_speckLow t_speckHigh t_sourceHold t_cur t_was t_feel t_pushAt t_curSum t_row t_marked t_sums t_distance t_fitted : Nat → Int} {r : Int × Int × Int × (Nat → Int) × (Nat → Int) × (Nat → Int) × (Nat → Int) × (Nat → Int) × (Nat → Int) × (Nat → Int)} (ao : AO b0 n [a_t, (a_t + 6), (a_t + 8), (a_t + 9), (a_t + 10), (a_t + 24), (a_t + 25), (a_t + 26), (a_t + 27), (a_t + 28), (a_t + 29), (a_t + 30), (a_t + 31), (a_t + 40), (a_t + 41)]) (ok_t_baseLow : inI t_baseLow) (ok_t_baseHigh : inI t_baseHigh) (ok_t_fits : inI t_fits) (ok_t_fitOf : inI t_fitOf) (ok_t_push : okA t_push) (ok_t_speckLow : okA t_speckLow) (ok_t_speckHigh : okA t_speckHigh) (ok_t_sourceHold : okA t_sourceHold) (ok_t_cur : okA t_cur) (ok_t_was : okA t_was) (ok_t_feel : okA t_feel) (ok_t_pushAt : okA t_pushAt) (ok_t_curSum : okJ t_curSum) (ok_t_row : okA t_row) (ok_t_marked : okA t_marked) (ok_t_sums : okJ t_sums) (ok_t_distance : okA t_distance) (ok_t_fitted : okA t_fitted) (ok_v1 : inI v1) (ok_v2 : inI v2) (ok_v3 : inI v3) (ok_v4 : inI v4) (ok_v5 : inI v5) (ok_v6 : inI v6) (ok_v7 : inI v7) (hs : m_X11_fit_108 t_baseLow t_baseHigh t_fits t_fitOf t_push t_speckLow t_speckHigh t_sourceHold t_cur t_was t_feel t_pushAt t_curSum t_row t_marked t_sums t_distance t_fitted v1 v2 v3 v4 v5 v6 v7 = some r) : G l E b0 M_X11_fit (fun _ => True) (ZM E b0 (some (vI r.1)) (ov [a_t, (a_t + 6), (a_t + 8), (a_t + 9), (a_t + 10), (a_t + 24), (a_t + 25), (a_t + 26), (a_t + 27), (a_t + 28), (a_t + 29), (a_t + 30), (a_t + 31), (a_t + 40), (a_t + 41)] [.inr (11, fsX11 a_t t_thrown t_taped t_p t_fault t_baseLow t_baseHigh t_newBaseLow t_newBaseHigh t_from t_knots t_lines t_chosen t_undos t_redos t_aimedMany r.2.1 r.2.2.1 t_sights t_systems t_own t_cross t_curveLong t_wallFirst), IA E 21 t_push, IA E 100 t_speckLow, IA E 100 t_speckHigh, IA E 100 t_sourceHold, IA E 100 r.2.2.2.1, IA E 100 r.2.2.2.2.1, IA E 100 r.2.2.2.2.2.1, IA E 21 r.2.2.2.2.2.2.1, JA E 6 r.2.2.2.2.2.2.2.1, IA E 100 t_row, IA E 100 t_marked, JA E 6 t_sums, IA E 3 r.2.2.2.2.2.2.2.2.1, IA E 1536 r.2.2.2.2.2.2.2.2.2] h) n (inI r.1 ∧ inI r.2.1 ∧ inI r.2.2.1 ∧ okA r.2.2.2.1 ∧ okA r.2.2.2.2.1 ∧ okA r.2.2.2.2.2.1 ∧ okA r.2.2.2.2.2.2.1 ∧ okJ r.2.2.2.2.2.2.2.1 ∧ okA r.2.2.2.2.2.2.2.2.1 ∧ okA r.2.2.2.2.2.2.2.2.2) 0 0) 0 0 n (ov [a_t, (a_t + 6), (a_t + 8), (a_t + 9), (a_t + 10), (a_t + 24), (a_t + 25), (a_t + 26), (a_t + 27), (a_t + 28), (a_t + 29), (a_t + 30), (a_t + 31), (a_t + 40), (a_t + 41)] [.inr (11, fsX11 a_t t_thrown t_taped t_p t_fault t_baseLow t_baseHigh t_newBaseLow t_newBaseHigh t_from t_knots t_lines t_chosen t_undos t_redos t_aimedMany t_fits t_fitOf t_sights t_systems t_own t_cross t_curveLong t_wallFirst), IA E 21 t_push, IA E 100 t_speckLow, IA E 100 t_speckHigh, IA E 100 t_sourceHold, IA E 100 t_cur, IA E 100 t_was, IA E 100 t_feel, IA E 21 t_pushAt, JA E 6 t_curSum, IA E 100 t_row, IA E 100 t_marked, JA E 6 t_sums, IA E 3 t_distance, IA E 1536 t_fitted] h) 108 [some (.ref a_t), some (vI v1), some (vI v2), some (vI v3), some (vI v4), some (vI v5), some (vI v6), some (vI v7), none, none, none] [] := by
  rw [m_X11_fit_108] at hs
  refine g_aload_n e_X11_fit_108 rfl ?_
  refine g_get 0 56 ao rfl rfl fsX11_g56 fl_X11_130 e_X11_fit_109 ?_
  refine g_iconst e_X11_fit_112 ?_
  refine g_iload_n e_X11_fit_113 rfl ?_
  refine g_iast 13 ao rfl rfl ls_13 (Nat.le_of_ble_eq_true rfl) e_X11_fit_114 hs (fun hi6 hs => ?_)
  refine g_aload_n e_X11_fit_115 rfl ?_
  refine g_get 0 56 ao rfl rfl fsX11_g56 fl_X11_130 e_X11_fit_116 ?_
  refine g_iconst e_X11_fit_119 ?_
  refine g_iload_n e_X11_fit_120 rfl ?_
  refine g_iast 13 ao rfl rfl ls_13 (Nat.le_of_ble_eq_true rfl) e_X11_fit_121 hs (fun hi7 hs => ?_)
  refine g_aload_n e_X11_fit_122 rfl ?_
  refine g_get 0 56 ao rfl rfl fsX11_g56 fl_X11_130 e_X11_fit_123 ?_
  refine g_iconst e_X11_fit_126 ?_
  refine g_iload e_X11_fit_127 rfl ?_
  refine g_iast 13 ao rfl rfl ls_13 (Nat.le_of_ble_eq_true rfl) e_X11_fit_129 hs (fun hi8 hs => ?_)
  refine g_aload_n e_X11_fit_130 rfl ?_
  refine g_iconst e_X11_fit_131 ?_
  refine g_put 0 54 ao rfl rfl fsX11_k54 fsX11_s54 ls_0 fw_X11_383 (fun h => by cases h) ⟨rfl, rfl⟩ e_X11_fit_132 ?_
  refine g_aload_n e_X11_fit_135 rfl ?_
  refine g_iload_n e_X11_fit_136 rfl ?_
  refine g_put 0 55 ao rfl rfl fsX11_k55 fsX11_s55 ls_0 fw_X11_386 (fun h => by cases h) ⟨rfl, rfl⟩ e_X11_fit_137 ?_
  refine g_iconst e_X11_fit_140 ?_
  refine g_istore e_X11_fit_141 st1_8 rfl ?_
  exact g_mask [true, true, false, false, false, true, true, true, true, true, true] (g_X11_fit_143 ao ok_t_baseLow ok_t_baseHigh ok_v1 ok_t_push ok_t_speckLow ok_t_speckHigh ok_t_sourceHold ok_t_row ok_t_marked ok_t_sums (okA_up (okA_up (okA_up ok_t_distance ok_v2) ok_v3) ok_v4) ok_v1 ok_v5 ok_v6 ok_v7 (hk_294 := by
      intro t_fits' t_cur' t_was' t_feel' t_pushAt' t_curSum' t_fitted' v8' ok_t_fits' ok_t_cur' ok_t_was' ok_t_feel' ok_t_pushAt' ok_t_curSum' ok_t_fitted' ok_v8' hs
      exact g_X11_fit_294 ao ok_t_baseLow ok_t_baseHigh ok_t_fits' ok_v1 ok_t_push ok_t_speckLow ok_t_speckHigh ok_t_sourceHold ok_t_cur' ok_t_was' ok_t_feel' ok_t_pushAt' ok_t_curSum' ok_t_row ok_t_marked ok_t_sums (okA_up (okA_up (okA_up ok_t_distance ok_v2) ok_v3) ok_v4) ok_t_fitted' hs) FU _ _ _ _ _ _ _ _ (by decide : inI 0) ok_t_cur ok_t_was ok_t_feel ok_t_pushAt ok_t_curSum ok_t_fitted (by decide : inI 0) hs)

noncomputable def m_X11_fit_78 (t_baseLow : Int) (t_baseHigh : Int) (t_fits : Int) (t_fitOf : Int) (t_push : Nat → Int) (t_speckLow : Nat → Int) (t_speckHigh : Nat → Int) (t_sourceHold : Nat → Int) (t_cur : Nat → Int) (t_was : Nat → Int) (t_feel : Nat → Int) (t_pushAt : Nat → Int) (t_curSum : Nat → Int) (t_row : Nat → Int) (t_marked : Nat → Int) (t_sums : Nat → Int) (t_distance : Nat → Int) (t_fitted : Nat → Int) (v1 : Int) (v2 : Int) (v3 : Int) (v4 : Int) (v5 : Int) (v6 : Int) (v7 : Int) : Option (Int × Int × Int × (Nat → Int) × (Nat → Int) × (Nat → Int) × (Nat → Int) × (Nat → Int) × (Nat → Int) × (Nat → Int)) :=
  if v1 ≤ 2 then (m_X11_fit_108 t_baseLow t_baseHigh t_fits t_fitOf t_push t_speckLow t_speckHigh t_sourceHold t_cur t_was t_feel t_pushAt t_curSum t_row t_marked t_sums t_distance t_fitted v1 v2 v3 v4 v5 v6 v7) else ((m_X11_in v4 1 20).bind (fun y23 => if y23 = 0 then (some ((-1), t_fits, t_fitOf, t_cur, t_was, t_feel, t_pushAt, t_curSum, t_distance, t_fitted)) else (if v4 = v2 then (some ((-1), t_fits, t_fitOf, t_cur, t_was, t_feel, t_pushAt, t_curSum, t_distance, t_fitted)) else (if v4 = v3 then (some ((-1), t_fits, t_fitOf, t_cur, t_was, t_feel, t_pushAt, t_curSum, t_distance, t_fitted)) else (m_X11_fit_108 t_baseLow t_baseHigh t_fits t_fitOf t_push t_speckLow t_speckHigh t_sourceHold t_cur t_was t_feel t_pushAt t_curSum t_row t_marked t_sums t_distance t_fitted v1 v2 v3 v4 v5 v6 v7)))))

set_option maxRecDepth 10000 in
set_option maxHeartbeats 8000000 in
theorem g_X11_fit_78 {l : Launch} {E : EE} {b0 n : Nat} {h : AH} {a_t : Nat} {t_thrown t_taped t_p t_fault t_baseLow t_baseHigh t_newBaseLow t_newBaseHigh t_from t_knots t_lines t_chosen t_undos t_redos t_aimedMany t_fits t_fitOf t_sights t_systems t_own t_cross t_curveLong t_wallFirst v1 v2 v3 v4 v5 v6 v7 : Int} {t_push t_speckLow t_speckHigh t_sourceHold t_cur t_was t_feel t_pushAt t_curSum t_row t_marked t_sums t_distance t_fitted : Nat → Int} {r : Int × Int × Int × (Nat → Int) × (Nat → Int) × (Nat → Int) × (Nat → Int) × (Nat → Int) × (Nat → Int) × (Nat → Int)} (ao : AO b0 n [a_t, (a_t + 6), (a_t + 8), (a_t + 9), (a_t + 10), (a_t + 24), (a_t + 25), (a_t + 26), (a_t + 27), (a_t + 28), (a_t + 29), (a_t + 30), (a_t + 31), (a_t + 40), (a_t + 41)]) (ok_t_baseLow : inI t_baseLow) (ok_t_baseHigh : inI t_baseHigh) (ok_t_fits : inI t_fits) (ok_t_fitOf : inI t_fitOf) (ok_t_push : okA t_push) (ok_t_speckLow : okA t_speckLow) (ok_t_speckHigh : okA t_speckHigh) (ok_t_sourceHold : okA t_sourceHold) (ok_t_cur : okA t_cur) (ok_t_was : okA t_was) (ok_t_feel : okA t_feel) (ok_t_pushAt : okA t_pushAt) (ok_t_curSum : okJ t_curSum) (ok_t_row : okA t_row) (ok_t_marked : okA t_marked) (ok_t_sums : okJ t_sums) (ok_t_distance : okA t_distance) (ok_t_fitted : okA t_fitted) (ok_v1 : inI v1) (ok_v2 : inI v2) (ok_v3 : inI v3) (ok_v4 : inI v4) (ok_v5 : inI v5) (ok_v6 : inI v6) (ok_v7 : inI v7) (hs : m_X11_fit_78 t_baseLow t_baseHigh t_fits t_fitOf t_push t_speckLow t_speckHigh t_sourceHold t_cur t_was t_feel t_pushAt t_curSum t_row t_marked t_sums t_distance t_fitted v1 v2 v3 v4 v5 v6 v7 = some r) : G l E b0 M_X11_fit (fun _ => True) (ZM E b0 (some (vI r.1)) (ov [a_t, (a_t + 6), (a_t + 8), (a_t + 9), (a_t + 10), (a_t + 24), (a_t + 25), (a_t + 26), (a_t + 27), (a_t + 28), (a_t + 29), (a_t + 30), (a_t + 31), (a_t + 40), (a_t + 41)] [.inr (11, fsX11 a_t t_thrown t_taped t_p t_fault t_baseLow t_baseHigh t_newBaseLow t_newBaseHigh t_from t_knots t_lines t_chosen t_undos t_redos t_aimedMany r.2.1 r.2.2.1 t_sights t_systems t_own t_cross t_curveLong t_wallFirst), IA E 21 t_push, IA E 100 t_speckLow, IA E 100 t_speckHigh, IA E 100 t_sourceHold, IA E 100 r.2.2.2.1, IA E 100 r.2.2.2.2.1, IA E 100 r.2.2.2.2.2.1, IA E 21 r.2.2.2.2.2.2.1, JA E 6 r.2.2.2.2.2.2.2.1, IA E 100 t_row, IA E 100 t_marked, JA E 6 t_sums, IA E 3 r.2.2.2.2.2.2.2.2.1, IA E 1536 r.2.2.2.2.2.2.2.2.2] h) n (inI r.1 ∧ inI r.2.1 ∧ inI r.2.2.1 ∧ okA r.2.2.2.1 ∧ okA r.2.2.2.2.1 ∧ okA r.2.2.2.2.2.1 ∧ okA r.2.2.2.2.2.2.1 ∧ okJ r.2.2.2.2.2.2.2.1 ∧ okA r.2.2.2.2.2.2.2.2.1 ∧ okA r.2.2.2.2.2.2.2.2.2) 0 0) 0 0 n (ov [a_t, (a_t + 6), (a_t + 8), (a_t + 9), (a_t + 10), (a_t + 24), (a_t + 25), (a_t + 26), (a_t + 27), (a_t + 28), (a_t + 29), (a_t + 30), (a_t + 31), (a_t + 40), (a_t + 41)] [.inr (11, fsX11 a_t t_thrown t_taped t_p t_fault t_baseLow t_baseHigh t_newBaseLow t_newBaseHigh t_from t_knots t_lines t_chosen t_undos t_redos t_aimedMany t_fits t_fitOf t_sights t_systems t_own t_cross t_curveLong t_wallFirst), IA E 21 t_push, IA E 100 t_speckLow, IA E 100 t_speckHigh, IA E 100 t_sourceHold, IA E 100 t_cur, IA E 100 t_was, IA E 100 t_feel, IA E 21 t_pushAt, JA E 6 t_curSum, IA E 100 t_row, IA E 100 t_marked, JA E 6 t_sums, IA E 3 t_distance, IA E 1536 t_fitted] h) 78 [some (.ref a_t), some (vI v1), some (vI v2), some (vI v3), some (vI v4), some (vI v5), some (vI v6), some (vI v7), none, none, none] [] := by
  rw [m_X11_fit_78] at hs
  refine g_iload_n e_X11_fit_78 rfl ?_
  refine g_iconst e_X11_fit_79 ?_
  refine g_icmp_le e_X11_fit_80 ok_v1 (by decide : inI 2) hs (fun c80 hs => ?_) (fun c80 hs => ?_)
  · exact g_X11_fit_108 ao ok_t_baseLow ok_t_baseHigh ok_t_fits ok_t_fitOf ok_t_push ok_t_speckLow ok_t_speckHigh ok_t_sourceHold ok_t_cur ok_t_was ok_t_feel ok_t_pushAt ok_t_curSum ok_t_row ok_t_marked ok_t_sums ok_t_distance ok_t_fitted ok_v1 ok_v2 ok_v3 ok_v4 ok_v5 ok_v6 ok_v7 hs
  · refine g_iload e_X11_fit_83 rfl ?_
    refine g_iconst e_X11_fit_85 ?_
    refine g_bipush e_X11_fit_86 bp_20 ?_
    obtain ⟨y23, hy23, hs⟩ := bind_elim hs
    refine g_callSr [vI v4, vI 1, vI 20] cs_X11_226 ⟨rfl, rfl, Nat.le_of_ble_eq_true rfl, Nat.le_of_ble_eq_true rfl⟩ (ct_X11_in ⟨List.nodup_nil, fun i a h => by simp at h⟩ (fun i a e h => by simp at h) ok_v4 (by decide : inI 1) (by decide : inI 20) hy23) e_X11_fit_88 rfl rfl (Nat.le_of_ble_eq_true rfl) ⟨Nat.le_refl _, Nat.le_refl _⟩ (fun Py23 => ?_)
    refine g_if_eq e_X11_fit_91 (inZ_I Py23) hs (fun c91 hs => ?_) (fun c91 hs => ?_)
    · refine g_iconst e_X11_fit_106 ?_
      obtain rfl := Option.some.inj hs
      exact g_iret rfl ⟨(by decide : inI (-1)), ok_t_fits, ok_t_fitOf, ok_t_cur, ok_t_was, ok_t_feel, ok_t_pushAt, ok_t_curSum, ok_t_distance, ok_t_fitted⟩ e_X11_fit_107
    · refine g_iload e_X11_fit_94 rfl ?_
      refine g_iload_n e_X11_fit_96 rfl ?_
      refine g_icmp_eq e_X11_fit_97 ok_v4 ok_v2 hs (fun c97 hs => ?_) (fun c97 hs => ?_)
      · refine g_iconst e_X11_fit_106 ?_
        obtain rfl := Option.some.inj hs
        exact g_iret rfl ⟨(by decide : inI (-1)), ok_t_fits, ok_t_fitOf, ok_t_cur, ok_t_was, ok_t_feel, ok_t_pushAt, ok_t_curSum, ok_t_distance, ok_t_fitted⟩ e_X11_fit_107
      · refine g_iload e_X11_fit_100 rfl ?_
        refine g_iload_n e_X11_fit_102 rfl ?_
        refine g_icmp_ne e_X11_fit_103 ok_v4 ok_v3 hs (fun c103 hs => ?_) (fun c103 hs => ?_)
        · refine g_iconst e_X11_fit_106 ?_
          obtain rfl := Option.some.inj hs
          exact g_iret rfl ⟨(by decide : inI (-1)), ok_t_fits, ok_t_fitOf, ok_t_cur, ok_t_was, ok_t_feel, ok_t_pushAt, ok_t_curSum, ok_t_distance, ok_t_fitted⟩ e_X11_fit_107
        · exact g_X11_fit_108 ao ok_t_baseLow ok_t_baseHigh ok_t_fits ok_t_fitOf ok_t_push ok_t_speckLow ok_t_speckHigh ok_t_sourceHold ok_t_cur ok_t_was ok_t_feel ok_t_pushAt ok_t_curSum ok_t_row ok_t_marked ok_t_sums ok_t_distance ok_t_fitted ok_v1 ok_v2 ok_v3 ok_v4 ok_v5 ok_v6 ok_v7 hs

noncomputable def m_X11_fit_0 (t_baseLow : Int) (t_baseHigh : Int) (t_fits : Int) (t_fitOf : Int) (t_push : Nat → Int) (t_speckLow : Nat → Int) (t_speckHigh : Nat → Int) (t_sourceHold : Nat → Int) (t_cur : Nat → Int) (t_was : Nat → Int) (t_feel : Nat → Int) (t_pushAt : Nat → Int) (t_curSum : Nat → Int) (t_row : Nat → Int) (t_marked : Nat → Int) (t_sums : Nat → Int) (t_distance : Nat → Int) (t_fitted : Nat → Int) (v1 : Int) (v2 : Int) (v3 : Int) (v4 : Int) (v5 : Int) (v6 : Int) (v7 : Int) : Option (Int × Int × Int × (Nat → Int) × (Nat → Int) × (Nat → Int) × (Nat → Int) × (Nat → Int) × (Nat → Int) × (Nat → Int)) :=
  (m_X11_in v1 1 3).bind (fun y1 => if y1 = 0 then (some ((-1), t_fits, t_fitOf, t_cur, t_was, t_feel, t_pushAt, t_curSum, t_distance, t_fitted)) else ((m_X11_in v5 1 100).bind (fun y2 => if y2 = 0 then (some ((-1), t_fits, t_fitOf, t_cur, t_was, t_feel, t_pushAt, t_curSum, t_distance, t_fitted)) else ((m_X11_in v6 (-9999) 9999).bind (fun y3 => if y3 = 0 then (some ((-1), t_fits, t_fitOf, t_cur, t_was, t_feel, t_pushAt, t_curSum, t_distance, t_fitted)) else ((m_X11_in v7 0 200).bind (fun y4 => if y4 = 0 then (some ((-1), t_fits, t_fitOf, t_cur, t_was, t_feel, t_pushAt, t_curSum, t_distance, t_fitted)) else ((m_X11_in v2 1 20).bind (fun y5 => if y5 = 0 then (some ((-1), t_fits, t_fitOf, t_cur, t_was, t_feel, t_pushAt, t_curSum, t_distance, t_fitted)) else (if v1 ≤ 1 then (m_X11_fit_78 t_baseLow t_baseHigh t_fits t_fitOf t_push t_speckLow t_speckHigh t_sourceHold t_cur t_was t_feel t_pushAt t_curSum t_row t_marked t_sums t_distance t_fitted v1 v2 v3 v4 v5 v6 v7) else ((m_X11_in v3 1 20).bind (fun y24 => if y24 = 0 then (some ((-1), t_fits, t_fitOf, t_cur, t_was, t_feel, t_pushAt, t_curSum, t_distance, t_fitted)) else (if v3 = v2 then (some ((-1), t_fits, t_fitOf, t_cur, t_was, t_feel, t_pushAt, t_curSum, t_distance, t_fitted)) else (m_X11_fit_78 t_baseLow t_baseHigh t_fits t_fitOf t_push t_speckLow t_speckHigh t_sourceHold t_cur t_was t_feel t_pushAt t_curSum t_row t_marked t_sums t_distance t_fitted v1 v2 v3 v4 v5 v6 v7))))))))))))))

set_option maxRecDepth 10000 in
set_option maxHeartbeats 8000000 in
theorem g_X11_fit_0 {l : Launch} {E : EE} {b0 n : Nat} {h : AH} {a_t : Nat} {t_thrown t_taped t_p t_fault t_baseLow t_baseHigh t_newBaseLow t_newBaseHigh t_from t_knots t_lines t_chosen t_undos t_redos t_aimedMany t_fits t_fitOf t_sights t_systems t_own t_cross t_curveLong t_wallFirst v1 v2 v3 v4 v5 v6 v7 : Int} {t_push t_speckLow t_speckHigh t_sourceHold t_cur t_was t_feel t_pushAt t_curSum t_row t_marked t_sums t_distance t_fitted : Nat → Int} {r : Int × Int × Int × (Nat → Int) × (Nat → Int) × (Nat → Int) × (Nat → Int) × (Nat → Int) × (Nat → Int) × (Nat → Int)} (ao : AO b0 n [a_t, (a_t + 6), (a_t + 8), (a_t + 9), (a_t + 10), (a_t + 24), (a_t + 25), (a_t + 26), (a_t + 27), (a_t + 28), (a_t + 29), (a_t + 30), (a_t + 31), (a_t + 40), (a_t + 41)]) (ok_t_baseLow : inI t_baseLow) (ok_t_baseHigh : inI t_baseHigh) (ok_t_fits : inI t_fits) (ok_t_fitOf : inI t_fitOf) (ok_t_push : okA t_push) (ok_t_speckLow : okA t_speckLow) (ok_t_speckHigh : okA t_speckHigh) (ok_t_sourceHold : okA t_sourceHold) (ok_t_cur : okA t_cur) (ok_t_was : okA t_was) (ok_t_feel : okA t_feel) (ok_t_pushAt : okA t_pushAt) (ok_t_curSum : okJ t_curSum) (ok_t_row : okA t_row) (ok_t_marked : okA t_marked) (ok_t_sums : okJ t_sums) (ok_t_distance : okA t_distance) (ok_t_fitted : okA t_fitted) (ok_v1 : inI v1) (ok_v2 : inI v2) (ok_v3 : inI v3) (ok_v4 : inI v4) (ok_v5 : inI v5) (ok_v6 : inI v6) (ok_v7 : inI v7) (hs : m_X11_fit_0 t_baseLow t_baseHigh t_fits t_fitOf t_push t_speckLow t_speckHigh t_sourceHold t_cur t_was t_feel t_pushAt t_curSum t_row t_marked t_sums t_distance t_fitted v1 v2 v3 v4 v5 v6 v7 = some r) : G l E b0 M_X11_fit (fun _ => True) (ZM E b0 (some (vI r.1)) (ov [a_t, (a_t + 6), (a_t + 8), (a_t + 9), (a_t + 10), (a_t + 24), (a_t + 25), (a_t + 26), (a_t + 27), (a_t + 28), (a_t + 29), (a_t + 30), (a_t + 31), (a_t + 40), (a_t + 41)] [.inr (11, fsX11 a_t t_thrown t_taped t_p t_fault t_baseLow t_baseHigh t_newBaseLow t_newBaseHigh t_from t_knots t_lines t_chosen t_undos t_redos t_aimedMany r.2.1 r.2.2.1 t_sights t_systems t_own t_cross t_curveLong t_wallFirst), IA E 21 t_push, IA E 100 t_speckLow, IA E 100 t_speckHigh, IA E 100 t_sourceHold, IA E 100 r.2.2.2.1, IA E 100 r.2.2.2.2.1, IA E 100 r.2.2.2.2.2.1, IA E 21 r.2.2.2.2.2.2.1, JA E 6 r.2.2.2.2.2.2.2.1, IA E 100 t_row, IA E 100 t_marked, JA E 6 t_sums, IA E 3 r.2.2.2.2.2.2.2.2.1, IA E 1536 r.2.2.2.2.2.2.2.2.2] h) n (inI r.1 ∧ inI r.2.1 ∧ inI r.2.2.1 ∧ okA r.2.2.2.1 ∧ okA r.2.2.2.2.1 ∧ okA r.2.2.2.2.2.1 ∧ okA r.2.2.2.2.2.2.1 ∧ okJ r.2.2.2.2.2.2.2.1 ∧ okA r.2.2.2.2.2.2.2.2.1 ∧ okA r.2.2.2.2.2.2.2.2.2) 0 0) 0 0 n (ov [a_t, (a_t + 6), (a_t + 8), (a_t + 9), (a_t + 10), (a_t + 24), (a_t + 25), (a_t + 26), (a_t + 27), (a_t + 28), (a_t + 29), (a_t + 30), (a_t + 31), (a_t + 40), (a_t + 41)] [.inr (11, fsX11 a_t t_thrown t_taped t_p t_fault t_baseLow t_baseHigh t_newBaseLow t_newBaseHigh t_from t_knots t_lines t_chosen t_undos t_redos t_aimedMany t_fits t_fitOf t_sights t_systems t_own t_cross t_curveLong t_wallFirst), IA E 21 t_push, IA E 100 t_speckLow, IA E 100 t_speckHigh, IA E 100 t_sourceHold, IA E 100 t_cur, IA E 100 t_was, IA E 100 t_feel, IA E 21 t_pushAt, JA E 6 t_curSum, IA E 100 t_row, IA E 100 t_marked, JA E 6 t_sums, IA E 3 t_distance, IA E 1536 t_fitted] h) 0 [some (.ref a_t), some (vI v1), some (vI v2), some (vI v3), some (vI v4), some (vI v5), some (vI v6), some (vI v7), none, none, none] [] := by
  rw [m_X11_fit_0] at hs
  refine g_iload_n e_X11_fit_0 rfl ?_
  refine g_iconst e_X11_fit_1 ?_
  refine g_iconst e_X11_fit_2 ?_
  obtain ⟨y1, hy1, hs⟩ := bind_elim hs
  refine g_callSr [vI v1, vI 1, vI 3] cs_X11_226 ⟨rfl, rfl, Nat.le_of_ble_eq_true rfl, Nat.le_of_ble_eq_true rfl⟩ (ct_X11_in ⟨List.nodup_nil, fun i a h => by simp at h⟩ (fun i a e h => by simp at h) ok_v1 (by decide : inI 1) (by decide : inI 3) hy1) e_X11_fit_3 rfl rfl (Nat.le_of_ble_eq_true rfl) ⟨Nat.le_refl _, Nat.le_refl _⟩ (fun Py1 => ?_)
  refine g_if_eq e_X11_fit_6 (inZ_I Py1) hs (fun c6 hs => ?_) (fun c6 hs => ?_)
  · refine g_iconst e_X11_fit_46 ?_
    obtain rfl := Option.some.inj hs
    exact g_iret rfl ⟨(by decide : inI (-1)), ok_t_fits, ok_t_fitOf, ok_t_cur, ok_t_was, ok_t_feel, ok_t_pushAt, ok_t_curSum, ok_t_distance, ok_t_fitted⟩ e_X11_fit_47
  · refine g_iload e_X11_fit_9 rfl ?_
    refine g_iconst e_X11_fit_11 ?_
    refine g_bipush e_X11_fit_12 bp_100 ?_
    obtain ⟨y2, hy2, hs⟩ := bind_elim hs
    refine g_callSr [vI v5, vI 1, vI 100] cs_X11_226 ⟨rfl, rfl, Nat.le_of_ble_eq_true rfl, Nat.le_of_ble_eq_true rfl⟩ (ct_X11_in ⟨List.nodup_nil, fun i a h => by simp at h⟩ (fun i a e h => by simp at h) ok_v5 (by decide : inI 1) (by decide : inI 100) hy2) e_X11_fit_14 rfl rfl (Nat.le_of_ble_eq_true rfl) ⟨Nat.le_refl _, Nat.le_refl _⟩ (fun Py2 => ?_)
    refine g_if_eq e_X11_fit_17 (inZ_I Py2) hs (fun c17 hs => ?_) (fun c17 hs => ?_)
    · refine g_iconst e_X11_fit_46 ?_
      obtain rfl := Option.some.inj hs
      exact g_iret rfl ⟨(by decide : inI (-1)), ok_t_fits, ok_t_fitOf, ok_t_cur, ok_t_was, ok_t_feel, ok_t_pushAt, ok_t_curSum, ok_t_distance, ok_t_fitted⟩ e_X11_fit_47
    · refine g_iload e_X11_fit_20 rfl ?_
      refine g_sipush e_X11_fit_22 sp_m9999 ?_
      refine g_sipush e_X11_fit_25 sp_9999 ?_
      obtain ⟨y3, hy3, hs⟩ := bind_elim hs
      refine g_callSr [vI v6, vI (-9999), vI 9999] cs_X11_226 ⟨rfl, rfl, Nat.le_of_ble_eq_true rfl, Nat.le_of_ble_eq_true rfl⟩ (ct_X11_in ⟨List.nodup_nil, fun i a h => by simp at h⟩ (fun i a e h => by simp at h) ok_v6 (by decide : inI (-9999)) (by decide : inI 9999) hy3) e_X11_fit_28 rfl rfl (Nat.le_of_ble_eq_true rfl) ⟨Nat.le_refl _, Nat.le_refl _⟩ (fun Py3 => ?_)
      refine g_if_eq e_X11_fit_31 (inZ_I Py3) hs (fun c31 hs => ?_) (fun c31 hs => ?_)
      · refine g_iconst e_X11_fit_46 ?_
        obtain rfl := Option.some.inj hs
        exact g_iret rfl ⟨(by decide : inI (-1)), ok_t_fits, ok_t_fitOf, ok_t_cur, ok_t_was, ok_t_feel, ok_t_pushAt, ok_t_curSum, ok_t_distance, ok_t_fitted⟩ e_X11_fit_47
      · refine g_iload e_X11_fit_34 rfl ?_
        refine g_iconst e_X11_fit_36 ?_
        refine g_sipush e_X11_fit_37 sp_200 ?_
        obtain ⟨y4, hy4, hs⟩ := bind_elim hs
        refine g_callSr [vI v7, vI 0, vI 200] cs_X11_226 ⟨rfl, rfl, Nat.le_of_ble_eq_true rfl, Nat.le_of_ble_eq_true rfl⟩ (ct_X11_in ⟨List.nodup_nil, fun i a h => by simp at h⟩ (fun i a e h => by simp at h) ok_v7 (by decide : inI 0) (by decide : inI 200) hy4) e_X11_fit_40 rfl rfl (Nat.le_of_ble_eq_true rfl) ⟨Nat.le_refl _, Nat.le_refl _⟩ (fun Py4 => ?_)
        refine g_if_ne e_X11_fit_43 (inZ_I Py4) hs (fun c43 hs => ?_) (fun c43 hs => ?_)
        · refine g_iconst e_X11_fit_46 ?_
          obtain rfl := Option.some.inj hs
          exact g_iret rfl ⟨(by decide : inI (-1)), ok_t_fits, ok_t_fitOf, ok_t_cur, ok_t_was, ok_t_feel, ok_t_pushAt, ok_t_curSum, ok_t_distance, ok_t_fitted⟩ e_X11_fit_47
        · refine g_iload_n e_X11_fit_48 rfl ?_
          refine g_iconst e_X11_fit_49 ?_
          refine g_bipush e_X11_fit_50 bp_20 ?_
          obtain ⟨y5, hy5, hs⟩ := bind_elim hs
          refine g_callSr [vI v2, vI 1, vI 20] cs_X11_226 ⟨rfl, rfl, Nat.le_of_ble_eq_true rfl, Nat.le_of_ble_eq_true rfl⟩ (ct_X11_in ⟨List.nodup_nil, fun i a h => by simp at h⟩ (fun i a e h => by simp at h) ok_v2 (by decide : inI 1) (by decide : inI 20) hy5) e_X11_fit_52 rfl rfl (Nat.le_of_ble_eq_true rfl) ⟨Nat.le_refl _, Nat.le_refl _⟩ (fun Py5 => ?_)
          refine g_if_eq e_X11_fit_55 (inZ_I Py5) hs (fun c55 hs => ?_) (fun c55 hs => ?_)
          · refine g_iconst e_X11_fit_106 ?_
            obtain rfl := Option.some.inj hs
            exact g_iret rfl ⟨(by decide : inI (-1)), ok_t_fits, ok_t_fitOf, ok_t_cur, ok_t_was, ok_t_feel, ok_t_pushAt, ok_t_curSum, ok_t_distance, ok_t_fitted⟩ e_X11_fit_107
          · refine g_iload_n e_X11_fit_58 rfl ?_
            refine g_iconst e_X11_fit_59 ?_
            refine g_icmp_le e_X11_fit_60 ok_v1 (by decide : inI 1) hs (fun c60 hs => ?_) (fun c60 hs => ?_)
            · exact g_X11_fit_78 ao ok_t_baseLow ok_t_baseHigh ok_t_fits ok_t_fitOf ok_t_push ok_t_speckLow ok_t_speckHigh ok_t_sourceHold ok_t_cur ok_t_was ok_t_feel ok_t_pushAt ok_t_curSum ok_t_row ok_t_marked ok_t_sums ok_t_distance ok_t_fitted ok_v1 ok_v2 ok_v3 ok_v4 ok_v5 ok_v6 ok_v7 hs
            · refine g_iload_n e_X11_fit_63 rfl ?_
              refine g_iconst e_X11_fit_64 ?_
              refine g_bipush e_X11_fit_65 bp_20 ?_
              obtain ⟨y24, hy24, hs⟩ := bind_elim hs
              refine g_callSr [vI v3, vI 1, vI 20] cs_X11_226 ⟨rfl, rfl, Nat.le_of_ble_eq_true rfl, Nat.le_of_ble_eq_true rfl⟩ (ct_X11_in ⟨List.nodup_nil, fun i a h => by simp at h⟩ (fun i a e h => by simp at h) ok_v3 (by decide : inI 1) (by decide : inI 20) hy24) e_X11_fit_67 rfl rfl (Nat.le_of_ble_eq_true rfl) ⟨Nat.le_refl _, Nat.le_refl _⟩ (fun Py24 => ?_)
              refine g_if_eq e_X11_fit_70 (inZ_I Py24) hs (fun c70 hs => ?_) (fun c70 hs => ?_)
              · refine g_iconst e_X11_fit_106 ?_
                obtain rfl := Option.some.inj hs
                exact g_iret rfl ⟨(by decide : inI (-1)), ok_t_fits, ok_t_fitOf, ok_t_cur, ok_t_was, ok_t_feel, ok_t_pushAt, ok_t_curSum, ok_t_distance, ok_t_fitted⟩ e_X11_fit_107
              · refine g_iload_n e_X11_fit_73 rfl ?_
                refine g_iload_n e_X11_fit_74 rfl ?_
                refine g_icmp_eq e_X11_fit_75 ok_v3 ok_v2 hs (fun c75 hs => ?_) (fun c75 hs => ?_)
                · refine g_iconst e_X11_fit_106 ?_
                  obtain rfl := Option.some.inj hs
                  exact g_iret rfl ⟨(by decide : inI (-1)), ok_t_fits, ok_t_fitOf, ok_t_cur, ok_t_was, ok_t_feel, ok_t_pushAt, ok_t_curSum, ok_t_distance, ok_t_fitted⟩ e_X11_fit_107
                · exact g_X11_fit_78 ao ok_t_baseLow ok_t_baseHigh ok_t_fits ok_t_fitOf ok_t_push ok_t_speckLow ok_t_speckHigh ok_t_sourceHold ok_t_cur ok_t_was ok_t_feel ok_t_pushAt ok_t_curSum ok_t_row ok_t_marked ok_t_sums ok_t_distance ok_t_fitted ok_v1 ok_v2 ok_v3 ok_v4 ok_v5 ok_v6 ok_v7 hs

noncomputable def m_X11_fit (t_baseLow : Int) (t_baseHigh : Int) (t_fits : Int) (t_fitOf : Int) (t_push : Nat → Int) (t_speckLow : Nat → Int) (t_speckHigh : Nat → Int) (t_sourceHold : Nat → Int) (t_cur : Nat → Int) (t_was : Nat → Int) (t_feel : Nat → Int) (t_pushAt : Nat → Int) (t_curSum : Nat → Int) (t_row : Nat → Int) (t_marked : Nat → Int) (t_sums : Nat → Int) (t_distance : Nat → Int) (t_fitted : Nat → Int) (v1 : Int) (v2 : Int) (v3 : Int) (v4 : Int) (v5 : Int) (v6 : Int) (v7 : Int) : Option (Int × Int × Int × (Nat → Int) × (Nat → Int) × (Nat → Int) × (Nat → Int) × (Nat → Int) × (Nat → Int) × (Nat → Int)) := m_X11_fit_0 t_baseLow t_baseHigh t_fits t_fitOf t_push t_speckLow t_speckHigh t_sourceHold t_cur t_was t_feel t_pushAt t_curSum t_row t_marked t_sums t_distance t_fitted v1 v2 v3 v4 v5 v6 v7

set_option maxRecDepth 10000 in
set_option maxHeartbeats 8000000 in
theorem ct_X11_fit {l : Launch} {E : EE} {b0 n : Nat} {h : AH} {a_t : Nat} {t_thrown t_taped t_p t_fault t_baseLow t_baseHigh t_newBaseLow t_newBaseHigh t_from t_knots t_lines t_chosen t_undos t_redos t_aimedMany t_fits t_fitOf t_sights t_systems t_own t_cross t_curveLong t_wallFirst : Int} {t_push t_speckLow t_speckHigh t_sourceHold t_cur t_was t_feel t_pushAt t_curSum t_row t_marked t_sums t_distance t_fitted : Nat → Int} {v1 v2 v3 v4 v5 v6 v7 : Int} (ao : AO b0 n [a_t, (a_t + 6), (a_t + 8), (a_t + 9), (a_t + 10), (a_t + 24), (a_t + 25), (a_t + 26), (a_t + 27), (a_t + 28), (a_t + 29), (a_t + 30), (a_t + 31), (a_t + 40), (a_t + 41)]) (hf : FA h [a_t, (a_t + 6), (a_t + 8), (a_t + 9), (a_t + 10), (a_t + 24), (a_t + 25), (a_t + 26), (a_t + 27), (a_t + 28), (a_t + 29), (a_t + 30), (a_t + 31), (a_t + 40), (a_t + 41)] [.inr (11, fsX11 a_t t_thrown t_taped t_p t_fault t_baseLow t_baseHigh t_newBaseLow t_newBaseHigh t_from t_knots t_lines t_chosen t_undos t_redos t_aimedMany t_fits t_fitOf t_sights t_systems t_own t_cross t_curveLong t_wallFirst), IA E 21 t_push, IA E 100 t_speckLow, IA E 100 t_speckHigh, IA E 100 t_sourceHold, IA E 100 t_cur, IA E 100 t_was, IA E 100 t_feel, IA E 21 t_pushAt, JA E 6 t_curSum, IA E 100 t_row, IA E 100 t_marked, JA E 6 t_sums, IA E 3 t_distance, IA E 1536 t_fitted]) (ok_t_baseLow : inI t_baseLow) (ok_t_baseHigh : inI t_baseHigh) (ok_t_fits : inI t_fits) (ok_t_fitOf : inI t_fitOf) (ok_t_push : okA t_push) (ok_t_speckLow : okA t_speckLow) (ok_t_speckHigh : okA t_speckHigh) (ok_t_sourceHold : okA t_sourceHold) (ok_t_cur : okA t_cur) (ok_t_was : okA t_was) (ok_t_feel : okA t_feel) (ok_t_pushAt : okA t_pushAt) (ok_t_curSum : okJ t_curSum) (ok_t_row : okA t_row) (ok_t_marked : okA t_marked) (ok_t_sums : okJ t_sums) (ok_t_distance : okA t_distance) (ok_t_fitted : okA t_fitted) (ok_v1 : inI v1) (ok_v2 : inI v2) (ok_v3 : inI v3) (ok_v4 : inI v4) (ok_v5 : inI v5) (ok_v6 : inI v6) (ok_v7 : inI v7) {r : Int × Int × Int × (Nat → Int) × (Nat → Int) × (Nat → Int) × (Nat → Int) × (Nat → Int) × (Nat → Int) × (Nat → Int)} (hm : m_X11_fit t_baseLow t_baseHigh t_fits t_fitOf t_push t_speckLow t_speckHigh t_sourceHold t_cur t_was t_feel t_pushAt t_curSum t_row t_marked t_sums t_distance t_fitted v1 v2 v3 v4 v5 v6 v7 = some r) : Ct l E b0 M_X11_fit 0 0 [.ref a_t, vI v1, vI v2, vI v3, vI v4, vI v5, vI v6, vI v7] h n (some (vI r.1)) (ov [a_t, (a_t + 6), (a_t + 8), (a_t + 9), (a_t + 10), (a_t + 24), (a_t + 25), (a_t + 26), (a_t + 27), (a_t + 28), (a_t + 29), (a_t + 30), (a_t + 31), (a_t + 40), (a_t + 41)] [.inr (11, fsX11 a_t t_thrown t_taped t_p t_fault t_baseLow t_baseHigh t_newBaseLow t_newBaseHigh t_from t_knots t_lines t_chosen t_undos t_redos t_aimedMany r.2.1 r.2.2.1 t_sights t_systems t_own t_cross t_curveLong t_wallFirst), IA E 21 t_push, IA E 100 t_speckLow, IA E 100 t_speckHigh, IA E 100 t_sourceHold, IA E 100 r.2.2.2.1, IA E 100 r.2.2.2.2.1, IA E 100 r.2.2.2.2.2.1, IA E 21 r.2.2.2.2.2.2.1, JA E 6 r.2.2.2.2.2.2.2.1, IA E 100 t_row, IA E 100 t_marked, JA E 6 t_sums, IA E 3 r.2.2.2.2.2.2.2.2.1, IA E 1536 r.2.2.2.2.2.2.2.2.2] h) n (inI r.1 ∧ inI r.2.1 ∧ inI r.2.2.1 ∧ okA r.2.2.2.1 ∧ okA r.2.2.2.2.1 ∧ okA r.2.2.2.2.2.1 ∧ okA r.2.2.2.2.2.2.1 ∧ okJ r.2.2.2.2.2.2.2.1 ∧ okA r.2.2.2.2.2.2.2.2.1 ∧ okA r.2.2.2.2.2.2.2.2.2) := by
  rw [m_X11_fit] at hm
  have hg : G l E b0 M_X11_fit (fun _ => True) (ZM E b0 (some (vI r.1)) (ov [a_t, (a_t + 6), (a_t + 8), (a_t + 9), (a_t + 10), (a_t + 24), (a_t + 25), (a_t + 26), (a_t + 27), (a_t + 28), (a_t + 29), (a_t + 30), (a_t + 31), (a_t + 40), (a_t + 41)] [.inr (11, fsX11 a_t t_thrown t_taped t_p t_fault t_baseLow t_baseHigh t_newBaseLow t_newBaseHigh t_from t_knots t_lines t_chosen t_undos t_redos t_aimedMany r.2.1 r.2.2.1 t_sights t_systems t_own t_cross t_curveLong t_wallFirst), IA E 21 t_push, IA E 100 t_speckLow, IA E 100 t_speckHigh, IA E 100 t_sourceHold, IA E 100 r.2.2.2.1, IA E 100 r.2.2.2.2.1, IA E 100 r.2.2.2.2.2.1, IA E 21 r.2.2.2.2.2.2.1, JA E 6 r.2.2.2.2.2.2.2.1, IA E 100 t_row, IA E 100 t_marked, JA E 6 t_sums, IA E 3 r.2.2.2.2.2.2.2.2.1, IA E 1536 r.2.2.2.2.2.2.2.2.2] h) n (inI r.1 ∧ inI r.2.1 ∧ inI r.2.2.1 ∧ okA r.2.2.2.1 ∧ okA r.2.2.2.2.1 ∧ okA r.2.2.2.2.2.1 ∧ okA r.2.2.2.2.2.2.1 ∧ okJ r.2.2.2.2.2.2.2.1 ∧ okA r.2.2.2.2.2.2.2.2.1 ∧ okA r.2.2.2.2.2.2.2.2.2) 0 0) 0 0 n (ov [a_t, (a_t + 6), (a_t + 8), (a_t + 9), (a_t + 10), (a_t + 24), (a_t + 25), (a_t + 26), (a_t + 27), (a_t + 28), (a_t + 29), (a_t + 30), (a_t + 31), (a_t + 40), (a_t + 41)] [.inr (11, fsX11 a_t t_thrown t_taped t_p t_fault t_baseLow t_baseHigh t_newBaseLow t_newBaseHigh t_from t_knots t_lines t_chosen t_undos t_redos t_aimedMany t_fits t_fitOf t_sights t_systems t_own t_cross t_curveLong t_wallFirst), IA E 21 t_push, IA E 100 t_speckLow, IA E 100 t_speckHigh, IA E 100 t_sourceHold, IA E 100 t_cur, IA E 100 t_was, IA E 100 t_feel, IA E 21 t_pushAt, JA E 6 t_curSum, IA E 100 t_row, IA E 100 t_marked, JA E 6 t_sums, IA E 3 t_distance, IA E 1536 t_fitted] h) 0 [some (.ref a_t), some (vI v1), some (vI v2), some (vI v3), some (vI v4), some (vI v5), some (vI v6), some (vI v7), none, none, none] [] := by
    have hs := hm
    exact g_X11_fit_0 ao ok_t_baseLow ok_t_baseHigh ok_t_fits ok_t_fitOf ok_t_push ok_t_speckLow ok_t_speckHigh ok_t_sourceHold ok_t_cur ok_t_was ok_t_feel ok_t_pushAt ok_t_curSum ok_t_row ok_t_marked ok_t_sums ok_t_distance ok_t_fitted ok_v1 ok_v2 ok_v3 ok_v4 ok_v5 ok_v6 ok_v7 hs
  rw [FA_id hf] at hg
  exact Ct_of [some (.ref a_t), some (vI v1), some (vI v2), some (vI v3), some (vI v4), some (vI v5), some (vI v6), some (vI v7), none, none, none] ⟨by decide +kernel, rfl⟩ rfl (Nat.le_of_ble_eq_true rfl) hg

/-! ===== X11_fitted ===== -/
theorem e_X11_fitted_0 : DC cX11_fitted 0 (.iload_n 1) 1 1 := ⟨by decide +kernel, rfl⟩
theorem e_X11_fitted_1 : DC cX11_fitted 1 (.iconst 0) 1 2 := ⟨by decide +kernel, rfl⟩
theorem e_X11_fitted_2 : DC cX11_fitted 2 (.aload_n 0) 1 3 := ⟨by decide +kernel, rfl⟩
theorem e_X11_fitted_3 : DC cX11_fitted 3 (.getfield 383) 3 6 := ⟨by decide +kernel, rfl⟩
theorem e_X11_fitted_6 : DC cX11_fitted 6 (.iconst 1) 1 7 := ⟨by decide +kernel, rfl⟩
theorem e_X11_fitted_7 : DC cX11_fitted 7 (.isub) 1 8 := ⟨by decide +kernel, rfl⟩
theorem e_X11_fitted_8 : DC cX11_fitted 8 (.invokestatic 226) 3 11 := ⟨by decide +kernel, rfl⟩
theorem e_X11_fitted_11 : DB cX11_fitted 11 (.ifCond .eq 30) (30) 3 14 41 := ⟨by decide +kernel, rfl, rfl⟩
theorem e_X11_fitted_14 : DC cX11_fitted 14 (.iload_n 2) 1 15 := ⟨by decide +kernel, rfl⟩
theorem e_X11_fitted_15 : DC cX11_fitted 15 (.iconst 0) 1 16 := ⟨by decide +kernel, rfl⟩
theorem e_X11_fitted_16 : DC cX11_fitted 16 (.aload_n 0) 1 17 := ⟨by decide +kernel, rfl⟩
theorem e_X11_fitted_17 : DC cX11_fitted 17 (.getfield 386) 3 20 := ⟨by decide +kernel, rfl⟩
theorem e_X11_fitted_20 : DC cX11_fitted 20 (.iconst 1) 1 21 := ⟨by decide +kernel, rfl⟩
theorem e_X11_fitted_21 : DC cX11_fitted 21 (.isub) 1 22 := ⟨by decide +kernel, rfl⟩
theorem e_X11_fitted_22 : DC cX11_fitted 22 (.invokestatic 226) 3 25 := ⟨by decide +kernel, rfl⟩
theorem e_X11_fitted_25 : DB cX11_fitted 25 (.ifCond .eq 16) (16) 3 28 41 := ⟨by decide +kernel, rfl, rfl⟩
theorem e_X11_fitted_28 : DC cX11_fitted 28 (.aload_n 0) 1 29 := ⟨by decide +kernel, rfl⟩
theorem e_X11_fitted_29 : DC cX11_fitted 29 (.getfield 133) 3 32 := ⟨by decide +kernel, rfl⟩
theorem e_X11_fitted_32 : DC cX11_fitted 32 (.iconst 3) 1 33 := ⟨by decide +kernel, rfl⟩
theorem e_X11_fitted_33 : DC cX11_fitted 33 (.iload_n 1) 1 34 := ⟨by decide +kernel, rfl⟩
theorem e_X11_fitted_34 : DC cX11_fitted 34 (.imul) 1 35 := ⟨by decide +kernel, rfl⟩
theorem e_X11_fitted_35 : DC cX11_fitted 35 (.iload_n 2) 1 36 := ⟨by decide +kernel, rfl⟩
theorem e_X11_fitted_36 : DC cX11_fitted 36 (.iadd) 1 37 := ⟨by decide +kernel, rfl⟩
theorem e_X11_fitted_37 : DC cX11_fitted 37 (.iaload) 1 38 := ⟨by decide +kernel, rfl⟩
theorem e_X11_fitted_38 : DB cX11_fitted 38 (.goto 4) (4) 3 41 42 := ⟨by decide +kernel, rfl, rfl⟩
theorem e_X11_fitted_41 : DC cX11_fitted 41 (.iconst (-1)) 1 42 := ⟨by decide +kernel, rfl⟩
theorem e_X11_fitted_42 : DC cX11_fitted 42 (.ireturn) 1 43 := ⟨by decide +kernel, rfl⟩
noncomputable def m_X11_fitted_0 (t_fits : Int) (t_fitOf : Int) (t_fitted : Nat → Int) (v1 : Int) (v2 : Int) : Option (Int) :=
  chk (inI (t_fits - 1)) ((m_X11_in v1 0 (t_fits - 1)).bind (fun y2 => if y2 = 0 then (some ((-1))) else (chk (inI (t_fitOf - 1)) ((m_X11_in v2 0 (t_fitOf - 1)).bind (fun y4 => if y4 = 0 then (some ((-1))) else (chk (inB ((3 * v1) + v2) 1536) (some (t_fitted (Int.toNat ((3 * v1) + v2))))))))))

set_option maxRecDepth 10000 in
set_option maxHeartbeats 8000000 in
theorem g_X11_fitted_0 {l : Launch} {E : EE} {b0 n : Nat} {h : AH} {a_t : Nat} {t_thrown t_taped t_p t_fault t_baseLow t_baseHigh t_newBaseLow t_newBaseHigh t_from t_knots t_lines t_chosen t_undos t_redos t_aimedMany t_fits t_fitOf t_sights t_systems t_own t_cross t_curveLong t_wallFirst v1 v2 : Int} {t_fitted : Nat → Int} {r : Int} (ao : AO b0 n [a_t, (a_t + 41)]) (ok_t_fits : inI t_fits) (ok_t_fitOf : inI t_fitOf) (ok_t_fitted : okA t_fitted) (ok_v1 : inI v1) (ok_v2 : inI v2) (hs : m_X11_fitted_0 t_fits t_fitOf t_fitted v1 v2 = some r) : G l E b0 M_X11_fitted (fun _ => True) (ZM E b0 (some (vI r)) (ov [a_t, (a_t + 41)] [.inr (11, fsX11 a_t t_thrown t_taped t_p t_fault t_baseLow t_baseHigh t_newBaseLow t_newBaseHigh t_from t_knots t_lines t_chosen t_undos t_redos t_aimedMany t_fits t_fitOf t_sights t_systems t_own t_cross t_curveLong t_wallFirst), IA E 1536 t_fitted] h) n (inI r) 0 0) 0 0 n (ov [a_t, (a_t + 41)] [.inr (11, fsX11 a_t t_thrown t_taped t_p t_fault t_baseLow t_baseHigh t_newBaseLow t_newBaseHigh t_from t_knots t_lines t_chosen t_undos t_redos t_aimedMany t_fits t_fitOf t_sights t_systems t_own t_cross t_curveLong t_wallFirst), IA E 1536 t_fitted] h) 0 [some (.ref a_t), some (vI v1), some (vI v2)] [] := by
  rw [m_X11_fitted_0] at hs
  refine g_iload_n e_X11_fitted_0 rfl ?_
  refine g_iconst e_X11_fitted_1 ?_
  refine g_aload_n e_X11_fitted_2 rfl ?_
  refine g_get 0 54 ao rfl rfl fsX11_g54 fl_X11_383 e_X11_fitted_3 ?_
  refine g_iconst e_X11_fitted_6 ?_
  refine g_isub e_X11_fitted_7 ?_
  obtain ⟨hc1, hs⟩ := chk_elim hs
  obtain ⟨y2, hy2, hs⟩ := bind_elim hs
  refine g_callSr [vI v1, vI 0, vI (t_fits - 1)] cs_X11_226 ⟨rfl, rfl, Nat.le_of_ble_eq_true rfl, Nat.le_of_ble_eq_true rfl⟩ (ct_X11_in ⟨List.nodup_nil, fun i a h => by simp at h⟩ (fun i a e h => by simp at h) ok_v1 (by decide : inI 0) hc1 hy2) e_X11_fitted_8 rfl rfl (Nat.le_of_ble_eq_true rfl) ⟨Nat.le_refl _, Nat.le_refl _⟩ (fun Py2 => ?_)
  refine g_if_eq e_X11_fitted_11 (inZ_I Py2) hs (fun c11 hs => ?_) (fun c11 hs => ?_)
  · refine g_iconst e_X11_fitted_41 ?_
    obtain rfl := Option.some.inj hs
    exact g_iret rfl (by decide : inI (-1)) e_X11_fitted_42
  · refine g_iload_n e_X11_fitted_14 rfl ?_
    refine g_iconst e_X11_fitted_15 ?_
    refine g_aload_n e_X11_fitted_16 rfl ?_
    refine g_get 0 55 ao rfl rfl fsX11_g55 fl_X11_386 e_X11_fitted_17 ?_
    refine g_iconst e_X11_fitted_20 ?_
    refine g_isub e_X11_fitted_21 ?_
    obtain ⟨hc3, hs⟩ := chk_elim hs
    obtain ⟨y4, hy4, hs⟩ := bind_elim hs
    refine g_callSr [vI v2, vI 0, vI (t_fitOf - 1)] cs_X11_226 ⟨rfl, rfl, Nat.le_of_ble_eq_true rfl, Nat.le_of_ble_eq_true rfl⟩ (ct_X11_in ⟨List.nodup_nil, fun i a h => by simp at h⟩ (fun i a e h => by simp at h) ok_v2 (by decide : inI 0) hc3 hy4) e_X11_fitted_22 rfl rfl (Nat.le_of_ble_eq_true rfl) ⟨Nat.le_refl _, Nat.le_refl _⟩ (fun Py4 => ?_)
    refine g_if_eq e_X11_fitted_25 (inZ_I Py4) hs (fun c25 hs => ?_) (fun c25 hs => ?_)
    · refine g_iconst e_X11_fitted_41 ?_
      obtain rfl := Option.some.inj hs
      exact g_iret rfl (by decide : inI (-1)) e_X11_fitted_42
    · refine g_aload_n e_X11_fitted_28 rfl ?_
      refine g_get 0 57 ao rfl rfl fsX11_g57 fl_X11_133 e_X11_fitted_29 ?_
      refine g_iconst e_X11_fitted_32 ?_
      refine g_iload_n e_X11_fitted_33 rfl ?_
      refine g_imul e_X11_fitted_34 ?_
      refine g_iload_n e_X11_fitted_35 rfl ?_
      refine g_iadd e_X11_fitted_36 ?_
      refine g_iald 1 ao rfl rfl (Nat.le_of_ble_eq_true rfl) e_X11_fitted_37 hs (fun hi5 hs => ?_)
      refine g_goto e_X11_fitted_38 ?_
      obtain rfl := Option.some.inj hs
      exact g_iret rfl (ok_t_fitted _) e_X11_fitted_42

noncomputable def m_X11_fitted (t_fits : Int) (t_fitOf : Int) (t_fitted : Nat → Int) (v1 : Int) (v2 : Int) : Option (Int) := m_X11_fitted_0 t_fits t_fitOf t_fitted v1 v2

set_option maxRecDepth 10000 in
set_option maxHeartbeats 8000000 in
theorem ct_X11_fitted {l : Launch} {E : EE} {b0 n : Nat} {h : AH} {a_t : Nat} {t_thrown t_taped t_p t_fault t_baseLow t_baseHigh t_newBaseLow t_newBaseHigh t_from t_knots t_lines t_chosen t_undos t_redos t_aimedMany t_fits t_fitOf t_sights t_systems t_own t_cross t_curveLong t_wallFirst : Int} {t_fitted : Nat → Int} {v1 v2 : Int} (ao : AO b0 n [a_t, (a_t + 41)]) (hf : FA h [a_t, (a_t + 41)] [.inr (11, fsX11 a_t t_thrown t_taped t_p t_fault t_baseLow t_baseHigh t_newBaseLow t_newBaseHigh t_from t_knots t_lines t_chosen t_undos t_redos t_aimedMany t_fits t_fitOf t_sights t_systems t_own t_cross t_curveLong t_wallFirst), IA E 1536 t_fitted]) (ok_t_fits : inI t_fits) (ok_t_fitOf : inI t_fitOf) (ok_t_fitted : okA t_fitted) (ok_v1 : inI v1) (ok_v2 : inI v2) {r : Int} (hm : m_X11_fitted t_fits t_fitOf t_fitted v1 v2 = some r) : Ct l E b0 M_X11_fitted 0 0 [.ref a_t, vI v1, vI v2] h n (some (vI r)) h n (inI r) := by
  rw [m_X11_fitted] at hm
  have hg : G l E b0 M_X11_fitted (fun _ => True) (ZM E b0 (some (vI r)) (ov [a_t, (a_t + 41)] [.inr (11, fsX11 a_t t_thrown t_taped t_p t_fault t_baseLow t_baseHigh t_newBaseLow t_newBaseHigh t_from t_knots t_lines t_chosen t_undos t_redos t_aimedMany t_fits t_fitOf t_sights t_systems t_own t_cross t_curveLong t_wallFirst), IA E 1536 t_fitted] h) n (inI r) 0 0) 0 0 n (ov [a_t, (a_t + 41)] [.inr (11, fsX11 a_t t_thrown t_taped t_p t_fault t_baseLow t_baseHigh t_newBaseLow t_newBaseHigh t_from t_knots t_lines t_chosen t_undos t_redos t_aimedMany t_fits t_fitOf t_sights t_systems t_own t_cross t_curveLong t_wallFirst), IA E 1536 t_fitted] h) 0 [some (.ref a_t), some (vI v1), some (vI v2)] [] := by
    have hs := hm
    exact g_X11_fitted_0 ao ok_t_fits ok_t_fitOf ok_t_fitted ok_v1 ok_v2 hs
  rw [FA_id hf] at hg
  exact Ct_of [some (.ref a_t), some (vI v1), some (vI v2)] ⟨by decide +kernel, rfl⟩ rfl (Nat.le_of_ble_eq_true rfl) hg

/-! ===== X11_seen ===== -/
theorem e_X11_seen_0 : DC cX11_seen 0 (.aload_n 0) 1 1 := ⟨by decide +kernel, rfl⟩
theorem e_X11_seen_1 : DC cX11_seen 1 (.iload_n 1) 1 2 := ⟨by decide +kernel, rfl⟩
theorem e_X11_seen_2 : DC cX11_seen 2 (.invokevirtual 285) 3 5 := ⟨by decide +kernel, rfl⟩
theorem e_X11_seen_5 : DB cX11_seen 5 (.ifCond .eq 12) (12) 3 8 17 := ⟨by decide +kernel, rfl, rfl⟩
theorem e_X11_seen_8 : DC cX11_seen 8 (.aload_n 0) 1 9 := ⟨by decide +kernel, rfl⟩
theorem e_X11_seen_9 : DC cX11_seen 9 (.iconst 2) 1 10 := ⟨by decide +kernel, rfl⟩
theorem e_X11_seen_10 : DC cX11_seen 10 (.iload_n 2) 1 11 := ⟨by decide +kernel, rfl⟩
theorem e_X11_seen_11 : DC cX11_seen 11 (.invokevirtual 261) 3 14 := ⟨by decide +kernel, rfl⟩
theorem e_X11_seen_14 : DB cX11_seen 14 (.ifCond .ne 5) (5) 3 17 19 := ⟨by decide +kernel, rfl, rfl⟩
theorem e_X11_seen_17 : DC cX11_seen 17 (.iconst (-1)) 1 18 := ⟨by decide +kernel, rfl⟩
theorem e_X11_seen_18 : DC cX11_seen 18 (.ireturn) 1 19 := ⟨by decide +kernel, rfl⟩
theorem e_X11_seen_19 : DC cX11_seen 19 (.aload_n 0) 1 20 := ⟨by decide +kernel, rfl⟩
theorem e_X11_seen_20 : DC cX11_seen 20 (.aload_n 0) 1 21 := ⟨by decide +kernel, rfl⟩
theorem e_X11_seen_21 : DC cX11_seen 21 (.getfield 63) 3 24 := ⟨by decide +kernel, rfl⟩
theorem e_X11_seen_24 : DC cX11_seen 24 (.iconst 3) 1 25 := ⟨by decide +kernel, rfl⟩
theorem e_X11_seen_25 : DC cX11_seen 25 (.iload_n 1) 1 26 := ⟨by decide +kernel, rfl⟩
theorem e_X11_seen_26 : DC cX11_seen 26 (.imul) 1 27 := ⟨by decide +kernel, rfl⟩
theorem e_X11_seen_27 : DC cX11_seen 27 (.iaload) 1 28 := ⟨by decide +kernel, rfl⟩
theorem e_X11_seen_28 : DC cX11_seen 28 (.aload_n 0) 1 29 := ⟨by decide +kernel, rfl⟩
theorem e_X11_seen_29 : DC cX11_seen 29 (.getfield 63) 3 32 := ⟨by decide +kernel, rfl⟩
theorem e_X11_seen_32 : DC cX11_seen 32 (.iconst 3) 1 33 := ⟨by decide +kernel, rfl⟩
theorem e_X11_seen_33 : DC cX11_seen 33 (.iload_n 1) 1 34 := ⟨by decide +kernel, rfl⟩
theorem e_X11_seen_34 : DC cX11_seen 34 (.imul) 1 35 := ⟨by decide +kernel, rfl⟩
theorem e_X11_seen_35 : DC cX11_seen 35 (.iconst 1) 1 36 := ⟨by decide +kernel, rfl⟩
theorem e_X11_seen_36 : DC cX11_seen 36 (.iadd) 1 37 := ⟨by decide +kernel, rfl⟩
theorem e_X11_seen_37 : DC cX11_seen 37 (.iaload) 1 38 := ⟨by decide +kernel, rfl⟩
theorem e_X11_seen_38 : DC cX11_seen 38 (.aload_n 0) 1 39 := ⟨by decide +kernel, rfl⟩
theorem e_X11_seen_39 : DC cX11_seen 39 (.getfield 63) 3 42 := ⟨by decide +kernel, rfl⟩
theorem e_X11_seen_42 : DC cX11_seen 42 (.iconst 3) 1 43 := ⟨by decide +kernel, rfl⟩
theorem e_X11_seen_43 : DC cX11_seen 43 (.iload_n 1) 1 44 := ⟨by decide +kernel, rfl⟩
theorem e_X11_seen_44 : DC cX11_seen 44 (.imul) 1 45 := ⟨by decide +kernel, rfl⟩
theorem e_X11_seen_45 : DC cX11_seen 45 (.iconst 2) 1 46 := ⟨by decide +kernel, rfl⟩
theorem e_X11_seen_46 : DC cX11_seen 46 (.iadd) 1 47 := ⟨by decide +kernel, rfl⟩
theorem e_X11_seen_47 : DC cX11_seen 47 (.iaload) 1 48 := ⟨by decide +kernel, rfl⟩
theorem e_X11_seen_48 : DC cX11_seen 48 (.iconst 2) 1 49 := ⟨by decide +kernel, rfl⟩
theorem e_X11_seen_49 : DC cX11_seen 49 (.iload_n 2) 1 50 := ⟨by decide +kernel, rfl⟩
theorem e_X11_seen_50 : DC cX11_seen 50 (.invokevirtual 305) 3 53 := ⟨by decide +kernel, rfl⟩
theorem e_X11_seen_53 : DB cX11_seen 53 (.ifCond .ne 7) (7) 3 56 60 := ⟨by decide +kernel, rfl, rfl⟩
theorem e_X11_seen_56 : DC cX11_seen 56 (.iconst 0) 1 57 := ⟨by decide +kernel, rfl⟩
theorem e_X11_seen_57 : DB cX11_seen 57 (.goto 4) (4) 3 60 61 := ⟨by decide +kernel, rfl, rfl⟩
theorem e_X11_seen_60 : DC cX11_seen 60 (.iconst 1) 1 61 := ⟨by decide +kernel, rfl⟩
theorem e_X11_seen_61 : DC cX11_seen 61 (.ireturn) 1 62 := ⟨by decide +kernel, rfl⟩
noncomputable def m_X11_seen_0 (t_lines : Int) (t_many : Nat → Int) (t_way : Nat → Int) (t_isGone : Nat → Int) (t_line : Nat → Int) (v1 : Int) (v2 : Int) : Option (Int) :=
  (m_X11_isLine t_lines t_isGone v1).bind (fun y1 => if y1 = 0 then (some ((-1))) else ((m_X11_isTold t_many 2 v2).bind (fun y2 => if y2 = 0 then (some ((-1))) else (chk (inB (3 * v1) 360) (chk (inB ((3 * v1) + 1) 360) (chk (inB ((3 * v1) + 2) 360) ((m_X11_along t_way (t_line (Int.toNat (3 * v1))) (t_line (Int.toNat ((3 * v1) + 1))) (t_line (Int.toNat ((3 * v1) + 2))) 2 v2).bind (fun y6 => if y6 = 0 then (some (0)) else (some (1))))))))))

set_option maxRecDepth 10000 in
set_option maxHeartbeats 8000000 in
theorem g_X11_seen_0 {l : Launch} {E : EE} {b0 n : Nat} {h : AH} {a_t : Nat} {t_thrown t_taped t_p t_fault t_baseLow t_baseHigh t_newBaseLow t_newBaseHigh t_from t_knots t_lines t_chosen t_undos t_redos t_aimedMany t_fits t_fitOf t_sights t_systems t_own t_cross t_curveLong t_wallFirst v1 v2 : Int} {t_many t_way t_isGone t_line : Nat → Int} {r : Int} (ao : AO b0 n [a_t, (a_t + 2), (a_t + 4), (a_t + 15), (a_t + 18)]) (ok_t_lines : inI t_lines) (ok_t_many : okA t_many) (ok_t_way : okA t_way) (ok_t_isGone : okZ t_isGone) (ok_t_line : okA t_line) (ok_v1 : inI v1) (ok_v2 : inI v2) (hs : m_X11_seen_0 t_lines t_many t_way t_isGone t_line v1 v2 = some r) : G l E b0 M_X11_seen (fun _ => True) (ZM E b0 (some (vI r)) (ov [a_t, (a_t + 2), (a_t + 4), (a_t + 15), (a_t + 18)] [.inr (11, fsX11 a_t t_thrown t_taped t_p t_fault t_baseLow t_baseHigh t_newBaseLow t_newBaseHigh t_from t_knots t_lines t_chosen t_undos t_redos t_aimedMany t_fits t_fitOf t_sights t_systems t_own t_cross t_curveLong t_wallFirst), IA E 7 t_many, IA E 144 t_way, ZA E 120 t_isGone, IA E 360 t_line] h) n (inI r) 0 0) 0 0 n (ov [a_t, (a_t + 2), (a_t + 4), (a_t + 15), (a_t + 18)] [.inr (11, fsX11 a_t t_thrown t_taped t_p t_fault t_baseLow t_baseHigh t_newBaseLow t_newBaseHigh t_from t_knots t_lines t_chosen t_undos t_redos t_aimedMany t_fits t_fitOf t_sights t_systems t_own t_cross t_curveLong t_wallFirst), IA E 7 t_many, IA E 144 t_way, ZA E 120 t_isGone, IA E 360 t_line] h) 0 [some (.ref a_t), some (vI v1), some (vI v2)] [] := by
  rw [m_X11_seen_0] at hs
  refine g_aload_n e_X11_seen_0 rfl ?_
  refine g_iload_n e_X11_seen_1 rfl ?_
  obtain ⟨y1, hy1, hs⟩ := bind_elim hs
  refine g_callVr [vI v1] cv_X11_285 ⟨rfl, rfl, Nat.le_of_ble_eq_true rfl, Nat.le_of_ble_eq_true rfl⟩ (ct_X11_isLine (a_t := a_t) (AO_call [0, 3] ao (by decide) rfl) (FA_call [0, 3] ao.1 rfl rfl) ok_t_lines ok_t_isGone ok_v1 hy1) e_X11_seen_2 (ao.2 0 _ rfl) (ov_get 0 ao.1 rfl rfl) rfl rfl rfl (Nat.le_of_ble_eq_true rfl) ⟨Nat.le_refl _, Nat.le_refl _⟩ (fun Py1 => ?_)
  refine g_if_eq e_X11_seen_5 (inZ_I Py1) hs (fun c5 hs => ?_) (fun c5 hs => ?_)
  · refine g_iconst e_X11_seen_17 ?_
    obtain rfl := Option.some.inj hs
    exact g_iret rfl (by decide : inI (-1)) e_X11_seen_18
  · refine g_aload_n e_X11_seen_8 rfl ?_
    refine g_iconst e_X11_seen_9 ?_
    refine g_iload_n e_X11_seen_10 rfl ?_
    obtain ⟨y2, hy2, hs⟩ := bind_elim hs
    refine g_callVr [vI 2, vI v2] cv_X11_261 ⟨rfl, rfl, Nat.le_of_ble_eq_true rfl, Nat.le_of_ble_eq_true rfl⟩ (ct_X11_isTold (a_t := a_t) (AO_call [0, 1] ao (by decide) rfl) (FA_call [0, 1] ao.1 rfl rfl) ok_t_many (by decide : inI 2) ok_v2 hy2) e_X11_seen_11 (ao.2 0 _ rfl) (ov_get 0 ao.1 rfl rfl) rfl rfl rfl (Nat.le_of_ble_eq_true rfl) ⟨Nat.le_refl _, Nat.le_refl _⟩ (fun Py2 => ?_)
    refine g_if_ne e_X11_seen_14 (inZ_I Py2) hs (fun c14 hs => ?_) (fun c14 hs => ?_)
    · refine g_iconst e_X11_seen_17 ?_
      obtain rfl := Option.some.inj hs
      exact g_iret rfl (by decide : inI (-1)) e_X11_seen_18
    · refine g_aload_n e_X11_seen_19 rfl ?_
      refine g_aload_n e_X11_seen_20 rfl ?_
      refine g_get 0 28 ao rfl rfl fsX11_g28 fl_X11_63 e_X11_seen_21 ?_
      refine g_iconst e_X11_seen_24 ?_
      refine g_iload_n e_X11_seen_25 rfl ?_
      refine g_imul e_X11_seen_26 ?_
      refine g_iald 4 ao rfl rfl (Nat.le_of_ble_eq_true rfl) e_X11_seen_27 hs (fun hi3 hs => ?_)
      refine g_aload_n e_X11_seen_28 rfl ?_
      refine g_get 0 28 ao rfl rfl fsX11_g28 fl_X11_63 e_X11_seen_29 ?_
      refine g_iconst e_X11_seen_32 ?_
      refine g_iload_n e_X11_seen_33 rfl ?_
      refine g_imul e_X11_seen_34 ?_
      refine g_iconst e_X11_seen_35 ?_
      refine g_iadd e_X11_seen_36 ?_
      refine g_iald 4 ao rfl rfl (Nat.le_of_ble_eq_true rfl) e_X11_seen_37 hs (fun hi4 hs => ?_)
      refine g_aload_n e_X11_seen_38 rfl ?_
      refine g_get 0 28 ao rfl rfl fsX11_g28 fl_X11_63 e_X11_seen_39 ?_
      refine g_iconst e_X11_seen_42 ?_
      refine g_iload_n e_X11_seen_43 rfl ?_
      refine g_imul e_X11_seen_44 ?_
      refine g_iconst e_X11_seen_45 ?_
      refine g_iadd e_X11_seen_46 ?_
      refine g_iald 4 ao rfl rfl (Nat.le_of_ble_eq_true rfl) e_X11_seen_47 hs (fun hi5 hs => ?_)
      refine g_iconst e_X11_seen_48 ?_
      refine g_iload_n e_X11_seen_49 rfl ?_
      obtain ⟨y6, hy6, hs⟩ := bind_elim hs
      refine g_callVr [vI (t_line (Int.toNat (3 * v1))), vI (t_line (Int.toNat ((3 * v1) + 1))), vI (t_line (Int.toNat ((3 * v1) + 2))), vI 2, vI v2] cv_X11_305 ⟨rfl, rfl, Nat.le_of_ble_eq_true rfl, Nat.le_of_ble_eq_true rfl⟩ (ct_X11_along (a_t := a_t) (AO_call [0, 2] ao (by decide) rfl) (FA_call [0, 2] ao.1 rfl rfl) ok_t_way (ok_t_line _) (ok_t_line _) (ok_t_line _) (by decide : inI 2) ok_v2 hy6) e_X11_seen_50 (ao.2 0 _ rfl) (ov_get 0 ao.1 rfl rfl) rfl rfl rfl (Nat.le_of_ble_eq_true rfl) ⟨Nat.le_refl _, Nat.le_refl _⟩ (fun Py6 => ?_)
      refine g_if_ne e_X11_seen_53 Py6 hs (fun c53 hs => ?_) (fun c53 hs => ?_)
      · refine g_iconst e_X11_seen_56 ?_
        refine g_goto e_X11_seen_57 ?_
        obtain rfl := Option.some.inj hs
        exact g_iret rfl (by decide : inI 0) e_X11_seen_61
      · refine g_iconst e_X11_seen_60 ?_
        obtain rfl := Option.some.inj hs
        exact g_iret rfl (by decide : inI 1) e_X11_seen_61

noncomputable def m_X11_seen (t_lines : Int) (t_many : Nat → Int) (t_way : Nat → Int) (t_isGone : Nat → Int) (t_line : Nat → Int) (v1 : Int) (v2 : Int) : Option (Int) := m_X11_seen_0 t_lines t_many t_way t_isGone t_line v1 v2

set_option maxRecDepth 10000 in
set_option maxHeartbeats 8000000 in
theorem ct_X11_seen {l : Launch} {E : EE} {b0 n : Nat} {h : AH} {a_t : Nat} {t_thrown t_taped t_p t_fault t_baseLow t_baseHigh t_newBaseLow t_newBaseHigh t_from t_knots t_lines t_chosen t_undos t_redos t_aimedMany t_fits t_fitOf t_sights t_systems t_own t_cross t_curveLong t_wallFirst : Int} {t_many t_way t_isGone t_line : Nat → Int} {v1 v2 : Int} (ao : AO b0 n [a_t, (a_t + 2), (a_t + 4), (a_t + 15), (a_t + 18)]) (hf : FA h [a_t, (a_t + 2), (a_t + 4), (a_t + 15), (a_t + 18)] [.inr (11, fsX11 a_t t_thrown t_taped t_p t_fault t_baseLow t_baseHigh t_newBaseLow t_newBaseHigh t_from t_knots t_lines t_chosen t_undos t_redos t_aimedMany t_fits t_fitOf t_sights t_systems t_own t_cross t_curveLong t_wallFirst), IA E 7 t_many, IA E 144 t_way, ZA E 120 t_isGone, IA E 360 t_line]) (ok_t_lines : inI t_lines) (ok_t_many : okA t_many) (ok_t_way : okA t_way) (ok_t_isGone : okZ t_isGone) (ok_t_line : okA t_line) (ok_v1 : inI v1) (ok_v2 : inI v2) {r : Int} (hm : m_X11_seen t_lines t_many t_way t_isGone t_line v1 v2 = some r) : Ct l E b0 M_X11_seen 0 0 [.ref a_t, vI v1, vI v2] h n (some (vI r)) h n (inI r) := by
  rw [m_X11_seen] at hm
  have hg : G l E b0 M_X11_seen (fun _ => True) (ZM E b0 (some (vI r)) (ov [a_t, (a_t + 2), (a_t + 4), (a_t + 15), (a_t + 18)] [.inr (11, fsX11 a_t t_thrown t_taped t_p t_fault t_baseLow t_baseHigh t_newBaseLow t_newBaseHigh t_from t_knots t_lines t_chosen t_undos t_redos t_aimedMany t_fits t_fitOf t_sights t_systems t_own t_cross t_curveLong t_wallFirst), IA E 7 t_many, IA E 144 t_way, ZA E 120 t_isGone, IA E 360 t_line] h) n (inI r) 0 0) 0 0 n (ov [a_t, (a_t + 2), (a_t + 4), (a_t + 15), (a_t + 18)] [.inr (11, fsX11 a_t t_thrown t_taped t_p t_fault t_baseLow t_baseHigh t_newBaseLow t_newBaseHigh t_from t_knots t_lines t_chosen t_undos t_redos t_aimedMany t_fits t_fitOf t_sights t_systems t_own t_cross t_curveLong t_wallFirst), IA E 7 t_many, IA E 144 t_way, ZA E 120 t_isGone, IA E 360 t_line] h) 0 [some (.ref a_t), some (vI v1), some (vI v2)] [] := by
    have hs := hm
    exact g_X11_seen_0 ao ok_t_lines ok_t_many ok_t_way ok_t_isGone ok_t_line ok_v1 ok_v2 hs
  rw [FA_id hf] at hg
  exact Ct_of [some (.ref a_t), some (vI v1), some (vI v2)] ⟨by decide +kernel, rfl⟩ rfl (Nat.le_of_ble_eq_true rfl) hg

/-! ===== X11_sight ===== -/
theorem e_X11_sight_0 : DC cX11_sight 0 (.aload_n 0) 1 1 := ⟨by decide +kernel, rfl⟩
theorem e_X11_sight_1 : DC cX11_sight 1 (.getfield 258) 3 4 := ⟨by decide +kernel, rfl⟩
theorem e_X11_sight_4 : DC cX11_sight 4 (.bipush 20) 2 6 := ⟨by decide +kernel, rfl⟩
theorem e_X11_sight_6 : DB cX11_sight 6 (.if_icmp .eq 12) (12) 3 9 18 := ⟨by decide +kernel, rfl, rfl⟩
theorem e_X11_sight_9 : DC cX11_sight 9 (.aload_n 0) 1 10 := ⟨by decide +kernel, rfl⟩
theorem e_X11_sight_10 : DC cX11_sight 10 (.iconst 2) 1 11 := ⟨by decide +kernel, rfl⟩
theorem e_X11_sight_11 : DC cX11_sight 11 (.iload_n 1) 1 12 := ⟨by decide +kernel, rfl⟩
theorem e_X11_sight_12 : DC cX11_sight 12 (.invokevirtual 261) 3 15 := ⟨by decide +kernel, rfl⟩
theorem e_X11_sight_15 : DB cX11_sight 15 (.ifCond .ne 5) (5) 3 18 20 := ⟨by decide +kernel, rfl, rfl⟩
theorem e_X11_sight_18 : DC cX11_sight 18 (.iconst (-1)) 1 19 := ⟨by decide +kernel, rfl⟩
theorem e_X11_sight_19 : DC cX11_sight 19 (.ireturn) 1 20 := ⟨by decide +kernel, rfl⟩
theorem e_X11_sight_20 : DC cX11_sight 20 (.aload_n 0) 1 21 := ⟨by decide +kernel, rfl⟩
theorem e_X11_sight_21 : DC cX11_sight 21 (.getfield 136) 3 24 := ⟨by decide +kernel, rfl⟩
theorem e_X11_sight_24 : DC cX11_sight 24 (.aload_n 0) 1 25 := ⟨by decide +kernel, rfl⟩
theorem e_X11_sight_25 : DC cX11_sight 25 (.getfield 258) 3 28 := ⟨by decide +kernel, rfl⟩
theorem e_X11_sight_28 : DC cX11_sight 28 (.iload_n 1) 1 29 := ⟨by decide +kernel, rfl⟩
theorem e_X11_sight_29 : DC cX11_sight 29 (.iastore) 1 30 := ⟨by decide +kernel, rfl⟩
theorem e_X11_sight_30 : DC cX11_sight 30 (.aload_n 0) 1 31 := ⟨by decide +kernel, rfl⟩
theorem e_X11_sight_31 : DC cX11_sight 31 (.getfield 139) 3 34 := ⟨by decide +kernel, rfl⟩
theorem e_X11_sight_34 : DC cX11_sight 34 (.aload_n 0) 1 35 := ⟨by decide +kernel, rfl⟩
theorem e_X11_sight_35 : DC cX11_sight 35 (.getfield 258) 3 38 := ⟨by decide +kernel, rfl⟩
theorem e_X11_sight_38 : DC cX11_sight 38 (.iload_n 2) 1 39 := ⟨by decide +kernel, rfl⟩
theorem e_X11_sight_39 : DC cX11_sight 39 (.bastore) 1 40 := ⟨by decide +kernel, rfl⟩
theorem e_X11_sight_40 : DC cX11_sight 40 (.aload_n 0) 1 41 := ⟨by decide +kernel, rfl⟩
theorem e_X11_sight_41 : DC cX11_sight 41 (.dup) 1 42 := ⟨by decide +kernel, rfl⟩
theorem e_X11_sight_42 : DC cX11_sight 42 (.getfield 258) 3 45 := ⟨by decide +kernel, rfl⟩
theorem e_X11_sight_45 : DC cX11_sight 45 (.iconst 1) 1 46 := ⟨by decide +kernel, rfl⟩
theorem e_X11_sight_46 : DC cX11_sight 46 (.iadd) 1 47 := ⟨by decide +kernel, rfl⟩
theorem e_X11_sight_47 : DC cX11_sight 47 (.putfield 258) 3 50 := ⟨by decide +kernel, rfl⟩
theorem e_X11_sight_50 : DC cX11_sight 50 (.aload_n 0) 1 51 := ⟨by decide +kernel, rfl⟩
theorem e_X11_sight_51 : DC cX11_sight 51 (.getfield 258) 3 54 := ⟨by decide +kernel, rfl⟩
theorem e_X11_sight_54 : DC cX11_sight 54 (.ireturn) 1 55 := ⟨by decide +kernel, rfl⟩
noncomputable def m_X11_sight_0 (t_sights : Int) (t_many : Nat → Int) (t_sightEye : Nat → Int) (t_sightSeen : Nat → Int) (v1 : Int) (v2 : Int) : Option (Int × Int × (Nat → Int) × (Nat → Int)) :=
  if t_sights = 20 then (some ((-1), t_sights, t_sightEye, t_sightSeen)) else ((m_X11_isTold t_many 2 v1).bind (fun y1 => if y1 = 0 then (some ((-1), t_sights, t_sightEye, t_sightSeen)) else (chk (inB t_sights 20) (chk (inB t_sights 20) (chk (inI (t_sights + 1)) (some (t_sights + 1, t_sights + 1, up t_sightEye (Int.toNat t_sights) v1, up t_sightSeen (Int.toNat t_sights) v2)))))))

set_option maxRecDepth 10000 in
set_option maxHeartbeats 8000000 in
theorem g_X11_sight_0 {l : Launch} {E : EE} {b0 n : Nat} {h : AH} {a_t : Nat} {t_thrown t_taped t_p t_fault t_baseLow t_baseHigh t_newBaseLow t_newBaseHigh t_from t_knots t_lines t_chosen t_undos t_redos t_aimedMany t_fits t_fitOf t_sights t_systems t_own t_cross t_curveLong t_wallFirst v1 v2 : Int} {t_many t_sightEye t_sightSeen : Nat → Int} {r : Int × Int × (Nat → Int) × (Nat → Int)} (ao : AO b0 n [a_t, (a_t + 2), (a_t + 42), (a_t + 43)]) (ok_t_sights : inI t_sights) (ok_t_many : okA t_many) (ok_t_sightEye : okA t_sightEye) (ok_t_sightSeen : okZ t_sightSeen) (ok_v1 : inI v1) (ok_v2 : inZ v2) (hs : m_X11_sight_0 t_sights t_many t_sightEye t_sightSeen v1 v2 = some r) : G l E b0 M_X11_sight (fun _ => True) (ZM E b0 (some (vI r.1)) (ov [a_t, (a_t + 2), (a_t + 42), (a_t + 43)] [.inr (11, fsX11 a_t t_thrown t_taped t_p t_fault t_baseLow t_baseHigh t_newBaseLow t_newBaseHigh t_from t_knots t_lines t_chosen t_undos t_redos t_aimedMany t_fits t_fitOf r.2.1 t_systems t_own t_cross t_curveLong t_wallFirst), IA E 7 t_many, IA E 20 r.2.2.1, ZA E 20 r.2.2.2] h) n (inI r.1 ∧ inI r.2.1 ∧ okA r.2.2.1 ∧ okZ r.2.2.2) 0 0) 0 0 n (ov [a_t, (a_t + 2), (a_t + 42), (a_t + 43)] [.inr (11, fsX11 a_t t_thrown t_taped t_p t_fault t_baseLow t_baseHigh t_newBaseLow t_newBaseHigh t_from t_knots t_lines t_chosen t_undos t_redos t_aimedMany t_fits t_fitOf t_sights t_systems t_own t_cross t_curveLong t_wallFirst), IA E 7 t_many, IA E 20 t_sightEye, ZA E 20 t_sightSeen] h) 0 [some (.ref a_t), some (vI v1), some (vI v2)] [] := by
  rw [m_X11_sight_0] at hs
  refine g_aload_n e_X11_sight_0 rfl ?_
  refine g_get 0 58 ao rfl rfl fsX11_g58 fl_X11_258 e_X11_sight_1 ?_
  refine g_bipush e_X11_sight_4 bp_20 ?_
  refine g_icmp_eq e_X11_sight_6 ok_t_sights (by decide : inI 20) hs (fun c6 hs => ?_) (fun c6 hs => ?_)
  · refine g_iconst e_X11_sight_18 ?_
    obtain rfl := Option.some.inj hs
    exact g_iret rfl ⟨(by decide : inI (-1)), ok_t_sights, ok_t_sightEye, ok_t_sightSeen⟩ e_X11_sight_19
  · refine g_aload_n e_X11_sight_9 rfl ?_
    refine g_iconst e_X11_sight_10 ?_
    refine g_iload_n e_X11_sight_11 rfl ?_
    obtain ⟨y1, hy1, hs⟩ := bind_elim hs
    refine g_callVr [vI 2, vI v1] cv_X11_261 ⟨rfl, rfl, Nat.le_of_ble_eq_true rfl, Nat.le_of_ble_eq_true rfl⟩ (ct_X11_isTold (a_t := a_t) (AO_call [0, 1] ao (by decide) rfl) (FA_call [0, 1] ao.1 rfl rfl) ok_t_many (by decide : inI 2) ok_v1 hy1) e_X11_sight_12 (ao.2 0 _ rfl) (ov_get 0 ao.1 rfl rfl) rfl rfl rfl (Nat.le_of_ble_eq_true rfl) ⟨Nat.le_refl _, Nat.le_refl _⟩ (fun Py1 => ?_)
    refine g_if_ne e_X11_sight_15 (inZ_I Py1) hs (fun c15 hs => ?_) (fun c15 hs => ?_)
    · refine g_iconst e_X11_sight_18 ?_
      obtain rfl := Option.some.inj hs
      exact g_iret rfl ⟨(by decide : inI (-1)), ok_t_sights, ok_t_sightEye, ok_t_sightSeen⟩ e_X11_sight_19
    · refine g_aload_n e_X11_sight_20 rfl ?_
      refine g_get 0 59 ao rfl rfl fsX11_g59 fl_X11_136 e_X11_sight_21 ?_
      refine g_aload_n e_X11_sight_24 rfl ?_
      refine g_get 0 58 ao rfl rfl fsX11_g58 fl_X11_258 e_X11_sight_25 ?_
      refine g_iload_n e_X11_sight_28 rfl ?_
      refine g_iast 2 ao rfl rfl ls_2 (Nat.le_of_ble_eq_true rfl) e_X11_sight_29 hs (fun hi2 hs => ?_)
      refine g_aload_n e_X11_sight_30 rfl ?_
      refine g_get 0 60 ao rfl rfl fsX11_g60 fl_X11_139 e_X11_sight_31 ?_
      refine g_aload_n e_X11_sight_34 rfl ?_
      refine g_get 0 58 ao rfl rfl fsX11_g58 fl_X11_258 e_X11_sight_35 ?_
      refine g_iload_n e_X11_sight_38 rfl ?_
      refine g_zast 3 ao rfl rfl ls_3 (Nat.le_of_ble_eq_true rfl) ok_v2 e_X11_sight_39 hs (fun hi3 hs => ?_)
      refine g_aload_n e_X11_sight_40 rfl ?_
      refine g_dup e_X11_sight_41 rfl ?_
      refine g_get 0 58 ao rfl rfl fsX11_g58 fl_X11_258 e_X11_sight_42 ?_
      refine g_iconst e_X11_sight_45 ?_
      refine g_iadd e_X11_sight_46 ?_
      obtain ⟨hc4, hs⟩ := chk_elim hs
      refine g_put 0 58 ao rfl rfl fsX11_k58 fsX11_s58 ls_0 fw_X11_258 (fun h => by cases h) ⟨rfl, rfl⟩ e_X11_sight_47 ?_
      refine g_aload_n e_X11_sight_50 rfl ?_
      refine g_get 0 58 ao rfl rfl fsX11_g58 fl_X11_258 e_X11_sight_51 ?_
      obtain rfl := Option.some.inj hs
      exact g_iret rfl ⟨hc4, hc4, (okA_up ok_t_sightEye ok_v1), (okZ_up ok_t_sightSeen ok_v2)⟩ e_X11_sight_54

noncomputable def m_X11_sight (t_sights : Int) (t_many : Nat → Int) (t_sightEye : Nat → Int) (t_sightSeen : Nat → Int) (v1 : Int) (v2 : Int) : Option (Int × Int × (Nat → Int) × (Nat → Int)) := m_X11_sight_0 t_sights t_many t_sightEye t_sightSeen v1 v2

set_option maxRecDepth 10000 in
set_option maxHeartbeats 8000000 in
theorem ct_X11_sight {l : Launch} {E : EE} {b0 n : Nat} {h : AH} {a_t : Nat} {t_thrown t_taped t_p t_fault t_baseLow t_baseHigh t_newBaseLow t_newBaseHigh t_from t_knots t_lines t_chosen t_undos t_redos t_aimedMany t_fits t_fitOf t_sights t_systems t_own t_cross t_curveLong t_wallFirst : Int} {t_many t_sightEye t_sightSeen : Nat → Int} {v1 v2 : Int} (ao : AO b0 n [a_t, (a_t + 2), (a_t + 42), (a_t + 43)]) (hf : FA h [a_t, (a_t + 2), (a_t + 42), (a_t + 43)] [.inr (11, fsX11 a_t t_thrown t_taped t_p t_fault t_baseLow t_baseHigh t_newBaseLow t_newBaseHigh t_from t_knots t_lines t_chosen t_undos t_redos t_aimedMany t_fits t_fitOf t_sights t_systems t_own t_cross t_curveLong t_wallFirst), IA E 7 t_many, IA E 20 t_sightEye, ZA E 20 t_sightSeen]) (ok_t_sights : inI t_sights) (ok_t_many : okA t_many) (ok_t_sightEye : okA t_sightEye) (ok_t_sightSeen : okZ t_sightSeen) (ok_v1 : inI v1) (ok_v2 : inZ v2) {r : Int × Int × (Nat → Int) × (Nat → Int)} (hm : m_X11_sight t_sights t_many t_sightEye t_sightSeen v1 v2 = some r) : Ct l E b0 M_X11_sight 0 0 [.ref a_t, vI v1, vI v2] h n (some (vI r.1)) (ov [a_t, (a_t + 2), (a_t + 42), (a_t + 43)] [.inr (11, fsX11 a_t t_thrown t_taped t_p t_fault t_baseLow t_baseHigh t_newBaseLow t_newBaseHigh t_from t_knots t_lines t_chosen t_undos t_redos t_aimedMany t_fits t_fitOf r.2.1 t_systems t_own t_cross t_curveLong t_wallFirst), IA E 7 t_many, IA E 20 r.2.2.1, ZA E 20 r.2.2.2] h) n (inI r.1 ∧ inI r.2.1 ∧ okA r.2.2.1 ∧ okZ r.2.2.2) := by
  rw [m_X11_sight] at hm
  have hg : G l E b0 M_X11_sight (fun _ => True) (ZM E b0 (some (vI r.1)) (ov [a_t, (a_t + 2), (a_t + 42), (a_t + 43)] [.inr (11, fsX11 a_t t_thrown t_taped t_p t_fault t_baseLow t_baseHigh t_newBaseLow t_newBaseHigh t_from t_knots t_lines t_chosen t_undos t_redos t_aimedMany t_fits t_fitOf r.2.1 t_systems t_own t_cross t_curveLong t_wallFirst), IA E 7 t_many, IA E 20 r.2.2.1, ZA E 20 r.2.2.2] h) n (inI r.1 ∧ inI r.2.1 ∧ okA r.2.2.1 ∧ okZ r.2.2.2) 0 0) 0 0 n (ov [a_t, (a_t + 2), (a_t + 42), (a_t + 43)] [.inr (11, fsX11 a_t t_thrown t_taped t_p t_fault t_baseLow t_baseHigh t_newBaseLow t_newBaseHigh t_from t_knots t_lines t_chosen t_undos t_redos t_aimedMany t_fits t_fitOf t_sights t_systems t_own t_cross t_curveLong t_wallFirst), IA E 7 t_many, IA E 20 t_sightEye, ZA E 20 t_sightSeen] h) 0 [some (.ref a_t), some (vI v1), some (vI v2)] [] := by
    have hs := hm
    exact g_X11_sight_0 ao ok_t_sights ok_t_many ok_t_sightEye ok_t_sightSeen ok_v1 ok_v2 hs
  rw [FA_id hf] at hg
  exact Ct_of [some (.ref a_t), some (vI v1), some (vI v2)] ⟨by decide +kernel, rfl⟩ rfl (Nat.le_of_ble_eq_true rfl) hg

/-! ===== X11_forget ===== -/
theorem e_X11_forget_0 : DC cX11_forget 0 (.aload_n 0) 1 1 := ⟨by decide +kernel, rfl⟩
theorem e_X11_forget_1 : DC cX11_forget 1 (.getfield 258) 3 4 := ⟨by decide +kernel, rfl⟩
theorem e_X11_forget_4 : DC cX11_forget 4 (.istore_n 1) 1 5 := ⟨by decide +kernel, rfl⟩
theorem e_X11_forget_5 : DC cX11_forget 5 (.aload_n 0) 1 6 := ⟨by decide +kernel, rfl⟩
theorem e_X11_forget_6 : DC cX11_forget 6 (.iconst 0) 1 7 := ⟨by decide +kernel, rfl⟩
theorem e_X11_forget_7 : DC cX11_forget 7 (.putfield 258) 3 10 := ⟨by decide +kernel, rfl⟩
theorem e_X11_forget_10 : DC cX11_forget 10 (.iload_n 1) 1 11 := ⟨by decide +kernel, rfl⟩
theorem e_X11_forget_11 : DC cX11_forget 11 (.ireturn) 1 12 := ⟨by decide +kernel, rfl⟩
noncomputable def m_X11_forget_0 (t_sights : Int) : Option (Int × Int) :=
  some (t_sights, 0)

set_option maxRecDepth 10000 in
set_option maxHeartbeats 8000000 in
theorem g_X11_forget_0 {l : Launch} {E : EE} {b0 n : Nat} {h : AH} {a_t : Nat} {t_thrown t_taped t_p t_fault t_baseLow t_baseHigh t_newBaseLow t_newBaseHigh t_from t_knots t_lines t_chosen t_undos t_redos t_aimedMany t_fits t_fitOf t_sights t_systems t_own t_cross t_curveLong t_wallFirst : Int} {r : Int × Int} (ao : AO b0 n [a_t]) (ok_t_sights : inI t_sights) (hs : m_X11_forget_0 t_sights = some r) : G l E b0 M_X11_forget (fun _ => True) (ZM E b0 (some (vI r.1)) (ov [a_t] [.inr (11, fsX11 a_t t_thrown t_taped t_p t_fault t_baseLow t_baseHigh t_newBaseLow t_newBaseHigh t_from t_knots t_lines t_chosen t_undos t_redos t_aimedMany t_fits t_fitOf r.2 t_systems t_own t_cross t_curveLong t_wallFirst)] h) n (inI r.1 ∧ inI r.2) 0 0) 0 0 n (ov [a_t] [.inr (11, fsX11 a_t t_thrown t_taped t_p t_fault t_baseLow t_baseHigh t_newBaseLow t_newBaseHigh t_from t_knots t_lines t_chosen t_undos t_redos t_aimedMany t_fits t_fitOf t_sights t_systems t_own t_cross t_curveLong t_wallFirst)] h) 0 [some (.ref a_t), none] [] := by
  rw [m_X11_forget_0] at hs
  refine g_aload_n e_X11_forget_0 rfl ?_
  refine g_get 0 58 ao rfl rfl fsX11_g58 fl_X11_258 e_X11_forget_1 ?_
  refine g_istore_n e_X11_forget_4 st1_1 rfl ?_
  refine g_aload_n e_X11_forget_5 rfl ?_
  refine g_iconst e_X11_forget_6 ?_
  refine g_put 0 58 ao rfl rfl fsX11_k58 fsX11_s58 ls_0 fw_X11_258 (fun h => by cases h) ⟨rfl, rfl⟩ e_X11_forget_7 ?_
  refine g_iload_n e_X11_forget_10 rfl ?_
  obtain rfl := Option.some.inj hs
  exact g_iret rfl ⟨ok_t_sights, (by decide : inI 0)⟩ e_X11_forget_11

noncomputable def m_X11_forget (t_sights : Int) : Option (Int × Int) := m_X11_forget_0 t_sights

set_option maxRecDepth 10000 in
set_option maxHeartbeats 8000000 in
theorem ct_X11_forget {l : Launch} {E : EE} {b0 n : Nat} {h : AH} {a_t : Nat} {t_thrown t_taped t_p t_fault t_baseLow t_baseHigh t_newBaseLow t_newBaseHigh t_from t_knots t_lines t_chosen t_undos t_redos t_aimedMany t_fits t_fitOf t_sights t_systems t_own t_cross t_curveLong t_wallFirst : Int} (ao : AO b0 n [a_t]) (hf : FA h [a_t] [.inr (11, fsX11 a_t t_thrown t_taped t_p t_fault t_baseLow t_baseHigh t_newBaseLow t_newBaseHigh t_from t_knots t_lines t_chosen t_undos t_redos t_aimedMany t_fits t_fitOf t_sights t_systems t_own t_cross t_curveLong t_wallFirst)]) (ok_t_sights : inI t_sights) {r : Int × Int} (hm : m_X11_forget t_sights = some r) : Ct l E b0 M_X11_forget 0 0 [.ref a_t] h n (some (vI r.1)) (ov [a_t] [.inr (11, fsX11 a_t t_thrown t_taped t_p t_fault t_baseLow t_baseHigh t_newBaseLow t_newBaseHigh t_from t_knots t_lines t_chosen t_undos t_redos t_aimedMany t_fits t_fitOf r.2 t_systems t_own t_cross t_curveLong t_wallFirst)] h) n (inI r.1 ∧ inI r.2) := by
  rw [m_X11_forget] at hm
  have hg : G l E b0 M_X11_forget (fun _ => True) (ZM E b0 (some (vI r.1)) (ov [a_t] [.inr (11, fsX11 a_t t_thrown t_taped t_p t_fault t_baseLow t_baseHigh t_newBaseLow t_newBaseHigh t_from t_knots t_lines t_chosen t_undos t_redos t_aimedMany t_fits t_fitOf r.2 t_systems t_own t_cross t_curveLong t_wallFirst)] h) n (inI r.1 ∧ inI r.2) 0 0) 0 0 n (ov [a_t] [.inr (11, fsX11 a_t t_thrown t_taped t_p t_fault t_baseLow t_baseHigh t_newBaseLow t_newBaseHigh t_from t_knots t_lines t_chosen t_undos t_redos t_aimedMany t_fits t_fitOf t_sights t_systems t_own t_cross t_curveLong t_wallFirst)] h) 0 [some (.ref a_t), none] [] := by
    have hs := hm
    exact g_X11_forget_0 ao ok_t_sights hs
  rw [FA_id hf] at hg
  exact Ct_of [some (.ref a_t), none] ⟨by decide +kernel, rfl⟩ rfl (Nat.le_of_ble_eq_true rfl) hg

/-! ===== X11_isSeen ===== -/
theorem e_X11_isSeen_0 : DC cX11_isSeen 0 (.aload_n 0) 1 1 := ⟨by decide +kernel, rfl⟩
theorem e_X11_isSeen_1 : DC cX11_isSeen 1 (.aload_n 0) 1 2 := ⟨by decide +kernel, rfl⟩
theorem e_X11_isSeen_2 : DC cX11_isSeen 2 (.getfield 20) 3 5 := ⟨by decide +kernel, rfl⟩
theorem e_X11_isSeen_5 : DC cX11_isSeen 5 (.iconst 3) 1 6 := ⟨by decide +kernel, rfl⟩
theorem e_X11_isSeen_6 : DC cX11_isSeen 6 (.iload_n 1) 1 7 := ⟨by decide +kernel, rfl⟩
theorem e_X11_isSeen_7 : DC cX11_isSeen 7 (.imul) 1 8 := ⟨by decide +kernel, rfl⟩
theorem e_X11_isSeen_8 : DC cX11_isSeen 8 (.iaload) 1 9 := ⟨by decide +kernel, rfl⟩
theorem e_X11_isSeen_9 : DC cX11_isSeen 9 (.aload_n 0) 1 10 := ⟨by decide +kernel, rfl⟩
theorem e_X11_isSeen_10 : DC cX11_isSeen 10 (.getfield 20) 3 13 := ⟨by decide +kernel, rfl⟩
theorem e_X11_isSeen_13 : DC cX11_isSeen 13 (.iconst 3) 1 14 := ⟨by decide +kernel, rfl⟩
theorem e_X11_isSeen_14 : DC cX11_isSeen 14 (.iload_n 1) 1 15 := ⟨by decide +kernel, rfl⟩
theorem e_X11_isSeen_15 : DC cX11_isSeen 15 (.imul) 1 16 := ⟨by decide +kernel, rfl⟩
theorem e_X11_isSeen_16 : DC cX11_isSeen 16 (.iconst 1) 1 17 := ⟨by decide +kernel, rfl⟩
theorem e_X11_isSeen_17 : DC cX11_isSeen 17 (.iadd) 1 18 := ⟨by decide +kernel, rfl⟩
theorem e_X11_isSeen_18 : DC cX11_isSeen 18 (.iaload) 1 19 := ⟨by decide +kernel, rfl⟩
theorem e_X11_isSeen_19 : DC cX11_isSeen 19 (.aload_n 0) 1 20 := ⟨by decide +kernel, rfl⟩
theorem e_X11_isSeen_20 : DC cX11_isSeen 20 (.getfield 20) 3 23 := ⟨by decide +kernel, rfl⟩
theorem e_X11_isSeen_23 : DC cX11_isSeen 23 (.iconst 3) 1 24 := ⟨by decide +kernel, rfl⟩
theorem e_X11_isSeen_24 : DC cX11_isSeen 24 (.iload_n 1) 1 25 := ⟨by decide +kernel, rfl⟩
theorem e_X11_isSeen_25 : DC cX11_isSeen 25 (.imul) 1 26 := ⟨by decide +kernel, rfl⟩
theorem e_X11_isSeen_26 : DC cX11_isSeen 26 (.iconst 2) 1 27 := ⟨by decide +kernel, rfl⟩
theorem e_X11_isSeen_27 : DC cX11_isSeen 27 (.iadd) 1 28 := ⟨by decide +kernel, rfl⟩
theorem e_X11_isSeen_28 : DC cX11_isSeen 28 (.iaload) 1 29 := ⟨by decide +kernel, rfl⟩
theorem e_X11_isSeen_29 : DC cX11_isSeen 29 (.iconst 2) 1 30 := ⟨by decide +kernel, rfl⟩
theorem e_X11_isSeen_30 : DC cX11_isSeen 30 (.iload_n 2) 1 31 := ⟨by decide +kernel, rfl⟩
theorem e_X11_isSeen_31 : DC cX11_isSeen 31 (.invokevirtual 305) 3 34 := ⟨by decide +kernel, rfl⟩
theorem e_X11_isSeen_34 : DB cX11_isSeen 34 (.ifCond .eq 7) (7) 3 37 41 := ⟨by decide +kernel, rfl, rfl⟩
theorem e_X11_isSeen_37 : DC cX11_isSeen 37 (.iconst 1) 1 38 := ⟨by decide +kernel, rfl⟩
theorem e_X11_isSeen_38 : DB cX11_isSeen 38 (.goto 4) (4) 3 41 42 := ⟨by decide +kernel, rfl, rfl⟩
theorem e_X11_isSeen_41 : DC cX11_isSeen 41 (.iconst 0) 1 42 := ⟨by decide +kernel, rfl⟩
theorem e_X11_isSeen_42 : DC cX11_isSeen 42 (.ireturn) 1 43 := ⟨by decide +kernel, rfl⟩
noncomputable def m_X11_isSeen_0 (t_way : Nat → Int) (v1 : Int) (v2 : Int) : Option (Int) :=
  chk (inB (3 * v1) 144) (chk (inB ((3 * v1) + 1) 144) (chk (inB ((3 * v1) + 2) 144) ((m_X11_along t_way (t_way (Int.toNat (3 * v1))) (t_way (Int.toNat ((3 * v1) + 1))) (t_way (Int.toNat ((3 * v1) + 2))) 2 v2).bind (fun y4 => if y4 = 0 then (some (0)) else (some (1))))))

set_option maxRecDepth 10000 in
set_option maxHeartbeats 8000000 in
theorem g_X11_isSeen_0 {l : Launch} {E : EE} {b0 n : Nat} {h : AH} {a_t : Nat} {t_thrown t_taped t_p t_fault t_baseLow t_baseHigh t_newBaseLow t_newBaseHigh t_from t_knots t_lines t_chosen t_undos t_redos t_aimedMany t_fits t_fitOf t_sights t_systems t_own t_cross t_curveLong t_wallFirst v1 v2 : Int} {t_way : Nat → Int} {r : Int} (ao : AO b0 n [a_t, (a_t + 4)]) (ok_t_way : okA t_way) (ok_v1 : inI v1) (ok_v2 : inI v2) (hs : m_X11_isSeen_0 t_way v1 v2 = some r) : G l E b0 M_X11_isSeen (fun _ => True) (ZM E b0 (some (vI r)) (ov [a_t, (a_t + 4)] [.inr (11, fsX11 a_t t_thrown t_taped t_p t_fault t_baseLow t_baseHigh t_newBaseLow t_newBaseHigh t_from t_knots t_lines t_chosen t_undos t_redos t_aimedMany t_fits t_fitOf t_sights t_systems t_own t_cross t_curveLong t_wallFirst), IA E 144 t_way] h) n (inZ r) 0 0) 0 0 n (ov [a_t, (a_t + 4)] [.inr (11, fsX11 a_t t_thrown t_taped t_p t_fault t_baseLow t_baseHigh t_newBaseLow t_newBaseHigh t_from t_knots t_lines t_chosen t_undos t_redos t_aimedMany t_fits t_fitOf t_sights t_systems t_own t_cross t_curveLong t_wallFirst), IA E 144 t_way] h) 0 [some (.ref a_t), some (vI v1), some (vI v2)] [] := by
  rw [m_X11_isSeen_0] at hs
  refine g_aload_n e_X11_isSeen_0 rfl ?_
  refine g_aload_n e_X11_isSeen_1 rfl ?_
  refine g_get 0 7 ao rfl rfl fsX11_g7 fl_X11_20 e_X11_isSeen_2 ?_
  refine g_iconst e_X11_isSeen_5 ?_
  refine g_iload_n e_X11_isSeen_6 rfl ?_
  refine g_imul e_X11_isSeen_7 ?_
  refine g_iald 1 ao rfl rfl (Nat.le_of_ble_eq_true rfl) e_X11_isSeen_8 hs (fun hi1 hs => ?_)
  refine g_aload_n e_X11_isSeen_9 rfl ?_
  refine g_get 0 7 ao rfl rfl fsX11_g7 fl_X11_20 e_X11_isSeen_10 ?_
  refine g_iconst e_X11_isSeen_13 ?_
  refine g_iload_n e_X11_isSeen_14 rfl ?_
  refine g_imul e_X11_isSeen_15 ?_
  refine g_iconst e_X11_isSeen_16 ?_
  refine g_iadd e_X11_isSeen_17 ?_
  refine g_iald 1 ao rfl rfl (Nat.le_of_ble_eq_true rfl) e_X11_isSeen_18 hs (fun hi2 hs => ?_)
  refine g_aload_n e_X11_isSeen_19 rfl ?_
  refine g_get 0 7 ao rfl rfl fsX11_g7 fl_X11_20 e_X11_isSeen_20 ?_
  refine g_iconst e_X11_isSeen_23 ?_
  refine g_iload_n e_X11_isSeen_24 rfl ?_
  refine g_imul e_X11_isSeen_25 ?_
  refine g_iconst e_X11_isSeen_26 ?_
  refine g_iadd e_X11_isSeen_27 ?_
  refine g_iald 1 ao rfl rfl (Nat.le_of_ble_eq_true rfl) e_X11_isSeen_28 hs (fun hi3 hs => ?_)
  refine g_iconst e_X11_isSeen_29 ?_
  refine g_iload_n e_X11_isSeen_30 rfl ?_
  obtain ⟨y4, hy4, hs⟩ := bind_elim hs
  refine g_callVr [vI (t_way (Int.toNat (3 * v1))), vI (t_way (Int.toNat ((3 * v1) + 1))), vI (t_way (Int.toNat ((3 * v1) + 2))), vI 2, vI v2] cv_X11_305 ⟨rfl, rfl, Nat.le_of_ble_eq_true rfl, Nat.le_of_ble_eq_true rfl⟩ (ct_X11_along (a_t := a_t) (AO_call [0, 1] ao (by decide) rfl) (FA_call [0, 1] ao.1 rfl rfl) ok_t_way (ok_t_way _) (ok_t_way _) (ok_t_way _) (by decide : inI 2) ok_v2 hy4) e_X11_isSeen_31 (ao.2 0 _ rfl) (ov_get 0 ao.1 rfl rfl) rfl rfl rfl (Nat.le_of_ble_eq_true rfl) ⟨Nat.le_refl _, Nat.le_refl _⟩ (fun Py4 => ?_)
  refine g_if_eq e_X11_isSeen_34 Py4 hs (fun c34 hs => ?_) (fun c34 hs => ?_)
  · refine g_iconst e_X11_isSeen_41 ?_
    obtain rfl := Option.some.inj hs
    exact g_zret rfl (by decide : inZ 0) (by decide : inZ 0) e_X11_isSeen_42
  · refine g_iconst e_X11_isSeen_37 ?_
    refine g_goto e_X11_isSeen_38 ?_
    obtain rfl := Option.some.inj hs
    exact g_zret rfl (by decide : inZ 1) (by decide : inZ 1) e_X11_isSeen_42

noncomputable def m_X11_isSeen (t_way : Nat → Int) (v1 : Int) (v2 : Int) : Option (Int) := m_X11_isSeen_0 t_way v1 v2

set_option maxRecDepth 10000 in
set_option maxHeartbeats 8000000 in
theorem ct_X11_isSeen {l : Launch} {E : EE} {b0 n : Nat} {h : AH} {a_t : Nat} {t_thrown t_taped t_p t_fault t_baseLow t_baseHigh t_newBaseLow t_newBaseHigh t_from t_knots t_lines t_chosen t_undos t_redos t_aimedMany t_fits t_fitOf t_sights t_systems t_own t_cross t_curveLong t_wallFirst : Int} {t_way : Nat → Int} {v1 v2 : Int} (ao : AO b0 n [a_t, (a_t + 4)]) (hf : FA h [a_t, (a_t + 4)] [.inr (11, fsX11 a_t t_thrown t_taped t_p t_fault t_baseLow t_baseHigh t_newBaseLow t_newBaseHigh t_from t_knots t_lines t_chosen t_undos t_redos t_aimedMany t_fits t_fitOf t_sights t_systems t_own t_cross t_curveLong t_wallFirst), IA E 144 t_way]) (ok_t_way : okA t_way) (ok_v1 : inI v1) (ok_v2 : inI v2) {r : Int} (hm : m_X11_isSeen t_way v1 v2 = some r) : Ct l E b0 M_X11_isSeen 0 0 [.ref a_t, vI v1, vI v2] h n (some (vI r)) h n (inZ r) := by
  rw [m_X11_isSeen] at hm
  have hg : G l E b0 M_X11_isSeen (fun _ => True) (ZM E b0 (some (vI r)) (ov [a_t, (a_t + 4)] [.inr (11, fsX11 a_t t_thrown t_taped t_p t_fault t_baseLow t_baseHigh t_newBaseLow t_newBaseHigh t_from t_knots t_lines t_chosen t_undos t_redos t_aimedMany t_fits t_fitOf t_sights t_systems t_own t_cross t_curveLong t_wallFirst), IA E 144 t_way] h) n (inZ r) 0 0) 0 0 n (ov [a_t, (a_t + 4)] [.inr (11, fsX11 a_t t_thrown t_taped t_p t_fault t_baseLow t_baseHigh t_newBaseLow t_newBaseHigh t_from t_knots t_lines t_chosen t_undos t_redos t_aimedMany t_fits t_fitOf t_sights t_systems t_own t_cross t_curveLong t_wallFirst), IA E 144 t_way] h) 0 [some (.ref a_t), some (vI v1), some (vI v2)] [] := by
    have hs := hm
    exact g_X11_isSeen_0 ao ok_t_way ok_v1 ok_v2 hs
  rw [FA_id hf] at hg
  exact Ct_of [some (.ref a_t), some (vI v1), some (vI v2)] ⟨by decide +kernel, rfl⟩ rfl (Nat.le_of_ble_eq_true rfl) hg

/-! ===== X11_fitsSights ===== -/
theorem e_X11_fitsSights_0 : DC cX11_fitsSights 0 (.iconst 1) 1 1 := ⟨by decide +kernel, rfl⟩
theorem e_X11_fitsSights_1 : DC cX11_fitsSights 1 (.istore_n 2) 1 2 := ⟨by decide +kernel, rfl⟩
theorem e_X11_fitsSights_2 : DC cX11_fitsSights 2 (.iconst 0) 1 3 := ⟨by decide +kernel, rfl⟩
theorem e_X11_fitsSights_3 : DC cX11_fitsSights 3 (.istore_n 3) 1 4 := ⟨by decide +kernel, rfl⟩
theorem e_X11_fitsSights_4 : DC cX11_fitsSights 4 (.iload_n 3) 1 5 := ⟨by decide +kernel, rfl⟩
theorem e_X11_fitsSights_5 : DC cX11_fitsSights 5 (.aload_n 0) 1 6 := ⟨by decide +kernel, rfl⟩
theorem e_X11_fitsSights_6 : DC cX11_fitsSights 6 (.getfield 258) 3 9 := ⟨by decide +kernel, rfl⟩
theorem e_X11_fitsSights_9 : DB cX11_fitsSights 9 (.if_icmp .ge 39) (39) 3 12 48 := ⟨by decide +kernel, rfl, rfl⟩
theorem e_X11_fitsSights_12 : DC cX11_fitsSights 12 (.iload_n 2) 1 13 := ⟨by decide +kernel, rfl⟩
theorem e_X11_fitsSights_13 : DB cX11_fitsSights 13 (.ifCond .eq 27) (27) 3 16 40 := ⟨by decide +kernel, rfl, rfl⟩
theorem e_X11_fitsSights_16 : DC cX11_fitsSights 16 (.aload_n 0) 1 17 := ⟨by decide +kernel, rfl⟩
theorem e_X11_fitsSights_17 : DC cX11_fitsSights 17 (.iload_n 1) 1 18 := ⟨by decide +kernel, rfl⟩
theorem e_X11_fitsSights_18 : DC cX11_fitsSights 18 (.aload_n 0) 1 19 := ⟨by decide +kernel, rfl⟩
theorem e_X11_fitsSights_19 : DC cX11_fitsSights 19 (.getfield 136) 3 22 := ⟨by decide +kernel, rfl⟩
theorem e_X11_fitsSights_22 : DC cX11_fitsSights 22 (.iload_n 3) 1 23 := ⟨by decide +kernel, rfl⟩
theorem e_X11_fitsSights_23 : DC cX11_fitsSights 23 (.iaload) 1 24 := ⟨by decide +kernel, rfl⟩
theorem e_X11_fitsSights_24 : DC cX11_fitsSights 24 (.invokevirtual 389) 3 27 := ⟨by decide +kernel, rfl⟩
theorem e_X11_fitsSights_27 : DC cX11_fitsSights 27 (.aload_n 0) 1 28 := ⟨by decide +kernel, rfl⟩
theorem e_X11_fitsSights_28 : DC cX11_fitsSights 28 (.getfield 139) 3 31 := ⟨by decide +kernel, rfl⟩
theorem e_X11_fitsSights_31 : DC cX11_fitsSights 31 (.iload_n 3) 1 32 := ⟨by decide +kernel, rfl⟩
theorem e_X11_fitsSights_32 : DC cX11_fitsSights 32 (.baload) 1 33 := ⟨by decide +kernel, rfl⟩
theorem e_X11_fitsSights_33 : DB cX11_fitsSights 33 (.if_icmp .ne 7) (7) 3 36 40 := ⟨by decide +kernel, rfl, rfl⟩
theorem e_X11_fitsSights_36 : DC cX11_fitsSights 36 (.iconst 1) 1 37 := ⟨by decide +kernel, rfl⟩
theorem e_X11_fitsSights_37 : DB cX11_fitsSights 37 (.goto 4) (4) 3 40 41 := ⟨by decide +kernel, rfl, rfl⟩
theorem e_X11_fitsSights_40 : DC cX11_fitsSights 40 (.iconst 0) 1 41 := ⟨by decide +kernel, rfl⟩
theorem e_X11_fitsSights_41 : DC cX11_fitsSights 41 (.istore_n 2) 1 42 := ⟨by decide +kernel, rfl⟩
theorem e_X11_fitsSights_42 : DC cX11_fitsSights 42 (.iinc 3 1) 3 45 := ⟨by decide +kernel, rfl⟩
theorem e_X11_fitsSights_45 : DB cX11_fitsSights 45 (.goto (-41)) (-41) 3 48 4 := ⟨by decide +kernel, rfl, rfl⟩
theorem e_X11_fitsSights_48 : DC cX11_fitsSights 48 (.iload_n 2) 1 49 := ⟨by decide +kernel, rfl⟩
theorem e_X11_fitsSights_49 : DC cX11_fitsSights 49 (.ireturn) 1 50 := ⟨by decide +kernel, rfl⟩
noncomputable def m_X11_fitsSights_41 (t_sights : Int) (t_way : Nat → Int) (t_sightEye : Nat → Int) (t_sightSeen : Nat → Int) (v1 : Int) (v3 : Int) (s0 : Int) (ag : Int → Int → Option (Int)) (k_48 : Int → Int → Option (Int)) : Option (Int) :=
  chk (inI (v3 + 1)) (ag s0 (v3 + 1))

set_option maxRecDepth 10000 in
set_option maxHeartbeats 8000000 in
theorem g_X11_fitsSights_41 {l : Launch} {E : EE} {b0 n : Nat} {h : AH} {a_t : Nat} {t_thrown t_taped t_p t_fault t_baseLow t_baseHigh t_newBaseLow t_newBaseHigh t_from t_knots t_lines t_chosen t_undos t_redos t_aimedMany t_fits t_fitOf t_sights t_systems t_own t_cross t_curveLong t_wallFirst v1 v3 s0 : Int} {t_way t_sightEye t_sightSeen : Nat → Int} {r : Int} {ag : Int → Int → Option (Int)} {k_48 : Int → Int → Option (Int)} (ao : AO b0 n [a_t, (a_t + 4), (a_t + 42), (a_t + 43)]) (ok_t_sights : inI t_sights) (ok_t_way : okA t_way) (ok_t_sightEye : okA t_sightEye) (ok_t_sightSeen : okZ t_sightSeen) (ok_v1 : inI v1) (ok_v3 : inI v3) (ok_s0 : inZ s0) (hag : ∀ (v2_ : Int) (v3_ : Int), inZ v2_ → inI v3_ → ag v2_ v3_ = some r → G l E b0 M_X11_fitsSights (fun _ => True) (ZM E b0 (some (vI r)) (ov [a_t, (a_t + 4), (a_t + 42), (a_t + 43)] [.inr (11, fsX11 a_t t_thrown t_taped t_p t_fault t_baseLow t_baseHigh t_newBaseLow t_newBaseHigh t_from t_knots t_lines t_chosen t_undos t_redos t_aimedMany t_fits t_fitOf t_sights t_systems t_own t_cross t_curveLong t_wallFirst), IA E 144 t_way, IA E 20 t_sightEye, ZA E 20 t_sightSeen] h) n (inZ r) 0 0) 0 0 n (ov [a_t, (a_t + 4), (a_t + 42), (a_t + 43)] [.inr (11, fsX11 a_t t_thrown t_taped t_p t_fault t_baseLow t_baseHigh t_newBaseLow t_newBaseHigh t_from t_knots t_lines t_chosen t_undos t_redos t_aimedMany t_fits t_fitOf t_sights t_systems t_own t_cross t_curveLong t_wallFirst), IA E 144 t_way, IA E 20 t_sightEye, ZA E 20 t_sightSeen] h) 4 [some (.ref a_t), some (vI v1), some (vI v2_), some (vI v3_)] []) (hk_48 : ∀ (v2_ : Int) (v3_ : Int), inZ v2_ → inI v3_ → k_48 v2_ v3_ = some r → G l E b0 M_X11_fitsSights (fun _ => True) (ZM E b0 (some (vI r)) (ov [a_t, (a_t + 4), (a_t + 42), (a_t + 43)] [.inr (11, fsX11 a_t t_thrown t_taped t_p t_fault t_baseLow t_baseHigh t_newBaseLow t_newBaseHigh t_from t_knots t_lines t_chosen t_undos t_redos t_aimedMany t_fits t_fitOf t_sights t_systems t_own t_cross t_curveLong t_wallFirst), IA E 144 t_way, IA E 20 t_sightEye, ZA E 20 t_sightSeen] h) n (inZ r) 0 0) 0 0 n (ov [a_t, (a_t + 4), (a_t + 42), (a_t + 43)] [.inr (11, fsX11 a_t t_thrown t_taped t_p t_fault t_baseLow t_baseHigh t_newBaseLow t_newBaseHigh t_from t_knots t_lines t_chosen t_undos t_redos t_aimedMany t_fits t_fitOf t_sights t_systems t_own t_cross t_curveLong t_wallFirst), IA E 144 t_way, IA E 20 t_sightEye, ZA E 20 t_sightSeen] h) 48 [none, none, some (vI v2_), none] []) (hs : m_X11_fitsSights_41 t_sights t_way t_sightEye t_sightSeen v1 v3 s0 ag k_48 = some r) : G l E b0 M_X11_fitsSights (fun _ => True) (ZM E b0 (some (vI r)) (ov [a_t, (a_t + 4), (a_t + 42), (a_t + 43)] [.inr (11, fsX11 a_t t_thrown t_taped t_p t_fault t_baseLow t_baseHigh t_newBaseLow t_newBaseHigh t_from t_knots t_lines t_chosen t_undos t_redos t_aimedMany t_fits t_fitOf t_sights t_systems t_own t_cross t_curveLong t_wallFirst), IA E 144 t_way, IA E 20 t_sightEye, ZA E 20 t_sightSeen] h) n (inZ r) 0 0) 0 0 n (ov [a_t, (a_t + 4), (a_t + 42), (a_t + 43)] [.inr (11, fsX11 a_t t_thrown t_taped t_p t_fault t_baseLow t_baseHigh t_newBaseLow t_newBaseHigh t_from t_knots t_lines t_chosen t_undos t_redos t_aimedMany t_fits t_fitOf t_sights t_systems t_own t_cross t_curveLong t_wallFirst), IA E 144 t_way, IA E 20 t_sightEye, ZA E 20 t_sightSeen] h) 41 [some (.ref a_t), some (vI v1), none, some (vI v3)] [vI s0] := by
  rw [m_X11_fitsSights_41] at hs
  refine g_istore_n e_X11_fitsSights_41 st1_2 rfl ?_
  refine g_iinc e_X11_fitsSights_42 rfl st1_3 rfl ?_
  refine g_goto e_X11_fitsSights_45 ?_
  obtain ⟨hc1, hs⟩ := chk_elim hs
  exact hag _ _ ok_s0 hc1 hs

noncomputable def m_X11_fitsSights_40 (t_sights : Int) (t_way : Nat → Int) (t_sightEye : Nat → Int) (t_sightSeen : Nat → Int) (v1 : Int) (v3 : Int) (ag : Int → Int → Option (Int)) (k_48 : Int → Int → Option (Int)) : Option (Int) :=
  m_X11_fitsSights_41 t_sights t_way t_sightEye t_sightSeen v1 v3 0 ag k_48

set_option maxRecDepth 10000 in
set_option maxHeartbeats 8000000 in
theorem g_X11_fitsSights_40 {l : Launch} {E : EE} {b0 n : Nat} {h : AH} {a_t : Nat} {t_thrown t_taped t_p t_fault t_baseLow t_baseHigh t_newBaseLow t_newBaseHigh t_from t_knots t_lines t_chosen t_undos t_redos t_aimedMany t_fits t_fitOf t_sights t_systems t_own t_cross t_curveLong t_wallFirst v1 v3 : Int} {t_way t_sightEye t_sightSeen : Nat → Int} {r : Int} {ag : Int → Int → Option (Int)} {k_48 : Int → Int → Option (Int)} (ao : AO b0 n [a_t, (a_t + 4), (a_t + 42), (a_t + 43)]) (ok_t_sights : inI t_sights) (ok_t_way : okA t_way) (ok_t_sightEye : okA t_sightEye) (ok_t_sightSeen : okZ t_sightSeen) (ok_v1 : inI v1) (ok_v3 : inI v3) (hag : ∀ (v2_ : Int) (v3_ : Int), inZ v2_ → inI v3_ → ag v2_ v3_ = some r → G l E b0 M_X11_fitsSights (fun _ => True) (ZM E b0 (some (vI r)) (ov [a_t, (a_t + 4), (a_t + 42), (a_t + 43)] [.inr (11, fsX11 a_t t_thrown t_taped t_p t_fault t_baseLow t_baseHigh t_newBaseLow t_newBaseHigh t_from t_knots t_lines t_chosen t_undos t_redos t_aimedMany t_fits t_fitOf t_sights t_systems t_own t_cross t_curveLong t_wallFirst), IA E 144 t_way, IA E 20 t_sightEye, ZA E 20 t_sightSeen] h) n (inZ r) 0 0) 0 0 n (ov [a_t, (a_t + 4), (a_t + 42), (a_t + 43)] [.inr (11, fsX11 a_t t_thrown t_taped t_p t_fault t_baseLow t_baseHigh t_newBaseLow t_newBaseHigh t_from t_knots t_lines t_chosen t_undos t_redos t_aimedMany t_fits t_fitOf t_sights t_systems t_own t_cross t_curveLong t_wallFirst), IA E 144 t_way, IA E 20 t_sightEye, ZA E 20 t_sightSeen] h) 4 [some (.ref a_t), some (vI v1), some (vI v2_), some (vI v3_)] []) (hk_48 : ∀ (v2_ : Int) (v3_ : Int), inZ v2_ → inI v3_ → k_48 v2_ v3_ = some r → G l E b0 M_X11_fitsSights (fun _ => True) (ZM E b0 (some (vI r)) (ov [a_t, (a_t + 4), (a_t + 42), (a_t + 43)] [.inr (11, fsX11 a_t t_thrown t_taped t_p t_fault t_baseLow t_baseHigh t_newBaseLow t_newBaseHigh t_from t_knots t_lines t_chosen t_undos t_redos t_aimedMany t_fits t_fitOf t_sights t_systems t_own t_cross t_curveLong t_wallFirst), IA E 144 t_way, IA E 20 t_sightEye, ZA E 20 t_sightSeen] h) n (inZ r) 0 0) 0 0 n (ov [a_t, (a_t + 4), (a_t + 42), (a_t + 43)] [.inr (11, fsX11 a_t t_thrown t_taped t_p t_fault t_baseLow t_baseHigh t_newBaseLow t_newBaseHigh t_from t_knots t_lines t_chosen t_undos t_redos t_aimedMany t_fits t_fitOf t_sights t_systems t_own t_cross t_curveLong t_wallFirst), IA E 144 t_way, IA E 20 t_sightEye, ZA E 20 t_sightSeen] h) 48 [none, none, some (vI v2_), none] []) (hs : m_X11_fitsSights_40 t_sights t_way t_sightEye t_sightSeen v1 v3 ag k_48 = some r) : G l E b0 M_X11_fitsSights (fun _ => True) (ZM E b0 (some (vI r)) (ov [a_t, (a_t + 4), (a_t + 42), (a_t + 43)] [.inr (11, fsX11 a_t t_thrown t_taped t_p t_fault t_baseLow t_baseHigh t_newBaseLow t_newBaseHigh t_from t_knots t_lines t_chosen t_undos t_redos t_aimedMany t_fits t_fitOf t_sights t_systems t_own t_cross t_curveLong t_wallFirst), IA E 144 t_way, IA E 20 t_sightEye, ZA E 20 t_sightSeen] h) n (inZ r) 0 0) 0 0 n (ov [a_t, (a_t + 4), (a_t + 42), (a_t + 43)] [.inr (11, fsX11 a_t t_thrown t_taped t_p t_fault t_baseLow t_baseHigh t_newBaseLow t_newBaseHigh t_from t_knots t_lines t_chosen t_undos t_redos t_aimedMany t_fits t_fitOf t_sights t_systems t_own t_cross t_curveLong t_wallFirst), IA E 144 t_way, IA E 20 t_sightEye, ZA E 20 t_sightSeen] h) 40 [some (.ref a_t), some (vI v1), none, some (vI v3)] [] := by
  rw [m_X11_fitsSights_40] at hs
  refine g_iconst e_X11_fitsSights_40 ?_
  exact g_X11_fitsSights_41 ao ok_t_sights ok_t_way ok_t_sightEye ok_t_sightSeen ok_v1 ok_v3 (by decide : inZ 0) hag hk_48 hs

noncomputable def m_X11_fitsSights_4 (t_sights : Int) (t_way : Nat → Int) (t_sightEye : Nat → Int) (t_sightSeen : Nat → Int) (v1 : Int) (k_48 : Int → Int → Option (Int)) : Nat → Int → Int → Option (Int)
  | 0, _, _ => none
  | F + 1, v2, v3 => if t_sights ≤ v3 then (some (v2)) else (if v2 = 0 then (m_X11_fitsSights_40 t_sights t_way t_sightEye t_sightSeen v1 v3 (m_X11_fitsSights_4 t_sights t_way t_sightEye t_sightSeen v1 k_48 F) k_48) else (chk (inB v3 20) ((m_X11_isSeen t_way v1 (t_sightEye (Int.toNat v3))).bind (fun y3 => chk (inB v3 20) (if y3 = (t_sightSeen (Int.toNat v3)) then (m_X11_fitsSights_41 t_sights t_way t_sightEye t_sightSeen v1 v3 1 (m_X11_fitsSights_4 t_sights t_way t_sightEye t_sightSeen v1 k_48 F) k_48) else (m_X11_fitsSights_40 t_sights t_way t_sightEye t_sightSeen v1 v3 (m_X11_fitsSights_4 t_sights t_way t_sightEye t_sightSeen v1 k_48 F) k_48))))))

set_option maxRecDepth 10000 in
set_option maxHeartbeats 8000000 in
theorem g_X11_fitsSights_4 {l : Launch} {E : EE} {b0 n : Nat} {h : AH} {a_t : Nat} {t_thrown t_taped t_p t_fault t_baseLow t_baseHigh t_newBaseLow t_newBaseHigh t_from t_knots t_lines t_chosen t_undos t_redos t_aimedMany t_fits t_fitOf t_sights t_systems t_own t_cross t_curveLong t_wallFirst v1 : Int} {t_way t_sightEye t_sightSeen : Nat → Int} {r : Int} {k_48 : Int → Int → Option (Int)} (ao : AO b0 n [a_t, (a_t + 4), (a_t + 42), (a_t + 43)]) (ok_t_sights : inI t_sights) (ok_t_way : okA t_way) (ok_t_sightEye : okA t_sightEye) (ok_t_sightSeen : okZ t_sightSeen) (ok_v1 : inI v1) (hk_48 : ∀ (v2_ : Int) (v3_ : Int), inZ v2_ → inI v3_ → k_48 v2_ v3_ = some r → G l E b0 M_X11_fitsSights (fun _ => True) (ZM E b0 (some (vI r)) (ov [a_t, (a_t + 4), (a_t + 42), (a_t + 43)] [.inr (11, fsX11 a_t t_thrown t_taped t_p t_fault t_baseLow t_baseHigh t_newBaseLow t_newBaseHigh t_from t_knots t_lines t_chosen t_undos t_redos t_aimedMany t_fits t_fitOf t_sights t_systems t_own t_cross t_curveLong t_wallFirst), IA E 144 t_way, IA E 20 t_sightEye, ZA E 20 t_sightSeen] h) n (inZ r) 0 0) 0 0 n (ov [a_t, (a_t + 4), (a_t + 42), (a_t + 43)] [.inr (11, fsX11 a_t t_thrown t_taped t_p t_fault t_baseLow t_baseHigh t_newBaseLow t_newBaseHigh t_from t_knots t_lines t_chosen t_undos t_redos t_aimedMany t_fits t_fitOf t_sights t_systems t_own t_cross t_curveLong t_wallFirst), IA E 144 t_way, IA E 20 t_sightEye, ZA E 20 t_sightSeen] h) 48 [none, none, some (vI v2_), none] []) :
    ∀ (F : Nat) (v2 : Int) (v3 : Int), inZ v2 → inI v3 → m_X11_fitsSights_4 t_sights t_way t_sightEye t_sightSeen v1 k_48 F v2 v3 = some r → G l E b0 M_X11_fitsSights (fun _ => True) (ZM E b0 (some (vI r)) (ov [a_t, (a_t + 4), (a_t + 42), (a_t + 43)] [.inr (11, fsX11 a_t t_thrown t_taped t_p t_fault t_baseLow t_baseHigh t_newBaseLow t_newBaseHigh t_from t_knots t_lines t_chosen t_undos t_redos t_aimedMany t_fits t_fitOf t_sights t_systems t_own t_cross t_curveLong t_wallFirst), IA E 144 t_way, IA E 20 t_sightEye, ZA E 20 t_sightSeen] h) n (inZ r) 0 0) 0 0 n (ov [a_t, (a_t + 4), (a_t + 42), (a_t + 43)] [.inr (11, fsX11 a_t t_thrown t_taped t_p t_fault t_baseLow t_baseHigh t_newBaseLow t_newBaseHigh t_from t_knots t_lines t_chosen t_undos t_redos t_aimedMany t_fits t_fitOf t_sights t_systems t_own t_cross t_curveLong t_wallFirst), IA E 144 t_way, IA E 20 t_sightEye, ZA E 20 t_sightSeen] h) 4 [some (.ref a_t), some (vI v1), some (vI v2), some (vI v3)] [] := by
  intro F
  induction F with
  | zero =>
    intro v2 v3 ok_v2 ok_v3 hs
    rw [m_X11_fitsSights_4] at hs
    cases hs
  | succ F ih =>
    intro v2 v3 ok_v2 ok_v3 hs
    rw [m_X11_fitsSights_4] at hs
    refine g_iload_n e_X11_fitsSights_4 rfl ?_
    refine g_aload_n e_X11_fitsSights_5 rfl ?_
    refine g_get 0 58 ao rfl rfl fsX11_g58 fl_X11_258 e_X11_fitsSights_6 ?_
    refine g_icmp_ge e_X11_fitsSights_9 ok_v3 ok_t_sights hs (fun c9 hs => ?_) (fun c9 hs => ?_)
    · refine g_iload_n e_X11_fitsSights_48 rfl ?_
      obtain rfl := Option.some.inj hs
      exact g_zret rfl ok_v2 ok_v2 e_X11_fitsSights_49
    · refine g_iload_n e_X11_fitsSights_12 rfl ?_
      refine g_if_eq e_X11_fitsSights_13 (inZ_I ok_v2) hs (fun c13 hs => ?_) (fun c13 hs => ?_)
      · exact g_mask [true, true, false, true] (g_X11_fitsSights_40 ao ok_t_sights ok_t_way ok_t_sightEye ok_t_sightSeen ok_v1 ok_v3 ih hk_48 hs)
      · refine g_aload_n e_X11_fitsSights_16 rfl ?_
        refine g_iload_n e_X11_fitsSights_17 rfl ?_
        refine g_aload_n e_X11_fitsSights_18 rfl ?_
        refine g_get 0 59 ao rfl rfl fsX11_g59 fl_X11_136 e_X11_fitsSights_19 ?_
        refine g_iload_n e_X11_fitsSights_22 rfl ?_
        refine g_iald 2 ao rfl rfl (Nat.le_of_ble_eq_true rfl) e_X11_fitsSights_23 hs (fun hi2 hs => ?_)
        obtain ⟨y3, hy3, hs⟩ := bind_elim hs
        refine g_callVr [vI v1, vI (t_sightEye (Int.toNat v3))] cv_X11_389 ⟨rfl, rfl, Nat.le_of_ble_eq_true rfl, Nat.le_of_ble_eq_true rfl⟩ (ct_X11_isSeen (a_t := a_t) (AO_call [0, 1] ao (by decide) rfl) (FA_call [0, 1] ao.1 rfl rfl) ok_t_way ok_v1 (ok_t_sightEye _) hy3) e_X11_fitsSights_24 (ao.2 0 _ rfl) (ov_get 0 ao.1 rfl rfl) rfl rfl rfl (Nat.le_of_ble_eq_true rfl) ⟨Nat.le_refl _, Nat.le_refl _⟩ (fun Py3 => ?_)
        refine g_aload_n e_X11_fitsSights_27 rfl ?_
        refine g_get 0 60 ao rfl rfl fsX11_g60 fl_X11_139 e_X11_fitsSights_28 ?_
        refine g_iload_n e_X11_fitsSights_31 rfl ?_
        refine g_zald 3 ao rfl rfl (Nat.le_of_ble_eq_true rfl) e_X11_fitsSights_32 hs (fun hi4 hs => ?_)
        refine g_icmp_ne e_X11_fitsSights_33 (inZ_I Py3) (inZ_I (ok_t_sightSeen _)) hs (fun c33 hs => ?_) (fun c33 hs => ?_)
        · refine g_iconst e_X11_fitsSights_36 ?_
          refine g_goto e_X11_fitsSights_37 ?_
          exact g_mask [true, true, false, true] (g_X11_fitsSights_41 ao ok_t_sights ok_t_way ok_t_sightEye ok_t_sightSeen ok_v1 ok_v3 (by decide : inZ 1) ih hk_48 hs)
        · exact g_mask [true, true, false, true] (g_X11_fitsSights_40 ao ok_t_sights ok_t_way ok_t_sightEye ok_t_sightSeen ok_v1 ok_v3 ih hk_48 hs)

noncomputable def m_X11_fitsSights_48 (v2 : Int) : Option (Int) :=
  some (v2)

set_option maxRecDepth 10000 in
set_option maxHeartbeats 8000000 in
theorem g_X11_fitsSights_48 {l : Launch} {E : EE} {b0 n : Nat} {h : AH} {a_t : Nat} {t_thrown t_taped t_p t_fault t_baseLow t_baseHigh t_newBaseLow t_newBaseHigh t_from t_knots t_lines t_chosen t_undos t_redos t_aimedMany t_fits t_fitOf t_sights t_systems t_own t_cross t_curveLong t_wallFirst v2 : Int} {t_way t_sightEye t_sightSeen : Nat → Int} {r : Int} (ao : AO b0 n [a_t, (a_t + 4), (a_t + 42), (a_t + 43)]) (ok_t_sights : inI t_sights) (ok_t_way : okA t_way) (ok_t_sightEye : okA t_sightEye) (ok_t_sightSeen : okZ t_sightSeen) (ok_v2 : inZ v2) (hs : m_X11_fitsSights_48 v2 = some r) : G l E b0 M_X11_fitsSights (fun _ => True) (ZM E b0 (some (vI r)) (ov [a_t, (a_t + 4), (a_t + 42), (a_t + 43)] [.inr (11, fsX11 a_t t_thrown t_taped t_p t_fault t_baseLow t_baseHigh t_newBaseLow t_newBaseHigh t_from t_knots t_lines t_chosen t_undos t_redos t_aimedMany t_fits t_fitOf t_sights t_systems t_own t_cross t_curveLong t_wallFirst), IA E 144 t_way, IA E 20 t_sightEye, ZA E 20 t_sightSeen] h) n (inZ r) 0 0) 0 0 n (ov [a_t, (a_t + 4), (a_t + 42), (a_t + 43)] [.inr (11, fsX11 a_t t_thrown t_taped t_p t_fault t_baseLow t_baseHigh t_newBaseLow t_newBaseHigh t_from t_knots t_lines t_chosen t_undos t_redos t_aimedMany t_fits t_fitOf t_sights t_systems t_own t_cross t_curveLong t_wallFirst), IA E 144 t_way, IA E 20 t_sightEye, ZA E 20 t_sightSeen] h) 48 [none, none, some (vI v2), none] [] := by
  rw [m_X11_fitsSights_48] at hs
  refine g_iload_n e_X11_fitsSights_48 rfl ?_
  obtain rfl := Option.some.inj hs
  exact g_zret rfl ok_v2 ok_v2 e_X11_fitsSights_49

noncomputable def m_X11_fitsSights_0 (t_sights : Int) (t_way : Nat → Int) (t_sightEye : Nat → Int) (t_sightSeen : Nat → Int) (v1 : Int) : Option (Int) :=
  m_X11_fitsSights_4 t_sights t_way t_sightEye t_sightSeen v1 (fun v2' v3' => m_X11_fitsSights_48 v2') FU 1 0

set_option maxRecDepth 10000 in
set_option maxHeartbeats 8000000 in
theorem g_X11_fitsSights_0 {l : Launch} {E : EE} {b0 n : Nat} {h : AH} {a_t : Nat} {t_thrown t_taped t_p t_fault t_baseLow t_baseHigh t_newBaseLow t_newBaseHigh t_from t_knots t_lines t_chosen t_undos t_redos t_aimedMany t_fits t_fitOf t_sights t_systems t_own t_cross t_curveLong t_wallFirst v1 : Int} {t_way t_sightEye t_sightSeen : Nat → Int} {r : Int} (ao : AO b0 n [a_t, (a_t + 4), (a_t + 42), (a_t + 43)]) (ok_t_sights : inI t_sights) (ok_t_way : okA t_way) (ok_t_sightEye : okA t_sightEye) (ok_t_sightSeen : okZ t_sightSeen) (ok_v1 : inI v1) (hs : m_X11_fitsSights_0 t_sights t_way t_sightEye t_sightSeen v1 = some r) : G l E b0 M_X11_fitsSights (fun _ => True) (ZM E b0 (some (vI r)) (ov [a_t, (a_t + 4), (a_t + 42), (a_t + 43)] [.inr (11, fsX11 a_t t_thrown t_taped t_p t_fault t_baseLow t_baseHigh t_newBaseLow t_newBaseHigh t_from t_knots t_lines t_chosen t_undos t_redos t_aimedMany t_fits t_fitOf t_sights t_systems t_own t_cross t_curveLong t_wallFirst), IA E 144 t_way, IA E 20 t_sightEye, ZA E 20 t_sightSeen] h) n (inZ r) 0 0) 0 0 n (ov [a_t, (a_t + 4), (a_t + 42), (a_t + 43)] [.inr (11, fsX11 a_t t_thrown t_taped t_p t_fault t_baseLow t_baseHigh t_newBaseLow t_newBaseHigh t_from t_knots t_lines t_chosen t_undos t_redos t_aimedMany t_fits t_fitOf t_sights t_systems t_own t_cross t_curveLong t_wallFirst), IA E 144 t_way, IA E 20 t_sightEye, ZA E 20 t_sightSeen] h) 0 [some (.ref a_t), some (vI v1), none, none] [] := by
  rw [m_X11_fitsSights_0] at hs
  refine g_iconst e_X11_fitsSights_0 ?_
  refine g_istore_n e_X11_fitsSights_1 st1_2 rfl ?_
  refine g_iconst e_X11_fitsSights_2 ?_
  refine g_istore_n e_X11_fitsSights_3 st1_3 rfl ?_
  exact g_X11_fitsSights_4 ao ok_t_sights ok_t_way ok_t_sightEye ok_t_sightSeen ok_v1 (hk_48 := by
      intro v2' v3' ok_v2' ok_v3' hs
      exact g_X11_fitsSights_48 ao ok_t_sights ok_t_way ok_t_sightEye ok_t_sightSeen ok_v2' hs) FU _ _ (by decide : inZ 1) (by decide : inI 0) hs

noncomputable def m_X11_fitsSights (t_sights : Int) (t_way : Nat → Int) (t_sightEye : Nat → Int) (t_sightSeen : Nat → Int) (v1 : Int) : Option (Int) := m_X11_fitsSights_0 t_sights t_way t_sightEye t_sightSeen v1

set_option maxRecDepth 10000 in
set_option maxHeartbeats 8000000 in
theorem ct_X11_fitsSights {l : Launch} {E : EE} {b0 n : Nat} {h : AH} {a_t : Nat} {t_thrown t_taped t_p t_fault t_baseLow t_baseHigh t_newBaseLow t_newBaseHigh t_from t_knots t_lines t_chosen t_undos t_redos t_aimedMany t_fits t_fitOf t_sights t_systems t_own t_cross t_curveLong t_wallFirst : Int} {t_way t_sightEye t_sightSeen : Nat → Int} {v1 : Int} (ao : AO b0 n [a_t, (a_t + 4), (a_t + 42), (a_t + 43)]) (hf : FA h [a_t, (a_t + 4), (a_t + 42), (a_t + 43)] [.inr (11, fsX11 a_t t_thrown t_taped t_p t_fault t_baseLow t_baseHigh t_newBaseLow t_newBaseHigh t_from t_knots t_lines t_chosen t_undos t_redos t_aimedMany t_fits t_fitOf t_sights t_systems t_own t_cross t_curveLong t_wallFirst), IA E 144 t_way, IA E 20 t_sightEye, ZA E 20 t_sightSeen]) (ok_t_sights : inI t_sights) (ok_t_way : okA t_way) (ok_t_sightEye : okA t_sightEye) (ok_t_sightSeen : okZ t_sightSeen) (ok_v1 : inI v1) {r : Int} (hm : m_X11_fitsSights t_sights t_way t_sightEye t_sightSeen v1 = some r) : Ct l E b0 M_X11_fitsSights 0 0 [.ref a_t, vI v1] h n (some (vI r)) h n (inZ r) := by
  rw [m_X11_fitsSights] at hm
  have hg : G l E b0 M_X11_fitsSights (fun _ => True) (ZM E b0 (some (vI r)) (ov [a_t, (a_t + 4), (a_t + 42), (a_t + 43)] [.inr (11, fsX11 a_t t_thrown t_taped t_p t_fault t_baseLow t_baseHigh t_newBaseLow t_newBaseHigh t_from t_knots t_lines t_chosen t_undos t_redos t_aimedMany t_fits t_fitOf t_sights t_systems t_own t_cross t_curveLong t_wallFirst), IA E 144 t_way, IA E 20 t_sightEye, ZA E 20 t_sightSeen] h) n (inZ r) 0 0) 0 0 n (ov [a_t, (a_t + 4), (a_t + 42), (a_t + 43)] [.inr (11, fsX11 a_t t_thrown t_taped t_p t_fault t_baseLow t_baseHigh t_newBaseLow t_newBaseHigh t_from t_knots t_lines t_chosen t_undos t_redos t_aimedMany t_fits t_fitOf t_sights t_systems t_own t_cross t_curveLong t_wallFirst), IA E 144 t_way, IA E 20 t_sightEye, ZA E 20 t_sightSeen] h) 0 [some (.ref a_t), some (vI v1), none, none] [] := by
    have hs := hm
    exact g_X11_fitsSights_0 ao ok_t_sights ok_t_way ok_t_sightEye ok_t_sightSeen ok_v1 hs
  rw [FA_id hf] at hg
  exact Ct_of [some (.ref a_t), some (vI v1), none, none] ⟨by decide +kernel, rfl⟩ rfl (Nat.le_of_ble_eq_true rfl) hg

/-! ===== X11_readBack ===== -/
theorem e_X11_readBack_0 : DC cX11_readBack 0 (.iconst 0) 1 1 := ⟨by decide +kernel, rfl⟩
theorem e_X11_readBack_1 : DC cX11_readBack 1 (.istore_n 2) 1 2 := ⟨by decide +kernel, rfl⟩
theorem e_X11_readBack_2 : DC cX11_readBack 2 (.iconst 0) 1 3 := ⟨by decide +kernel, rfl⟩
theorem e_X11_readBack_3 : DC cX11_readBack 3 (.istore_n 3) 1 4 := ⟨by decide +kernel, rfl⟩
theorem e_X11_readBack_4 : DC cX11_readBack 4 (.iload_n 3) 1 5 := ⟨by decide +kernel, rfl⟩
theorem e_X11_readBack_5 : DC cX11_readBack 5 (.aload_n 0) 1 6 := ⟨by decide +kernel, rfl⟩
theorem e_X11_readBack_6 : DC cX11_readBack 6 (.getfield 13) 3 9 := ⟨by decide +kernel, rfl⟩
theorem e_X11_readBack_9 : DC cX11_readBack 9 (.iconst 0) 1 10 := ⟨by decide +kernel, rfl⟩
theorem e_X11_readBack_10 : DC cX11_readBack 10 (.iaload) 1 11 := ⟨by decide +kernel, rfl⟩
theorem e_X11_readBack_11 : DB cX11_readBack 11 (.if_icmp .ge 27) (27) 3 14 38 := ⟨by decide +kernel, rfl, rfl⟩
theorem e_X11_readBack_14 : DC cX11_readBack 14 (.aload_n 0) 1 15 := ⟨by decide +kernel, rfl⟩
theorem e_X11_readBack_15 : DC cX11_readBack 15 (.iload_n 3) 1 16 := ⟨by decide +kernel, rfl⟩
theorem e_X11_readBack_16 : DC cX11_readBack 16 (.invokevirtual 392) 3 19 := ⟨by decide +kernel, rfl⟩
theorem e_X11_readBack_19 : DB cX11_readBack 19 (.ifCond .eq 13) (13) 3 22 32 := ⟨by decide +kernel, rfl, rfl⟩
theorem e_X11_readBack_22 : DC cX11_readBack 22 (.iload_n 2) 1 23 := ⟨by decide +kernel, rfl⟩
theorem e_X11_readBack_23 : DC cX11_readBack 23 (.iload_n 1) 1 24 := ⟨by decide +kernel, rfl⟩
theorem e_X11_readBack_24 : DB cX11_readBack 24 (.if_icmp .ne 5) (5) 3 27 29 := ⟨by decide +kernel, rfl, rfl⟩
theorem e_X11_readBack_27 : DC cX11_readBack 27 (.iload_n 3) 1 28 := ⟨by decide +kernel, rfl⟩
theorem e_X11_readBack_28 : DC cX11_readBack 28 (.ireturn) 1 29 := ⟨by decide +kernel, rfl⟩
theorem e_X11_readBack_29 : DC cX11_readBack 29 (.iinc 2 1) 3 32 := ⟨by decide +kernel, rfl⟩
theorem e_X11_readBack_32 : DC cX11_readBack 32 (.iinc 3 1) 3 35 := ⟨by decide +kernel, rfl⟩
theorem e_X11_readBack_35 : DB cX11_readBack 35 (.goto (-31)) (-31) 3 38 4 := ⟨by decide +kernel, rfl, rfl⟩
theorem e_X11_readBack_38 : DC cX11_readBack 38 (.iload_n 1) 1 39 := ⟨by decide +kernel, rfl⟩
theorem e_X11_readBack_39 : DC cX11_readBack 39 (.iconst (-1)) 1 40 := ⟨by decide +kernel, rfl⟩
theorem e_X11_readBack_40 : DB cX11_readBack 40 (.if_icmp .ne 7) (7) 3 43 47 := ⟨by decide +kernel, rfl, rfl⟩
theorem e_X11_readBack_43 : DC cX11_readBack 43 (.iload_n 2) 1 44 := ⟨by decide +kernel, rfl⟩
theorem e_X11_readBack_44 : DB cX11_readBack 44 (.goto 4) (4) 3 47 48 := ⟨by decide +kernel, rfl, rfl⟩
theorem e_X11_readBack_47 : DC cX11_readBack 47 (.iconst (-1)) 1 48 := ⟨by decide +kernel, rfl⟩
theorem e_X11_readBack_48 : DC cX11_readBack 48 (.ireturn) 1 49 := ⟨by decide +kernel, rfl⟩
noncomputable def m_X11_readBack_32 (t_sights : Int) (t_many : Nat → Int) (t_way : Nat → Int) (t_sightEye : Nat → Int) (t_sightSeen : Nat → Int) (v1 : Int) (v2 : Int) (v3 : Int) (ag : Int → Int → Option (Int)) (k_38 : Int → Int → Option (Int)) (k_27 : Int → Int → Option (Int)) : Option (Int) :=
  chk (inI (v3 + 1)) (ag v2 (v3 + 1))

set_option maxRecDepth 10000 in
set_option maxHeartbeats 8000000 in
theorem g_X11_readBack_32 {l : Launch} {E : EE} {b0 n : Nat} {h : AH} {a_t : Nat} {t_thrown t_taped t_p t_fault t_baseLow t_baseHigh t_newBaseLow t_newBaseHigh t_from t_knots t_lines t_chosen t_undos t_redos t_aimedMany t_fits t_fitOf t_sights t_systems t_own t_cross t_curveLong t_wallFirst v1 v2 v3 : Int} {t_many t_way t_sightEye t_sightSeen : Nat → Int} {r : Int} {ag : Int → Int → Option (Int)} {k_38 : Int → Int → Option (Int)} {k_27 : Int → Int → Option (Int)} (ao : AO b0 n [a_t, (a_t + 2), (a_t + 4), (a_t + 42), (a_t + 43)]) (ok_t_sights : inI t_sights) (ok_t_many : okA t_many) (ok_t_way : okA t_way) (ok_t_sightEye : okA t_sightEye) (ok_t_sightSeen : okZ t_sightSeen) (ok_v1 : inI v1) (ok_v2 : inI v2) (ok_v3 : inI v3) (hag : ∀ (v2_ : Int) (v3_ : Int), inI v2_ → inI v3_ → ag v2_ v3_ = some r → G l E b0 M_X11_readBack (fun _ => True) (ZM E b0 (some (vI r)) (ov [a_t, (a_t + 2), (a_t + 4), (a_t + 42), (a_t + 43)] [.inr (11, fsX11 a_t t_thrown t_taped t_p t_fault t_baseLow t_baseHigh t_newBaseLow t_newBaseHigh t_from t_knots t_lines t_chosen t_undos t_redos t_aimedMany t_fits t_fitOf t_sights t_systems t_own t_cross t_curveLong t_wallFirst), IA E 7 t_many, IA E 144 t_way, IA E 20 t_sightEye, ZA E 20 t_sightSeen] h) n (inI r) 0 0) 0 0 n (ov [a_t, (a_t + 2), (a_t + 4), (a_t + 42), (a_t + 43)] [.inr (11, fsX11 a_t t_thrown t_taped t_p t_fault t_baseLow t_baseHigh t_newBaseLow t_newBaseHigh t_from t_knots t_lines t_chosen t_undos t_redos t_aimedMany t_fits t_fitOf t_sights t_systems t_own t_cross t_curveLong t_wallFirst), IA E 7 t_many, IA E 144 t_way, IA E 20 t_sightEye, ZA E 20 t_sightSeen] h) 4 [some (.ref a_t), some (vI v1), some (vI v2_), some (vI v3_)] []) (hk_38 : ∀ (v2_ : Int) (v3_ : Int), inI v2_ → inI v3_ → k_38 v2_ v3_ = some r → G l E b0 M_X11_readBack (fun _ => True) (ZM E b0 (some (vI r)) (ov [a_t, (a_t + 2), (a_t + 4), (a_t + 42), (a_t + 43)] [.inr (11, fsX11 a_t t_thrown t_taped t_p t_fault t_baseLow t_baseHigh t_newBaseLow t_newBaseHigh t_from t_knots t_lines t_chosen t_undos t_redos t_aimedMany t_fits t_fitOf t_sights t_systems t_own t_cross t_curveLong t_wallFirst), IA E 7 t_many, IA E 144 t_way, IA E 20 t_sightEye, ZA E 20 t_sightSeen] h) n (inI r) 0 0) 0 0 n (ov [a_t, (a_t + 2), (a_t + 4), (a_t + 42), (a_t + 43)] [.inr (11, fsX11 a_t t_thrown t_taped t_p t_fault t_baseLow t_baseHigh t_newBaseLow t_newBaseHigh t_from t_knots t_lines t_chosen t_undos t_redos t_aimedMany t_fits t_fitOf t_sights t_systems t_own t_cross t_curveLong t_wallFirst), IA E 7 t_many, IA E 144 t_way, IA E 20 t_sightEye, ZA E 20 t_sightSeen] h) 38 [none, some (vI v1), some (vI v2_), none] []) (hk_27 : ∀ (v2_ : Int) (v3_ : Int), inI v2_ → inI v3_ → k_27 v2_ v3_ = some r → G l E b0 M_X11_readBack (fun _ => True) (ZM E b0 (some (vI r)) (ov [a_t, (a_t + 2), (a_t + 4), (a_t + 42), (a_t + 43)] [.inr (11, fsX11 a_t t_thrown t_taped t_p t_fault t_baseLow t_baseHigh t_newBaseLow t_newBaseHigh t_from t_knots t_lines t_chosen t_undos t_redos t_aimedMany t_fits t_fitOf t_sights t_systems t_own t_cross t_curveLong t_wallFirst), IA E 7 t_many, IA E 144 t_way, IA E 20 t_sightEye, ZA E 20 t_sightSeen] h) n (inI r) 0 0) 0 0 n (ov [a_t, (a_t + 2), (a_t + 4), (a_t + 42), (a_t + 43)] [.inr (11, fsX11 a_t t_thrown t_taped t_p t_fault t_baseLow t_baseHigh t_newBaseLow t_newBaseHigh t_from t_knots t_lines t_chosen t_undos t_redos t_aimedMany t_fits t_fitOf t_sights t_systems t_own t_cross t_curveLong t_wallFirst), IA E 7 t_many, IA E 144 t_way, IA E 20 t_sightEye, ZA E 20 t_sightSeen] h) 27 [none, none, none, some (vI v3_)] []) (hs : m_X11_readBack_32 t_sights t_many t_way t_sightEye t_sightSeen v1 v2 v3 ag k_38 k_27 = some r) : G l E b0 M_X11_readBack (fun _ => True) (ZM E b0 (some (vI r)) (ov [a_t, (a_t + 2), (a_t + 4), (a_t + 42), (a_t + 43)] [.inr (11, fsX11 a_t t_thrown t_taped t_p t_fault t_baseLow t_baseHigh t_newBaseLow t_newBaseHigh t_from t_knots t_lines t_chosen t_undos t_redos t_aimedMany t_fits t_fitOf t_sights t_systems t_own t_cross t_curveLong t_wallFirst), IA E 7 t_many, IA E 144 t_way, IA E 20 t_sightEye, ZA E 20 t_sightSeen] h) n (inI r) 0 0) 0 0 n (ov [a_t, (a_t + 2), (a_t + 4), (a_t + 42), (a_t + 43)] [.inr (11, fsX11 a_t t_thrown t_taped t_p t_fault t_baseLow t_baseHigh t_newBaseLow t_newBaseHigh t_from t_knots t_lines t_chosen t_undos t_redos t_aimedMany t_fits t_fitOf t_sights t_systems t_own t_cross t_curveLong t_wallFirst), IA E 7 t_many, IA E 144 t_way, IA E 20 t_sightEye, ZA E 20 t_sightSeen] h) 32 [some (.ref a_t), some (vI v1), some (vI v2), some (vI v3)] [] := by
  rw [m_X11_readBack_32] at hs
  refine g_iinc e_X11_readBack_32 rfl st1_3 rfl ?_
  refine g_goto e_X11_readBack_35 ?_
  obtain ⟨hc3, hs⟩ := chk_elim hs
  exact hag _ _ ok_v2 hc3 hs

noncomputable def m_X11_readBack_4 (t_sights : Int) (t_many : Nat → Int) (t_way : Nat → Int) (t_sightEye : Nat → Int) (t_sightSeen : Nat → Int) (v1 : Int) (k_38 : Int → Int → Option (Int)) (k_27 : Int → Int → Option (Int)) : Nat → Int → Int → Option (Int)
  | 0, _, _ => none
  | F + 1, v2, v3 => chk (inB 0 7) (if (t_many (Int.toNat 0)) ≤ v3 then (k_38 v2 v3) else ((m_X11_fitsSights t_sights t_way t_sightEye t_sightSeen v3).bind (fun y2 => if y2 = 0 then (m_X11_readBack_32 t_sights t_many t_way t_sightEye t_sightSeen v1 v2 v3 (m_X11_readBack_4 t_sights t_many t_way t_sightEye t_sightSeen v1 k_38 k_27 F) k_38 k_27) else (if v2 = v1 then (some (v3)) else (chk (inI (v2 + 1)) (m_X11_readBack_32 t_sights t_many t_way t_sightEye t_sightSeen v1 (v2 + 1) v3 (m_X11_readBack_4 t_sights t_many t_way t_sightEye t_sightSeen v1 k_38 k_27 F) k_38 k_27))))))

set_option maxRecDepth 10000 in
set_option maxHeartbeats 8000000 in
theorem g_X11_readBack_4 {l : Launch} {E : EE} {b0 n : Nat} {h : AH} {a_t : Nat} {t_thrown t_taped t_p t_fault t_baseLow t_baseHigh t_newBaseLow t_newBaseHigh t_from t_knots t_lines t_chosen t_undos t_redos t_aimedMany t_fits t_fitOf t_sights t_systems t_own t_cross t_curveLong t_wallFirst v1 : Int} {t_many t_way t_sightEye t_sightSeen : Nat → Int} {r : Int} {k_38 : Int → Int → Option (Int)} {k_27 : Int → Int → Option (Int)} (ao : AO b0 n [a_t, (a_t + 2), (a_t + 4), (a_t + 42), (a_t + 43)]) (ok_t_sights : inI t_sights) (ok_t_many : okA t_many) (ok_t_way : okA t_way) (ok_t_sightEye : okA t_sightEye) (ok_t_sightSeen : okZ t_sightSeen) (ok_v1 : inI v1) (hk_38 : ∀ (v2_ : Int) (v3_ : Int), inI v2_ → inI v3_ → k_38 v2_ v3_ = some r → G l E b0 M_X11_readBack (fun _ => True) (ZM E b0 (some (vI r)) (ov [a_t, (a_t + 2), (a_t + 4), (a_t + 42), (a_t + 43)] [.inr (11, fsX11 a_t t_thrown t_taped t_p t_fault t_baseLow t_baseHigh t_newBaseLow t_newBaseHigh t_from t_knots t_lines t_chosen t_undos t_redos t_aimedMany t_fits t_fitOf t_sights t_systems t_own t_cross t_curveLong t_wallFirst), IA E 7 t_many, IA E 144 t_way, IA E 20 t_sightEye, ZA E 20 t_sightSeen] h) n (inI r) 0 0) 0 0 n (ov [a_t, (a_t + 2), (a_t + 4), (a_t + 42), (a_t + 43)] [.inr (11, fsX11 a_t t_thrown t_taped t_p t_fault t_baseLow t_baseHigh t_newBaseLow t_newBaseHigh t_from t_knots t_lines t_chosen t_undos t_redos t_aimedMany t_fits t_fitOf t_sights t_systems t_own t_cross t_curveLong t_wallFirst), IA E 7 t_many, IA E 144 t_way, IA E 20 t_sightEye, ZA E 20 t_sightSeen] h) 38 [none, some (vI v1), some (vI v2_), none] []) (hk_27 : ∀ (v2_ : Int) (v3_ : Int), inI v2_ → inI v3_ → k_27 v2_ v3_ = some r → G l E b0 M_X11_readBack (fun _ => True) (ZM E b0 (some (vI r)) (ov [a_t, (a_t + 2), (a_t + 4), (a_t + 42), (a_t + 43)] [.inr (11, fsX11 a_t t_thrown t_taped t_p t_fault t_baseLow t_baseHigh t_newBaseLow t_newBaseHigh t_from t_knots t_lines t_chosen t_undos t_redos t_aimedMany t_fits t_fitOf t_sights t_systems t_own t_cross t_curveLong t_wallFirst), IA E 7 t_many, IA E 144 t_way, IA E 20 t_sightEye, ZA E 20 t_sightSeen] h) n (inI r) 0 0) 0 0 n (ov [a_t, (a_t + 2), (a_t + 4), (a_t + 42), (a_t + 43)] [.inr (11, fsX11 a_t t_thrown t_taped t_p t_fault t_baseLow t_baseHigh t_newBaseLow t_newBaseHigh t_from t_knots t_lines t_chosen t_undos t_redos t_aimedMany t_fits t_fitOf t_sights t_systems t_own t_cross t_curveLong t_wallFirst), IA E 7 t_many, IA E 144 t_way, IA E 20 t_sightEye, ZA E 20 t_sightSeen] h) 27 [none, none, none, some (vI v3_)] []) :
    ∀ (F : Nat) (v2 : Int) (v3 : Int), inI v2 → inI v3 → m_X11_readBack_4 t_sights t_many t_way t_sightEye t_sightSeen v1 k_38 k_27 F v2 v3 = some r → G l E b0 M_X11_readBack (fun _ => True) (ZM E b0 (some (vI r)) (ov [a_t, (a_t + 2), (a_t + 4), (a_t + 42), (a_t + 43)] [.inr (11, fsX11 a_t t_thrown t_taped t_p t_fault t_baseLow t_baseHigh t_newBaseLow t_newBaseHigh t_from t_knots t_lines t_chosen t_undos t_redos t_aimedMany t_fits t_fitOf t_sights t_systems t_own t_cross t_curveLong t_wallFirst), IA E 7 t_many, IA E 144 t_way, IA E 20 t_sightEye, ZA E 20 t_sightSeen] h) n (inI r) 0 0) 0 0 n (ov [a_t, (a_t + 2), (a_t + 4), (a_t + 42), (a_t + 43)] [.inr (11, fsX11 a_t t_thrown t_taped t_p t_fault t_baseLow t_baseHigh t_newBaseLow t_newBaseHigh t_from t_knots t_lines t_chosen t_undos t_redos t_aimedMany t_fits t_fitOf t_sights t_systems t_own t_cross t_curveLong t_wallFirst), IA E 7 t_many, IA E 144 t_way, IA E 20 t_sightEye, ZA E 20 t_sightSeen] h) 4 [some (.ref a_t), some (vI v1), some (vI v2), some (vI v3)] [] := by
  intro F
  induction F with
  | zero =>
    intro v2 v3 ok_v2 ok_v3 hs
    rw [m_X11_readBack_4] at hs
    cases hs
  | succ F ih =>
    intro v2 v3 ok_v2 ok_v3 hs
    rw [m_X11_readBack_4] at hs
    refine g_iload_n e_X11_readBack_4 rfl ?_
    refine g_aload_n e_X11_readBack_5 rfl ?_
    refine g_get 0 5 ao rfl rfl fsX11_g5 fl_X11_13 e_X11_readBack_6 ?_
    refine g_iconst e_X11_readBack_9 ?_
    refine g_iald 1 ao rfl rfl (Nat.le_of_ble_eq_true rfl) e_X11_readBack_10 hs (fun hi1 hs => ?_)
    refine g_icmp_ge e_X11_readBack_11 ok_v3 (ok_t_many _) hs (fun c11 hs => ?_) (fun c11 hs => ?_)
    · exact g_mask [false, true, true, false] (hk_38 _ _ ok_v2 ok_v3 hs)
    · refine g_aload_n e_X11_readBack_14 rfl ?_
      refine g_iload_n e_X11_readBack_15 rfl ?_
      obtain ⟨y2, hy2, hs⟩ := bind_elim hs
      refine g_callVr [vI v3] cv_X11_392 ⟨rfl, rfl, Nat.le_of_ble_eq_true rfl, Nat.le_of_ble_eq_true rfl⟩ (ct_X11_fitsSights (a_t := a_t) (AO_call [0, 2, 3, 4] ao (by decide) rfl) (FA_call [0, 2, 3, 4] ao.1 rfl rfl) ok_t_sights ok_t_way ok_t_sightEye ok_t_sightSeen ok_v3 hy2) e_X11_readBack_16 (ao.2 0 _ rfl) (ov_get 0 ao.1 rfl rfl) rfl rfl rfl (Nat.le_of_ble_eq_true rfl) ⟨Nat.le_refl _, Nat.le_refl _⟩ (fun Py2 => ?_)
      refine g_if_eq e_X11_readBack_19 (inZ_I Py2) hs (fun c19 hs => ?_) (fun c19 hs => ?_)
      · exact g_X11_readBack_32 ao ok_t_sights ok_t_many ok_t_way ok_t_sightEye ok_t_sightSeen ok_v1 ok_v2 ok_v3 ih hk_38 hk_27 hs
      · refine g_iload_n e_X11_readBack_22 rfl ?_
        refine g_iload_n e_X11_readBack_23 rfl ?_
        refine g_icmp_ne e_X11_readBack_24 ok_v2 ok_v1 hs (fun c24 hs => ?_) (fun c24 hs => ?_)
        · refine g_iload_n e_X11_readBack_27 rfl ?_
          obtain rfl := Option.some.inj hs
          exact g_iret rfl ok_v3 e_X11_readBack_28
        · refine g_iinc e_X11_readBack_29 rfl st1_2 rfl ?_
          obtain ⟨hc4, hs⟩ := chk_elim hs
          exact g_X11_readBack_32 ao ok_t_sights ok_t_many ok_t_way ok_t_sightEye ok_t_sightSeen ok_v1 hc4 ok_v3 ih hk_38 hk_27 hs

noncomputable def m_X11_readBack_38 (v1 : Int) (v2 : Int) : Option (Int) :=
  if v1 = (-1) then (some (v2)) else (some ((-1)))

set_option maxRecDepth 10000 in
set_option maxHeartbeats 8000000 in
theorem g_X11_readBack_38 {l : Launch} {E : EE} {b0 n : Nat} {h : AH} {a_t : Nat} {t_thrown t_taped t_p t_fault t_baseLow t_baseHigh t_newBaseLow t_newBaseHigh t_from t_knots t_lines t_chosen t_undos t_redos t_aimedMany t_fits t_fitOf t_sights t_systems t_own t_cross t_curveLong t_wallFirst v1 v2 : Int} {t_many t_way t_sightEye t_sightSeen : Nat → Int} {r : Int} (ao : AO b0 n [a_t, (a_t + 2), (a_t + 4), (a_t + 42), (a_t + 43)]) (ok_t_sights : inI t_sights) (ok_t_many : okA t_many) (ok_t_way : okA t_way) (ok_t_sightEye : okA t_sightEye) (ok_t_sightSeen : okZ t_sightSeen) (ok_v1 : inI v1) (ok_v2 : inI v2) (hs : m_X11_readBack_38 v1 v2 = some r) : G l E b0 M_X11_readBack (fun _ => True) (ZM E b0 (some (vI r)) (ov [a_t, (a_t + 2), (a_t + 4), (a_t + 42), (a_t + 43)] [.inr (11, fsX11 a_t t_thrown t_taped t_p t_fault t_baseLow t_baseHigh t_newBaseLow t_newBaseHigh t_from t_knots t_lines t_chosen t_undos t_redos t_aimedMany t_fits t_fitOf t_sights t_systems t_own t_cross t_curveLong t_wallFirst), IA E 7 t_many, IA E 144 t_way, IA E 20 t_sightEye, ZA E 20 t_sightSeen] h) n (inI r) 0 0) 0 0 n (ov [a_t, (a_t + 2), (a_t + 4), (a_t + 42), (a_t + 43)] [.inr (11, fsX11 a_t t_thrown t_taped t_p t_fault t_baseLow t_baseHigh t_newBaseLow t_newBaseHigh t_from t_knots t_lines t_chosen t_undos t_redos t_aimedMany t_fits t_fitOf t_sights t_systems t_own t_cross t_curveLong t_wallFirst), IA E 7 t_many, IA E 144 t_way, IA E 20 t_sightEye, ZA E 20 t_sightSeen] h) 38 [none, some (vI v1), some (vI v2), none] [] := by
  rw [m_X11_readBack_38] at hs
  refine g_iload_n e_X11_readBack_38 rfl ?_
  refine g_iconst e_X11_readBack_39 ?_
  refine g_icmp_ne e_X11_readBack_40 ok_v1 (by decide : inI (-1)) hs (fun c40 hs => ?_) (fun c40 hs => ?_)
  · refine g_iload_n e_X11_readBack_43 rfl ?_
    refine g_goto e_X11_readBack_44 ?_
    obtain rfl := Option.some.inj hs
    exact g_iret rfl ok_v2 e_X11_readBack_48
  · refine g_iconst e_X11_readBack_47 ?_
    obtain rfl := Option.some.inj hs
    exact g_iret rfl (by decide : inI (-1)) e_X11_readBack_48

noncomputable def m_X11_readBack_27 (v3 : Int) : Option (Int) :=
  some (v3)

set_option maxRecDepth 10000 in
set_option maxHeartbeats 8000000 in
theorem g_X11_readBack_27 {l : Launch} {E : EE} {b0 n : Nat} {h : AH} {a_t : Nat} {t_thrown t_taped t_p t_fault t_baseLow t_baseHigh t_newBaseLow t_newBaseHigh t_from t_knots t_lines t_chosen t_undos t_redos t_aimedMany t_fits t_fitOf t_sights t_systems t_own t_cross t_curveLong t_wallFirst v3 : Int} {t_many t_way t_sightEye t_sightSeen : Nat → Int} {r : Int} (ao : AO b0 n [a_t, (a_t + 2), (a_t + 4), (a_t + 42), (a_t + 43)]) (ok_t_sights : inI t_sights) (ok_t_many : okA t_many) (ok_t_way : okA t_way) (ok_t_sightEye : okA t_sightEye) (ok_t_sightSeen : okZ t_sightSeen) (ok_v3 : inI v3) (hs : m_X11_readBack_27 v3 = some r) : G l E b0 M_X11_readBack (fun _ => True) (ZM E b0 (some (vI r)) (ov [a_t, (a_t + 2), (a_t + 4), (a_t + 42), (a_t + 43)] [.inr (11, fsX11 a_t t_thrown t_taped t_p t_fault t_baseLow t_baseHigh t_newBaseLow t_newBaseHigh t_from t_knots t_lines t_chosen t_undos t_redos t_aimedMany t_fits t_fitOf t_sights t_systems t_own t_cross t_curveLong t_wallFirst), IA E 7 t_many, IA E 144 t_way, IA E 20 t_sightEye, ZA E 20 t_sightSeen] h) n (inI r) 0 0) 0 0 n (ov [a_t, (a_t + 2), (a_t + 4), (a_t + 42), (a_t + 43)] [.inr (11, fsX11 a_t t_thrown t_taped t_p t_fault t_baseLow t_baseHigh t_newBaseLow t_newBaseHigh t_from t_knots t_lines t_chosen t_undos t_redos t_aimedMany t_fits t_fitOf t_sights t_systems t_own t_cross t_curveLong t_wallFirst), IA E 7 t_many, IA E 144 t_way, IA E 20 t_sightEye, ZA E 20 t_sightSeen] h) 27 [none, none, none, some (vI v3)] [] := by
  rw [m_X11_readBack_27] at hs
  refine g_iload_n e_X11_readBack_27 rfl ?_
  obtain rfl := Option.some.inj hs
  exact g_iret rfl ok_v3 e_X11_readBack_28

noncomputable def m_X11_readBack_0 (t_sights : Int) (t_many : Nat → Int) (t_way : Nat → Int) (t_sightEye : Nat → Int) (t_sightSeen : Nat → Int) (v1 : Int) : Option (Int) :=
  m_X11_readBack_4 t_sights t_many t_way t_sightEye t_sightSeen v1 (fun v2' v3' => m_X11_readBack_38 v1 v2') (fun v2' v3' => m_X11_readBack_27 v3') FU 0 0

set_option maxRecDepth 10000 in
set_option maxHeartbeats 8000000 in
theorem g_X11_readBack_0 {l : Launch} {E : EE} {b0 n : Nat} {h : AH} {a_t : Nat} {t_thrown t_taped t_p t_fault t_baseLow t_baseHigh t_newBaseLow t_newBaseHigh t_from t_knots t_lines t_chosen t_undos t_redos t_aimedMany t_fits t_fitOf t_sights t_systems t_own t_cross t_curveLong t_wallFirst v1 : Int} {t_many t_way t_sightEye t_sightSeen : Nat → Int} {r : Int} (ao : AO b0 n [a_t, (a_t + 2), (a_t + 4), (a_t + 42), (a_t + 43)]) (ok_t_sights : inI t_sights) (ok_t_many : okA t_many) (ok_t_way : okA t_way) (ok_t_sightEye : okA t_sightEye) (ok_t_sightSeen : okZ t_sightSeen) (ok_v1 : inI v1) (hs : m_X11_readBack_0 t_sights t_many t_way t_sightEye t_sightSeen v1 = some r) : G l E b0 M_X11_readBack (fun _ => True) (ZM E b0 (some (vI r)) (ov [a_t, (a_t + 2), (a_t + 4), (a_t + 42), (a_t + 43)] [.inr (11, fsX11 a_t t_thrown t_taped t_p t_fault t_baseLow t_baseHigh t_newBaseLow t_newBaseHigh t_from t_knots t_lines t_chosen t_undos t_redos t_aimedMany t_fits t_fitOf t_sights t_systems t_own t_cross t_curveLong t_wallFirst), IA E 7 t_many, IA E 144 t_way, IA E 20 t_sightEye, ZA E 20 t_sightSeen] h) n (inI r) 0 0) 0 0 n (ov [a_t, (a_t + 2), (a_t + 4), (a_t + 42), (a_t + 43)] [.inr (11, fsX11 a_t t_thrown t_taped t_p t_fault t_baseLow t_baseHigh t_newBaseLow t_newBaseHigh t_from t_knots t_lines t_chosen t_undos t_redos t_aimedMany t_fits t_fitOf t_sights t_systems t_own t_cross t_curveLong t_wallFirst), IA E 7 t_many, IA E 144 t_way, IA E 20 t_sightEye, ZA E 20 t_sightSeen] h) 0 [some (.ref a_t), some (vI v1), none, none] [] := by
  rw [m_X11_readBack_0] at hs
  refine g_iconst e_X11_readBack_0 ?_
  refine g_istore_n e_X11_readBack_1 st1_2 rfl ?_
  refine g_iconst e_X11_readBack_2 ?_
  refine g_istore_n e_X11_readBack_3 st1_3 rfl ?_
  exact g_X11_readBack_4 ao ok_t_sights ok_t_many ok_t_way ok_t_sightEye ok_t_sightSeen ok_v1 (hk_38 := by
      intro v2' v3' ok_v2' ok_v3' hs
      exact g_X11_readBack_38 ao ok_t_sights ok_t_many ok_t_way ok_t_sightEye ok_t_sightSeen ok_v1 ok_v2' hs) (hk_27 := by
      intro v2' v3' ok_v2' ok_v3' hs
      exact g_X11_readBack_27 ao ok_t_sights ok_t_many ok_t_way ok_t_sightEye ok_t_sightSeen ok_v3' hs) FU _ _ (by decide : inI 0) (by decide : inI 0) hs

noncomputable def m_X11_readBack (t_sights : Int) (t_many : Nat → Int) (t_way : Nat → Int) (t_sightEye : Nat → Int) (t_sightSeen : Nat → Int) (v1 : Int) : Option (Int) := m_X11_readBack_0 t_sights t_many t_way t_sightEye t_sightSeen v1

set_option maxRecDepth 10000 in
set_option maxHeartbeats 8000000 in
theorem ct_X11_readBack {l : Launch} {E : EE} {b0 n : Nat} {h : AH} {a_t : Nat} {t_thrown t_taped t_p t_fault t_baseLow t_baseHigh t_newBaseLow t_newBaseHigh t_from t_knots t_lines t_chosen t_undos t_redos t_aimedMany t_fits t_fitOf t_sights t_systems t_own t_cross t_curveLong t_wallFirst : Int} {t_many t_way t_sightEye t_sightSeen : Nat → Int} {v1 : Int} (ao : AO b0 n [a_t, (a_t + 2), (a_t + 4), (a_t + 42), (a_t + 43)]) (hf : FA h [a_t, (a_t + 2), (a_t + 4), (a_t + 42), (a_t + 43)] [.inr (11, fsX11 a_t t_thrown t_taped t_p t_fault t_baseLow t_baseHigh t_newBaseLow t_newBaseHigh t_from t_knots t_lines t_chosen t_undos t_redos t_aimedMany t_fits t_fitOf t_sights t_systems t_own t_cross t_curveLong t_wallFirst), IA E 7 t_many, IA E 144 t_way, IA E 20 t_sightEye, ZA E 20 t_sightSeen]) (ok_t_sights : inI t_sights) (ok_t_many : okA t_many) (ok_t_way : okA t_way) (ok_t_sightEye : okA t_sightEye) (ok_t_sightSeen : okZ t_sightSeen) (ok_v1 : inI v1) {r : Int} (hm : m_X11_readBack t_sights t_many t_way t_sightEye t_sightSeen v1 = some r) : Ct l E b0 M_X11_readBack 0 0 [.ref a_t, vI v1] h n (some (vI r)) h n (inI r) := by
  rw [m_X11_readBack] at hm
  have hg : G l E b0 M_X11_readBack (fun _ => True) (ZM E b0 (some (vI r)) (ov [a_t, (a_t + 2), (a_t + 4), (a_t + 42), (a_t + 43)] [.inr (11, fsX11 a_t t_thrown t_taped t_p t_fault t_baseLow t_baseHigh t_newBaseLow t_newBaseHigh t_from t_knots t_lines t_chosen t_undos t_redos t_aimedMany t_fits t_fitOf t_sights t_systems t_own t_cross t_curveLong t_wallFirst), IA E 7 t_many, IA E 144 t_way, IA E 20 t_sightEye, ZA E 20 t_sightSeen] h) n (inI r) 0 0) 0 0 n (ov [a_t, (a_t + 2), (a_t + 4), (a_t + 42), (a_t + 43)] [.inr (11, fsX11 a_t t_thrown t_taped t_p t_fault t_baseLow t_baseHigh t_newBaseLow t_newBaseHigh t_from t_knots t_lines t_chosen t_undos t_redos t_aimedMany t_fits t_fitOf t_sights t_systems t_own t_cross t_curveLong t_wallFirst), IA E 7 t_many, IA E 144 t_way, IA E 20 t_sightEye, ZA E 20 t_sightSeen] h) 0 [some (.ref a_t), some (vI v1), none, none] [] := by
    have hs := hm
    exact g_X11_readBack_0 ao ok_t_sights ok_t_many ok_t_way ok_t_sightEye ok_t_sightSeen ok_v1 hs
  rw [FA_id hf] at hg
  exact Ct_of [some (.ref a_t), some (vI v1), none, none] ⟨by decide +kernel, rfl⟩ rfl (Nat.le_of_ble_eq_true rfl) hg

/-! ===== X11_nextEye ===== -/
theorem e_X11_nextEye_0 : DC cX11_nextEye 0 (.aload_n 0) 1 1 := ⟨by decide +kernel, rfl⟩
theorem e_X11_nextEye_1 : DC cX11_nextEye 1 (.iconst (-1)) 1 2 := ⟨by decide +kernel, rfl⟩
theorem e_X11_nextEye_2 : DC cX11_nextEye 2 (.invokevirtual 395) 3 5 := ⟨by decide +kernel, rfl⟩
theorem e_X11_nextEye_5 : DC cX11_nextEye 5 (.istore_n 1) 1 6 := ⟨by decide +kernel, rfl⟩
theorem e_X11_nextEye_6 : DC cX11_nextEye 6 (.iconst (-1)) 1 7 := ⟨by decide +kernel, rfl⟩
theorem e_X11_nextEye_7 : DC cX11_nextEye 7 (.istore_n 2) 1 8 := ⟨by decide +kernel, rfl⟩
theorem e_X11_nextEye_8 : DC cX11_nextEye 8 (.iload_n 1) 1 9 := ⟨by decide +kernel, rfl⟩
theorem e_X11_nextEye_9 : DC cX11_nextEye 9 (.istore_n 3) 1 10 := ⟨by decide +kernel, rfl⟩
theorem e_X11_nextEye_10 : DC cX11_nextEye 10 (.iconst 0) 1 11 := ⟨by decide +kernel, rfl⟩
theorem e_X11_nextEye_11 : DC cX11_nextEye 11 (.istore 4) 2 13 := ⟨by decide +kernel, rfl⟩
theorem e_X11_nextEye_13 : DC cX11_nextEye 13 (.iload 4) 2 15 := ⟨by decide +kernel, rfl⟩
theorem e_X11_nextEye_15 : DC cX11_nextEye 15 (.aload_n 0) 1 16 := ⟨by decide +kernel, rfl⟩
theorem e_X11_nextEye_16 : DC cX11_nextEye 16 (.getfield 13) 3 19 := ⟨by decide +kernel, rfl⟩
theorem e_X11_nextEye_19 : DC cX11_nextEye 19 (.iconst 2) 1 20 := ⟨by decide +kernel, rfl⟩
theorem e_X11_nextEye_20 : DC cX11_nextEye 20 (.iaload) 1 21 := ⟨by decide +kernel, rfl⟩
theorem e_X11_nextEye_21 : DB cX11_nextEye 21 (.if_icmp .ge 94) (94) 3 24 115 := ⟨by decide +kernel, rfl, rfl⟩
theorem e_X11_nextEye_24 : DC cX11_nextEye 24 (.iconst 0) 1 25 := ⟨by decide +kernel, rfl⟩
theorem e_X11_nextEye_25 : DC cX11_nextEye 25 (.istore 5) 2 27 := ⟨by decide +kernel, rfl⟩
theorem e_X11_nextEye_27 : DC cX11_nextEye 27 (.iconst 0) 1 28 := ⟨by decide +kernel, rfl⟩
theorem e_X11_nextEye_28 : DC cX11_nextEye 28 (.istore 6) 2 30 := ⟨by decide +kernel, rfl⟩
theorem e_X11_nextEye_30 : DC cX11_nextEye 30 (.iload 6) 2 32 := ⟨by decide +kernel, rfl⟩
theorem e_X11_nextEye_32 : DC cX11_nextEye 32 (.aload_n 0) 1 33 := ⟨by decide +kernel, rfl⟩
theorem e_X11_nextEye_33 : DC cX11_nextEye 33 (.getfield 13) 3 36 := ⟨by decide +kernel, rfl⟩
theorem e_X11_nextEye_36 : DC cX11_nextEye 36 (.iconst 0) 1 37 := ⟨by decide +kernel, rfl⟩
theorem e_X11_nextEye_37 : DC cX11_nextEye 37 (.iaload) 1 38 := ⟨by decide +kernel, rfl⟩
theorem e_X11_nextEye_38 : DB cX11_nextEye 38 (.if_icmp .ge 39) (39) 3 41 77 := ⟨by decide +kernel, rfl, rfl⟩
theorem e_X11_nextEye_41 : DC cX11_nextEye 41 (.iload 5) 2 43 := ⟨by decide +kernel, rfl⟩
theorem e_X11_nextEye_43 : DC cX11_nextEye 43 (.aload_n 0) 1 44 := ⟨by decide +kernel, rfl⟩
theorem e_X11_nextEye_44 : DC cX11_nextEye 44 (.iload 6) 2 46 := ⟨by decide +kernel, rfl⟩
theorem e_X11_nextEye_46 : DC cX11_nextEye 46 (.invokevirtual 392) 3 49 := ⟨by decide +kernel, rfl⟩
theorem e_X11_nextEye_49 : DB cX11_nextEye 49 (.ifCond .eq 18) (18) 3 52 67 := ⟨by decide +kernel, rfl, rfl⟩
theorem e_X11_nextEye_52 : DC cX11_nextEye 52 (.aload_n 0) 1 53 := ⟨by decide +kernel, rfl⟩
theorem e_X11_nextEye_53 : DC cX11_nextEye 53 (.iload 6) 2 55 := ⟨by decide +kernel, rfl⟩
theorem e_X11_nextEye_55 : DC cX11_nextEye 55 (.iload 4) 2 57 := ⟨by decide +kernel, rfl⟩
theorem e_X11_nextEye_57 : DC cX11_nextEye 57 (.invokevirtual 389) 3 60 := ⟨by decide +kernel, rfl⟩
theorem e_X11_nextEye_60 : DB cX11_nextEye 60 (.ifCond .eq 7) (7) 3 63 67 := ⟨by decide +kernel, rfl, rfl⟩
theorem e_X11_nextEye_63 : DC cX11_nextEye 63 (.iconst 1) 1 64 := ⟨by decide +kernel, rfl⟩
theorem e_X11_nextEye_64 : DB cX11_nextEye 64 (.goto 4) (4) 3 67 68 := ⟨by decide +kernel, rfl, rfl⟩
theorem e_X11_nextEye_67 : DC cX11_nextEye 67 (.iconst 0) 1 68 := ⟨by decide +kernel, rfl⟩
theorem e_X11_nextEye_68 : DC cX11_nextEye 68 (.iadd) 1 69 := ⟨by decide +kernel, rfl⟩
theorem e_X11_nextEye_69 : DC cX11_nextEye 69 (.istore 5) 2 71 := ⟨by decide +kernel, rfl⟩
theorem e_X11_nextEye_71 : DC cX11_nextEye 71 (.iinc 6 1) 3 74 := ⟨by decide +kernel, rfl⟩
theorem e_X11_nextEye_74 : DB cX11_nextEye 74 (.goto (-44)) (-44) 3 77 30 := ⟨by decide +kernel, rfl, rfl⟩
theorem e_X11_nextEye_77 : DC cX11_nextEye 77 (.iload 5) 2 79 := ⟨by decide +kernel, rfl⟩
theorem e_X11_nextEye_79 : DC cX11_nextEye 79 (.iload_n 1) 1 80 := ⟨by decide +kernel, rfl⟩
theorem e_X11_nextEye_80 : DC cX11_nextEye 80 (.iload 5) 2 82 := ⟨by decide +kernel, rfl⟩
theorem e_X11_nextEye_82 : DC cX11_nextEye 82 (.isub) 1 83 := ⟨by decide +kernel, rfl⟩
theorem e_X11_nextEye_83 : DB cX11_nextEye 83 (.if_icmp .le 8) (8) 3 86 91 := ⟨by decide +kernel, rfl, rfl⟩
theorem e_X11_nextEye_86 : DC cX11_nextEye 86 (.iload 5) 2 88 := ⟨by decide +kernel, rfl⟩
theorem e_X11_nextEye_88 : DB cX11_nextEye 88 (.goto 7) (7) 3 91 95 := ⟨by decide +kernel, rfl, rfl⟩
theorem e_X11_nextEye_91 : DC cX11_nextEye 91 (.iload_n 1) 1 92 := ⟨by decide +kernel, rfl⟩
theorem e_X11_nextEye_92 : DC cX11_nextEye 92 (.iload 5) 2 94 := ⟨by decide +kernel, rfl⟩
theorem e_X11_nextEye_94 : DC cX11_nextEye 94 (.isub) 1 95 := ⟨by decide +kernel, rfl⟩
theorem e_X11_nextEye_95 : DC cX11_nextEye 95 (.istore 6) 2 97 := ⟨by decide +kernel, rfl⟩
theorem e_X11_nextEye_97 : DC cX11_nextEye 97 (.iload 6) 2 99 := ⟨by decide +kernel, rfl⟩
theorem e_X11_nextEye_99 : DC cX11_nextEye 99 (.iload_n 3) 1 100 := ⟨by decide +kernel, rfl⟩
theorem e_X11_nextEye_100 : DB cX11_nextEye 100 (.if_icmp .ge 9) (9) 3 103 109 := ⟨by decide +kernel, rfl, rfl⟩
theorem e_X11_nextEye_103 : DC cX11_nextEye 103 (.iload 6) 2 105 := ⟨by decide +kernel, rfl⟩
theorem e_X11_nextEye_105 : DC cX11_nextEye 105 (.istore_n 3) 1 106 := ⟨by decide +kernel, rfl⟩
theorem e_X11_nextEye_106 : DC cX11_nextEye 106 (.iload 4) 2 108 := ⟨by decide +kernel, rfl⟩
theorem e_X11_nextEye_108 : DC cX11_nextEye 108 (.istore_n 2) 1 109 := ⟨by decide +kernel, rfl⟩
theorem e_X11_nextEye_109 : DC cX11_nextEye 109 (.iinc 4 1) 3 112 := ⟨by decide +kernel, rfl⟩
theorem e_X11_nextEye_112 : DB cX11_nextEye 112 (.goto (-99)) (-99) 3 115 13 := ⟨by decide +kernel, rfl, rfl⟩
theorem e_X11_nextEye_115 : DC cX11_nextEye 115 (.iload_n 2) 1 116 := ⟨by decide +kernel, rfl⟩
theorem e_X11_nextEye_116 : DC cX11_nextEye 116 (.ireturn) 1 117 := ⟨by decide +kernel, rfl⟩
noncomputable def m_X11_nextEye_68 (t_sights : Int) (t_many : Nat → Int) (t_way : Nat → Int) (t_sightEye : Nat → Int) (t_sightSeen : Nat → Int) (v4 : Int) (v6 : Int) (s0 : Int) (s1 : Int) (ag : Int → Int → Option (Int)) (k_77 : Int → Int → Option (Int)) : Option (Int) :=
  chk (inI (s0 + s1)) (chk (inI (v6 + 1)) (ag (s0 + s1) (v6 + 1)))

set_option maxRecDepth 10000 in
set_option maxHeartbeats 8000000 in
theorem g_X11_nextEye_68 {l : Launch} {E : EE} {b0 n : Nat} {h : AH} {a_t : Nat} {t_thrown t_taped t_p t_fault t_baseLow t_baseHigh t_newBaseLow t_newBaseHigh t_from t_knots t_lines t_chosen t_undos t_redos t_aimedMany t_fits t_fitOf t_sights t_systems t_own t_cross t_curveLong t_wallFirst v1 v2 v3 v4 v6 s0 s1 : Int} {t_many t_way t_sightEye t_sightSeen : Nat → Int} {r : Int} {ag : Int → Int → Option (Int)} {k_77 : Int → Int → Option (Int)} (ao : AO b0 n [a_t, (a_t + 2), (a_t + 4), (a_t + 42), (a_t + 43)]) (ok_t_sights : inI t_sights) (ok_t_many : okA t_many) (ok_t_way : okA t_way) (ok_t_sightEye : okA t_sightEye) (ok_t_sightSeen : okZ t_sightSeen) (ok_v1 : inI v1) (ok_v2 : inI v2) (ok_v3 : inI v3) (ok_v4 : inI v4) (ok_v6 : inI v6) (ok_s0 : inI s0) (ok_s1 : inZ s1) (hag : ∀ (v5_ : Int) (v6_ : Int), inI v5_ → inI v6_ → ag v5_ v6_ = some r → G l E b0 M_X11_nextEye (fun _ => True) (ZM E b0 (some (vI r)) (ov [a_t, (a_t + 2), (a_t + 4), (a_t + 42), (a_t + 43)] [.inr (11, fsX11 a_t t_thrown t_taped t_p t_fault t_baseLow t_baseHigh t_newBaseLow t_newBaseHigh t_from t_knots t_lines t_chosen t_undos t_redos t_aimedMany t_fits t_fitOf t_sights t_systems t_own t_cross t_curveLong t_wallFirst), IA E 7 t_many, IA E 144 t_way, IA E 20 t_sightEye, ZA E 20 t_sightSeen] h) n (inI r) 0 0) 0 0 n (ov [a_t, (a_t + 2), (a_t + 4), (a_t + 42), (a_t + 43)] [.inr (11, fsX11 a_t t_thrown t_taped t_p t_fault t_baseLow t_baseHigh t_newBaseLow t_newBaseHigh t_from t_knots t_lines t_chosen t_undos t_redos t_aimedMany t_fits t_fitOf t_sights t_systems t_own t_cross t_curveLong t_wallFirst), IA E 7 t_many, IA E 144 t_way, IA E 20 t_sightEye, ZA E 20 t_sightSeen] h) 30 [some (.ref a_t), some (vI v1), some (vI v2), some (vI v3), some (vI v4), some (vI v5_), some (vI v6_)] []) (hk_77 : ∀ (v5_ : Int) (v6_ : Int), inI v5_ → inI v6_ → k_77 v5_ v6_ = some r → G l E b0 M_X11_nextEye (fun _ => True) (ZM E b0 (some (vI r)) (ov [a_t, (a_t + 2), (a_t + 4), (a_t + 42), (a_t + 43)] [.inr (11, fsX11 a_t t_thrown t_taped t_p t_fault t_baseLow t_baseHigh t_newBaseLow t_newBaseHigh t_from t_knots t_lines t_chosen t_undos t_redos t_aimedMany t_fits t_fitOf t_sights t_systems t_own t_cross t_curveLong t_wallFirst), IA E 7 t_many, IA E 144 t_way, IA E 20 t_sightEye, ZA E 20 t_sightSeen] h) n (inI r) 0 0) 0 0 n (ov [a_t, (a_t + 2), (a_t + 4), (a_t + 42), (a_t + 43)] [.inr (11, fsX11 a_t t_thrown t_taped t_p t_fault t_baseLow t_baseHigh t_newBaseLow t_newBaseHigh t_from t_knots t_lines t_chosen t_undos t_redos t_aimedMany t_fits t_fitOf t_sights t_systems t_own t_cross t_curveLong t_wallFirst), IA E 7 t_many, IA E 144 t_way, IA E 20 t_sightEye, ZA E 20 t_sightSeen] h) 77 [some (.ref a_t), some (vI v1), some (vI v2), some (vI v3), some (vI v4), some (vI v5_), none] []) (hs : m_X11_nextEye_68 t_sights t_many t_way t_sightEye t_sightSeen v4 v6 s0 s1 ag k_77 = some r) : G l E b0 M_X11_nextEye (fun _ => True) (ZM E b0 (some (vI r)) (ov [a_t, (a_t + 2), (a_t + 4), (a_t + 42), (a_t + 43)] [.inr (11, fsX11 a_t t_thrown t_taped t_p t_fault t_baseLow t_baseHigh t_newBaseLow t_newBaseHigh t_from t_knots t_lines t_chosen t_undos t_redos t_aimedMany t_fits t_fitOf t_sights t_systems t_own t_cross t_curveLong t_wallFirst), IA E 7 t_many, IA E 144 t_way, IA E 20 t_sightEye, ZA E 20 t_sightSeen] h) n (inI r) 0 0) 0 0 n (ov [a_t, (a_t + 2), (a_t + 4), (a_t + 42), (a_t + 43)] [.inr (11, fsX11 a_t t_thrown t_taped t_p t_fault t_baseLow t_baseHigh t_newBaseLow t_newBaseHigh t_from t_knots t_lines t_chosen t_undos t_redos t_aimedMany t_fits t_fitOf t_sights t_systems t_own t_cross t_curveLong t_wallFirst), IA E 7 t_many, IA E 144 t_way, IA E 20 t_sightEye, ZA E 20 t_sightSeen] h) 68 [some (.ref a_t), some (vI v1), some (vI v2), some (vI v3), some (vI v4), none, some (vI v6)] [vI s1, vI s0] := by
  rw [m_X11_nextEye_68] at hs
  refine g_iadd e_X11_nextEye_68 ?_
  refine g_istore e_X11_nextEye_69 st1_5 rfl ?_
  refine g_iinc e_X11_nextEye_71 rfl st1_6 rfl ?_
  refine g_goto e_X11_nextEye_74 ?_
  obtain ⟨hc5, hs⟩ := chk_elim hs
  obtain ⟨hc6, hs⟩ := chk_elim hs
  exact hag _ _ hc5 hc6 hs

noncomputable def m_X11_nextEye_67 (t_sights : Int) (t_many : Nat → Int) (t_way : Nat → Int) (t_sightEye : Nat → Int) (t_sightSeen : Nat → Int) (v4 : Int) (v6 : Int) (s0 : Int) (ag : Int → Int → Option (Int)) (k_77 : Int → Int → Option (Int)) : Option (Int) :=
  m_X11_nextEye_68 t_sights t_many t_way t_sightEye t_sightSeen v4 v6 s0 0 ag k_77

set_option maxRecDepth 10000 in
set_option maxHeartbeats 8000000 in
theorem g_X11_nextEye_67 {l : Launch} {E : EE} {b0 n : Nat} {h : AH} {a_t : Nat} {t_thrown t_taped t_p t_fault t_baseLow t_baseHigh t_newBaseLow t_newBaseHigh t_from t_knots t_lines t_chosen t_undos t_redos t_aimedMany t_fits t_fitOf t_sights t_systems t_own t_cross t_curveLong t_wallFirst v1 v2 v3 v4 v6 s0 : Int} {t_many t_way t_sightEye t_sightSeen : Nat → Int} {r : Int} {ag : Int → Int → Option (Int)} {k_77 : Int → Int → Option (Int)} (ao : AO b0 n [a_t, (a_t + 2), (a_t + 4), (a_t + 42), (a_t + 43)]) (ok_t_sights : inI t_sights) (ok_t_many : okA t_many) (ok_t_way : okA t_way) (ok_t_sightEye : okA t_sightEye) (ok_t_sightSeen : okZ t_sightSeen) (ok_v1 : inI v1) (ok_v2 : inI v2) (ok_v3 : inI v3) (ok_v4 : inI v4) (ok_v6 : inI v6) (ok_s0 : inI s0) (hag : ∀ (v5_ : Int) (v6_ : Int), inI v5_ → inI v6_ → ag v5_ v6_ = some r → G l E b0 M_X11_nextEye (fun _ => True) (ZM E b0 (some (vI r)) (ov [a_t, (a_t + 2), (a_t + 4), (a_t + 42), (a_t + 43)] [.inr (11, fsX11 a_t t_thrown t_taped t_p t_fault t_baseLow t_baseHigh t_newBaseLow t_newBaseHigh t_from t_knots t_lines t_chosen t_undos t_redos t_aimedMany t_fits t_fitOf t_sights t_systems t_own t_cross t_curveLong t_wallFirst), IA E 7 t_many, IA E 144 t_way, IA E 20 t_sightEye, ZA E 20 t_sightSeen] h) n (inI r) 0 0) 0 0 n (ov [a_t, (a_t + 2), (a_t + 4), (a_t + 42), (a_t + 43)] [.inr (11, fsX11 a_t t_thrown t_taped t_p t_fault t_baseLow t_baseHigh t_newBaseLow t_newBaseHigh t_from t_knots t_lines t_chosen t_undos t_redos t_aimedMany t_fits t_fitOf t_sights t_systems t_own t_cross t_curveLong t_wallFirst), IA E 7 t_many, IA E 144 t_way, IA E 20 t_sightEye, ZA E 20 t_sightSeen] h) 30 [some (.ref a_t), some (vI v1), some (vI v2), some (vI v3), some (vI v4), some (vI v5_), some (vI v6_)] []) (hk_77 : ∀ (v5_ : Int) (v6_ : Int), inI v5_ → inI v6_ → k_77 v5_ v6_ = some r → G l E b0 M_X11_nextEye (fun _ => True) (ZM E b0 (some (vI r)) (ov [a_t, (a_t + 2), (a_t + 4), (a_t + 42), (a_t + 43)] [.inr (11, fsX11 a_t t_thrown t_taped t_p t_fault t_baseLow t_baseHigh t_newBaseLow t_newBaseHigh t_from t_knots t_lines t_chosen t_undos t_redos t_aimedMany t_fits t_fitOf t_sights t_systems t_own t_cross t_curveLong t_wallFirst), IA E 7 t_many, IA E 144 t_way, IA E 20 t_sightEye, ZA E 20 t_sightSeen] h) n (inI r) 0 0) 0 0 n (ov [a_t, (a_t + 2), (a_t + 4), (a_t + 42), (a_t + 43)] [.inr (11, fsX11 a_t t_thrown t_taped t_p t_fault t_baseLow t_baseHigh t_newBaseLow t_newBaseHigh t_from t_knots t_lines t_chosen t_undos t_redos t_aimedMany t_fits t_fitOf t_sights t_systems t_own t_cross t_curveLong t_wallFirst), IA E 7 t_many, IA E 144 t_way, IA E 20 t_sightEye, ZA E 20 t_sightSeen] h) 77 [some (.ref a_t), some (vI v1), some (vI v2), some (vI v3), some (vI v4), some (vI v5_), none] []) (hs : m_X11_nextEye_67 t_sights t_many t_way t_sightEye t_sightSeen v4 v6 s0 ag k_77 = some r) : G l E b0 M_X11_nextEye (fun _ => True) (ZM E b0 (some (vI r)) (ov [a_t, (a_t + 2), (a_t + 4), (a_t + 42), (a_t + 43)] [.inr (11, fsX11 a_t t_thrown t_taped t_p t_fault t_baseLow t_baseHigh t_newBaseLow t_newBaseHigh t_from t_knots t_lines t_chosen t_undos t_redos t_aimedMany t_fits t_fitOf t_sights t_systems t_own t_cross t_curveLong t_wallFirst), IA E 7 t_many, IA E 144 t_way, IA E 20 t_sightEye, ZA E 20 t_sightSeen] h) n (inI r) 0 0) 0 0 n (ov [a_t, (a_t + 2), (a_t + 4), (a_t + 42), (a_t + 43)] [.inr (11, fsX11 a_t t_thrown t_taped t_p t_fault t_baseLow t_baseHigh t_newBaseLow t_newBaseHigh t_from t_knots t_lines t_chosen t_undos t_redos t_aimedMany t_fits t_fitOf t_sights t_systems t_own t_cross t_curveLong t_wallFirst), IA E 7 t_many, IA E 144 t_way, IA E 20 t_sightEye, ZA E 20 t_sightSeen] h) 67 [some (.ref a_t), some (vI v1), some (vI v2), some (vI v3), some (vI v4), none, some (vI v6)] [vI s0] := by
  rw [m_X11_nextEye_67] at hs
  refine g_iconst e_X11_nextEye_67 ?_
  exact g_X11_nextEye_68 ao ok_t_sights ok_t_many ok_t_way ok_t_sightEye ok_t_sightSeen ok_v1 ok_v2 ok_v3 ok_v4 ok_v6 ok_s0 (by decide : inZ 0) hag hk_77 hs

noncomputable def m_X11_nextEye_30 (t_sights : Int) (t_many : Nat → Int) (t_way : Nat → Int) (t_sightEye : Nat → Int) (t_sightSeen : Nat → Int) (v4 : Int) (k_77 : Int → Int → Option (Int)) : Nat → Int → Int → Option (Int)
  | 0, _, _ => none
  | F + 1, v5, v6 => chk (inB 0 7) (if (t_many (Int.toNat 0)) ≤ v6 then (k_77 v5 v6) else ((m_X11_fitsSights t_sights t_way t_sightEye t_sightSeen v6).bind (fun y4 => if y4 = 0 then (m_X11_nextEye_67 t_sights t_many t_way t_sightEye t_sightSeen v4 v6 v5 (m_X11_nextEye_30 t_sights t_many t_way t_sightEye t_sightSeen v4 k_77 F) k_77) else ((m_X11_isSeen t_way v6 v4).bind (fun y7 => if y7 = 0 then (m_X11_nextEye_67 t_sights t_many t_way t_sightEye t_sightSeen v4 v6 v5 (m_X11_nextEye_30 t_sights t_many t_way t_sightEye t_sightSeen v4 k_77 F) k_77) else (m_X11_nextEye_68 t_sights t_many t_way t_sightEye t_sightSeen v4 v6 v5 1 (m_X11_nextEye_30 t_sights t_many t_way t_sightEye t_sightSeen v4 k_77 F) k_77))))))

set_option maxRecDepth 10000 in
set_option maxHeartbeats 8000000 in
theorem g_X11_nextEye_30 {l : Launch} {E : EE} {b0 n : Nat} {h : AH} {a_t : Nat} {t_thrown t_taped t_p t_fault t_baseLow t_baseHigh t_newBaseLow t_newBaseHigh t_from t_knots t_lines t_chosen t_undos t_redos t_aimedMany t_fits t_fitOf t_sights t_systems t_own t_cross t_curveLong t_wallFirst v1 v2 v3 v4 : Int} {t_many t_way t_sightEye t_sightSeen : Nat → Int} {r : Int} {k_77 : Int → Int → Option (Int)} (ao : AO b0 n [a_t, (a_t + 2), (a_t + 4), (a_t + 42), (a_t + 43)]) (ok_t_sights : inI t_sights) (ok_t_many : okA t_many) (ok_t_way : okA t_way) (ok_t_sightEye : okA t_sightEye) (ok_t_sightSeen : okZ t_sightSeen) (ok_v1 : inI v1) (ok_v2 : inI v2) (ok_v3 : inI v3) (ok_v4 : inI v4) (hk_77 : ∀ (v5_ : Int) (v6_ : Int), inI v5_ → inI v6_ → k_77 v5_ v6_ = some r → G l E b0 M_X11_nextEye (fun _ => True) (ZM E b0 (some (vI r)) (ov [a_t, (a_t + 2), (a_t + 4), (a_t + 42), (a_t + 43)] [.inr (11, fsX11 a_t t_thrown t_taped t_p t_fault t_baseLow t_baseHigh t_newBaseLow t_newBaseHigh t_from t_knots t_lines t_chosen t_undos t_redos t_aimedMany t_fits t_fitOf t_sights t_systems t_own t_cross t_curveLong t_wallFirst), IA E 7 t_many, IA E 144 t_way, IA E 20 t_sightEye, ZA E 20 t_sightSeen] h) n (inI r) 0 0) 0 0 n (ov [a_t, (a_t + 2), (a_t + 4), (a_t + 42), (a_t + 43)] [.inr (11, fsX11 a_t t_thrown t_taped t_p t_fault t_baseLow t_baseHigh t_newBaseLow t_newBaseHigh t_from t_knots t_lines t_chosen t_undos t_redos t_aimedMany t_fits t_fitOf t_sights t_systems t_own t_cross t_curveLong t_wallFirst), IA E 7 t_many, IA E 144 t_way, IA E 20 t_sightEye, ZA E 20 t_sightSeen] h) 77 [some (.ref a_t), some (vI v1), some (vI v2), some (vI v3), some (vI v4), some (vI v5_), none] []) :
    ∀ (F : Nat) (v5 : Int) (v6 : Int), inI v5 → inI v6 → m_X11_nextEye_30 t_sights t_many t_way t_sightEye t_sightSeen v4 k_77 F v5 v6 = some r → G l E b0 M_X11_nextEye (fun _ => True) (ZM E b0 (some (vI r)) (ov [a_t, (a_t + 2), (a_t + 4), (a_t + 42), (a_t + 43)] [.inr (11, fsX11 a_t t_thrown t_taped t_p t_fault t_baseLow t_baseHigh t_newBaseLow t_newBaseHigh t_from t_knots t_lines t_chosen t_undos t_redos t_aimedMany t_fits t_fitOf t_sights t_systems t_own t_cross t_curveLong t_wallFirst), IA E 7 t_many, IA E 144 t_way, IA E 20 t_sightEye, ZA E 20 t_sightSeen] h) n (inI r) 0 0) 0 0 n (ov [a_t, (a_t + 2), (a_t + 4), (a_t + 42), (a_t + 43)] [.inr (11, fsX11 a_t t_thrown t_taped t_p t_fault t_baseLow t_baseHigh t_newBaseLow t_newBaseHigh t_from t_knots t_lines t_chosen t_undos t_redos t_aimedMany t_fits t_fitOf t_sights t_systems t_own t_cross t_curveLong t_wallFirst), IA E 7 t_many, IA E 144 t_way, IA E 20 t_sightEye, ZA E 20 t_sightSeen] h) 30 [some (.ref a_t), some (vI v1), some (vI v2), some (vI v3), some (vI v4), some (vI v5), some (vI v6)] [] := by
  intro F
  induction F with
  | zero =>
    intro v5 v6 ok_v5 ok_v6 hs
    rw [m_X11_nextEye_30] at hs
    cases hs
  | succ F ih =>
    intro v5 v6 ok_v5 ok_v6 hs
    rw [m_X11_nextEye_30] at hs
    refine g_iload e_X11_nextEye_30 rfl ?_
    refine g_aload_n e_X11_nextEye_32 rfl ?_
    refine g_get 0 5 ao rfl rfl fsX11_g5 fl_X11_13 e_X11_nextEye_33 ?_
    refine g_iconst e_X11_nextEye_36 ?_
    refine g_iald 1 ao rfl rfl (Nat.le_of_ble_eq_true rfl) e_X11_nextEye_37 hs (fun hi3 hs => ?_)
    refine g_icmp_ge e_X11_nextEye_38 ok_v6 (ok_t_many _) hs (fun c38 hs => ?_) (fun c38 hs => ?_)
    · exact g_mask [true, true, true, true, true, true, false] (hk_77 _ _ ok_v5 ok_v6 hs)
    · refine g_iload e_X11_nextEye_41 rfl ?_
      refine g_aload_n e_X11_nextEye_43 rfl ?_
      refine g_iload e_X11_nextEye_44 rfl ?_
      obtain ⟨y4, hy4, hs⟩ := bind_elim hs
      refine g_callVr [vI v6] cv_X11_392 ⟨rfl, rfl, Nat.le_of_ble_eq_true rfl, Nat.le_of_ble_eq_true rfl⟩ (ct_X11_fitsSights (a_t := a_t) (AO_call [0, 2, 3, 4] ao (by decide) rfl) (FA_call [0, 2, 3, 4] ao.1 rfl rfl) ok_t_sights ok_t_way ok_t_sightEye ok_t_sightSeen ok_v6 hy4) e_X11_nextEye_46 (ao.2 0 _ rfl) (ov_get 0 ao.1 rfl rfl) rfl rfl rfl (Nat.le_of_ble_eq_true rfl) ⟨Nat.le_refl _, Nat.le_refl _⟩ (fun Py4 => ?_)
      refine g_if_eq e_X11_nextEye_49 (inZ_I Py4) hs (fun c49 hs => ?_) (fun c49 hs => ?_)
      · exact g_mask [true, true, true, true, true, false, true] (g_X11_nextEye_67 ao ok_t_sights ok_t_many ok_t_way ok_t_sightEye ok_t_sightSeen ok_v1 ok_v2 ok_v3 ok_v4 ok_v6 ok_v5 ih hk_77 hs)
      · refine g_aload_n e_X11_nextEye_52 rfl ?_
        refine g_iload e_X11_nextEye_53 rfl ?_
        refine g_iload e_X11_nextEye_55 rfl ?_
        obtain ⟨y7, hy7, hs⟩ := bind_elim hs
        refine g_callVr [vI v6, vI v4] cv_X11_389 ⟨rfl, rfl, Nat.le_of_ble_eq_true rfl, Nat.le_of_ble_eq_true rfl⟩ (ct_X11_isSeen (a_t := a_t) (AO_call [0, 2] ao (by decide) rfl) (FA_call [0, 2] ao.1 rfl rfl) ok_t_way ok_v6 ok_v4 hy7) e_X11_nextEye_57 (ao.2 0 _ rfl) (ov_get 0 ao.1 rfl rfl) rfl rfl rfl (Nat.le_of_ble_eq_true rfl) ⟨Nat.le_refl _, Nat.le_refl _⟩ (fun Py7 => ?_)
        refine g_if_eq e_X11_nextEye_60 (inZ_I Py7) hs (fun c60 hs => ?_) (fun c60 hs => ?_)
        · exact g_mask [true, true, true, true, true, false, true] (g_X11_nextEye_67 ao ok_t_sights ok_t_many ok_t_way ok_t_sightEye ok_t_sightSeen ok_v1 ok_v2 ok_v3 ok_v4 ok_v6 ok_v5 ih hk_77 hs)
        · refine g_iconst e_X11_nextEye_63 ?_
          refine g_goto e_X11_nextEye_64 ?_
          exact g_mask [true, true, true, true, true, false, true] (g_X11_nextEye_68 ao ok_t_sights ok_t_many ok_t_way ok_t_sightEye ok_t_sightSeen ok_v1 ok_v2 ok_v3 ok_v4 ok_v6 ok_v5 (by decide : inZ 1) ih hk_77 hs)

noncomputable def m_X11_nextEye_109 (t_sights : Int) (t_many : Nat → Int) (t_way : Nat → Int) (t_sightEye : Nat → Int) (t_sightSeen : Nat → Int) (v1 : Int) (v2 : Int) (v3 : Int) (v4 : Int) (ag : Int → Int → Int → Option (Int)) (k_115 : Int → Int → Int → Option (Int)) : Option (Int) :=
  chk (inI (v4 + 1)) (ag v2 v3 (v4 + 1))

set_option maxRecDepth 10000 in
set_option maxHeartbeats 8000000 in
theorem g_X11_nextEye_109 {l : Launch} {E : EE} {b0 n : Nat} {h : AH} {a_t : Nat} {t_thrown t_taped t_p t_fault t_baseLow t_baseHigh t_newBaseLow t_newBaseHigh t_from t_knots t_lines t_chosen t_undos t_redos t_aimedMany t_fits t_fitOf t_sights t_systems t_own t_cross t_curveLong t_wallFirst v1 v2 v3 v4 : Int} {t_many t_way t_sightEye t_sightSeen : Nat → Int} {r : Int} {ag : Int → Int → Int → Option (Int)} {k_115 : Int → Int → Int → Option (Int)} (ao : AO b0 n [a_t, (a_t + 2), (a_t + 4), (a_t + 42), (a_t + 43)]) (ok_t_sights : inI t_sights) (ok_t_many : okA t_many) (ok_t_way : okA t_way) (ok_t_sightEye : okA t_sightEye) (ok_t_sightSeen : okZ t_sightSeen) (ok_v1 : inI v1) (ok_v2 : inI v2) (ok_v3 : inI v3) (ok_v4 : inI v4) (hag : ∀ (v2_ : Int) (v3_ : Int) (v4_ : Int), inI v2_ → inI v3_ → inI v4_ → ag v2_ v3_ v4_ = some r → G l E b0 M_X11_nextEye (fun _ => True) (ZM E b0 (some (vI r)) (ov [a_t, (a_t + 2), (a_t + 4), (a_t + 42), (a_t + 43)] [.inr (11, fsX11 a_t t_thrown t_taped t_p t_fault t_baseLow t_baseHigh t_newBaseLow t_newBaseHigh t_from t_knots t_lines t_chosen t_undos t_redos t_aimedMany t_fits t_fitOf t_sights t_systems t_own t_cross t_curveLong t_wallFirst), IA E 7 t_many, IA E 144 t_way, IA E 20 t_sightEye, ZA E 20 t_sightSeen] h) n (inI r) 0 0) 0 0 n (ov [a_t, (a_t + 2), (a_t + 4), (a_t + 42), (a_t + 43)] [.inr (11, fsX11 a_t t_thrown t_taped t_p t_fault t_baseLow t_baseHigh t_newBaseLow t_newBaseHigh t_from t_knots t_lines t_chosen t_undos t_redos t_aimedMany t_fits t_fitOf t_sights t_systems t_own t_cross t_curveLong t_wallFirst), IA E 7 t_many, IA E 144 t_way, IA E 20 t_sightEye, ZA E 20 t_sightSeen] h) 13 [some (.ref a_t), some (vI v1), some (vI v2_), some (vI v3_), some (vI v4_), none, none] []) (hk_115 : ∀ (v2_ : Int) (v3_ : Int) (v4_ : Int), inI v2_ → inI v3_ → inI v4_ → k_115 v2_ v3_ v4_ = some r → G l E b0 M_X11_nextEye (fun _ => True) (ZM E b0 (some (vI r)) (ov [a_t, (a_t + 2), (a_t + 4), (a_t + 42), (a_t + 43)] [.inr (11, fsX11 a_t t_thrown t_taped t_p t_fault t_baseLow t_baseHigh t_newBaseLow t_newBaseHigh t_from t_knots t_lines t_chosen t_undos t_redos t_aimedMany t_fits t_fitOf t_sights t_systems t_own t_cross t_curveLong t_wallFirst), IA E 7 t_many, IA E 144 t_way, IA E 20 t_sightEye, ZA E 20 t_sightSeen] h) n (inI r) 0 0) 0 0 n (ov [a_t, (a_t + 2), (a_t + 4), (a_t + 42), (a_t + 43)] [.inr (11, fsX11 a_t t_thrown t_taped t_p t_fault t_baseLow t_baseHigh t_newBaseLow t_newBaseHigh t_from t_knots t_lines t_chosen t_undos t_redos t_aimedMany t_fits t_fitOf t_sights t_systems t_own t_cross t_curveLong t_wallFirst), IA E 7 t_many, IA E 144 t_way, IA E 20 t_sightEye, ZA E 20 t_sightSeen] h) 115 [none, none, some (vI v2_), none, none, none, none] []) (hs : m_X11_nextEye_109 t_sights t_many t_way t_sightEye t_sightSeen v1 v2 v3 v4 ag k_115 = some r) : G l E b0 M_X11_nextEye (fun _ => True) (ZM E b0 (some (vI r)) (ov [a_t, (a_t + 2), (a_t + 4), (a_t + 42), (a_t + 43)] [.inr (11, fsX11 a_t t_thrown t_taped t_p t_fault t_baseLow t_baseHigh t_newBaseLow t_newBaseHigh t_from t_knots t_lines t_chosen t_undos t_redos t_aimedMany t_fits t_fitOf t_sights t_systems t_own t_cross t_curveLong t_wallFirst), IA E 7 t_many, IA E 144 t_way, IA E 20 t_sightEye, ZA E 20 t_sightSeen] h) n (inI r) 0 0) 0 0 n (ov [a_t, (a_t + 2), (a_t + 4), (a_t + 42), (a_t + 43)] [.inr (11, fsX11 a_t t_thrown t_taped t_p t_fault t_baseLow t_baseHigh t_newBaseLow t_newBaseHigh t_from t_knots t_lines t_chosen t_undos t_redos t_aimedMany t_fits t_fitOf t_sights t_systems t_own t_cross t_curveLong t_wallFirst), IA E 7 t_many, IA E 144 t_way, IA E 20 t_sightEye, ZA E 20 t_sightSeen] h) 109 [some (.ref a_t), some (vI v1), some (vI v2), some (vI v3), some (vI v4), none, none] [] := by
  rw [m_X11_nextEye_109] at hs
  refine g_iinc e_X11_nextEye_109 rfl st1_4 rfl ?_
  refine g_goto e_X11_nextEye_112 ?_
  obtain ⟨hc9, hs⟩ := chk_elim hs
  exact hag _ _ _ ok_v2 ok_v3 hc9 hs

noncomputable def m_X11_nextEye_95 (t_sights : Int) (t_many : Nat → Int) (t_way : Nat → Int) (t_sightEye : Nat → Int) (t_sightSeen : Nat → Int) (v1 : Int) (v2 : Int) (v3 : Int) (v4 : Int) (s0 : Int) (ag : Int → Int → Int → Option (Int)) (k_115 : Int → Int → Int → Option (Int)) : Option (Int) :=
  if v3 ≤ s0 then (m_X11_nextEye_109 t_sights t_many t_way t_sightEye t_sightSeen v1 v2 v3 v4 ag k_115) else (m_X11_nextEye_109 t_sights t_many t_way t_sightEye t_sightSeen v1 v4 s0 v4 ag k_115)

set_option maxRecDepth 10000 in
set_option maxHeartbeats 8000000 in
theorem g_X11_nextEye_95 {l : Launch} {E : EE} {b0 n : Nat} {h : AH} {a_t : Nat} {t_thrown t_taped t_p t_fault t_baseLow t_baseHigh t_newBaseLow t_newBaseHigh t_from t_knots t_lines t_chosen t_undos t_redos t_aimedMany t_fits t_fitOf t_sights t_systems t_own t_cross t_curveLong t_wallFirst v1 v2 v3 v4 s0 : Int} {t_many t_way t_sightEye t_sightSeen : Nat → Int} {r : Int} {ag : Int → Int → Int → Option (Int)} {k_115 : Int → Int → Int → Option (Int)} (ao : AO b0 n [a_t, (a_t + 2), (a_t + 4), (a_t + 42), (a_t + 43)]) (ok_t_sights : inI t_sights) (ok_t_many : okA t_many) (ok_t_way : okA t_way) (ok_t_sightEye : okA t_sightEye) (ok_t_sightSeen : okZ t_sightSeen) (ok_v1 : inI v1) (ok_v2 : inI v2) (ok_v3 : inI v3) (ok_v4 : inI v4) (ok_s0 : inI s0) (hag : ∀ (v2_ : Int) (v3_ : Int) (v4_ : Int), inI v2_ → inI v3_ → inI v4_ → ag v2_ v3_ v4_ = some r → G l E b0 M_X11_nextEye (fun _ => True) (ZM E b0 (some (vI r)) (ov [a_t, (a_t + 2), (a_t + 4), (a_t + 42), (a_t + 43)] [.inr (11, fsX11 a_t t_thrown t_taped t_p t_fault t_baseLow t_baseHigh t_newBaseLow t_newBaseHigh t_from t_knots t_lines t_chosen t_undos t_redos t_aimedMany t_fits t_fitOf t_sights t_systems t_own t_cross t_curveLong t_wallFirst), IA E 7 t_many, IA E 144 t_way, IA E 20 t_sightEye, ZA E 20 t_sightSeen] h) n (inI r) 0 0) 0 0 n (ov [a_t, (a_t + 2), (a_t + 4), (a_t + 42), (a_t + 43)] [.inr (11, fsX11 a_t t_thrown t_taped t_p t_fault t_baseLow t_baseHigh t_newBaseLow t_newBaseHigh t_from t_knots t_lines t_chosen t_undos t_redos t_aimedMany t_fits t_fitOf t_sights t_systems t_own t_cross t_curveLong t_wallFirst), IA E 7 t_many, IA E 144 t_way, IA E 20 t_sightEye, ZA E 20 t_sightSeen] h) 13 [some (.ref a_t), some (vI v1), some (vI v2_), some (vI v3_), some (vI v4_), none, none] []) (hk_115 : ∀ (v2_ : Int) (v3_ : Int) (v4_ : Int), inI v2_ → inI v3_ → inI v4_ → k_115 v2_ v3_ v4_ = some r → G l E b0 M_X11_nextEye (fun _ => True) (ZM E b0 (some (vI r)) (ov [a_t, (a_t + 2), (a_t + 4), (a_t + 42), (a_t + 43)] [.inr (11, fsX11 a_t t_thrown t_taped t_p t_fault t_baseLow t_baseHigh t_newBaseLow t_newBaseHigh t_from t_knots t_lines t_chosen t_undos t_redos t_aimedMany t_fits t_fitOf t_sights t_systems t_own t_cross t_curveLong t_wallFirst), IA E 7 t_many, IA E 144 t_way, IA E 20 t_sightEye, ZA E 20 t_sightSeen] h) n (inI r) 0 0) 0 0 n (ov [a_t, (a_t + 2), (a_t + 4), (a_t + 42), (a_t + 43)] [.inr (11, fsX11 a_t t_thrown t_taped t_p t_fault t_baseLow t_baseHigh t_newBaseLow t_newBaseHigh t_from t_knots t_lines t_chosen t_undos t_redos t_aimedMany t_fits t_fitOf t_sights t_systems t_own t_cross t_curveLong t_wallFirst), IA E 7 t_many, IA E 144 t_way, IA E 20 t_sightEye, ZA E 20 t_sightSeen] h) 115 [none, none, some (vI v2_), none, none, none, none] []) (hs : m_X11_nextEye_95 t_sights t_many t_way t_sightEye t_sightSeen v1 v2 v3 v4 s0 ag k_115 = some r) : G l E b0 M_X11_nextEye (fun _ => True) (ZM E b0 (some (vI r)) (ov [a_t, (a_t + 2), (a_t + 4), (a_t + 42), (a_t + 43)] [.inr (11, fsX11 a_t t_thrown t_taped t_p t_fault t_baseLow t_baseHigh t_newBaseLow t_newBaseHigh t_from t_knots t_lines t_chosen t_undos t_redos t_aimedMany t_fits t_fitOf t_sights t_systems t_own t_cross t_curveLong t_wallFirst), IA E 7 t_many, IA E 144 t_way, IA E 20 t_sightEye, ZA E 20 t_sightSeen] h) n (inI r) 0 0) 0 0 n (ov [a_t, (a_t + 2), (a_t + 4), (a_t + 42), (a_t + 43)] [.inr (11, fsX11 a_t t_thrown t_taped t_p t_fault t_baseLow t_baseHigh t_newBaseLow t_newBaseHigh t_from t_knots t_lines t_chosen t_undos t_redos t_aimedMany t_fits t_fitOf t_sights t_systems t_own t_cross t_curveLong t_wallFirst), IA E 7 t_many, IA E 144 t_way, IA E 20 t_sightEye, ZA E 20 t_sightSeen] h) 95 [some (.ref a_t), some (vI v1), some (vI v2), some (vI v3), some (vI v4), none, none] [vI s0] := by
  rw [m_X11_nextEye_95] at hs
  refine g_istore e_X11_nextEye_95 st1_6 rfl ?_
  refine g_iload e_X11_nextEye_97 rfl ?_
  refine g_iload_n e_X11_nextEye_99 rfl ?_
  refine g_icmp_ge e_X11_nextEye_100 ok_s0 ok_v3 hs (fun c100 hs => ?_) (fun c100 hs => ?_)
  · exact g_mask [true, true, true, true, true, true, false] (g_X11_nextEye_109 ao ok_t_sights ok_t_many ok_t_way ok_t_sightEye ok_t_sightSeen ok_v1 ok_v2 ok_v3 ok_v4 hag hk_115 hs)
  · refine g_iload e_X11_nextEye_103 rfl ?_
    refine g_istore_n e_X11_nextEye_105 st1_3 rfl ?_
    refine g_iload e_X11_nextEye_106 rfl ?_
    refine g_istore_n e_X11_nextEye_108 st1_2 rfl ?_
    exact g_mask [true, true, true, true, true, true, false] (g_X11_nextEye_109 ao ok_t_sights ok_t_many ok_t_way ok_t_sightEye ok_t_sightSeen ok_v1 ok_v4 ok_s0 ok_v4 hag hk_115 hs)

noncomputable def m_X11_nextEye_77 (t_sights : Int) (t_many : Nat → Int) (t_way : Nat → Int) (t_sightEye : Nat → Int) (t_sightSeen : Nat → Int) (v1 : Int) (v2 : Int) (v3 : Int) (v4 : Int) (v5 : Int) (ag : Int → Int → Int → Option (Int)) (k_115 : Int → Int → Int → Option (Int)) : Option (Int) :=
  chk (inI (v1 - v5)) (if v5 ≤ (v1 - v5) then (m_X11_nextEye_95 t_sights t_many t_way t_sightEye t_sightSeen v1 v2 v3 v4 (v1 - v5) ag k_115) else (m_X11_nextEye_95 t_sights t_many t_way t_sightEye t_sightSeen v1 v2 v3 v4 v5 ag k_115))

set_option maxRecDepth 10000 in
set_option maxHeartbeats 8000000 in
theorem g_X11_nextEye_77 {l : Launch} {E : EE} {b0 n : Nat} {h : AH} {a_t : Nat} {t_thrown t_taped t_p t_fault t_baseLow t_baseHigh t_newBaseLow t_newBaseHigh t_from t_knots t_lines t_chosen t_undos t_redos t_aimedMany t_fits t_fitOf t_sights t_systems t_own t_cross t_curveLong t_wallFirst v1 v2 v3 v4 v5 : Int} {t_many t_way t_sightEye t_sightSeen : Nat → Int} {r : Int} {ag : Int → Int → Int → Option (Int)} {k_115 : Int → Int → Int → Option (Int)} (ao : AO b0 n [a_t, (a_t + 2), (a_t + 4), (a_t + 42), (a_t + 43)]) (ok_t_sights : inI t_sights) (ok_t_many : okA t_many) (ok_t_way : okA t_way) (ok_t_sightEye : okA t_sightEye) (ok_t_sightSeen : okZ t_sightSeen) (ok_v1 : inI v1) (ok_v2 : inI v2) (ok_v3 : inI v3) (ok_v4 : inI v4) (ok_v5 : inI v5) (hag : ∀ (v2_ : Int) (v3_ : Int) (v4_ : Int), inI v2_ → inI v3_ → inI v4_ → ag v2_ v3_ v4_ = some r → G l E b0 M_X11_nextEye (fun _ => True) (ZM E b0 (some (vI r)) (ov [a_t, (a_t + 2), (a_t + 4), (a_t + 42), (a_t + 43)] [.inr (11, fsX11 a_t t_thrown t_taped t_p t_fault t_baseLow t_baseHigh t_newBaseLow t_newBaseHigh t_from t_knots t_lines t_chosen t_undos t_redos t_aimedMany t_fits t_fitOf t_sights t_systems t_own t_cross t_curveLong t_wallFirst), IA E 7 t_many, IA E 144 t_way, IA E 20 t_sightEye, ZA E 20 t_sightSeen] h) n (inI r) 0 0) 0 0 n (ov [a_t, (a_t + 2), (a_t + 4), (a_t + 42), (a_t + 43)] [.inr (11, fsX11 a_t t_thrown t_taped t_p t_fault t_baseLow t_baseHigh t_newBaseLow t_newBaseHigh t_from t_knots t_lines t_chosen t_undos t_redos t_aimedMany t_fits t_fitOf t_sights t_systems t_own t_cross t_curveLong t_wallFirst), IA E 7 t_many, IA E 144 t_way, IA E 20 t_sightEye, ZA E 20 t_sightSeen] h) 13 [some (.ref a_t), some (vI v1), some (vI v2_), some (vI v3_), some (vI v4_), none, none] []) (hk_115 : ∀ (v2_ : Int) (v3_ : Int) (v4_ : Int), inI v2_ → inI v3_ → inI v4_ → k_115 v2_ v3_ v4_ = some r → G l E b0 M_X11_nextEye (fun _ => True) (ZM E b0 (some (vI r)) (ov [a_t, (a_t + 2), (a_t + 4), (a_t + 42), (a_t + 43)] [.inr (11, fsX11 a_t t_thrown t_taped t_p t_fault t_baseLow t_baseHigh t_newBaseLow t_newBaseHigh t_from t_knots t_lines t_chosen t_undos t_redos t_aimedMany t_fits t_fitOf t_sights t_systems t_own t_cross t_curveLong t_wallFirst), IA E 7 t_many, IA E 144 t_way, IA E 20 t_sightEye, ZA E 20 t_sightSeen] h) n (inI r) 0 0) 0 0 n (ov [a_t, (a_t + 2), (a_t + 4), (a_t + 42), (a_t + 43)] [.inr (11, fsX11 a_t t_thrown t_taped t_p t_fault t_baseLow t_baseHigh t_newBaseLow t_newBaseHigh t_from t_knots t_lines t_chosen t_undos t_redos t_aimedMany t_fits t_fitOf t_sights t_systems t_own t_cross t_curveLong t_wallFirst), IA E 7 t_many, IA E 144 t_way, IA E 20 t_sightEye, ZA E 20 t_sightSeen] h) 115 [none, none, some (vI v2_), none, none, none, none] []) (hs : m_X11_nextEye_77 t_sights t_many t_way t_sightEye t_sightSeen v1 v2 v3 v4 v5 ag k_115 = some r) : G l E b0 M_X11_nextEye (fun _ => True) (ZM E b0 (some (vI r)) (ov [a_t, (a_t + 2), (a_t + 4), (a_t + 42), (a_t + 43)] [.inr (11, fsX11 a_t t_thrown t_taped t_p t_fault t_baseLow t_baseHigh t_newBaseLow t_newBaseHigh t_from t_knots t_lines t_chosen t_undos t_redos t_aimedMany t_fits t_fitOf t_sights t_systems t_own t_cross t_curveLong t_wallFirst), IA E 7 t_many, IA E 144 t_way, IA E 20 t_sightEye, ZA E 20 t_sightSeen] h) n (inI r) 0 0) 0 0 n (ov [a_t, (a_t + 2), (a_t + 4), (a_t + 42), (a_t + 43)] [.inr (11, fsX11 a_t t_thrown t_taped t_p t_fault t_baseLow t_baseHigh t_newBaseLow t_newBaseHigh t_from t_knots t_lines t_chosen t_undos t_redos t_aimedMany t_fits t_fitOf t_sights t_systems t_own t_cross t_curveLong t_wallFirst), IA E 7 t_many, IA E 144 t_way, IA E 20 t_sightEye, ZA E 20 t_sightSeen] h) 77 [some (.ref a_t), some (vI v1), some (vI v2), some (vI v3), some (vI v4), some (vI v5), none] [] := by
  rw [m_X11_nextEye_77] at hs
  refine g_iload e_X11_nextEye_77 rfl ?_
  refine g_iload_n e_X11_nextEye_79 rfl ?_
  refine g_iload e_X11_nextEye_80 rfl ?_
  refine g_isub e_X11_nextEye_82 ?_
  obtain ⟨hc8, hs⟩ := chk_elim hs
  refine g_icmp_le e_X11_nextEye_83 ok_v5 hc8 hs (fun c83 hs => ?_) (fun c83 hs => ?_)
  · refine g_iload_n e_X11_nextEye_91 rfl ?_
    refine g_iload e_X11_nextEye_92 rfl ?_
    refine g_isub e_X11_nextEye_94 ?_
    exact g_mask [true, true, true, true, true, false, true] (g_X11_nextEye_95 ao ok_t_sights ok_t_many ok_t_way ok_t_sightEye ok_t_sightSeen ok_v1 ok_v2 ok_v3 ok_v4 hc8 hag hk_115 hs)
  · refine g_iload e_X11_nextEye_86 rfl ?_
    refine g_goto e_X11_nextEye_88 ?_
    exact g_mask [true, true, true, true, true, false, true] (g_X11_nextEye_95 ao ok_t_sights ok_t_many ok_t_way ok_t_sightEye ok_t_sightSeen ok_v1 ok_v2 ok_v3 ok_v4 ok_v5 hag hk_115 hs)

noncomputable def m_X11_nextEye_13 (t_sights : Int) (t_many : Nat → Int) (t_way : Nat → Int) (t_sightEye : Nat → Int) (t_sightSeen : Nat → Int) (v1 : Int) (k_115 : Int → Int → Int → Option (Int)) : Nat → Int → Int → Int → Option (Int)
  | 0, _, _, _ => none
  | F + 1, v2, v3, v4 => chk (inB 2 7) (if (t_many (Int.toNat 2)) ≤ v4 then (some (v2)) else (m_X11_nextEye_30 t_sights t_many t_way t_sightEye t_sightSeen v4 (fun v5' v6' => m_X11_nextEye_77 t_sights t_many t_way t_sightEye t_sightSeen v1 v2 v3 v4 v5' (m_X11_nextEye_13 t_sights t_many t_way t_sightEye t_sightSeen v1 k_115 F) k_115) FU 0 0))

set_option maxRecDepth 10000 in
set_option maxHeartbeats 8000000 in
theorem g_X11_nextEye_13 {l : Launch} {E : EE} {b0 n : Nat} {h : AH} {a_t : Nat} {t_thrown t_taped t_p t_fault t_baseLow t_baseHigh t_newBaseLow t_newBaseHigh t_from t_knots t_lines t_chosen t_undos t_redos t_aimedMany t_fits t_fitOf t_sights t_systems t_own t_cross t_curveLong t_wallFirst v1 : Int} {t_many t_way t_sightEye t_sightSeen : Nat → Int} {r : Int} {k_115 : Int → Int → Int → Option (Int)} (ao : AO b0 n [a_t, (a_t + 2), (a_t + 4), (a_t + 42), (a_t + 43)]) (ok_t_sights : inI t_sights) (ok_t_many : okA t_many) (ok_t_way : okA t_way) (ok_t_sightEye : okA t_sightEye) (ok_t_sightSeen : okZ t_sightSeen) (ok_v1 : inI v1) (hk_115 : ∀ (v2_ : Int) (v3_ : Int) (v4_ : Int), inI v2_ → inI v3_ → inI v4_ → k_115 v2_ v3_ v4_ = some r → G l E b0 M_X11_nextEye (fun _ => True) (ZM E b0 (some (vI r)) (ov [a_t, (a_t + 2), (a_t + 4), (a_t + 42), (a_t + 43)] [.inr (11, fsX11 a_t t_thrown t_taped t_p t_fault t_baseLow t_baseHigh t_newBaseLow t_newBaseHigh t_from t_knots t_lines t_chosen t_undos t_redos t_aimedMany t_fits t_fitOf t_sights t_systems t_own t_cross t_curveLong t_wallFirst), IA E 7 t_many, IA E 144 t_way, IA E 20 t_sightEye, ZA E 20 t_sightSeen] h) n (inI r) 0 0) 0 0 n (ov [a_t, (a_t + 2), (a_t + 4), (a_t + 42), (a_t + 43)] [.inr (11, fsX11 a_t t_thrown t_taped t_p t_fault t_baseLow t_baseHigh t_newBaseLow t_newBaseHigh t_from t_knots t_lines t_chosen t_undos t_redos t_aimedMany t_fits t_fitOf t_sights t_systems t_own t_cross t_curveLong t_wallFirst), IA E 7 t_many, IA E 144 t_way, IA E 20 t_sightEye, ZA E 20 t_sightSeen] h) 115 [none, none, some (vI v2_), none, none, none, none] []) :
    ∀ (F : Nat) (v2 : Int) (v3 : Int) (v4 : Int), inI v2 → inI v3 → inI v4 → m_X11_nextEye_13 t_sights t_many t_way t_sightEye t_sightSeen v1 k_115 F v2 v3 v4 = some r → G l E b0 M_X11_nextEye (fun _ => True) (ZM E b0 (some (vI r)) (ov [a_t, (a_t + 2), (a_t + 4), (a_t + 42), (a_t + 43)] [.inr (11, fsX11 a_t t_thrown t_taped t_p t_fault t_baseLow t_baseHigh t_newBaseLow t_newBaseHigh t_from t_knots t_lines t_chosen t_undos t_redos t_aimedMany t_fits t_fitOf t_sights t_systems t_own t_cross t_curveLong t_wallFirst), IA E 7 t_many, IA E 144 t_way, IA E 20 t_sightEye, ZA E 20 t_sightSeen] h) n (inI r) 0 0) 0 0 n (ov [a_t, (a_t + 2), (a_t + 4), (a_t + 42), (a_t + 43)] [.inr (11, fsX11 a_t t_thrown t_taped t_p t_fault t_baseLow t_baseHigh t_newBaseLow t_newBaseHigh t_from t_knots t_lines t_chosen t_undos t_redos t_aimedMany t_fits t_fitOf t_sights t_systems t_own t_cross t_curveLong t_wallFirst), IA E 7 t_many, IA E 144 t_way, IA E 20 t_sightEye, ZA E 20 t_sightSeen] h) 13 [some (.ref a_t), some (vI v1), some (vI v2), some (vI v3), some (vI v4), none, none] [] := by
  intro F
  induction F with
  | zero =>
    intro v2 v3 v4 ok_v2 ok_v3 ok_v4 hs
    rw [m_X11_nextEye_13] at hs
    cases hs
  | succ F ih =>
    intro v2 v3 v4 ok_v2 ok_v3 ok_v4 hs
    rw [m_X11_nextEye_13] at hs
    refine g_iload e_X11_nextEye_13 rfl ?_
    refine g_aload_n e_X11_nextEye_15 rfl ?_
    refine g_get 0 5 ao rfl rfl fsX11_g5 fl_X11_13 e_X11_nextEye_16 ?_
    refine g_iconst e_X11_nextEye_19 ?_
    refine g_iald 1 ao rfl rfl (Nat.le_of_ble_eq_true rfl) e_X11_nextEye_20 hs (fun hi2 hs => ?_)
    refine g_icmp_ge e_X11_nextEye_21 ok_v4 (ok_t_many _) hs (fun c21 hs => ?_) (fun c21 hs => ?_)
    · refine g_iload_n e_X11_nextEye_115 rfl ?_
      obtain rfl := Option.some.inj hs
      exact g_iret rfl ok_v2 e_X11_nextEye_116
    · refine g_iconst e_X11_nextEye_24 ?_
      refine g_istore e_X11_nextEye_25 st1_5 rfl ?_
      refine g_iconst e_X11_nextEye_27 ?_
      refine g_istore e_X11_nextEye_28 st1_6 rfl ?_
      exact g_X11_nextEye_30 ao ok_t_sights ok_t_many ok_t_way ok_t_sightEye ok_t_sightSeen ok_v1 ok_v2 ok_v3 ok_v4 (hk_77 := by
      intro v5' v6' ok_v5' ok_v6' hs
      exact g_X11_nextEye_77 ao ok_t_sights ok_t_many ok_t_way ok_t_sightEye ok_t_sightSeen ok_v1 ok_v2 ok_v3 ok_v4 ok_v5' ih hk_115 hs) FU _ _ (by decide : inI 0) (by decide : inI 0) hs

noncomputable def m_X11_nextEye_115 (v2 : Int) : Option (Int) :=
  some (v2)

set_option maxRecDepth 10000 in
set_option maxHeartbeats 8000000 in
theorem g_X11_nextEye_115 {l : Launch} {E : EE} {b0 n : Nat} {h : AH} {a_t : Nat} {t_thrown t_taped t_p t_fault t_baseLow t_baseHigh t_newBaseLow t_newBaseHigh t_from t_knots t_lines t_chosen t_undos t_redos t_aimedMany t_fits t_fitOf t_sights t_systems t_own t_cross t_curveLong t_wallFirst v2 : Int} {t_many t_way t_sightEye t_sightSeen : Nat → Int} {r : Int} (ao : AO b0 n [a_t, (a_t + 2), (a_t + 4), (a_t + 42), (a_t + 43)]) (ok_t_sights : inI t_sights) (ok_t_many : okA t_many) (ok_t_way : okA t_way) (ok_t_sightEye : okA t_sightEye) (ok_t_sightSeen : okZ t_sightSeen) (ok_v2 : inI v2) (hs : m_X11_nextEye_115 v2 = some r) : G l E b0 M_X11_nextEye (fun _ => True) (ZM E b0 (some (vI r)) (ov [a_t, (a_t + 2), (a_t + 4), (a_t + 42), (a_t + 43)] [.inr (11, fsX11 a_t t_thrown t_taped t_p t_fault t_baseLow t_baseHigh t_newBaseLow t_newBaseHigh t_from t_knots t_lines t_chosen t_undos t_redos t_aimedMany t_fits t_fitOf t_sights t_systems t_own t_cross t_curveLong t_wallFirst), IA E 7 t_many, IA E 144 t_way, IA E 20 t_sightEye, ZA E 20 t_sightSeen] h) n (inI r) 0 0) 0 0 n (ov [a_t, (a_t + 2), (a_t + 4), (a_t + 42), (a_t + 43)] [.inr (11, fsX11 a_t t_thrown t_taped t_p t_fault t_baseLow t_baseHigh t_newBaseLow t_newBaseHigh t_from t_knots t_lines t_chosen t_undos t_redos t_aimedMany t_fits t_fitOf t_sights t_systems t_own t_cross t_curveLong t_wallFirst), IA E 7 t_many, IA E 144 t_way, IA E 20 t_sightEye, ZA E 20 t_sightSeen] h) 115 [none, none, some (vI v2), none, none, none, none] [] := by
  rw [m_X11_nextEye_115] at hs
  refine g_iload_n e_X11_nextEye_115 rfl ?_
  obtain rfl := Option.some.inj hs
  exact g_iret rfl ok_v2 e_X11_nextEye_116

noncomputable def m_X11_nextEye_0 (t_sights : Int) (t_many : Nat → Int) (t_way : Nat → Int) (t_sightEye : Nat → Int) (t_sightSeen : Nat → Int) : Option (Int) :=
  (m_X11_readBack t_sights t_many t_way t_sightEye t_sightSeen (-1)).bind (fun y1 => m_X11_nextEye_13 t_sights t_many t_way t_sightEye t_sightSeen y1 (fun v2' v3' v4' => m_X11_nextEye_115 v2') FU (-1) y1 0)

set_option maxRecDepth 10000 in
set_option maxHeartbeats 8000000 in
theorem g_X11_nextEye_0 {l : Launch} {E : EE} {b0 n : Nat} {h : AH} {a_t : Nat} {t_thrown t_taped t_p t_fault t_baseLow t_baseHigh t_newBaseLow t_newBaseHigh t_from t_knots t_lines t_chosen t_undos t_redos t_aimedMany t_fits t_fitOf t_sights t_systems t_own t_cross t_curveLong t_wallFirst : Int} {t_many t_way t_sightEye t_sightSeen : Nat → Int} {r : Int} (ao : AO b0 n [a_t, (a_t + 2), (a_t + 4), (a_t + 42), (a_t + 43)]) (ok_t_sights : inI t_sights) (ok_t_many : okA t_many) (ok_t_way : okA t_way) (ok_t_sightEye : okA t_sightEye) (ok_t_sightSeen : okZ t_sightSeen) (hs : m_X11_nextEye_0 t_sights t_many t_way t_sightEye t_sightSeen = some r) : G l E b0 M_X11_nextEye (fun _ => True) (ZM E b0 (some (vI r)) (ov [a_t, (a_t + 2), (a_t + 4), (a_t + 42), (a_t + 43)] [.inr (11, fsX11 a_t t_thrown t_taped t_p t_fault t_baseLow t_baseHigh t_newBaseLow t_newBaseHigh t_from t_knots t_lines t_chosen t_undos t_redos t_aimedMany t_fits t_fitOf t_sights t_systems t_own t_cross t_curveLong t_wallFirst), IA E 7 t_many, IA E 144 t_way, IA E 20 t_sightEye, ZA E 20 t_sightSeen] h) n (inI r) 0 0) 0 0 n (ov [a_t, (a_t + 2), (a_t + 4), (a_t + 42), (a_t + 43)] [.inr (11, fsX11 a_t t_thrown t_taped t_p t_fault t_baseLow t_baseHigh t_newBaseLow t_newBaseHigh t_from t_knots t_lines t_chosen t_undos t_redos t_aimedMany t_fits t_fitOf t_sights t_systems t_own t_cross t_curveLong t_wallFirst), IA E 7 t_many, IA E 144 t_way, IA E 20 t_sightEye, ZA E 20 t_sightSeen] h) 0 [some (.ref a_t), none, none, none, none, none, none] [] := by
  rw [m_X11_nextEye_0] at hs
  refine g_aload_n e_X11_nextEye_0 rfl ?_
  refine g_iconst e_X11_nextEye_1 ?_
  obtain ⟨y1, hy1, hs⟩ := bind_elim hs
  refine g_callVr [vI (-1)] cv_X11_395 ⟨rfl, rfl, Nat.le_of_ble_eq_true rfl, Nat.le_of_ble_eq_true rfl⟩ (ct_X11_readBack (a_t := a_t) (AO_call [0, 1, 2, 3, 4] ao (by decide) rfl) (FA_call [0, 1, 2, 3, 4] ao.1 rfl rfl) ok_t_sights ok_t_many ok_t_way ok_t_sightEye ok_t_sightSeen (by decide : inI (-1)) hy1) e_X11_nextEye_2 (ao.2 0 _ rfl) (ov_get 0 ao.1 rfl rfl) rfl rfl rfl (Nat.le_of_ble_eq_true rfl) ⟨Nat.le_refl _, Nat.le_refl _⟩ (fun Py1 => ?_)
  refine g_istore_n e_X11_nextEye_5 st1_1 rfl ?_
  refine g_iconst e_X11_nextEye_6 ?_
  refine g_istore_n e_X11_nextEye_7 st1_2 rfl ?_
  refine g_iload_n e_X11_nextEye_8 rfl ?_
  refine g_istore_n e_X11_nextEye_9 st1_3 rfl ?_
  refine g_iconst e_X11_nextEye_10 ?_
  refine g_istore e_X11_nextEye_11 st1_4 rfl ?_
  exact g_X11_nextEye_13 ao ok_t_sights ok_t_many ok_t_way ok_t_sightEye ok_t_sightSeen Py1 (hk_115 := by
      intro v2' v3' v4' ok_v2' ok_v3' ok_v4' hs
      exact g_X11_nextEye_115 ao ok_t_sights ok_t_many ok_t_way ok_t_sightEye ok_t_sightSeen ok_v2' hs) FU _ _ _ (by decide : inI (-1)) Py1 (by decide : inI 0) hs

noncomputable def m_X11_nextEye (t_sights : Int) (t_many : Nat → Int) (t_way : Nat → Int) (t_sightEye : Nat → Int) (t_sightSeen : Nat → Int) : Option (Int) := m_X11_nextEye_0 t_sights t_many t_way t_sightEye t_sightSeen

set_option maxRecDepth 10000 in
set_option maxHeartbeats 8000000 in
theorem ct_X11_nextEye {l : Launch} {E : EE} {b0 n : Nat} {h : AH} {a_t : Nat} {t_thrown t_taped t_p t_fault t_baseLow t_baseHigh t_newBaseLow t_newBaseHigh t_from t_knots t_lines t_chosen t_undos t_redos t_aimedMany t_fits t_fitOf t_sights t_systems t_own t_cross t_curveLong t_wallFirst : Int} {t_many t_way t_sightEye t_sightSeen : Nat → Int} (ao : AO b0 n [a_t, (a_t + 2), (a_t + 4), (a_t + 42), (a_t + 43)]) (hf : FA h [a_t, (a_t + 2), (a_t + 4), (a_t + 42), (a_t + 43)] [.inr (11, fsX11 a_t t_thrown t_taped t_p t_fault t_baseLow t_baseHigh t_newBaseLow t_newBaseHigh t_from t_knots t_lines t_chosen t_undos t_redos t_aimedMany t_fits t_fitOf t_sights t_systems t_own t_cross t_curveLong t_wallFirst), IA E 7 t_many, IA E 144 t_way, IA E 20 t_sightEye, ZA E 20 t_sightSeen]) (ok_t_sights : inI t_sights) (ok_t_many : okA t_many) (ok_t_way : okA t_way) (ok_t_sightEye : okA t_sightEye) (ok_t_sightSeen : okZ t_sightSeen) {r : Int} (hm : m_X11_nextEye t_sights t_many t_way t_sightEye t_sightSeen = some r) : Ct l E b0 M_X11_nextEye 0 0 [.ref a_t] h n (some (vI r)) h n (inI r) := by
  rw [m_X11_nextEye] at hm
  have hg : G l E b0 M_X11_nextEye (fun _ => True) (ZM E b0 (some (vI r)) (ov [a_t, (a_t + 2), (a_t + 4), (a_t + 42), (a_t + 43)] [.inr (11, fsX11 a_t t_thrown t_taped t_p t_fault t_baseLow t_baseHigh t_newBaseLow t_newBaseHigh t_from t_knots t_lines t_chosen t_undos t_redos t_aimedMany t_fits t_fitOf t_sights t_systems t_own t_cross t_curveLong t_wallFirst), IA E 7 t_many, IA E 144 t_way, IA E 20 t_sightEye, ZA E 20 t_sightSeen] h) n (inI r) 0 0) 0 0 n (ov [a_t, (a_t + 2), (a_t + 4), (a_t + 42), (a_t + 43)] [.inr (11, fsX11 a_t t_thrown t_taped t_p t_fault t_baseLow t_baseHigh t_newBaseLow t_newBaseHigh t_from t_knots t_lines t_chosen t_undos t_redos t_aimedMany t_fits t_fitOf t_sights t_systems t_own t_cross t_curveLong t_wallFirst), IA E 7 t_many, IA E 144 t_way, IA E 20 t_sightEye, ZA E 20 t_sightSeen] h) 0 [some (.ref a_t), none, none, none, none, none, none] [] := by
    have hs := hm
    exact g_X11_nextEye_0 ao ok_t_sights ok_t_many ok_t_way ok_t_sightEye ok_t_sightSeen hs
  rw [FA_id hf] at hg
  exact Ct_of [some (.ref a_t), none, none, none, none, none, none] ⟨by decide +kernel, rfl⟩ rfl (Nat.le_of_ble_eq_true rfl) hg

/-! ===== X11_system ===== -/
theorem e_X11_system_0 : DC cX11_system 0 (.aload_n 0) 1 1 := ⟨by decide +kernel, rfl⟩
theorem e_X11_system_1 : DC cX11_system 1 (.getfield 398) 3 4 := ⟨by decide +kernel, rfl⟩
theorem e_X11_system_4 : DC cX11_system 4 (.bipush 8) 2 6 := ⟨by decide +kernel, rfl⟩
theorem e_X11_system_6 : DB cX11_system 6 (.if_icmp .eq 12) (12) 3 9 18 := ⟨by decide +kernel, rfl, rfl⟩
theorem e_X11_system_9 : DC cX11_system 9 (.aload_n 0) 1 10 := ⟨by decide +kernel, rfl⟩
theorem e_X11_system_10 : DC cX11_system 10 (.iload_n 1) 1 11 := ⟨by decide +kernel, rfl⟩
theorem e_X11_system_11 : DC cX11_system 11 (.iload_n 2) 1 12 := ⟨by decide +kernel, rfl⟩
theorem e_X11_system_12 : DC cX11_system 12 (.invokevirtual 314) 3 15 := ⟨by decide +kernel, rfl⟩
theorem e_X11_system_15 : DB cX11_system 15 (.ifCond .ne 5) (5) 3 18 20 := ⟨by decide +kernel, rfl, rfl⟩
theorem e_X11_system_18 : DC cX11_system 18 (.iconst (-1)) 1 19 := ⟨by decide +kernel, rfl⟩
theorem e_X11_system_19 : DC cX11_system 19 (.ireturn) 1 20 := ⟨by decide +kernel, rfl⟩
theorem e_X11_system_20 : DC cX11_system 20 (.iconst 0) 1 21 := ⟨by decide +kernel, rfl⟩
theorem e_X11_system_21 : DC cX11_system 21 (.istore_n 3) 1 22 := ⟨by decide +kernel, rfl⟩
theorem e_X11_system_22 : DC cX11_system 22 (.iload_n 3) 1 23 := ⟨by decide +kernel, rfl⟩
theorem e_X11_system_23 : DC cX11_system 23 (.iconst 3) 1 24 := ⟨by decide +kernel, rfl⟩
theorem e_X11_system_24 : DB cX11_system 24 (.if_icmp .ge 62) (62) 3 27 86 := ⟨by decide +kernel, rfl, rfl⟩
theorem e_X11_system_27 : DC cX11_system 27 (.aload_n 0) 1 28 := ⟨by decide +kernel, rfl⟩
theorem e_X11_system_28 : DC cX11_system 28 (.getfield 145) 3 31 := ⟨by decide +kernel, rfl⟩
theorem e_X11_system_31 : DC cX11_system 31 (.bipush 6) 2 33 := ⟨by decide +kernel, rfl⟩
theorem e_X11_system_33 : DC cX11_system 33 (.aload_n 0) 1 34 := ⟨by decide +kernel, rfl⟩
theorem e_X11_system_34 : DC cX11_system 34 (.getfield 398) 3 37 := ⟨by decide +kernel, rfl⟩
theorem e_X11_system_37 : DC cX11_system 37 (.imul) 1 38 := ⟨by decide +kernel, rfl⟩
theorem e_X11_system_38 : DC cX11_system 38 (.iload_n 3) 1 39 := ⟨by decide +kernel, rfl⟩
theorem e_X11_system_39 : DC cX11_system 39 (.iadd) 1 40 := ⟨by decide +kernel, rfl⟩
theorem e_X11_system_40 : DC cX11_system 40 (.aload_n 0) 1 41 := ⟨by decide +kernel, rfl⟩
theorem e_X11_system_41 : DC cX11_system 41 (.getfield 20) 3 44 := ⟨by decide +kernel, rfl⟩
theorem e_X11_system_44 : DC cX11_system 44 (.bipush 48) 2 46 := ⟨by decide +kernel, rfl⟩
theorem e_X11_system_46 : DC cX11_system 46 (.iconst 3) 1 47 := ⟨by decide +kernel, rfl⟩
theorem e_X11_system_47 : DC cX11_system 47 (.iload_n 1) 1 48 := ⟨by decide +kernel, rfl⟩
theorem e_X11_system_48 : DC cX11_system 48 (.imul) 1 49 := ⟨by decide +kernel, rfl⟩
theorem e_X11_system_49 : DC cX11_system 49 (.iadd) 1 50 := ⟨by decide +kernel, rfl⟩
theorem e_X11_system_50 : DC cX11_system 50 (.iload_n 3) 1 51 := ⟨by decide +kernel, rfl⟩
theorem e_X11_system_51 : DC cX11_system 51 (.iadd) 1 52 := ⟨by decide +kernel, rfl⟩
theorem e_X11_system_52 : DC cX11_system 52 (.iaload) 1 53 := ⟨by decide +kernel, rfl⟩
theorem e_X11_system_53 : DC cX11_system 53 (.iastore) 1 54 := ⟨by decide +kernel, rfl⟩
theorem e_X11_system_54 : DC cX11_system 54 (.aload_n 0) 1 55 := ⟨by decide +kernel, rfl⟩
theorem e_X11_system_55 : DC cX11_system 55 (.getfield 145) 3 58 := ⟨by decide +kernel, rfl⟩
theorem e_X11_system_58 : DC cX11_system 58 (.bipush 6) 2 60 := ⟨by decide +kernel, rfl⟩
theorem e_X11_system_60 : DC cX11_system 60 (.aload_n 0) 1 61 := ⟨by decide +kernel, rfl⟩
theorem e_X11_system_61 : DC cX11_system 61 (.getfield 398) 3 64 := ⟨by decide +kernel, rfl⟩
theorem e_X11_system_64 : DC cX11_system 64 (.imul) 1 65 := ⟨by decide +kernel, rfl⟩
theorem e_X11_system_65 : DC cX11_system 65 (.iconst 3) 1 66 := ⟨by decide +kernel, rfl⟩
theorem e_X11_system_66 : DC cX11_system 66 (.iadd) 1 67 := ⟨by decide +kernel, rfl⟩
theorem e_X11_system_67 : DC cX11_system 67 (.iload_n 3) 1 68 := ⟨by decide +kernel, rfl⟩
theorem e_X11_system_68 : DC cX11_system 68 (.iadd) 1 69 := ⟨by decide +kernel, rfl⟩
theorem e_X11_system_69 : DC cX11_system 69 (.aload_n 0) 1 70 := ⟨by decide +kernel, rfl⟩
theorem e_X11_system_70 : DC cX11_system 70 (.getfield 20) 3 73 := ⟨by decide +kernel, rfl⟩
theorem e_X11_system_73 : DC cX11_system 73 (.iconst 3) 1 74 := ⟨by decide +kernel, rfl⟩
theorem e_X11_system_74 : DC cX11_system 74 (.iload_n 2) 1 75 := ⟨by decide +kernel, rfl⟩
theorem e_X11_system_75 : DC cX11_system 75 (.imul) 1 76 := ⟨by decide +kernel, rfl⟩
theorem e_X11_system_76 : DC cX11_system 76 (.iload_n 3) 1 77 := ⟨by decide +kernel, rfl⟩
theorem e_X11_system_77 : DC cX11_system 77 (.iadd) 1 78 := ⟨by decide +kernel, rfl⟩
theorem e_X11_system_78 : DC cX11_system 78 (.iaload) 1 79 := ⟨by decide +kernel, rfl⟩
theorem e_X11_system_79 : DC cX11_system 79 (.iastore) 1 80 := ⟨by decide +kernel, rfl⟩
theorem e_X11_system_80 : DC cX11_system 80 (.iinc 3 1) 3 83 := ⟨by decide +kernel, rfl⟩
theorem e_X11_system_83 : DB cX11_system 83 (.goto (-61)) (-61) 3 86 22 := ⟨by decide +kernel, rfl, rfl⟩
theorem e_X11_system_86 : DC cX11_system 86 (.aload_n 0) 1 87 := ⟨by decide +kernel, rfl⟩
theorem e_X11_system_87 : DC cX11_system 87 (.dup) 1 88 := ⟨by decide +kernel, rfl⟩
theorem e_X11_system_88 : DC cX11_system 88 (.getfield 398) 3 91 := ⟨by decide +kernel, rfl⟩
theorem e_X11_system_91 : DC cX11_system 91 (.iconst 1) 1 92 := ⟨by decide +kernel, rfl⟩
theorem e_X11_system_92 : DC cX11_system 92 (.iadd) 1 93 := ⟨by decide +kernel, rfl⟩
theorem e_X11_system_93 : DC cX11_system 93 (.putfield 398) 3 96 := ⟨by decide +kernel, rfl⟩
theorem e_X11_system_96 : DC cX11_system 96 (.aload_n 0) 1 97 := ⟨by decide +kernel, rfl⟩
theorem e_X11_system_97 : DC cX11_system 97 (.getfield 398) 3 100 := ⟨by decide +kernel, rfl⟩
theorem e_X11_system_100 : DC cX11_system 100 (.iconst 1) 1 101 := ⟨by decide +kernel, rfl⟩
theorem e_X11_system_101 : DC cX11_system 101 (.isub) 1 102 := ⟨by decide +kernel, rfl⟩
theorem e_X11_system_102 : DC cX11_system 102 (.ireturn) 1 103 := ⟨by decide +kernel, rfl⟩
noncomputable def m_X11_system_22 (t_systems : Int) (t_way : Nat → Int) (v1 : Int) (v2 : Int) (k_86 : (Nat → Int) → Int → Option (Int × Int × (Nat → Int))) : Nat → (Nat → Int) → Int → Option (Int × Int × (Nat → Int))
  | 0, _, _ => none
  | F + 1, t_ways, v3 => if 3 ≤ v3 then (k_86 t_ways v3) else (chk (inB ((48 + (3 * v1)) + v3) 144) (chk (inB ((6 * t_systems) + v3) 48) (chk (inB ((3 * v2) + v3) 144) (chk (inB (((6 * t_systems) + 3) + v3) 48) (chk (inI (v3 + 1)) (m_X11_system_22 t_systems t_way v1 v2 k_86 F (up (up t_ways (Int.toNat ((6 * t_systems) + v3)) (t_way (Int.toNat ((48 + (3 * v1)) + v3)))) (Int.toNat (((6 * t_systems) + 3) + v3)) (t_way (Int.toNat ((3 * v2) + v3)))) (v3 + 1)))))))

set_option maxRecDepth 10000 in
set_option maxHeartbeats 8000000 in
theorem g_X11_system_22 {l : Launch} {E : EE} {b0 n : Nat} {h : AH} {a_t : Nat} {t_thrown t_taped t_p t_fault t_baseLow t_baseHigh t_newBaseLow t_newBaseHigh t_from t_knots t_lines t_chosen t_undos t_redos t_aimedMany t_fits t_fitOf t_sights t_systems t_own t_cross t_curveLong t_wallFirst v1 v2 : Int} {t_many t_way : Nat → Int} {r : Int × Int × (Nat → Int)} {k_86 : (Nat → Int) → Int → Option (Int × Int × (Nat → Int))} (ao : AO b0 n [a_t, (a_t + 2), (a_t + 4), (a_t + 45)]) (ok_t_systems : inI t_systems) (ok_t_many : okA t_many) (ok_t_way : okA t_way) (ok_v1 : inI v1) (ok_v2 : inI v2) (hk_86 : ∀ (t_ways_ : Nat → Int) (v3_ : Int), okA t_ways_ → inI v3_ → k_86 t_ways_ v3_ = some r → G l E b0 M_X11_system (fun _ => True) (ZM E b0 (some (vI r.1)) (ov [a_t, (a_t + 2), (a_t + 4), (a_t + 45)] [.inr (11, fsX11 a_t t_thrown t_taped t_p t_fault t_baseLow t_baseHigh t_newBaseLow t_newBaseHigh t_from t_knots t_lines t_chosen t_undos t_redos t_aimedMany t_fits t_fitOf t_sights r.2.1 t_own t_cross t_curveLong t_wallFirst), IA E 7 t_many, IA E 144 t_way, IA E 48 r.2.2] h) n (inI r.1 ∧ inI r.2.1 ∧ okA r.2.2) 0 0) 0 0 n (ov [a_t, (a_t + 2), (a_t + 4), (a_t + 45)] [.inr (11, fsX11 a_t t_thrown t_taped t_p t_fault t_baseLow t_baseHigh t_newBaseLow t_newBaseHigh t_from t_knots t_lines t_chosen t_undos t_redos t_aimedMany t_fits t_fitOf t_sights t_systems t_own t_cross t_curveLong t_wallFirst), IA E 7 t_many, IA E 144 t_way, IA E 48 t_ways_] h) 86 [some (.ref a_t), none, none, none] []) :
    ∀ (F : Nat) (t_ways : Nat → Int) (v3 : Int), okA t_ways → inI v3 → m_X11_system_22 t_systems t_way v1 v2 k_86 F t_ways v3 = some r → G l E b0 M_X11_system (fun _ => True) (ZM E b0 (some (vI r.1)) (ov [a_t, (a_t + 2), (a_t + 4), (a_t + 45)] [.inr (11, fsX11 a_t t_thrown t_taped t_p t_fault t_baseLow t_baseHigh t_newBaseLow t_newBaseHigh t_from t_knots t_lines t_chosen t_undos t_redos t_aimedMany t_fits t_fitOf t_sights r.2.1 t_own t_cross t_curveLong t_wallFirst), IA E 7 t_many, IA E 144 t_way, IA E 48 r.2.2] h) n (inI r.1 ∧ inI r.2.1 ∧ okA r.2.2) 0 0) 0 0 n (ov [a_t, (a_t + 2), (a_t + 4), (a_t + 45)] [.inr (11, fsX11 a_t t_thrown t_taped t_p t_fault t_baseLow t_baseHigh t_newBaseLow t_newBaseHigh t_from t_knots t_lines t_chosen t_undos t_redos t_aimedMany t_fits t_fitOf t_sights t_systems t_own t_cross t_curveLong t_wallFirst), IA E 7 t_many, IA E 144 t_way, IA E 48 t_ways] h) 22 [some (.ref a_t), some (vI v1), some (vI v2), some (vI v3)] [] := by
  intro F
  induction F with
  | zero =>
    intro t_ways v3 ok_t_ways ok_v3 hs
    rw [m_X11_system_22] at hs
    cases hs
  | succ F ih =>
    intro t_ways v3 ok_t_ways ok_v3 hs
    rw [m_X11_system_22] at hs
    refine g_iload_n e_X11_system_22 rfl ?_
    refine g_iconst e_X11_system_23 ?_
    refine g_icmp_ge e_X11_system_24 ok_v3 (by decide : inI 3) hs (fun c24 hs => ?_) (fun c24 hs => ?_)
    · exact g_mask [true, false, false, false] (hk_86 _ _ ok_t_ways ok_v3 hs)
    · refine g_aload_n e_X11_system_27 rfl ?_
      refine g_get 0 65 ao rfl rfl fsX11_g65 fl_X11_145 e_X11_system_28 ?_
      refine g_bipush e_X11_system_31 bp_6 ?_
      refine g_aload_n e_X11_system_33 rfl ?_
      refine g_get 0 61 ao rfl rfl fsX11_g61 fl_X11_398 e_X11_system_34 ?_
      refine g_imul e_X11_system_37 ?_
      refine g_iload_n e_X11_system_38 rfl ?_
      refine g_iadd e_X11_system_39 ?_
      refine g_aload_n e_X11_system_40 rfl ?_
      refine g_get 0 7 ao rfl rfl fsX11_g7 fl_X11_20 e_X11_system_41 ?_
      refine g_bipush e_X11_system_44 bp_48 ?_
      refine g_iconst e_X11_system_46 ?_
      refine g_iload_n e_X11_system_47 rfl ?_
      refine g_imul e_X11_system_48 ?_
      refine g_iadd e_X11_system_49 ?_
      refine g_iload_n e_X11_system_50 rfl ?_
      refine g_iadd e_X11_system_51 ?_
      refine g_iald 2 ao rfl rfl (Nat.le_of_ble_eq_true rfl) e_X11_system_52 hs (fun hi2 hs => ?_)
      refine g_iast 3 ao rfl rfl ls_3 (Nat.le_of_ble_eq_true rfl) e_X11_system_53 hs (fun hi3 hs => ?_)
      refine g_aload_n e_X11_system_54 rfl ?_
      refine g_get 0 65 ao rfl rfl fsX11_g65 fl_X11_145 e_X11_system_55 ?_
      refine g_bipush e_X11_system_58 bp_6 ?_
      refine g_aload_n e_X11_system_60 rfl ?_
      refine g_get 0 61 ao rfl rfl fsX11_g61 fl_X11_398 e_X11_system_61 ?_
      refine g_imul e_X11_system_64 ?_
      refine g_iconst e_X11_system_65 ?_
      refine g_iadd e_X11_system_66 ?_
      refine g_iload_n e_X11_system_67 rfl ?_
      refine g_iadd e_X11_system_68 ?_
      refine g_aload_n e_X11_system_69 rfl ?_
      refine g_get 0 7 ao rfl rfl fsX11_g7 fl_X11_20 e_X11_system_70 ?_
      refine g_iconst e_X11_system_73 ?_
      refine g_iload_n e_X11_system_74 rfl ?_
      refine g_imul e_X11_system_75 ?_
      refine g_iload_n e_X11_system_76 rfl ?_
      refine g_iadd e_X11_system_77 ?_
      refine g_iald 2 ao rfl rfl (Nat.le_of_ble_eq_true rfl) e_X11_system_78 hs (fun hi4 hs => ?_)
      refine g_iast 3 ao rfl rfl ls_3 (Nat.le_of_ble_eq_true rfl) e_X11_system_79 hs (fun hi5 hs => ?_)
      refine g_iinc e_X11_system_80 rfl st1_3 rfl ?_
      refine g_goto e_X11_system_83 ?_
      obtain ⟨hc6, hs⟩ := chk_elim hs
      exact ih _ _ (okA_up (okA_up ok_t_ways (ok_t_way _)) (ok_t_way _)) hc6 hs

noncomputable def m_X11_system_86 (t_systems : Int) (t_ways : Nat → Int) : Option (Int × Int × (Nat → Int)) :=
  chk (inI (t_systems + 1)) (chk (inI ((t_systems + 1) - 1)) (some ((t_systems + 1) - 1, t_systems + 1, t_ways)))

set_option maxRecDepth 10000 in
set_option maxHeartbeats 8000000 in
theorem g_X11_system_86 {l : Launch} {E : EE} {b0 n : Nat} {h : AH} {a_t : Nat} {t_thrown t_taped t_p t_fault t_baseLow t_baseHigh t_newBaseLow t_newBaseHigh t_from t_knots t_lines t_chosen t_undos t_redos t_aimedMany t_fits t_fitOf t_sights t_systems t_own t_cross t_curveLong t_wallFirst : Int} {t_many t_way t_ways : Nat → Int} {r : Int × Int × (Nat → Int)} (ao : AO b0 n [a_t, (a_t + 2), (a_t + 4), (a_t + 45)]) (ok_t_systems : inI t_systems) (ok_t_many : okA t_many) (ok_t_way : okA t_way) (ok_t_ways : okA t_ways) (hs : m_X11_system_86 t_systems t_ways = some r) : G l E b0 M_X11_system (fun _ => True) (ZM E b0 (some (vI r.1)) (ov [a_t, (a_t + 2), (a_t + 4), (a_t + 45)] [.inr (11, fsX11 a_t t_thrown t_taped t_p t_fault t_baseLow t_baseHigh t_newBaseLow t_newBaseHigh t_from t_knots t_lines t_chosen t_undos t_redos t_aimedMany t_fits t_fitOf t_sights r.2.1 t_own t_cross t_curveLong t_wallFirst), IA E 7 t_many, IA E 144 t_way, IA E 48 r.2.2] h) n (inI r.1 ∧ inI r.2.1 ∧ okA r.2.2) 0 0) 0 0 n (ov [a_t, (a_t + 2), (a_t + 4), (a_t + 45)] [.inr (11, fsX11 a_t t_thrown t_taped t_p t_fault t_baseLow t_baseHigh t_newBaseLow t_newBaseHigh t_from t_knots t_lines t_chosen t_undos t_redos t_aimedMany t_fits t_fitOf t_sights t_systems t_own t_cross t_curveLong t_wallFirst), IA E 7 t_many, IA E 144 t_way, IA E 48 t_ways] h) 86 [some (.ref a_t), none, none, none] [] := by
  rw [m_X11_system_86] at hs
  refine g_aload_n e_X11_system_86 rfl ?_
  refine g_dup e_X11_system_87 rfl ?_
  refine g_get 0 61 ao rfl rfl fsX11_g61 fl_X11_398 e_X11_system_88 ?_
  refine g_iconst e_X11_system_91 ?_
  refine g_iadd e_X11_system_92 ?_
  obtain ⟨hc7, hs⟩ := chk_elim hs
  refine g_put 0 61 ao rfl rfl fsX11_k61 fsX11_s61 ls_0 fw_X11_398 (fun h => by cases h) ⟨rfl, rfl⟩ e_X11_system_93 ?_
  refine g_aload_n e_X11_system_96 rfl ?_
  refine g_get 0 61 ao rfl rfl fsX11_g61 fl_X11_398 e_X11_system_97 ?_
  refine g_iconst e_X11_system_100 ?_
  refine g_isub e_X11_system_101 ?_
  obtain ⟨hc8, hs⟩ := chk_elim hs
  obtain rfl := Option.some.inj hs
  exact g_iret rfl ⟨hc8, hc7, ok_t_ways⟩ e_X11_system_102

noncomputable def m_X11_system_0 (t_systems : Int) (t_many : Nat → Int) (t_way : Nat → Int) (t_ways : Nat → Int) (v1 : Int) (v2 : Int) : Option (Int × Int × (Nat → Int)) :=
  if t_systems = 8 then (some ((-1), t_systems, t_ways)) else ((m_X11_isIn t_many t_way v1 v2).bind (fun y1 => if y1 = 0 then (some ((-1), t_systems, t_ways)) else (m_X11_system_22 t_systems t_way v1 v2 (fun t_ways' v3' => m_X11_system_86 t_systems t_ways') FU t_ways 0)))

set_option maxRecDepth 10000 in
set_option maxHeartbeats 8000000 in
theorem g_X11_system_0 {l : Launch} {E : EE} {b0 n : Nat} {h : AH} {a_t : Nat} {t_thrown t_taped t_p t_fault t_baseLow t_baseHigh t_newBaseLow t_newBaseHigh t_from t_knots t_lines t_chosen t_undos t_redos t_aimedMany t_fits t_fitOf t_sights t_systems t_own t_cross t_curveLong t_wallFirst v1 v2 : Int} {t_many t_way t_ways : Nat → Int} {r : Int × Int × (Nat → Int)} (ao : AO b0 n [a_t, (a_t + 2), (a_t + 4), (a_t + 45)]) (ok_t_systems : inI t_systems) (ok_t_many : okA t_many) (ok_t_way : okA t_way) (ok_t_ways : okA t_ways) (ok_v1 : inI v1) (ok_v2 : inI v2) (hs : m_X11_system_0 t_systems t_many t_way t_ways v1 v2 = some r) : G l E b0 M_X11_system (fun _ => True) (ZM E b0 (some (vI r.1)) (ov [a_t, (a_t + 2), (a_t + 4), (a_t + 45)] [.inr (11, fsX11 a_t t_thrown t_taped t_p t_fault t_baseLow t_baseHigh t_newBaseLow t_newBaseHigh t_from t_knots t_lines t_chosen t_undos t_redos t_aimedMany t_fits t_fitOf t_sights r.2.1 t_own t_cross t_curveLong t_wallFirst), IA E 7 t_many, IA E 144 t_way, IA E 48 r.2.2] h) n (inI r.1 ∧ inI r.2.1 ∧ okA r.2.2) 0 0) 0 0 n (ov [a_t, (a_t + 2), (a_t + 4), (a_t + 45)] [.inr (11, fsX11 a_t t_thrown t_taped t_p t_fault t_baseLow t_baseHigh t_newBaseLow t_newBaseHigh t_from t_knots t_lines t_chosen t_undos t_redos t_aimedMany t_fits t_fitOf t_sights t_systems t_own t_cross t_curveLong t_wallFirst), IA E 7 t_many, IA E 144 t_way, IA E 48 t_ways] h) 0 [some (.ref a_t), some (vI v1), some (vI v2), none] [] := by
  rw [m_X11_system_0] at hs
  refine g_aload_n e_X11_system_0 rfl ?_
  refine g_get 0 61 ao rfl rfl fsX11_g61 fl_X11_398 e_X11_system_1 ?_
  refine g_bipush e_X11_system_4 bp_8 ?_
  refine g_icmp_eq e_X11_system_6 ok_t_systems (by decide : inI 8) hs (fun c6 hs => ?_) (fun c6 hs => ?_)
  · refine g_iconst e_X11_system_18 ?_
    obtain rfl := Option.some.inj hs
    exact g_iret rfl ⟨(by decide : inI (-1)), ok_t_systems, ok_t_ways⟩ e_X11_system_19
  · refine g_aload_n e_X11_system_9 rfl ?_
    refine g_iload_n e_X11_system_10 rfl ?_
    refine g_iload_n e_X11_system_11 rfl ?_
    obtain ⟨y1, hy1, hs⟩ := bind_elim hs
    refine g_callVr [vI v1, vI v2] cv_X11_314 ⟨rfl, rfl, Nat.le_of_ble_eq_true rfl, Nat.le_of_ble_eq_true rfl⟩ (ct_X11_isIn (a_t := a_t) (AO_call [0, 1, 2] ao (by decide) rfl) (FA_call [0, 1, 2] ao.1 rfl rfl) ok_t_many ok_t_way ok_v1 ok_v2 hy1) e_X11_system_12 (ao.2 0 _ rfl) (ov_get 0 ao.1 rfl rfl) rfl rfl rfl (Nat.le_of_ble_eq_true rfl) ⟨Nat.le_refl _, Nat.le_refl _⟩ (fun Py1 => ?_)
    refine g_if_ne e_X11_system_15 (inZ_I Py1) hs (fun c15 hs => ?_) (fun c15 hs => ?_)
    · refine g_iconst e_X11_system_18 ?_
      obtain rfl := Option.some.inj hs
      exact g_iret rfl ⟨(by decide : inI (-1)), ok_t_systems, ok_t_ways⟩ e_X11_system_19
    · refine g_iconst e_X11_system_20 ?_
      refine g_istore_n e_X11_system_21 st1_3 rfl ?_
      exact g_X11_system_22 ao ok_t_systems ok_t_many ok_t_way ok_v1 ok_v2 (hk_86 := by
      intro t_ways' v3' ok_t_ways' ok_v3' hs
      exact g_X11_system_86 ao ok_t_systems ok_t_many ok_t_way ok_t_ways' hs) FU _ _ ok_t_ways (by decide : inI 0) hs

noncomputable def m_X11_system (t_systems : Int) (t_many : Nat → Int) (t_way : Nat → Int) (t_ways : Nat → Int) (v1 : Int) (v2 : Int) : Option (Int × Int × (Nat → Int)) := m_X11_system_0 t_systems t_many t_way t_ways v1 v2

set_option maxRecDepth 10000 in
set_option maxHeartbeats 8000000 in
theorem ct_X11_system {l : Launch} {E : EE} {b0 n : Nat} {h : AH} {a_t : Nat} {t_thrown t_taped t_p t_fault t_baseLow t_baseHigh t_newBaseLow t_newBaseHigh t_from t_knots t_lines t_chosen t_undos t_redos t_aimedMany t_fits t_fitOf t_sights t_systems t_own t_cross t_curveLong t_wallFirst : Int} {t_many t_way t_ways : Nat → Int} {v1 v2 : Int} (ao : AO b0 n [a_t, (a_t + 2), (a_t + 4), (a_t + 45)]) (hf : FA h [a_t, (a_t + 2), (a_t + 4), (a_t + 45)] [.inr (11, fsX11 a_t t_thrown t_taped t_p t_fault t_baseLow t_baseHigh t_newBaseLow t_newBaseHigh t_from t_knots t_lines t_chosen t_undos t_redos t_aimedMany t_fits t_fitOf t_sights t_systems t_own t_cross t_curveLong t_wallFirst), IA E 7 t_many, IA E 144 t_way, IA E 48 t_ways]) (ok_t_systems : inI t_systems) (ok_t_many : okA t_many) (ok_t_way : okA t_way) (ok_t_ways : okA t_ways) (ok_v1 : inI v1) (ok_v2 : inI v2) {r : Int × Int × (Nat → Int)} (hm : m_X11_system t_systems t_many t_way t_ways v1 v2 = some r) : Ct l E b0 M_X11_system 0 0 [.ref a_t, vI v1, vI v2] h n (some (vI r.1)) (ov [a_t, (a_t + 2), (a_t + 4), (a_t + 45)] [.inr (11, fsX11 a_t t_thrown t_taped t_p t_fault t_baseLow t_baseHigh t_newBaseLow t_newBaseHigh t_from t_knots t_lines t_chosen t_undos t_redos t_aimedMany t_fits t_fitOf t_sights r.2.1 t_own t_cross t_curveLong t_wallFirst), IA E 7 t_many, IA E 144 t_way, IA E 48 r.2.2] h) n (inI r.1 ∧ inI r.2.1 ∧ okA r.2.2) := by
  rw [m_X11_system] at hm
  have hg : G l E b0 M_X11_system (fun _ => True) (ZM E b0 (some (vI r.1)) (ov [a_t, (a_t + 2), (a_t + 4), (a_t + 45)] [.inr (11, fsX11 a_t t_thrown t_taped t_p t_fault t_baseLow t_baseHigh t_newBaseLow t_newBaseHigh t_from t_knots t_lines t_chosen t_undos t_redos t_aimedMany t_fits t_fitOf t_sights r.2.1 t_own t_cross t_curveLong t_wallFirst), IA E 7 t_many, IA E 144 t_way, IA E 48 r.2.2] h) n (inI r.1 ∧ inI r.2.1 ∧ okA r.2.2) 0 0) 0 0 n (ov [a_t, (a_t + 2), (a_t + 4), (a_t + 45)] [.inr (11, fsX11 a_t t_thrown t_taped t_p t_fault t_baseLow t_baseHigh t_newBaseLow t_newBaseHigh t_from t_knots t_lines t_chosen t_undos t_redos t_aimedMany t_fits t_fitOf t_sights t_systems t_own t_cross t_curveLong t_wallFirst), IA E 7 t_many, IA E 144 t_way, IA E 48 t_ways] h) 0 [some (.ref a_t), some (vI v1), some (vI v2), none] [] := by
    have hs := hm
    exact g_X11_system_0 ao ok_t_systems ok_t_many ok_t_way ok_t_ways ok_v1 ok_v2 hs
  rw [FA_id hf] at hg
  exact Ct_of [some (.ref a_t), some (vI v1), some (vI v2), none] ⟨by decide +kernel, rfl⟩ rfl (Nat.le_of_ble_eq_true rfl) hg

/-! ===== X11_isSystem ===== -/
theorem e_X11_isSystem_0 : DC cX11_isSystem 0 (.iload_n 1) 1 1 := ⟨by decide +kernel, rfl⟩
theorem e_X11_isSystem_1 : DC cX11_isSystem 1 (.iconst 0) 1 2 := ⟨by decide +kernel, rfl⟩
theorem e_X11_isSystem_2 : DC cX11_isSystem 2 (.aload_n 0) 1 3 := ⟨by decide +kernel, rfl⟩
theorem e_X11_isSystem_3 : DC cX11_isSystem 3 (.getfield 398) 3 6 := ⟨by decide +kernel, rfl⟩
theorem e_X11_isSystem_6 : DC cX11_isSystem 6 (.iconst 1) 1 7 := ⟨by decide +kernel, rfl⟩
theorem e_X11_isSystem_7 : DC cX11_isSystem 7 (.isub) 1 8 := ⟨by decide +kernel, rfl⟩
theorem e_X11_isSystem_8 : DC cX11_isSystem 8 (.invokestatic 226) 3 11 := ⟨by decide +kernel, rfl⟩
theorem e_X11_isSystem_11 : DC cX11_isSystem 11 (.ireturn) 1 12 := ⟨by decide +kernel, rfl⟩
noncomputable def m_X11_isSystem_0 (t_systems : Int) (v1 : Int) : Option (Int) :=
  chk (inI (t_systems - 1)) ((m_X11_in v1 0 (t_systems - 1)).bind (fun y2 => some (y2)))

set_option maxRecDepth 10000 in
set_option maxHeartbeats 8000000 in
theorem g_X11_isSystem_0 {l : Launch} {E : EE} {b0 n : Nat} {h : AH} {a_t : Nat} {t_thrown t_taped t_p t_fault t_baseLow t_baseHigh t_newBaseLow t_newBaseHigh t_from t_knots t_lines t_chosen t_undos t_redos t_aimedMany t_fits t_fitOf t_sights t_systems t_own t_cross t_curveLong t_wallFirst v1 : Int} {r : Int} (ao : AO b0 n [a_t]) (ok_t_systems : inI t_systems) (ok_v1 : inI v1) (hs : m_X11_isSystem_0 t_systems v1 = some r) : G l E b0 M_X11_isSystem (fun _ => True) (ZM E b0 (some (vI r)) (ov [a_t] [.inr (11, fsX11 a_t t_thrown t_taped t_p t_fault t_baseLow t_baseHigh t_newBaseLow t_newBaseHigh t_from t_knots t_lines t_chosen t_undos t_redos t_aimedMany t_fits t_fitOf t_sights t_systems t_own t_cross t_curveLong t_wallFirst)] h) n (inZ r) 0 0) 0 0 n (ov [a_t] [.inr (11, fsX11 a_t t_thrown t_taped t_p t_fault t_baseLow t_baseHigh t_newBaseLow t_newBaseHigh t_from t_knots t_lines t_chosen t_undos t_redos t_aimedMany t_fits t_fitOf t_sights t_systems t_own t_cross t_curveLong t_wallFirst)] h) 0 [some (.ref a_t), some (vI v1)] [] := by
  rw [m_X11_isSystem_0] at hs
  refine g_iload_n e_X11_isSystem_0 rfl ?_
  refine g_iconst e_X11_isSystem_1 ?_
  refine g_aload_n e_X11_isSystem_2 rfl ?_
  refine g_get 0 61 ao rfl rfl fsX11_g61 fl_X11_398 e_X11_isSystem_3 ?_
  refine g_iconst e_X11_isSystem_6 ?_
  refine g_isub e_X11_isSystem_7 ?_
  obtain ⟨hc1, hs⟩ := chk_elim hs
  obtain ⟨y2, hy2, hs⟩ := bind_elim hs
  refine g_callSr [vI v1, vI 0, vI (t_systems - 1)] cs_X11_226 ⟨rfl, rfl, Nat.le_of_ble_eq_true rfl, Nat.le_of_ble_eq_true rfl⟩ (ct_X11_in ⟨List.nodup_nil, fun i a h => by simp at h⟩ (fun i a e h => by simp at h) ok_v1 (by decide : inI 0) hc1 hy2) e_X11_isSystem_8 rfl rfl (Nat.le_of_ble_eq_true rfl) ⟨Nat.le_refl _, Nat.le_refl _⟩ (fun Py2 => ?_)
  obtain rfl := Option.some.inj hs
  exact g_zret rfl Py2 Py2 e_X11_isSystem_11

noncomputable def m_X11_isSystem (t_systems : Int) (v1 : Int) : Option (Int) := m_X11_isSystem_0 t_systems v1

set_option maxRecDepth 10000 in
set_option maxHeartbeats 8000000 in
theorem ct_X11_isSystem {l : Launch} {E : EE} {b0 n : Nat} {h : AH} {a_t : Nat} {t_thrown t_taped t_p t_fault t_baseLow t_baseHigh t_newBaseLow t_newBaseHigh t_from t_knots t_lines t_chosen t_undos t_redos t_aimedMany t_fits t_fitOf t_sights t_systems t_own t_cross t_curveLong t_wallFirst : Int} {v1 : Int} (ao : AO b0 n [a_t]) (hf : FA h [a_t] [.inr (11, fsX11 a_t t_thrown t_taped t_p t_fault t_baseLow t_baseHigh t_newBaseLow t_newBaseHigh t_from t_knots t_lines t_chosen t_undos t_redos t_aimedMany t_fits t_fitOf t_sights t_systems t_own t_cross t_curveLong t_wallFirst)]) (ok_t_systems : inI t_systems) (ok_v1 : inI v1) {r : Int} (hm : m_X11_isSystem t_systems v1 = some r) : Ct l E b0 M_X11_isSystem 0 0 [.ref a_t, vI v1] h n (some (vI r)) h n (inZ r) := by
  rw [m_X11_isSystem] at hm
  have hg : G l E b0 M_X11_isSystem (fun _ => True) (ZM E b0 (some (vI r)) (ov [a_t] [.inr (11, fsX11 a_t t_thrown t_taped t_p t_fault t_baseLow t_baseHigh t_newBaseLow t_newBaseHigh t_from t_knots t_lines t_chosen t_undos t_redos t_aimedMany t_fits t_fitOf t_sights t_systems t_own t_cross t_curveLong t_wallFirst)] h) n (inZ r) 0 0) 0 0 n (ov [a_t] [.inr (11, fsX11 a_t t_thrown t_taped t_p t_fault t_baseLow t_baseHigh t_newBaseLow t_newBaseHigh t_from t_knots t_lines t_chosen t_undos t_redos t_aimedMany t_fits t_fitOf t_sights t_systems t_own t_cross t_curveLong t_wallFirst)] h) 0 [some (.ref a_t), some (vI v1)] [] := by
    have hs := hm
    exact g_X11_isSystem_0 ao ok_t_systems ok_v1 hs
  rw [FA_id hf] at hg
  exact Ct_of [some (.ref a_t), some (vI v1)] ⟨by decide +kernel, rfl⟩ rfl (Nat.le_of_ble_eq_true rfl) hg

/-! ===== X11_harder ===== -/
theorem e_X11_harder_0 : DC cX11_harder 0 (.iload_n 1) 1 1 := ⟨by decide +kernel, rfl⟩
theorem e_X11_harder_1 : DC cX11_harder 1 (.iconst 0) 1 2 := ⟨by decide +kernel, rfl⟩
theorem e_X11_harder_2 : DC cX11_harder 2 (.sipush 999) 3 5 := ⟨by decide +kernel, rfl⟩
theorem e_X11_harder_5 : DC cX11_harder 5 (.invokestatic 226) 3 8 := ⟨by decide +kernel, rfl⟩
theorem e_X11_harder_8 : DB cX11_harder 8 (.ifCond .eq 14) (14) 3 11 22 := ⟨by decide +kernel, rfl, rfl⟩
theorem e_X11_harder_11 : DC cX11_harder 11 (.iload_n 2) 1 12 := ⟨by decide +kernel, rfl⟩
theorem e_X11_harder_12 : DC cX11_harder 12 (.iconst 0) 1 13 := ⟨by decide +kernel, rfl⟩
theorem e_X11_harder_13 : DC cX11_harder 13 (.sipush 999) 3 16 := ⟨by decide +kernel, rfl⟩
theorem e_X11_harder_16 : DC cX11_harder 16 (.invokestatic 226) 3 19 := ⟨by decide +kernel, rfl⟩
theorem e_X11_harder_19 : DB cX11_harder 19 (.ifCond .ne 5) (5) 3 22 24 := ⟨by decide +kernel, rfl, rfl⟩
theorem e_X11_harder_22 : DC cX11_harder 22 (.iconst 0) 1 23 := ⟨by decide +kernel, rfl⟩
theorem e_X11_harder_23 : DC cX11_harder 23 (.ireturn) 1 24 := ⟨by decide +kernel, rfl⟩
theorem e_X11_harder_24 : DC cX11_harder 24 (.aload_n 0) 1 25 := ⟨by decide +kernel, rfl⟩
theorem e_X11_harder_25 : DC cX11_harder 25 (.iload_n 1) 1 26 := ⟨by decide +kernel, rfl⟩
theorem e_X11_harder_26 : DC cX11_harder 26 (.putfield 401) 3 29 := ⟨by decide +kernel, rfl⟩
theorem e_X11_harder_29 : DC cX11_harder 29 (.aload_n 0) 1 30 := ⟨by decide +kernel, rfl⟩
theorem e_X11_harder_30 : DC cX11_harder 30 (.iload_n 2) 1 31 := ⟨by decide +kernel, rfl⟩
theorem e_X11_harder_31 : DC cX11_harder 31 (.putfield 404) 3 34 := ⟨by decide +kernel, rfl⟩
theorem e_X11_harder_34 : DC cX11_harder 34 (.iconst 1) 1 35 := ⟨by decide +kernel, rfl⟩
theorem e_X11_harder_35 : DC cX11_harder 35 (.ireturn) 1 36 := ⟨by decide +kernel, rfl⟩
noncomputable def m_X11_harder_0 (t_own : Int) (t_cross : Int) (v1 : Int) (v2 : Int) : Option (Int × Int × Int) :=
  (m_X11_in v1 0 999).bind (fun y1 => if y1 = 0 then (some (0, t_own, t_cross)) else ((m_X11_in v2 0 999).bind (fun y2 => if y2 = 0 then (some (0, t_own, t_cross)) else (some (1, v1, v2)))))

set_option maxRecDepth 10000 in
set_option maxHeartbeats 8000000 in
theorem g_X11_harder_0 {l : Launch} {E : EE} {b0 n : Nat} {h : AH} {a_t : Nat} {t_thrown t_taped t_p t_fault t_baseLow t_baseHigh t_newBaseLow t_newBaseHigh t_from t_knots t_lines t_chosen t_undos t_redos t_aimedMany t_fits t_fitOf t_sights t_systems t_own t_cross t_curveLong t_wallFirst v1 v2 : Int} {r : Int × Int × Int} (ao : AO b0 n [a_t]) (ok_t_own : inI t_own) (ok_t_cross : inI t_cross) (ok_v1 : inI v1) (ok_v2 : inI v2) (hs : m_X11_harder_0 t_own t_cross v1 v2 = some r) : G l E b0 M_X11_harder (fun _ => True) (ZM E b0 (some (vI r.1)) (ov [a_t] [.inr (11, fsX11 a_t t_thrown t_taped t_p t_fault t_baseLow t_baseHigh t_newBaseLow t_newBaseHigh t_from t_knots t_lines t_chosen t_undos t_redos t_aimedMany t_fits t_fitOf t_sights t_systems r.2.1 r.2.2 t_curveLong t_wallFirst)] h) n (inZ r.1 ∧ inI r.2.1 ∧ inI r.2.2) 0 0) 0 0 n (ov [a_t] [.inr (11, fsX11 a_t t_thrown t_taped t_p t_fault t_baseLow t_baseHigh t_newBaseLow t_newBaseHigh t_from t_knots t_lines t_chosen t_undos t_redos t_aimedMany t_fits t_fitOf t_sights t_systems t_own t_cross t_curveLong t_wallFirst)] h) 0 [some (.ref a_t), some (vI v1), some (vI v2)] [] := by
  rw [m_X11_harder_0] at hs
  refine g_iload_n e_X11_harder_0 rfl ?_
  refine g_iconst e_X11_harder_1 ?_
  refine g_sipush e_X11_harder_2 sp_999 ?_
  obtain ⟨y1, hy1, hs⟩ := bind_elim hs
  refine g_callSr [vI v1, vI 0, vI 999] cs_X11_226 ⟨rfl, rfl, Nat.le_of_ble_eq_true rfl, Nat.le_of_ble_eq_true rfl⟩ (ct_X11_in ⟨List.nodup_nil, fun i a h => by simp at h⟩ (fun i a e h => by simp at h) ok_v1 (by decide : inI 0) (by decide : inI 999) hy1) e_X11_harder_5 rfl rfl (Nat.le_of_ble_eq_true rfl) ⟨Nat.le_refl _, Nat.le_refl _⟩ (fun Py1 => ?_)
  refine g_if_eq e_X11_harder_8 (inZ_I Py1) hs (fun c8 hs => ?_) (fun c8 hs => ?_)
  · refine g_iconst e_X11_harder_22 ?_
    obtain rfl := Option.some.inj hs
    exact g_zret rfl (by decide : inZ 0) ⟨(by decide : inZ 0), ok_t_own, ok_t_cross⟩ e_X11_harder_23
  · refine g_iload_n e_X11_harder_11 rfl ?_
    refine g_iconst e_X11_harder_12 ?_
    refine g_sipush e_X11_harder_13 sp_999 ?_
    obtain ⟨y2, hy2, hs⟩ := bind_elim hs
    refine g_callSr [vI v2, vI 0, vI 999] cs_X11_226 ⟨rfl, rfl, Nat.le_of_ble_eq_true rfl, Nat.le_of_ble_eq_true rfl⟩ (ct_X11_in ⟨List.nodup_nil, fun i a h => by simp at h⟩ (fun i a e h => by simp at h) ok_v2 (by decide : inI 0) (by decide : inI 999) hy2) e_X11_harder_16 rfl rfl (Nat.le_of_ble_eq_true rfl) ⟨Nat.le_refl _, Nat.le_refl _⟩ (fun Py2 => ?_)
    refine g_if_ne e_X11_harder_19 (inZ_I Py2) hs (fun c19 hs => ?_) (fun c19 hs => ?_)
    · refine g_iconst e_X11_harder_22 ?_
      obtain rfl := Option.some.inj hs
      exact g_zret rfl (by decide : inZ 0) ⟨(by decide : inZ 0), ok_t_own, ok_t_cross⟩ e_X11_harder_23
    · refine g_aload_n e_X11_harder_24 rfl ?_
      refine g_iload_n e_X11_harder_25 rfl ?_
      refine g_put 0 62 ao rfl rfl fsX11_k62 fsX11_s62 ls_0 fw_X11_401 (fun h => by cases h) ⟨rfl, rfl⟩ e_X11_harder_26 ?_
      refine g_aload_n e_X11_harder_29 rfl ?_
      refine g_iload_n e_X11_harder_30 rfl ?_
      refine g_put 0 63 ao rfl rfl fsX11_k63 fsX11_s63 ls_0 fw_X11_404 (fun h => by cases h) ⟨rfl, rfl⟩ e_X11_harder_31 ?_
      refine g_iconst e_X11_harder_34 ?_
      obtain rfl := Option.some.inj hs
      exact g_zret rfl (by decide : inZ 1) ⟨(by decide : inZ 1), ok_v1, ok_v2⟩ e_X11_harder_35

noncomputable def m_X11_harder (t_own : Int) (t_cross : Int) (v1 : Int) (v2 : Int) : Option (Int × Int × Int) := m_X11_harder_0 t_own t_cross v1 v2

set_option maxRecDepth 10000 in
set_option maxHeartbeats 8000000 in
theorem ct_X11_harder {l : Launch} {E : EE} {b0 n : Nat} {h : AH} {a_t : Nat} {t_thrown t_taped t_p t_fault t_baseLow t_baseHigh t_newBaseLow t_newBaseHigh t_from t_knots t_lines t_chosen t_undos t_redos t_aimedMany t_fits t_fitOf t_sights t_systems t_own t_cross t_curveLong t_wallFirst : Int} {v1 v2 : Int} (ao : AO b0 n [a_t]) (hf : FA h [a_t] [.inr (11, fsX11 a_t t_thrown t_taped t_p t_fault t_baseLow t_baseHigh t_newBaseLow t_newBaseHigh t_from t_knots t_lines t_chosen t_undos t_redos t_aimedMany t_fits t_fitOf t_sights t_systems t_own t_cross t_curveLong t_wallFirst)]) (ok_t_own : inI t_own) (ok_t_cross : inI t_cross) (ok_v1 : inI v1) (ok_v2 : inI v2) {r : Int × Int × Int} (hm : m_X11_harder t_own t_cross v1 v2 = some r) : Ct l E b0 M_X11_harder 0 0 [.ref a_t, vI v1, vI v2] h n (some (vI r.1)) (ov [a_t] [.inr (11, fsX11 a_t t_thrown t_taped t_p t_fault t_baseLow t_baseHigh t_newBaseLow t_newBaseHigh t_from t_knots t_lines t_chosen t_undos t_redos t_aimedMany t_fits t_fitOf t_sights t_systems r.2.1 r.2.2 t_curveLong t_wallFirst)] h) n (inZ r.1 ∧ inI r.2.1 ∧ inI r.2.2) := by
  rw [m_X11_harder] at hm
  have hg : G l E b0 M_X11_harder (fun _ => True) (ZM E b0 (some (vI r.1)) (ov [a_t] [.inr (11, fsX11 a_t t_thrown t_taped t_p t_fault t_baseLow t_baseHigh t_newBaseLow t_newBaseHigh t_from t_knots t_lines t_chosen t_undos t_redos t_aimedMany t_fits t_fitOf t_sights t_systems r.2.1 r.2.2 t_curveLong t_wallFirst)] h) n (inZ r.1 ∧ inI r.2.1 ∧ inI r.2.2) 0 0) 0 0 n (ov [a_t] [.inr (11, fsX11 a_t t_thrown t_taped t_p t_fault t_baseLow t_baseHigh t_newBaseLow t_newBaseHigh t_from t_knots t_lines t_chosen t_undos t_redos t_aimedMany t_fits t_fitOf t_sights t_systems t_own t_cross t_curveLong t_wallFirst)] h) 0 [some (.ref a_t), some (vI v1), some (vI v2)] [] := by
    have hs := hm
    exact g_X11_harder_0 ao ok_t_own ok_t_cross ok_v1 ok_v2 hs
  rw [FA_id hf] at hg
  exact Ct_of [some (.ref a_t), some (vI v1), some (vI v2)] ⟨by decide +kernel, rfl⟩ rfl (Nat.le_of_ble_eq_true rfl) hg

/-! ===== X11_fill ===== -/
theorem e_X11_fill_0 : DC cX11_fill 0 (.aload_n 0) 1 1 := ⟨by decide +kernel, rfl⟩
theorem e_X11_fill_1 : DC cX11_fill 1 (.iload_n 1) 1 2 := ⟨by decide +kernel, rfl⟩
theorem e_X11_fill_2 : DC cX11_fill 2 (.invokevirtual 407) 3 5 := ⟨by decide +kernel, rfl⟩
theorem e_X11_fill_5 : DB cX11_fill 5 (.ifCond .eq 37) (37) 3 8 42 := ⟨by decide +kernel, rfl, rfl⟩
theorem e_X11_fill_8 : DC cX11_fill 8 (.iload_n 2) 1 9 := ⟨by decide +kernel, rfl⟩
theorem e_X11_fill_9 : DC cX11_fill 9 (.iconst 0) 1 10 := ⟨by decide +kernel, rfl⟩
theorem e_X11_fill_10 : DC cX11_fill 10 (.bipush 99) 2 12 := ⟨by decide +kernel, rfl⟩
theorem e_X11_fill_12 : DC cX11_fill 12 (.invokestatic 226) 3 15 := ⟨by decide +kernel, rfl⟩
theorem e_X11_fill_15 : DB cX11_fill 15 (.ifCond .eq 27) (27) 3 18 42 := ⟨by decide +kernel, rfl, rfl⟩
theorem e_X11_fill_18 : DC cX11_fill 18 (.iload_n 3) 1 19 := ⟨by decide +kernel, rfl⟩
theorem e_X11_fill_19 : DC cX11_fill 19 (.iconst 1) 1 20 := ⟨by decide +kernel, rfl⟩
theorem e_X11_fill_20 : DB cX11_fill 20 (.if_icmp .eq 8) (8) 3 23 28 := ⟨by decide +kernel, rfl, rfl⟩
theorem e_X11_fill_23 : DC cX11_fill 23 (.iload_n 3) 1 24 := ⟨by decide +kernel, rfl⟩
theorem e_X11_fill_24 : DC cX11_fill 24 (.iconst (-1)) 1 25 := ⟨by decide +kernel, rfl⟩
theorem e_X11_fill_25 : DB cX11_fill 25 (.if_icmp .ne 17) (17) 3 28 42 := ⟨by decide +kernel, rfl, rfl⟩
theorem e_X11_fill_28 : DC cX11_fill 28 (.aload_n 0) 1 29 := ⟨by decide +kernel, rfl⟩
theorem e_X11_fill_29 : DC cX11_fill 29 (.getfield 142) 3 32 := ⟨by decide +kernel, rfl⟩
theorem e_X11_fill_32 : DC cX11_fill 32 (.bipush 100) 2 34 := ⟨by decide +kernel, rfl⟩
theorem e_X11_fill_34 : DC cX11_fill 34 (.iload_n 1) 1 35 := ⟨by decide +kernel, rfl⟩
theorem e_X11_fill_35 : DC cX11_fill 35 (.imul) 1 36 := ⟨by decide +kernel, rfl⟩
theorem e_X11_fill_36 : DC cX11_fill 36 (.iload_n 2) 1 37 := ⟨by decide +kernel, rfl⟩
theorem e_X11_fill_37 : DC cX11_fill 37 (.iadd) 1 38 := ⟨by decide +kernel, rfl⟩
theorem e_X11_fill_38 : DC cX11_fill 38 (.iaload) 1 39 := ⟨by decide +kernel, rfl⟩
theorem e_X11_fill_39 : DB cX11_fill 39 (.ifCond .eq 5) (5) 3 42 44 := ⟨by decide +kernel, rfl, rfl⟩
theorem e_X11_fill_42 : DC cX11_fill 42 (.iconst 0) 1 43 := ⟨by decide +kernel, rfl⟩
theorem e_X11_fill_43 : DC cX11_fill 43 (.ireturn) 1 44 := ⟨by decide +kernel, rfl⟩
theorem e_X11_fill_44 : DC cX11_fill 44 (.aload_n 0) 1 45 := ⟨by decide +kernel, rfl⟩
theorem e_X11_fill_45 : DC cX11_fill 45 (.aload_n 0) 1 46 := ⟨by decide +kernel, rfl⟩
theorem e_X11_fill_46 : DC cX11_fill 46 (.getfield 142) 3 49 := ⟨by decide +kernel, rfl⟩
theorem e_X11_fill_49 : DC cX11_fill 49 (.bipush 100) 2 51 := ⟨by decide +kernel, rfl⟩
theorem e_X11_fill_51 : DC cX11_fill 51 (.iload_n 1) 1 52 := ⟨by decide +kernel, rfl⟩
theorem e_X11_fill_52 : DC cX11_fill 52 (.imul) 1 53 := ⟨by decide +kernel, rfl⟩
theorem e_X11_fill_53 : DC cX11_fill 53 (.aload_n 0) 1 54 := ⟨by decide +kernel, rfl⟩
theorem e_X11_fill_54 : DC cX11_fill 54 (.getfield 151) 3 57 := ⟨by decide +kernel, rfl⟩
theorem e_X11_fill_57 : DC cX11_fill 57 (.bipush 6) 2 59 := ⟨by decide +kernel, rfl⟩
theorem e_X11_fill_59 : DC cX11_fill 59 (.iload_n 1) 1 60 := ⟨by decide +kernel, rfl⟩
theorem e_X11_fill_60 : DC cX11_fill 60 (.imul) 1 61 := ⟨by decide +kernel, rfl⟩
theorem e_X11_fill_61 : DC cX11_fill 61 (.invokevirtual 346) 3 64 := ⟨by decide +kernel, rfl⟩
theorem e_X11_fill_64 : DC cX11_fill 64 (.aload_n 0) 1 65 := ⟨by decide +kernel, rfl⟩
theorem e_X11_fill_65 : DC cX11_fill 65 (.invokevirtual 337) 3 68 := ⟨by decide +kernel, rfl⟩
theorem e_X11_fill_68 : DC cX11_fill 68 (.bipush 30) 2 70 := ⟨by decide +kernel, rfl⟩
theorem e_X11_fill_70 : DB cX11_fill 70 (.if_icmp .ne 5) (5) 3 73 75 := ⟨by decide +kernel, rfl, rfl⟩
theorem e_X11_fill_73 : DC cX11_fill 73 (.iconst 0) 1 74 := ⟨by decide +kernel, rfl⟩
theorem e_X11_fill_74 : DC cX11_fill 74 (.ireturn) 1 75 := ⟨by decide +kernel, rfl⟩
theorem e_X11_fill_75 : DC cX11_fill 75 (.aload_n 0) 1 76 := ⟨by decide +kernel, rfl⟩
theorem e_X11_fill_76 : DC cX11_fill 76 (.getfield 142) 3 79 := ⟨by decide +kernel, rfl⟩
theorem e_X11_fill_79 : DC cX11_fill 79 (.bipush 100) 2 81 := ⟨by decide +kernel, rfl⟩
theorem e_X11_fill_81 : DC cX11_fill 81 (.iload_n 1) 1 82 := ⟨by decide +kernel, rfl⟩
theorem e_X11_fill_82 : DC cX11_fill 82 (.imul) 1 83 := ⟨by decide +kernel, rfl⟩
theorem e_X11_fill_83 : DC cX11_fill 83 (.iload_n 2) 1 84 := ⟨by decide +kernel, rfl⟩
theorem e_X11_fill_84 : DC cX11_fill 84 (.iadd) 1 85 := ⟨by decide +kernel, rfl⟩
theorem e_X11_fill_85 : DC cX11_fill 85 (.iload_n 3) 1 86 := ⟨by decide +kernel, rfl⟩
theorem e_X11_fill_86 : DC cX11_fill 86 (.iastore) 1 87 := ⟨by decide +kernel, rfl⟩
theorem e_X11_fill_87 : DC cX11_fill 87 (.iconst 1) 1 88 := ⟨by decide +kernel, rfl⟩
theorem e_X11_fill_88 : DC cX11_fill 88 (.ireturn) 1 89 := ⟨by decide +kernel, rfl⟩
noncomputable def m_X11_fill_28 (t_cur : Nat → Int) (t_curSum : Nat → Int) (t_grain : Nat → Int) (t_grainSum : Nat → Int) (v1 : Int) (v2 : Int) (v3 : Int) : Option (Int × (Nat → Int) × (Nat → Int) × (Nat → Int)) :=
  chk (inB ((100 * v1) + v2) 800) (if (t_grain (Int.toNat ((100 * v1) + v2))) = 0 then (chk (inI (100 * v1)) (chk (inI (6 * v1)) ((m_X11_takes 800 48 t_cur t_curSum t_grain t_grainSum (100 * v1) (6 * v1)).bind (fun y6 => (m_X11_flaws y6.1).bind (fun y7 => if y7 = 30 then (some (0, y6.1, y6.2, t_grain)) else (chk (inB ((100 * v1) + v2) 800) (some (1, y6.1, y6.2, up t_grain (Int.toNat ((100 * v1) + v2)) v3)))))))) else (some (0, t_cur, t_curSum, t_grain)))

set_option maxRecDepth 10000 in
set_option maxHeartbeats 8000000 in
theorem g_X11_fill_28 {l : Launch} {E : EE} {b0 n : Nat} {h : AH} {a_t : Nat} {t_thrown t_taped t_p t_fault t_baseLow t_baseHigh t_newBaseLow t_newBaseHigh t_from t_knots t_lines t_chosen t_undos t_redos t_aimedMany t_fits t_fitOf t_sights t_systems t_own t_cross t_curveLong t_wallFirst v1 v2 v3 : Int} {t_cur t_curSum t_grain t_grainSum : Nat → Int} {r : Int × (Nat → Int) × (Nat → Int) × (Nat → Int)} (ao : AO b0 n [a_t, (a_t + 24), (a_t + 28), (a_t + 44), (a_t + 47)]) (ok_t_systems : inI t_systems) (ok_t_cur : okA t_cur) (ok_t_curSum : okJ t_curSum) (ok_t_grain : okA t_grain) (ok_t_grainSum : okJ t_grainSum) (ok_v1 : inI v1) (ok_v2 : inI v2) (ok_v3 : inI v3) (hs : m_X11_fill_28 t_cur t_curSum t_grain t_grainSum v1 v2 v3 = some r) : G l E b0 M_X11_fill (fun _ => True) (ZM E b0 (some (vI r.1)) (ov [a_t, (a_t + 24), (a_t + 28), (a_t + 44), (a_t + 47)] [.inr (11, fsX11 a_t t_thrown t_taped t_p t_fault t_baseLow t_baseHigh t_newBaseLow t_newBaseHigh t_from t_knots t_lines t_chosen t_undos t_redos t_aimedMany t_fits t_fitOf t_sights t_systems t_own t_cross t_curveLong t_wallFirst), IA E 100 r.2.1, JA E 6 r.2.2.1, IA E 800 r.2.2.2, JA E 48 t_grainSum] h) n (inZ r.1 ∧ okA r.2.1 ∧ okJ r.2.2.1 ∧ okA r.2.2.2) 0 0) 0 0 n (ov [a_t, (a_t + 24), (a_t + 28), (a_t + 44), (a_t + 47)] [.inr (11, fsX11 a_t t_thrown t_taped t_p t_fault t_baseLow t_baseHigh t_newBaseLow t_newBaseHigh t_from t_knots t_lines t_chosen t_undos t_redos t_aimedMany t_fits t_fitOf t_sights t_systems t_own t_cross t_curveLong t_wallFirst), IA E 100 t_cur, JA E 6 t_curSum, IA E 800 t_grain, JA E 48 t_grainSum] h) 28 [some (.ref a_t), some (vI v1), some (vI v2), some (vI v3)] [] := by
  rw [m_X11_fill_28] at hs
  refine g_aload_n e_X11_fill_28 rfl ?_
  refine g_get 0 64 ao rfl rfl fsX11_g64 fl_X11_142 e_X11_fill_29 ?_
  refine g_bipush e_X11_fill_32 bp_100 ?_
  refine g_iload_n e_X11_fill_34 rfl ?_
  refine g_imul e_X11_fill_35 ?_
  refine g_iload_n e_X11_fill_36 rfl ?_
  refine g_iadd e_X11_fill_37 ?_
  refine g_iald 3 ao rfl rfl (Nat.le_of_ble_eq_true rfl) e_X11_fill_38 hs (fun hi3 hs => ?_)
  refine g_if_eq e_X11_fill_39 (ok_t_grain _) hs (fun c39 hs => ?_) (fun c39 hs => ?_)
  · refine g_aload_n e_X11_fill_44 rfl ?_
    refine g_aload_n e_X11_fill_45 rfl ?_
    refine g_get 0 64 ao rfl rfl fsX11_g64 fl_X11_142 e_X11_fill_46 ?_
    refine g_bipush e_X11_fill_49 bp_100 ?_
    refine g_iload_n e_X11_fill_51 rfl ?_
    refine g_imul e_X11_fill_52 ?_
    refine g_aload_n e_X11_fill_53 rfl ?_
    refine g_get 0 67 ao rfl rfl fsX11_g67 fl_X11_151 e_X11_fill_54 ?_
    refine g_bipush e_X11_fill_57 bp_6 ?_
    refine g_iload_n e_X11_fill_59 rfl ?_
    refine g_imul e_X11_fill_60 ?_
    obtain ⟨hc4, hs⟩ := chk_elim hs
    obtain ⟨hc5, hs⟩ := chk_elim hs
    obtain ⟨y6, hy6, hs⟩ := bind_elim hs
    refine g_callVv [.ref (a_t + 44), vI (100 * v1), .ref (a_t + 47), vI (6 * v1)] cv_X11_346 ⟨rfl, rfl, Nat.le_of_ble_eq_true rfl, Nat.le_of_ble_eq_true rfl⟩ (Ct_heap (ct_X11_takes (a_t := a_t) (a_p1 := (a_t + 44)) (a_p3 := (a_t + 47)) (AO_call [0, 1, 2, 3, 4] ao (by decide) rfl) (by omega) (by omega) (FA_call [0, 1, 2, 3, 4] ao.1 rfl rfl) ok_t_cur ok_t_curSum ok_t_grain ok_t_grainSum hc4 hc5 hy6) (ov_call (esn := [.inr (11, fsX11 a_t t_thrown t_taped t_p t_fault t_baseLow t_baseHigh t_newBaseLow t_newBaseHigh t_from t_knots t_lines t_chosen t_undos t_redos t_aimedMany t_fits t_fitOf t_sights t_systems t_own t_cross t_curveLong t_wallFirst), IA E 100 y6.1, JA E 6 y6.2, IA E 800 t_grain, JA E 48 t_grainSum]) [0, 1, 2, 3, 4] ao.1 rfl rfl rfl rfl)) e_X11_fill_61 (ao.2 0 _ rfl) (ov_get 0 ao.1 rfl rfl) rfl rfl rfl (Nat.le_of_ble_eq_true rfl) ⟨Nat.le_refl _, Nat.le_refl _⟩ (fun Py6 => ?_)
    refine g_aload_n e_X11_fill_64 rfl ?_
    obtain ⟨y7, hy7, hs⟩ := bind_elim hs
    refine g_callVr [] cv_X11_337 ⟨rfl, rfl, Nat.le_of_ble_eq_true rfl, Nat.le_of_ble_eq_true rfl⟩ (ct_X11_flaws (a_t := a_t) (AO_call [0, 1] ao (by decide) rfl) (FA_call [0, 1] ao.1 rfl rfl) Py6.1 hy7) e_X11_fill_65 (ao.2 0 _ rfl) (ov_get 0 ao.1 rfl rfl) rfl rfl rfl (Nat.le_of_ble_eq_true rfl) ⟨Nat.le_refl _, Nat.le_refl _⟩ (fun Py7 => ?_)
    refine g_bipush e_X11_fill_68 bp_30 ?_
    refine g_icmp_ne e_X11_fill_70 Py7 (by decide : inI 30) hs (fun c70 hs => ?_) (fun c70 hs => ?_)
    · refine g_iconst e_X11_fill_73 ?_
      obtain rfl := Option.some.inj hs
      exact g_zret rfl (by decide : inZ 0) ⟨(by decide : inZ 0), Py6.1, Py6.2, ok_t_grain⟩ e_X11_fill_74
    · refine g_aload_n e_X11_fill_75 rfl ?_
      refine g_get 0 64 ao rfl rfl fsX11_g64 fl_X11_142 e_X11_fill_76 ?_
      refine g_bipush e_X11_fill_79 bp_100 ?_
      refine g_iload_n e_X11_fill_81 rfl ?_
      refine g_imul e_X11_fill_82 ?_
      refine g_iload_n e_X11_fill_83 rfl ?_
      refine g_iadd e_X11_fill_84 ?_
      refine g_iload_n e_X11_fill_85 rfl ?_
      refine g_iast 3 ao rfl rfl ls_3 (Nat.le_of_ble_eq_true rfl) e_X11_fill_86 hs (fun hi8 hs => ?_)
      refine g_iconst e_X11_fill_87 ?_
      obtain rfl := Option.some.inj hs
      exact g_zret rfl (by decide : inZ 1) ⟨(by decide : inZ 1), Py6.1, Py6.2, (okA_up ok_t_grain ok_v3)⟩ e_X11_fill_88
  · refine g_iconst e_X11_fill_42 ?_
    obtain rfl := Option.some.inj hs
    exact g_zret rfl (by decide : inZ 0) ⟨(by decide : inZ 0), ok_t_cur, ok_t_curSum, ok_t_grain⟩ e_X11_fill_43

noncomputable def m_X11_fill_0 (t_systems : Int) (t_cur : Nat → Int) (t_curSum : Nat → Int) (t_grain : Nat → Int) (t_grainSum : Nat → Int) (v1 : Int) (v2 : Int) (v3 : Int) : Option (Int × (Nat → Int) × (Nat → Int) × (Nat → Int)) :=
  (m_X11_isSystem t_systems v1).bind (fun y1 => if y1 = 0 then (some (0, t_cur, t_curSum, t_grain)) else ((m_X11_in v2 0 99).bind (fun y2 => if y2 = 0 then (some (0, t_cur, t_curSum, t_grain)) else (if v3 = 1 then (m_X11_fill_28 t_cur t_curSum t_grain t_grainSum v1 v2 v3) else (if v3 = (-1) then (m_X11_fill_28 t_cur t_curSum t_grain t_grainSum v1 v2 v3) else (some (0, t_cur, t_curSum, t_grain)))))))

set_option maxRecDepth 10000 in
set_option maxHeartbeats 8000000 in
theorem g_X11_fill_0 {l : Launch} {E : EE} {b0 n : Nat} {h : AH} {a_t : Nat} {t_thrown t_taped t_p t_fault t_baseLow t_baseHigh t_newBaseLow t_newBaseHigh t_from t_knots t_lines t_chosen t_undos t_redos t_aimedMany t_fits t_fitOf t_sights t_systems t_own t_cross t_curveLong t_wallFirst v1 v2 v3 : Int} {t_cur t_curSum t_grain t_grainSum : Nat → Int} {r : Int × (Nat → Int) × (Nat → Int) × (Nat → Int)} (ao : AO b0 n [a_t, (a_t + 24), (a_t + 28), (a_t + 44), (a_t + 47)]) (ok_t_systems : inI t_systems) (ok_t_cur : okA t_cur) (ok_t_curSum : okJ t_curSum) (ok_t_grain : okA t_grain) (ok_t_grainSum : okJ t_grainSum) (ok_v1 : inI v1) (ok_v2 : inI v2) (ok_v3 : inI v3) (hs : m_X11_fill_0 t_systems t_cur t_curSum t_grain t_grainSum v1 v2 v3 = some r) : G l E b0 M_X11_fill (fun _ => True) (ZM E b0 (some (vI r.1)) (ov [a_t, (a_t + 24), (a_t + 28), (a_t + 44), (a_t + 47)] [.inr (11, fsX11 a_t t_thrown t_taped t_p t_fault t_baseLow t_baseHigh t_newBaseLow t_newBaseHigh t_from t_knots t_lines t_chosen t_undos t_redos t_aimedMany t_fits t_fitOf t_sights t_systems t_own t_cross t_curveLong t_wallFirst), IA E 100 r.2.1, JA E 6 r.2.2.1, IA E 800 r.2.2.2, JA E 48 t_grainSum] h) n (inZ r.1 ∧ okA r.2.1 ∧ okJ r.2.2.1 ∧ okA r.2.2.2) 0 0) 0 0 n (ov [a_t, (a_t + 24), (a_t + 28), (a_t + 44), (a_t + 47)] [.inr (11, fsX11 a_t t_thrown t_taped t_p t_fault t_baseLow t_baseHigh t_newBaseLow t_newBaseHigh t_from t_knots t_lines t_chosen t_undos t_redos t_aimedMany t_fits t_fitOf t_sights t_systems t_own t_cross t_curveLong t_wallFirst), IA E 100 t_cur, JA E 6 t_curSum, IA E 800 t_grain, JA E 48 t_grainSum] h) 0 [some (.ref a_t), some (vI v1), some (vI v2), some (vI v3)] [] := by
  rw [m_X11_fill_0] at hs
  refine g_aload_n e_X11_fill_0 rfl ?_
  refine g_iload_n e_X11_fill_1 rfl ?_
  obtain ⟨y1, hy1, hs⟩ := bind_elim hs
  refine g_callVr [vI v1] cv_X11_407 ⟨rfl, rfl, Nat.le_of_ble_eq_true rfl, Nat.le_of_ble_eq_true rfl⟩ (ct_X11_isSystem (a_t := a_t) (AO_call [0] ao (by decide) rfl) (FA_call [0] ao.1 rfl rfl) ok_t_systems ok_v1 hy1) e_X11_fill_2 (ao.2 0 _ rfl) (ov_get 0 ao.1 rfl rfl) rfl rfl rfl (Nat.le_of_ble_eq_true rfl) ⟨Nat.le_refl _, Nat.le_refl _⟩ (fun Py1 => ?_)
  refine g_if_eq e_X11_fill_5 (inZ_I Py1) hs (fun c5 hs => ?_) (fun c5 hs => ?_)
  · refine g_iconst e_X11_fill_42 ?_
    obtain rfl := Option.some.inj hs
    exact g_zret rfl (by decide : inZ 0) ⟨(by decide : inZ 0), ok_t_cur, ok_t_curSum, ok_t_grain⟩ e_X11_fill_43
  · refine g_iload_n e_X11_fill_8 rfl ?_
    refine g_iconst e_X11_fill_9 ?_
    refine g_bipush e_X11_fill_10 bp_99 ?_
    obtain ⟨y2, hy2, hs⟩ := bind_elim hs
    refine g_callSr [vI v2, vI 0, vI 99] cs_X11_226 ⟨rfl, rfl, Nat.le_of_ble_eq_true rfl, Nat.le_of_ble_eq_true rfl⟩ (ct_X11_in ⟨List.nodup_nil, fun i a h => by simp at h⟩ (fun i a e h => by simp at h) ok_v2 (by decide : inI 0) (by decide : inI 99) hy2) e_X11_fill_12 rfl rfl (Nat.le_of_ble_eq_true rfl) ⟨Nat.le_refl _, Nat.le_refl _⟩ (fun Py2 => ?_)
    refine g_if_eq e_X11_fill_15 (inZ_I Py2) hs (fun c15 hs => ?_) (fun c15 hs => ?_)
    · refine g_iconst e_X11_fill_42 ?_
      obtain rfl := Option.some.inj hs
      exact g_zret rfl (by decide : inZ 0) ⟨(by decide : inZ 0), ok_t_cur, ok_t_curSum, ok_t_grain⟩ e_X11_fill_43
    · refine g_iload_n e_X11_fill_18 rfl ?_
      refine g_iconst e_X11_fill_19 ?_
      refine g_icmp_eq e_X11_fill_20 ok_v3 (by decide : inI 1) hs (fun c20 hs => ?_) (fun c20 hs => ?_)
      · exact g_X11_fill_28 ao ok_t_systems ok_t_cur ok_t_curSum ok_t_grain ok_t_grainSum ok_v1 ok_v2 ok_v3 hs
      · refine g_iload_n e_X11_fill_23 rfl ?_
        refine g_iconst e_X11_fill_24 ?_
        refine g_icmp_ne e_X11_fill_25 ok_v3 (by decide : inI (-1)) hs (fun c25 hs => ?_) (fun c25 hs => ?_)
        · exact g_X11_fill_28 ao ok_t_systems ok_t_cur ok_t_curSum ok_t_grain ok_t_grainSum ok_v1 ok_v2 ok_v3 hs
        · refine g_iconst e_X11_fill_42 ?_
          obtain rfl := Option.some.inj hs
          exact g_zret rfl (by decide : inZ 0) ⟨(by decide : inZ 0), ok_t_cur, ok_t_curSum, ok_t_grain⟩ e_X11_fill_43

noncomputable def m_X11_fill (t_systems : Int) (t_cur : Nat → Int) (t_curSum : Nat → Int) (t_grain : Nat → Int) (t_grainSum : Nat → Int) (v1 : Int) (v2 : Int) (v3 : Int) : Option (Int × (Nat → Int) × (Nat → Int) × (Nat → Int)) := m_X11_fill_0 t_systems t_cur t_curSum t_grain t_grainSum v1 v2 v3

set_option maxRecDepth 10000 in
set_option maxHeartbeats 8000000 in
theorem ct_X11_fill {l : Launch} {E : EE} {b0 n : Nat} {h : AH} {a_t : Nat} {t_thrown t_taped t_p t_fault t_baseLow t_baseHigh t_newBaseLow t_newBaseHigh t_from t_knots t_lines t_chosen t_undos t_redos t_aimedMany t_fits t_fitOf t_sights t_systems t_own t_cross t_curveLong t_wallFirst : Int} {t_cur t_curSum t_grain t_grainSum : Nat → Int} {v1 v2 v3 : Int} (ao : AO b0 n [a_t, (a_t + 24), (a_t + 28), (a_t + 44), (a_t + 47)]) (hf : FA h [a_t, (a_t + 24), (a_t + 28), (a_t + 44), (a_t + 47)] [.inr (11, fsX11 a_t t_thrown t_taped t_p t_fault t_baseLow t_baseHigh t_newBaseLow t_newBaseHigh t_from t_knots t_lines t_chosen t_undos t_redos t_aimedMany t_fits t_fitOf t_sights t_systems t_own t_cross t_curveLong t_wallFirst), IA E 100 t_cur, JA E 6 t_curSum, IA E 800 t_grain, JA E 48 t_grainSum]) (ok_t_systems : inI t_systems) (ok_t_cur : okA t_cur) (ok_t_curSum : okJ t_curSum) (ok_t_grain : okA t_grain) (ok_t_grainSum : okJ t_grainSum) (ok_v1 : inI v1) (ok_v2 : inI v2) (ok_v3 : inI v3) {r : Int × (Nat → Int) × (Nat → Int) × (Nat → Int)} (hm : m_X11_fill t_systems t_cur t_curSum t_grain t_grainSum v1 v2 v3 = some r) : Ct l E b0 M_X11_fill 0 0 [.ref a_t, vI v1, vI v2, vI v3] h n (some (vI r.1)) (ov [a_t, (a_t + 24), (a_t + 28), (a_t + 44), (a_t + 47)] [.inr (11, fsX11 a_t t_thrown t_taped t_p t_fault t_baseLow t_baseHigh t_newBaseLow t_newBaseHigh t_from t_knots t_lines t_chosen t_undos t_redos t_aimedMany t_fits t_fitOf t_sights t_systems t_own t_cross t_curveLong t_wallFirst), IA E 100 r.2.1, JA E 6 r.2.2.1, IA E 800 r.2.2.2, JA E 48 t_grainSum] h) n (inZ r.1 ∧ okA r.2.1 ∧ okJ r.2.2.1 ∧ okA r.2.2.2) := by
  rw [m_X11_fill] at hm
  have hg : G l E b0 M_X11_fill (fun _ => True) (ZM E b0 (some (vI r.1)) (ov [a_t, (a_t + 24), (a_t + 28), (a_t + 44), (a_t + 47)] [.inr (11, fsX11 a_t t_thrown t_taped t_p t_fault t_baseLow t_baseHigh t_newBaseLow t_newBaseHigh t_from t_knots t_lines t_chosen t_undos t_redos t_aimedMany t_fits t_fitOf t_sights t_systems t_own t_cross t_curveLong t_wallFirst), IA E 100 r.2.1, JA E 6 r.2.2.1, IA E 800 r.2.2.2, JA E 48 t_grainSum] h) n (inZ r.1 ∧ okA r.2.1 ∧ okJ r.2.2.1 ∧ okA r.2.2.2) 0 0) 0 0 n (ov [a_t, (a_t + 24), (a_t + 28), (a_t + 44), (a_t + 47)] [.inr (11, fsX11 a_t t_thrown t_taped t_p t_fault t_baseLow t_baseHigh t_newBaseLow t_newBaseHigh t_from t_knots t_lines t_chosen t_undos t_redos t_aimedMany t_fits t_fitOf t_sights t_systems t_own t_cross t_curveLong t_wallFirst), IA E 100 t_cur, JA E 6 t_curSum, IA E 800 t_grain, JA E 48 t_grainSum] h) 0 [some (.ref a_t), some (vI v1), some (vI v2), some (vI v3)] [] := by
    have hs := hm
    exact g_X11_fill_0 ao ok_t_systems ok_t_cur ok_t_curSum ok_t_grain ok_t_grainSum ok_v1 ok_v2 ok_v3 hs
  rw [FA_id hf] at hg
  exact Ct_of [some (.ref a_t), some (vI v1), some (vI v2), some (vI v3)] ⟨by decide +kernel, rfl⟩ rfl (Nat.le_of_ble_eq_true rfl) hg

/-! ===== X11_harderOf ===== -/
theorem e_X11_harderOf_0 : DC cX11_harderOf 0 (.lconst 0) 1 1 := ⟨by decide +kernel, rfl⟩
theorem e_X11_harderOf_1 : DC cX11_harderOf 1 (.lstore_n 2) 1 2 := ⟨by decide +kernel, rfl⟩
theorem e_X11_harderOf_2 : DC cX11_harderOf 2 (.iconst 0) 1 3 := ⟨by decide +kernel, rfl⟩
theorem e_X11_harderOf_3 : DC cX11_harderOf 3 (.istore 4) 2 5 := ⟨by decide +kernel, rfl⟩
theorem e_X11_harderOf_5 : DC cX11_harderOf 5 (.iload 4) 2 7 := ⟨by decide +kernel, rfl⟩
theorem e_X11_harderOf_7 : DC cX11_harderOf 7 (.aload_n 0) 1 8 := ⟨by decide +kernel, rfl⟩
theorem e_X11_harderOf_8 : DC cX11_harderOf 8 (.getfield 398) 3 11 := ⟨by decide +kernel, rfl⟩
theorem e_X11_harderOf_11 : DB cX11_harderOf 11 (.if_icmp .ge 34) (34) 3 14 45 := ⟨by decide +kernel, rfl, rfl⟩
theorem e_X11_harderOf_14 : DC cX11_harderOf 14 (.lload_n 2) 1 15 := ⟨by decide +kernel, rfl⟩
theorem e_X11_harderOf_15 : DC cX11_harderOf 15 (.iload 4) 2 17 := ⟨by decide +kernel, rfl⟩
theorem e_X11_harderOf_17 : DC cX11_harderOf 17 (.iload_n 1) 1 18 := ⟨by decide +kernel, rfl⟩
theorem e_X11_harderOf_18 : DB cX11_harderOf 18 (.if_icmp .ne 7) (7) 3 21 25 := ⟨by decide +kernel, rfl, rfl⟩
theorem e_X11_harderOf_21 : DC cX11_harderOf 21 (.lconst 0) 1 22 := ⟨by decide +kernel, rfl⟩
theorem e_X11_harderOf_22 : DB cX11_harderOf 22 (.goto 15) (15) 3 25 37 := ⟨by decide +kernel, rfl, rfl⟩
theorem e_X11_harderOf_25 : DC cX11_harderOf 25 (.aload_n 0) 1 26 := ⟨by decide +kernel, rfl⟩
theorem e_X11_harderOf_26 : DC cX11_harderOf 26 (.getfield 151) 3 29 := ⟨by decide +kernel, rfl⟩
theorem e_X11_harderOf_29 : DC cX11_harderOf 29 (.bipush 6) 2 31 := ⟨by decide +kernel, rfl⟩
theorem e_X11_harderOf_31 : DC cX11_harderOf 31 (.iload 4) 2 33 := ⟨by decide +kernel, rfl⟩
theorem e_X11_harderOf_33 : DC cX11_harderOf 33 (.imul) 1 34 := ⟨by decide +kernel, rfl⟩
theorem e_X11_harderOf_34 : DC cX11_harderOf 34 (.iconst 5) 1 35 := ⟨by decide +kernel, rfl⟩
theorem e_X11_harderOf_35 : DC cX11_harderOf 35 (.iadd) 1 36 := ⟨by decide +kernel, rfl⟩
theorem e_X11_harderOf_36 : DC cX11_harderOf 36 (.laload) 1 37 := ⟨by decide +kernel, rfl⟩
theorem e_X11_harderOf_37 : DC cX11_harderOf 37 (.ladd) 1 38 := ⟨by decide +kernel, rfl⟩
theorem e_X11_harderOf_38 : DC cX11_harderOf 38 (.lstore_n 2) 1 39 := ⟨by decide +kernel, rfl⟩
theorem e_X11_harderOf_39 : DC cX11_harderOf 39 (.iinc 4 1) 3 42 := ⟨by decide +kernel, rfl⟩
theorem e_X11_harderOf_42 : DB cX11_harderOf 42 (.goto (-37)) (-37) 3 45 5 := ⟨by decide +kernel, rfl, rfl⟩
theorem e_X11_harderOf_45 : DC cX11_harderOf 45 (.aload_n 0) 1 46 := ⟨by decide +kernel, rfl⟩
theorem e_X11_harderOf_46 : DC cX11_harderOf 46 (.getfield 401) 3 49 := ⟨by decide +kernel, rfl⟩
theorem e_X11_harderOf_49 : DC cX11_harderOf 49 (.i2l) 1 50 := ⟨by decide +kernel, rfl⟩
theorem e_X11_harderOf_50 : DC cX11_harderOf 50 (.aload_n 0) 1 51 := ⟨by decide +kernel, rfl⟩
theorem e_X11_harderOf_51 : DC cX11_harderOf 51 (.getfield 151) 3 54 := ⟨by decide +kernel, rfl⟩
theorem e_X11_harderOf_54 : DC cX11_harderOf 54 (.bipush 6) 2 56 := ⟨by decide +kernel, rfl⟩
theorem e_X11_harderOf_56 : DC cX11_harderOf 56 (.iload_n 1) 1 57 := ⟨by decide +kernel, rfl⟩
theorem e_X11_harderOf_57 : DC cX11_harderOf 57 (.imul) 1 58 := ⟨by decide +kernel, rfl⟩
theorem e_X11_harderOf_58 : DC cX11_harderOf 58 (.iconst 5) 1 59 := ⟨by decide +kernel, rfl⟩
theorem e_X11_harderOf_59 : DC cX11_harderOf 59 (.iadd) 1 60 := ⟨by decide +kernel, rfl⟩
theorem e_X11_harderOf_60 : DC cX11_harderOf 60 (.laload) 1 61 := ⟨by decide +kernel, rfl⟩
theorem e_X11_harderOf_61 : DC cX11_harderOf 61 (.lmul) 1 62 := ⟨by decide +kernel, rfl⟩
theorem e_X11_harderOf_62 : DC cX11_harderOf 62 (.aload_n 0) 1 63 := ⟨by decide +kernel, rfl⟩
theorem e_X11_harderOf_63 : DC cX11_harderOf 63 (.getfield 404) 3 66 := ⟨by decide +kernel, rfl⟩
theorem e_X11_harderOf_66 : DC cX11_harderOf 66 (.i2l) 1 67 := ⟨by decide +kernel, rfl⟩
theorem e_X11_harderOf_67 : DC cX11_harderOf 67 (.lload_n 2) 1 68 := ⟨by decide +kernel, rfl⟩
theorem e_X11_harderOf_68 : DC cX11_harderOf 68 (.lmul) 1 69 := ⟨by decide +kernel, rfl⟩
theorem e_X11_harderOf_69 : DC cX11_harderOf 69 (.ladd) 1 70 := ⟨by decide +kernel, rfl⟩
theorem e_X11_harderOf_70 : DC cX11_harderOf 70 (.ldc2_w 410) 3 73 := ⟨by decide +kernel, rfl⟩
theorem e_X11_harderOf_73 : DC cX11_harderOf 73 (.ldiv) 1 74 := ⟨by decide +kernel, rfl⟩
theorem e_X11_harderOf_74 : DC cX11_harderOf 74 (.l2i) 1 75 := ⟨by decide +kernel, rfl⟩
theorem e_X11_harderOf_75 : DC cX11_harderOf 75 (.ireturn) 1 76 := ⟨by decide +kernel, rfl⟩
noncomputable def m_X11_harderOf_37 (t_systems : Int) (t_grainSum : Nat → Int) (v1 : Int) (v4 : Int) (s0 : Int) (s1 : Int) (ag : Int → Int → Option (Int)) (k_45 : Int → Int → Option (Int)) : Option (Int) :=
  chk (inJ (s0 + s1)) (chk (inI (v4 + 1)) (ag (s0 + s1) (v4 + 1)))

set_option maxRecDepth 10000 in
set_option maxHeartbeats 8000000 in
theorem g_X11_harderOf_37 {l : Launch} {E : EE} {b0 n : Nat} {h : AH} {a_t : Nat} {t_thrown t_taped t_p t_fault t_baseLow t_baseHigh t_newBaseLow t_newBaseHigh t_from t_knots t_lines t_chosen t_undos t_redos t_aimedMany t_fits t_fitOf t_sights t_systems t_own t_cross t_curveLong t_wallFirst v1 v4 s0 s1 : Int} {t_grainSum : Nat → Int} {r : Int} {ag : Int → Int → Option (Int)} {k_45 : Int → Int → Option (Int)} (ao : AO b0 n [a_t, (a_t + 47)]) (ok_t_systems : inI t_systems) (ok_t_own : inI t_own) (ok_t_cross : inI t_cross) (ok_t_grainSum : okJ t_grainSum) (ok_v1 : inI v1) (ok_v4 : inI v4) (ok_s0 : inJ s0) (ok_s1 : inJ s1) (hag : ∀ (v2_ : Int) (v4_ : Int), inJ v2_ → inI v4_ → ag v2_ v4_ = some r → G l E b0 M_X11_harderOf (fun _ => True) (ZM E b0 (some (vI r)) (ov [a_t, (a_t + 47)] [.inr (11, fsX11 a_t t_thrown t_taped t_p t_fault t_baseLow t_baseHigh t_newBaseLow t_newBaseHigh t_from t_knots t_lines t_chosen t_undos t_redos t_aimedMany t_fits t_fitOf t_sights t_systems t_own t_cross t_curveLong t_wallFirst), JA E 48 t_grainSum] h) n (inI r) 0 0) 0 0 n (ov [a_t, (a_t + 47)] [.inr (11, fsX11 a_t t_thrown t_taped t_p t_fault t_baseLow t_baseHigh t_newBaseLow t_newBaseHigh t_from t_knots t_lines t_chosen t_undos t_redos t_aimedMany t_fits t_fitOf t_sights t_systems t_own t_cross t_curveLong t_wallFirst), JA E 48 t_grainSum] h) 5 [some (.ref a_t), some (vI v1), some (vJ v2_), none, some (vI v4_)] []) (hk_45 : ∀ (v2_ : Int) (v4_ : Int), inJ v2_ → inI v4_ → k_45 v2_ v4_ = some r → G l E b0 M_X11_harderOf (fun _ => True) (ZM E b0 (some (vI r)) (ov [a_t, (a_t + 47)] [.inr (11, fsX11 a_t t_thrown t_taped t_p t_fault t_baseLow t_baseHigh t_newBaseLow t_newBaseHigh t_from t_knots t_lines t_chosen t_undos t_redos t_aimedMany t_fits t_fitOf t_sights t_systems t_own t_cross t_curveLong t_wallFirst), JA E 48 t_grainSum] h) n (inI r) 0 0) 0 0 n (ov [a_t, (a_t + 47)] [.inr (11, fsX11 a_t t_thrown t_taped t_p t_fault t_baseLow t_baseHigh t_newBaseLow t_newBaseHigh t_from t_knots t_lines t_chosen t_undos t_redos t_aimedMany t_fits t_fitOf t_sights t_systems t_own t_cross t_curveLong t_wallFirst), JA E 48 t_grainSum] h) 45 [some (.ref a_t), some (vI v1), some (vJ v2_), none, none] []) (hs : m_X11_harderOf_37 t_systems t_grainSum v1 v4 s0 s1 ag k_45 = some r) : G l E b0 M_X11_harderOf (fun _ => True) (ZM E b0 (some (vI r)) (ov [a_t, (a_t + 47)] [.inr (11, fsX11 a_t t_thrown t_taped t_p t_fault t_baseLow t_baseHigh t_newBaseLow t_newBaseHigh t_from t_knots t_lines t_chosen t_undos t_redos t_aimedMany t_fits t_fitOf t_sights t_systems t_own t_cross t_curveLong t_wallFirst), JA E 48 t_grainSum] h) n (inI r) 0 0) 0 0 n (ov [a_t, (a_t + 47)] [.inr (11, fsX11 a_t t_thrown t_taped t_p t_fault t_baseLow t_baseHigh t_newBaseLow t_newBaseHigh t_from t_knots t_lines t_chosen t_undos t_redos t_aimedMany t_fits t_fitOf t_sights t_systems t_own t_cross t_curveLong t_wallFirst), JA E 48 t_grainSum] h) 37 [some (.ref a_t), some (vI v1), none, none, some (vI v4)] [vJ s1, vJ s0] := by
  rw [m_X11_harderOf_37] at hs
  refine g_ladd e_X11_harderOf_37 ?_
  refine g_lstore_n e_X11_harderOf_38 st2_2 rfl ?_
  refine g_iinc e_X11_harderOf_39 rfl st1_4 rfl ?_
  refine g_goto e_X11_harderOf_42 ?_
  obtain ⟨hc1, hs⟩ := chk_elim hs
  obtain ⟨hc2, hs⟩ := chk_elim hs
  exact hag _ _ hc1 hc2 hs

noncomputable def m_X11_harderOf_5 (t_systems : Int) (t_grainSum : Nat → Int) (v1 : Int) (k_45 : Int → Int → Option (Int)) : Nat → Int → Int → Option (Int)
  | 0, _, _ => none
  | F + 1, v2, v4 => if t_systems ≤ v4 then (k_45 v2 v4) else (if v4 = v1 then (m_X11_harderOf_37 t_systems t_grainSum v1 v4 v2 0 (m_X11_harderOf_5 t_systems t_grainSum v1 k_45 F) k_45) else (chk (inB ((6 * v4) + 5) 48) (m_X11_harderOf_37 t_systems t_grainSum v1 v4 v2 (t_grainSum (Int.toNat ((6 * v4) + 5))) (m_X11_harderOf_5 t_systems t_grainSum v1 k_45 F) k_45)))

set_option maxRecDepth 10000 in
set_option maxHeartbeats 8000000 in
theorem g_X11_harderOf_5 {l : Launch} {E : EE} {b0 n : Nat} {h : AH} {a_t : Nat} {t_thrown t_taped t_p t_fault t_baseLow t_baseHigh t_newBaseLow t_newBaseHigh t_from t_knots t_lines t_chosen t_undos t_redos t_aimedMany t_fits t_fitOf t_sights t_systems t_own t_cross t_curveLong t_wallFirst v1 : Int} {t_grainSum : Nat → Int} {r : Int} {k_45 : Int → Int → Option (Int)} (ao : AO b0 n [a_t, (a_t + 47)]) (ok_t_systems : inI t_systems) (ok_t_own : inI t_own) (ok_t_cross : inI t_cross) (ok_t_grainSum : okJ t_grainSum) (ok_v1 : inI v1) (hk_45 : ∀ (v2_ : Int) (v4_ : Int), inJ v2_ → inI v4_ → k_45 v2_ v4_ = some r → G l E b0 M_X11_harderOf (fun _ => True) (ZM E b0 (some (vI r)) (ov [a_t, (a_t + 47)] [.inr (11, fsX11 a_t t_thrown t_taped t_p t_fault t_baseLow t_baseHigh t_newBaseLow t_newBaseHigh t_from t_knots t_lines t_chosen t_undos t_redos t_aimedMany t_fits t_fitOf t_sights t_systems t_own t_cross t_curveLong t_wallFirst), JA E 48 t_grainSum] h) n (inI r) 0 0) 0 0 n (ov [a_t, (a_t + 47)] [.inr (11, fsX11 a_t t_thrown t_taped t_p t_fault t_baseLow t_baseHigh t_newBaseLow t_newBaseHigh t_from t_knots t_lines t_chosen t_undos t_redos t_aimedMany t_fits t_fitOf t_sights t_systems t_own t_cross t_curveLong t_wallFirst), JA E 48 t_grainSum] h) 45 [some (.ref a_t), some (vI v1), some (vJ v2_), none, none] []) :
    ∀ (F : Nat) (v2 : Int) (v4 : Int), inJ v2 → inI v4 → m_X11_harderOf_5 t_systems t_grainSum v1 k_45 F v2 v4 = some r → G l E b0 M_X11_harderOf (fun _ => True) (ZM E b0 (some (vI r)) (ov [a_t, (a_t + 47)] [.inr (11, fsX11 a_t t_thrown t_taped t_p t_fault t_baseLow t_baseHigh t_newBaseLow t_newBaseHigh t_from t_knots t_lines t_chosen t_undos t_redos t_aimedMany t_fits t_fitOf t_sights t_systems t_own t_cross t_curveLong t_wallFirst), JA E 48 t_grainSum] h) n (inI r) 0 0) 0 0 n (ov [a_t, (a_t + 47)] [.inr (11, fsX11 a_t t_thrown t_taped t_p t_fault t_baseLow t_baseHigh t_newBaseLow t_newBaseHigh t_from t_knots t_lines t_chosen t_undos t_redos t_aimedMany t_fits t_fitOf t_sights t_systems t_own t_cross t_curveLong t_wallFirst), JA E 48 t_grainSum] h) 5 [some (.ref a_t), some (vI v1), some (vJ v2), none, some (vI v4)] [] := by
  intro F
  induction F with
  | zero =>
    intro v2 v4 ok_v2 ok_v4 hs
    rw [m_X11_harderOf_5] at hs
    cases hs
  | succ F ih =>
    intro v2 v4 ok_v2 ok_v4 hs
    rw [m_X11_harderOf_5] at hs
    refine g_iload e_X11_harderOf_5 rfl ?_
    refine g_aload_n e_X11_harderOf_7 rfl ?_
    refine g_get 0 61 ao rfl rfl fsX11_g61 fl_X11_398 e_X11_harderOf_8 ?_
    refine g_icmp_ge e_X11_harderOf_11 ok_v4 ok_t_systems hs (fun c11 hs => ?_) (fun c11 hs => ?_)
    · exact g_mask [true, true, true, true, false] (hk_45 _ _ ok_v2 ok_v4 hs)
    · refine g_lload_n e_X11_harderOf_14 rfl ?_
      refine g_iload e_X11_harderOf_15 rfl ?_
      refine g_iload_n e_X11_harderOf_17 rfl ?_
      refine g_icmp_ne e_X11_harderOf_18 ok_v4 ok_v1 hs (fun c18 hs => ?_) (fun c18 hs => ?_)
      · refine g_lconst (a := 0) e_X11_harderOf_21 rfl ?_
        refine g_goto e_X11_harderOf_22 ?_
        exact g_mask [true, true, false, true, true] (g_X11_harderOf_37 ao ok_t_systems ok_t_own ok_t_cross ok_t_grainSum ok_v1 ok_v4 ok_v2 (by decide : inJ 0) ih hk_45 hs)
      · refine g_aload_n e_X11_harderOf_25 rfl ?_
        refine g_get 0 67 ao rfl rfl fsX11_g67 fl_X11_151 e_X11_harderOf_26 ?_
        refine g_bipush e_X11_harderOf_29 bp_6 ?_
        refine g_iload e_X11_harderOf_31 rfl ?_
        refine g_imul e_X11_harderOf_33 ?_
        refine g_iconst e_X11_harderOf_34 ?_
        refine g_iadd e_X11_harderOf_35 ?_
        refine g_lald 1 ao rfl rfl (Nat.le_of_ble_eq_true rfl) e_X11_harderOf_36 hs (fun hi3 hs => ?_)
        exact g_mask [true, true, false, true, true] (g_X11_harderOf_37 ao ok_t_systems ok_t_own ok_t_cross ok_t_grainSum ok_v1 ok_v4 ok_v2 (ok_t_grainSum _) ih hk_45 hs)

noncomputable def m_X11_harderOf_45 (t_own : Int) (t_cross : Int) (t_grainSum : Nat → Int) (v1 : Int) (v2 : Int) : Option (Int) :=
  chk (inB ((6 * v1) + 5) 48) (chk (inJ ((t_own * (t_grainSum (Int.toNat ((6 * v1) + 5)))) + (t_cross * v2))) (chk (100 ≠ 0) (chk (inI (Int.tdiv ((t_own * (t_grainSum (Int.toNat ((6 * v1) + 5)))) + (t_cross * v2)) 100)) (some (Int.tdiv ((t_own * (t_grainSum (Int.toNat ((6 * v1) + 5)))) + (t_cross * v2)) 100)))))

set_option maxRecDepth 10000 in
set_option maxHeartbeats 8000000 in
theorem g_X11_harderOf_45 {l : Launch} {E : EE} {b0 n : Nat} {h : AH} {a_t : Nat} {t_thrown t_taped t_p t_fault t_baseLow t_baseHigh t_newBaseLow t_newBaseHigh t_from t_knots t_lines t_chosen t_undos t_redos t_aimedMany t_fits t_fitOf t_sights t_systems t_own t_cross t_curveLong t_wallFirst v1 v2 : Int} {t_grainSum : Nat → Int} {r : Int} (ao : AO b0 n [a_t, (a_t + 47)]) (ok_t_systems : inI t_systems) (ok_t_own : inI t_own) (ok_t_cross : inI t_cross) (ok_t_grainSum : okJ t_grainSum) (ok_v1 : inI v1) (ok_v2 : inJ v2) (hs : m_X11_harderOf_45 t_own t_cross t_grainSum v1 v2 = some r) : G l E b0 M_X11_harderOf (fun _ => True) (ZM E b0 (some (vI r)) (ov [a_t, (a_t + 47)] [.inr (11, fsX11 a_t t_thrown t_taped t_p t_fault t_baseLow t_baseHigh t_newBaseLow t_newBaseHigh t_from t_knots t_lines t_chosen t_undos t_redos t_aimedMany t_fits t_fitOf t_sights t_systems t_own t_cross t_curveLong t_wallFirst), JA E 48 t_grainSum] h) n (inI r) 0 0) 0 0 n (ov [a_t, (a_t + 47)] [.inr (11, fsX11 a_t t_thrown t_taped t_p t_fault t_baseLow t_baseHigh t_newBaseLow t_newBaseHigh t_from t_knots t_lines t_chosen t_undos t_redos t_aimedMany t_fits t_fitOf t_sights t_systems t_own t_cross t_curveLong t_wallFirst), JA E 48 t_grainSum] h) 45 [some (.ref a_t), some (vI v1), some (vJ v2), none, none] [] := by
  rw [m_X11_harderOf_45] at hs
  refine g_aload_n e_X11_harderOf_45 rfl ?_
  refine g_get 0 62 ao rfl rfl fsX11_g62 fl_X11_401 e_X11_harderOf_46 ?_
  refine g_i2l e_X11_harderOf_49 ok_t_own ?_
  refine g_aload_n e_X11_harderOf_50 rfl ?_
  refine g_get 0 67 ao rfl rfl fsX11_g67 fl_X11_151 e_X11_harderOf_51 ?_
  refine g_bipush e_X11_harderOf_54 bp_6 ?_
  refine g_iload_n e_X11_harderOf_56 rfl ?_
  refine g_imul e_X11_harderOf_57 ?_
  refine g_iconst e_X11_harderOf_58 ?_
  refine g_iadd e_X11_harderOf_59 ?_
  refine g_lald 1 ao rfl rfl (Nat.le_of_ble_eq_true rfl) e_X11_harderOf_60 hs (fun hi4 hs => ?_)
  refine g_lmul e_X11_harderOf_61 ?_
  refine g_aload_n e_X11_harderOf_62 rfl ?_
  refine g_get 0 63 ao rfl rfl fsX11_g63 fl_X11_404 e_X11_harderOf_63 ?_
  refine g_i2l e_X11_harderOf_66 ok_t_cross ?_
  refine g_lload_n e_X11_harderOf_67 rfl ?_
  refine g_lmul e_X11_harderOf_68 ?_
  refine g_ladd e_X11_harderOf_69 ?_
  refine g_ldc2 (a := 100) e_X11_harderOf_70 k_X11_410 ?_
  obtain ⟨hc5, hs⟩ := chk_elim hs
  refine g_ldiv e_X11_harderOf_73 hc5 (by decide : inJ 100) hs (fun hs => ?_)
  refine g_l2i e_X11_harderOf_74 ?_
  obtain ⟨hc6, hs⟩ := chk_elim hs
  obtain rfl := Option.some.inj hs
  exact g_iret rfl hc6 e_X11_harderOf_75

noncomputable def m_X11_harderOf_0 (t_systems : Int) (t_own : Int) (t_cross : Int) (t_grainSum : Nat → Int) (v1 : Int) : Option (Int) :=
  m_X11_harderOf_5 t_systems t_grainSum v1 (fun v2' v4' => m_X11_harderOf_45 t_own t_cross t_grainSum v1 v2') FU 0 0

set_option maxRecDepth 10000 in
set_option maxHeartbeats 8000000 in
theorem g_X11_harderOf_0 {l : Launch} {E : EE} {b0 n : Nat} {h : AH} {a_t : Nat} {t_thrown t_taped t_p t_fault t_baseLow t_baseHigh t_newBaseLow t_newBaseHigh t_from t_knots t_lines t_chosen t_undos t_redos t_aimedMany t_fits t_fitOf t_sights t_systems t_own t_cross t_curveLong t_wallFirst v1 : Int} {t_grainSum : Nat → Int} {r : Int} (ao : AO b0 n [a_t, (a_t + 47)]) (ok_t_systems : inI t_systems) (ok_t_own : inI t_own) (ok_t_cross : inI t_cross) (ok_t_grainSum : okJ t_grainSum) (ok_v1 : inI v1) (hs : m_X11_harderOf_0 t_systems t_own t_cross t_grainSum v1 = some r) : G l E b0 M_X11_harderOf (fun _ => True) (ZM E b0 (some (vI r)) (ov [a_t, (a_t + 47)] [.inr (11, fsX11 a_t t_thrown t_taped t_p t_fault t_baseLow t_baseHigh t_newBaseLow t_newBaseHigh t_from t_knots t_lines t_chosen t_undos t_redos t_aimedMany t_fits t_fitOf t_sights t_systems t_own t_cross t_curveLong t_wallFirst), JA E 48 t_grainSum] h) n (inI r) 0 0) 0 0 n (ov [a_t, (a_t + 47)] [.inr (11, fsX11 a_t t_thrown t_taped t_p t_fault t_baseLow t_baseHigh t_newBaseLow t_newBaseHigh t_from t_knots t_lines t_chosen t_undos t_redos t_aimedMany t_fits t_fitOf t_sights t_systems t_own t_cross t_curveLong t_wallFirst), JA E 48 t_grainSum] h) 0 [some (.ref a_t), some (vI v1), none, none, none] [] := by
  rw [m_X11_harderOf_0] at hs
  refine g_lconst (a := 0) e_X11_harderOf_0 rfl ?_
  refine g_lstore_n e_X11_harderOf_1 st2_2 rfl ?_
  refine g_iconst e_X11_harderOf_2 ?_
  refine g_istore e_X11_harderOf_3 st1_4 rfl ?_
  exact g_X11_harderOf_5 ao ok_t_systems ok_t_own ok_t_cross ok_t_grainSum ok_v1 (hk_45 := by
      intro v2' v4' ok_v2' ok_v4' hs
      exact g_X11_harderOf_45 ao ok_t_systems ok_t_own ok_t_cross ok_t_grainSum ok_v1 ok_v2' hs) FU _ _ (by decide : inJ 0) (by decide : inI 0) hs

noncomputable def m_X11_harderOf (t_systems : Int) (t_own : Int) (t_cross : Int) (t_grainSum : Nat → Int) (v1 : Int) : Option (Int) := m_X11_harderOf_0 t_systems t_own t_cross t_grainSum v1

set_option maxRecDepth 10000 in
set_option maxHeartbeats 8000000 in
theorem ct_X11_harderOf {l : Launch} {E : EE} {b0 n : Nat} {h : AH} {a_t : Nat} {t_thrown t_taped t_p t_fault t_baseLow t_baseHigh t_newBaseLow t_newBaseHigh t_from t_knots t_lines t_chosen t_undos t_redos t_aimedMany t_fits t_fitOf t_sights t_systems t_own t_cross t_curveLong t_wallFirst : Int} {t_grainSum : Nat → Int} {v1 : Int} (ao : AO b0 n [a_t, (a_t + 47)]) (hf : FA h [a_t, (a_t + 47)] [.inr (11, fsX11 a_t t_thrown t_taped t_p t_fault t_baseLow t_baseHigh t_newBaseLow t_newBaseHigh t_from t_knots t_lines t_chosen t_undos t_redos t_aimedMany t_fits t_fitOf t_sights t_systems t_own t_cross t_curveLong t_wallFirst), JA E 48 t_grainSum]) (ok_t_systems : inI t_systems) (ok_t_own : inI t_own) (ok_t_cross : inI t_cross) (ok_t_grainSum : okJ t_grainSum) (ok_v1 : inI v1) {r : Int} (hm : m_X11_harderOf t_systems t_own t_cross t_grainSum v1 = some r) : Ct l E b0 M_X11_harderOf 0 0 [.ref a_t, vI v1] h n (some (vI r)) h n (inI r) := by
  rw [m_X11_harderOf] at hm
  have hg : G l E b0 M_X11_harderOf (fun _ => True) (ZM E b0 (some (vI r)) (ov [a_t, (a_t + 47)] [.inr (11, fsX11 a_t t_thrown t_taped t_p t_fault t_baseLow t_baseHigh t_newBaseLow t_newBaseHigh t_from t_knots t_lines t_chosen t_undos t_redos t_aimedMany t_fits t_fitOf t_sights t_systems t_own t_cross t_curveLong t_wallFirst), JA E 48 t_grainSum] h) n (inI r) 0 0) 0 0 n (ov [a_t, (a_t + 47)] [.inr (11, fsX11 a_t t_thrown t_taped t_p t_fault t_baseLow t_baseHigh t_newBaseLow t_newBaseHigh t_from t_knots t_lines t_chosen t_undos t_redos t_aimedMany t_fits t_fitOf t_sights t_systems t_own t_cross t_curveLong t_wallFirst), JA E 48 t_grainSum] h) 0 [some (.ref a_t), some (vI v1), none, none, none] [] := by
    have hs := hm
    exact g_X11_harderOf_0 ao ok_t_systems ok_t_own ok_t_cross ok_t_grainSum ok_v1 hs
  rw [FA_id hf] at hg
  exact Ct_of [some (.ref a_t), some (vI v1), none, none, none] ⟨by decide +kernel, rfl⟩ rfl (Nat.le_of_ble_eq_true rfl) hg

/-! ===== X11_systems ===== -/
theorem e_X11_systems_0 : DC cX11_systems 0 (.aload_n 0) 1 1 := ⟨by decide +kernel, rfl⟩
theorem e_X11_systems_1 : DC cX11_systems 1 (.iload_n 1) 1 2 := ⟨by decide +kernel, rfl⟩
theorem e_X11_systems_2 : DC cX11_systems 2 (.invokevirtual 407) 3 5 := ⟨by decide +kernel, rfl⟩
theorem e_X11_systems_5 : DB cX11_systems 5 (.ifCond .ne 7) (7) 3 8 12 := ⟨by decide +kernel, rfl, rfl⟩
theorem e_X11_systems_8 : DC cX11_systems 8 (.ldc2_w 412) 3 11 := ⟨by decide +kernel, rfl⟩
theorem e_X11_systems_11 : DC cX11_systems 11 (.lreturn) 1 12 := ⟨by decide +kernel, rfl⟩
theorem e_X11_systems_12 : DC cX11_systems 12 (.iload_n 2) 1 13 := ⟨by decide +kernel, rfl⟩
theorem e_X11_systems_13 : DC cX11_systems 13 (.bipush 100) 2 15 := ⟨by decide +kernel, rfl⟩
theorem e_X11_systems_15 : DC cX11_systems 15 (.sipush 199) 3 18 := ⟨by decide +kernel, rfl⟩
theorem e_X11_systems_18 : DC cX11_systems 18 (.invokestatic 226) 3 21 := ⟨by decide +kernel, rfl⟩
theorem e_X11_systems_21 : DB cX11_systems 21 (.ifCond .eq 19) (19) 3 24 40 := ⟨by decide +kernel, rfl, rfl⟩
theorem e_X11_systems_24 : DC cX11_systems 24 (.aload_n 0) 1 25 := ⟨by decide +kernel, rfl⟩
theorem e_X11_systems_25 : DC cX11_systems 25 (.getfield 142) 3 28 := ⟨by decide +kernel, rfl⟩
theorem e_X11_systems_28 : DC cX11_systems 28 (.bipush 100) 2 30 := ⟨by decide +kernel, rfl⟩
theorem e_X11_systems_30 : DC cX11_systems 30 (.iload_n 1) 1 31 := ⟨by decide +kernel, rfl⟩
theorem e_X11_systems_31 : DC cX11_systems 31 (.imul) 1 32 := ⟨by decide +kernel, rfl⟩
theorem e_X11_systems_32 : DC cX11_systems 32 (.iload_n 2) 1 33 := ⟨by decide +kernel, rfl⟩
theorem e_X11_systems_33 : DC cX11_systems 33 (.iadd) 1 34 := ⟨by decide +kernel, rfl⟩
theorem e_X11_systems_34 : DC cX11_systems 34 (.bipush 100) 2 36 := ⟨by decide +kernel, rfl⟩
theorem e_X11_systems_36 : DC cX11_systems 36 (.isub) 1 37 := ⟨by decide +kernel, rfl⟩
theorem e_X11_systems_37 : DC cX11_systems 37 (.iaload) 1 38 := ⟨by decide +kernel, rfl⟩
theorem e_X11_systems_38 : DC cX11_systems 38 (.i2l) 1 39 := ⟨by decide +kernel, rfl⟩
theorem e_X11_systems_39 : DC cX11_systems 39 (.lreturn) 1 40 := ⟨by decide +kernel, rfl⟩
theorem e_X11_systems_40 : DC cX11_systems 40 (.aload_n 0) 1 41 := ⟨by decide +kernel, rfl⟩
theorem e_X11_systems_41 : DC cX11_systems 41 (.aload_n 0) 1 42 := ⟨by decide +kernel, rfl⟩
theorem e_X11_systems_42 : DC cX11_systems 42 (.getfield 142) 3 45 := ⟨by decide +kernel, rfl⟩
theorem e_X11_systems_45 : DC cX11_systems 45 (.bipush 100) 2 47 := ⟨by decide +kernel, rfl⟩
theorem e_X11_systems_47 : DC cX11_systems 47 (.iload_n 1) 1 48 := ⟨by decide +kernel, rfl⟩
theorem e_X11_systems_48 : DC cX11_systems 48 (.imul) 1 49 := ⟨by decide +kernel, rfl⟩
theorem e_X11_systems_49 : DC cX11_systems 49 (.aload_n 0) 1 50 := ⟨by decide +kernel, rfl⟩
theorem e_X11_systems_50 : DC cX11_systems 50 (.getfield 151) 3 53 := ⟨by decide +kernel, rfl⟩
theorem e_X11_systems_53 : DC cX11_systems 53 (.bipush 6) 2 55 := ⟨by decide +kernel, rfl⟩
theorem e_X11_systems_55 : DC cX11_systems 55 (.iload_n 1) 1 56 := ⟨by decide +kernel, rfl⟩
theorem e_X11_systems_56 : DC cX11_systems 56 (.imul) 1 57 := ⟨by decide +kernel, rfl⟩
theorem e_X11_systems_57 : DC cX11_systems 57 (.invokevirtual 346) 3 60 := ⟨by decide +kernel, rfl⟩
theorem e_X11_systems_60 : DC cX11_systems 60 (.iload_n 2) 1 61 := ⟨by decide +kernel, rfl⟩
theorem e_X11_systems_61 : DC cX11_systems 61 (.tableswitch 91 0 6 #[43, 49, 56, 63, 70, 77, 84]) 43 104 := ⟨by decide +kernel, rfl⟩
theorem e_X11_systems_104 : DC cX11_systems 104 (.aload_n 0) 1 105 := ⟨by decide +kernel, rfl⟩
theorem e_X11_systems_105 : DC cX11_systems 105 (.invokevirtual 337) 3 108 := ⟨by decide +kernel, rfl⟩
theorem e_X11_systems_108 : DC cX11_systems 108 (.i2l) 1 109 := ⟨by decide +kernel, rfl⟩
theorem e_X11_systems_109 : DC cX11_systems 109 (.lreturn) 1 110 := ⟨by decide +kernel, rfl⟩
theorem e_X11_systems_110 : DC cX11_systems 110 (.aload_n 0) 1 111 := ⟨by decide +kernel, rfl⟩
theorem e_X11_systems_111 : DC cX11_systems 111 (.getfield 93) 3 114 := ⟨by decide +kernel, rfl⟩
theorem e_X11_systems_114 : DC cX11_systems 114 (.iconst 0) 1 115 := ⟨by decide +kernel, rfl⟩
theorem e_X11_systems_115 : DC cX11_systems 115 (.laload) 1 116 := ⟨by decide +kernel, rfl⟩
theorem e_X11_systems_116 : DC cX11_systems 116 (.lreturn) 1 117 := ⟨by decide +kernel, rfl⟩
theorem e_X11_systems_117 : DC cX11_systems 117 (.aload_n 0) 1 118 := ⟨by decide +kernel, rfl⟩
theorem e_X11_systems_118 : DC cX11_systems 118 (.getfield 93) 3 121 := ⟨by decide +kernel, rfl⟩
theorem e_X11_systems_121 : DC cX11_systems 121 (.iconst 5) 1 122 := ⟨by decide +kernel, rfl⟩
theorem e_X11_systems_122 : DC cX11_systems 122 (.laload) 1 123 := ⟨by decide +kernel, rfl⟩
theorem e_X11_systems_123 : DC cX11_systems 123 (.lreturn) 1 124 := ⟨by decide +kernel, rfl⟩
theorem e_X11_systems_124 : DC cX11_systems 124 (.aload_n 0) 1 125 := ⟨by decide +kernel, rfl⟩
theorem e_X11_systems_125 : DC cX11_systems 125 (.iload_n 1) 1 126 := ⟨by decide +kernel, rfl⟩
theorem e_X11_systems_126 : DC cX11_systems 126 (.invokevirtual 414) 3 129 := ⟨by decide +kernel, rfl⟩
theorem e_X11_systems_129 : DC cX11_systems 129 (.i2l) 1 130 := ⟨by decide +kernel, rfl⟩
theorem e_X11_systems_130 : DC cX11_systems 130 (.lreturn) 1 131 := ⟨by decide +kernel, rfl⟩
theorem e_X11_systems_131 : DC cX11_systems 131 (.aload_n 0) 1 132 := ⟨by decide +kernel, rfl⟩
theorem e_X11_systems_132 : DC cX11_systems 132 (.getfield 93) 3 135 := ⟨by decide +kernel, rfl⟩
theorem e_X11_systems_135 : DC cX11_systems 135 (.iconst 2) 1 136 := ⟨by decide +kernel, rfl⟩
theorem e_X11_systems_136 : DC cX11_systems 136 (.laload) 1 137 := ⟨by decide +kernel, rfl⟩
theorem e_X11_systems_137 : DC cX11_systems 137 (.lreturn) 1 138 := ⟨by decide +kernel, rfl⟩
theorem e_X11_systems_138 : DC cX11_systems 138 (.aload_n 0) 1 139 := ⟨by decide +kernel, rfl⟩
theorem e_X11_systems_139 : DC cX11_systems 139 (.getfield 93) 3 142 := ⟨by decide +kernel, rfl⟩
theorem e_X11_systems_142 : DC cX11_systems 142 (.iconst 3) 1 143 := ⟨by decide +kernel, rfl⟩
theorem e_X11_systems_143 : DC cX11_systems 143 (.laload) 1 144 := ⟨by decide +kernel, rfl⟩
theorem e_X11_systems_144 : DC cX11_systems 144 (.lreturn) 1 145 := ⟨by decide +kernel, rfl⟩
theorem e_X11_systems_145 : DC cX11_systems 145 (.aload_n 0) 1 146 := ⟨by decide +kernel, rfl⟩
theorem e_X11_systems_146 : DC cX11_systems 146 (.getfield 93) 3 149 := ⟨by decide +kernel, rfl⟩
theorem e_X11_systems_149 : DC cX11_systems 149 (.iconst 4) 1 150 := ⟨by decide +kernel, rfl⟩
theorem e_X11_systems_150 : DC cX11_systems 150 (.laload) 1 151 := ⟨by decide +kernel, rfl⟩
theorem e_X11_systems_151 : DC cX11_systems 151 (.lreturn) 1 152 := ⟨by decide +kernel, rfl⟩
theorem e_X11_systems_152 : DC cX11_systems 152 (.ldc2_w 412) 3 155 := ⟨by decide +kernel, rfl⟩
theorem e_X11_systems_155 : DC cX11_systems 155 (.lreturn) 1 156 := ⟨by decide +kernel, rfl⟩
noncomputable def m_X11_systems_0 (t_systems : Int) (t_own : Int) (t_cross : Int) (t_cur : Nat → Int) (t_curSum : Nat → Int) (t_grain : Nat → Int) (t_grainSum : Nat → Int) (v1 : Int) (v2 : Int) : Option (Int × (Nat → Int) × (Nat → Int)) :=
  (m_X11_isSystem t_systems v1).bind (fun y1 => if y1 = 0 then (some ((-1000000), t_cur, t_curSum)) else ((m_X11_in v2 100 199).bind (fun y2 => if y2 = 0 then (chk (inI (100 * v1)) (chk (inI (6 * v1)) ((m_X11_takes 800 48 t_cur t_curSum t_grain t_grainSum (100 * v1) (6 * v1)).bind (fun y5 => if v2 = 0 then ((m_X11_flaws y5.1).bind (fun y6 => some (y6, y5.1, y5.2))) else (if v2 = 1 then (chk (inB 0 6) (some (y5.2 (Int.toNat 0), y5.1, y5.2))) else (if v2 = 2 then (chk (inB 5 6) (some (y5.2 (Int.toNat 5), y5.1, y5.2))) else (if v2 = 3 then ((m_X11_harderOf t_systems t_own t_cross t_grainSum v1).bind (fun y9 => some (y9, y5.1, y5.2))) else (if v2 = 4 then (chk (inB 2 6) (some (y5.2 (Int.toNat 2), y5.1, y5.2))) else (if v2 = 5 then (chk (inB 3 6) (some (y5.2 (Int.toNat 3), y5.1, y5.2))) else (if v2 = 6 then (chk (inB 4 6) (some (y5.2 (Int.toNat 4), y5.1, y5.2))) else (some ((-1000000), y5.1, y5.2)))))))))))) else (chk (inB (((100 * v1) + v2) - 100) 800) (some (t_grain (Int.toNat (((100 * v1) + v2) - 100)), t_cur, t_curSum))))))

set_option maxRecDepth 10000 in
set_option maxHeartbeats 8000000 in
theorem g_X11_systems_0 {l : Launch} {E : EE} {b0 n : Nat} {h : AH} {a_t : Nat} {t_thrown t_taped t_p t_fault t_baseLow t_baseHigh t_newBaseLow t_newBaseHigh t_from t_knots t_lines t_chosen t_undos t_redos t_aimedMany t_fits t_fitOf t_sights t_systems t_own t_cross t_curveLong t_wallFirst v1 v2 : Int} {t_cur t_curSum t_grain t_grainSum : Nat → Int} {r : Int × (Nat → Int) × (Nat → Int)} (ao : AO b0 n [a_t, (a_t + 24), (a_t + 28), (a_t + 44), (a_t + 47)]) (ok_t_systems : inI t_systems) (ok_t_own : inI t_own) (ok_t_cross : inI t_cross) (ok_t_cur : okA t_cur) (ok_t_curSum : okJ t_curSum) (ok_t_grain : okA t_grain) (ok_t_grainSum : okJ t_grainSum) (ok_v1 : inI v1) (ok_v2 : inI v2) (hs : m_X11_systems_0 t_systems t_own t_cross t_cur t_curSum t_grain t_grainSum v1 v2 = some r) : G l E b0 M_X11_systems (fun _ => True) (ZM E b0 (some (vJ r.1)) (ov [a_t, (a_t + 24), (a_t + 28), (a_t + 44), (a_t + 47)] [.inr (11, fsX11 a_t t_thrown t_taped t_p t_fault t_baseLow t_baseHigh t_newBaseLow t_newBaseHigh t_from t_knots t_lines t_chosen t_undos t_redos t_aimedMany t_fits t_fitOf t_sights t_systems t_own t_cross t_curveLong t_wallFirst), IA E 100 r.2.1, JA E 6 r.2.2, IA E 800 t_grain, JA E 48 t_grainSum] h) n (inJ r.1 ∧ okA r.2.1 ∧ okJ r.2.2) 0 0) 0 0 n (ov [a_t, (a_t + 24), (a_t + 28), (a_t + 44), (a_t + 47)] [.inr (11, fsX11 a_t t_thrown t_taped t_p t_fault t_baseLow t_baseHigh t_newBaseLow t_newBaseHigh t_from t_knots t_lines t_chosen t_undos t_redos t_aimedMany t_fits t_fitOf t_sights t_systems t_own t_cross t_curveLong t_wallFirst), IA E 100 t_cur, JA E 6 t_curSum, IA E 800 t_grain, JA E 48 t_grainSum] h) 0 [some (.ref a_t), some (vI v1), some (vI v2)] [] := by
  rw [m_X11_systems_0] at hs
  refine g_aload_n e_X11_systems_0 rfl ?_
  refine g_iload_n e_X11_systems_1 rfl ?_
  obtain ⟨y1, hy1, hs⟩ := bind_elim hs
  refine g_callVr [vI v1] cv_X11_407 ⟨rfl, rfl, Nat.le_of_ble_eq_true rfl, Nat.le_of_ble_eq_true rfl⟩ (ct_X11_isSystem (a_t := a_t) (AO_call [0] ao (by decide) rfl) (FA_call [0] ao.1 rfl rfl) ok_t_systems ok_v1 hy1) e_X11_systems_2 (ao.2 0 _ rfl) (ov_get 0 ao.1 rfl rfl) rfl rfl rfl (Nat.le_of_ble_eq_true rfl) ⟨Nat.le_refl _, Nat.le_refl _⟩ (fun Py1 => ?_)
  refine g_if_ne e_X11_systems_5 (inZ_I Py1) hs (fun c5 hs => ?_) (fun c5 hs => ?_)
  · refine g_ldc2 (a := -1000000) e_X11_systems_8 k_X11_412 ?_
    obtain rfl := Option.some.inj hs
    exact g_lret rfl ⟨(by decide : inJ (-1000000)), ok_t_cur, ok_t_curSum⟩ e_X11_systems_11
  · refine g_iload_n e_X11_systems_12 rfl ?_
    refine g_bipush e_X11_systems_13 bp_100 ?_
    refine g_sipush e_X11_systems_15 sp_199 ?_
    obtain ⟨y2, hy2, hs⟩ := bind_elim hs
    refine g_callSr [vI v2, vI 100, vI 199] cs_X11_226 ⟨rfl, rfl, Nat.le_of_ble_eq_true rfl, Nat.le_of_ble_eq_true rfl⟩ (ct_X11_in ⟨List.nodup_nil, fun i a h => by simp at h⟩ (fun i a e h => by simp at h) ok_v2 (by decide : inI 100) (by decide : inI 199) hy2) e_X11_systems_18 rfl rfl (Nat.le_of_ble_eq_true rfl) ⟨Nat.le_refl _, Nat.le_refl _⟩ (fun Py2 => ?_)
    refine g_if_eq e_X11_systems_21 (inZ_I Py2) hs (fun c21 hs => ?_) (fun c21 hs => ?_)
    · refine g_aload_n e_X11_systems_40 rfl ?_
      refine g_aload_n e_X11_systems_41 rfl ?_
      refine g_get 0 64 ao rfl rfl fsX11_g64 fl_X11_142 e_X11_systems_42 ?_
      refine g_bipush e_X11_systems_45 bp_100 ?_
      refine g_iload_n e_X11_systems_47 rfl ?_
      refine g_imul e_X11_systems_48 ?_
      refine g_aload_n e_X11_systems_49 rfl ?_
      refine g_get 0 67 ao rfl rfl fsX11_g67 fl_X11_151 e_X11_systems_50 ?_
      refine g_bipush e_X11_systems_53 bp_6 ?_
      refine g_iload_n e_X11_systems_55 rfl ?_
      refine g_imul e_X11_systems_56 ?_
      obtain ⟨hc3, hs⟩ := chk_elim hs
      obtain ⟨hc4, hs⟩ := chk_elim hs
      obtain ⟨y5, hy5, hs⟩ := bind_elim hs
      refine g_callVv [.ref (a_t + 44), vI (100 * v1), .ref (a_t + 47), vI (6 * v1)] cv_X11_346 ⟨rfl, rfl, Nat.le_of_ble_eq_true rfl, Nat.le_of_ble_eq_true rfl⟩ (Ct_heap (ct_X11_takes (a_t := a_t) (a_p1 := (a_t + 44)) (a_p3 := (a_t + 47)) (AO_call [0, 1, 2, 3, 4] ao (by decide) rfl) (by omega) (by omega) (FA_call [0, 1, 2, 3, 4] ao.1 rfl rfl) ok_t_cur ok_t_curSum ok_t_grain ok_t_grainSum hc3 hc4 hy5) (ov_call (esn := [.inr (11, fsX11 a_t t_thrown t_taped t_p t_fault t_baseLow t_baseHigh t_newBaseLow t_newBaseHigh t_from t_knots t_lines t_chosen t_undos t_redos t_aimedMany t_fits t_fitOf t_sights t_systems t_own t_cross t_curveLong t_wallFirst), IA E 100 y5.1, JA E 6 y5.2, IA E 800 t_grain, JA E 48 t_grainSum]) [0, 1, 2, 3, 4] ao.1 rfl rfl rfl rfl)) e_X11_systems_57 (ao.2 0 _ rfl) (ov_get 0 ao.1 rfl rfl) rfl rfl rfl (Nat.le_of_ble_eq_true rfl) ⟨Nat.le_refl _, Nat.le_refl _⟩ (fun Py5 => ?_)
      refine g_iload_n e_X11_systems_60 rfl ?_
      by_cases c61_0 : v2 = 0
      · rw [if_pos c61_0] at hs
        refine g_tableIn (off := 43) (tgt := 104) e_X11_systems_61 ok_v2 (by rw [c61_0]; decide) (by rw [c61_0]; decide) (by rw [c61_0]; rfl) rfl ?_
        refine g_aload_n e_X11_systems_104 rfl ?_
        obtain ⟨y6, hy6, hs⟩ := bind_elim hs
        refine g_callVr [] cv_X11_337 ⟨rfl, rfl, Nat.le_of_ble_eq_true rfl, Nat.le_of_ble_eq_true rfl⟩ (ct_X11_flaws (a_t := a_t) (AO_call [0, 1] ao (by decide) rfl) (FA_call [0, 1] ao.1 rfl rfl) Py5.1 hy6) e_X11_systems_105 (ao.2 0 _ rfl) (ov_get 0 ao.1 rfl rfl) rfl rfl rfl (Nat.le_of_ble_eq_true rfl) ⟨Nat.le_refl _, Nat.le_refl _⟩ (fun Py6 => ?_)
        refine g_i2l e_X11_systems_108 Py6 ?_
        obtain rfl := Option.some.inj hs
        exact g_lret rfl ⟨(inI_J Py6), Py5.1, Py5.2⟩ e_X11_systems_109
      · rw [if_neg c61_0] at hs
        by_cases c61_1 : v2 = 1
        · rw [if_pos c61_1] at hs
          refine g_tableIn (off := 49) (tgt := 110) e_X11_systems_61 ok_v2 (by rw [c61_1]; decide) (by rw [c61_1]; decide) (by rw [c61_1]; rfl) rfl ?_
          refine g_aload_n e_X11_systems_110 rfl ?_
          refine g_get 0 39 ao rfl rfl fsX11_g39 fl_X11_93 e_X11_systems_111 ?_
          refine g_iconst e_X11_systems_114 ?_
          refine g_lald 2 ao rfl rfl (Nat.le_of_ble_eq_true rfl) e_X11_systems_115 hs (fun hi7 hs => ?_)
          obtain rfl := Option.some.inj hs
          exact g_lret rfl ⟨(Py5.2 _), Py5.1, Py5.2⟩ e_X11_systems_116
        · rw [if_neg c61_1] at hs
          by_cases c61_2 : v2 = 2
          · rw [if_pos c61_2] at hs
            refine g_tableIn (off := 56) (tgt := 117) e_X11_systems_61 ok_v2 (by rw [c61_2]; decide) (by rw [c61_2]; decide) (by rw [c61_2]; rfl) rfl ?_
            refine g_aload_n e_X11_systems_117 rfl ?_
            refine g_get 0 39 ao rfl rfl fsX11_g39 fl_X11_93 e_X11_systems_118 ?_
            refine g_iconst e_X11_systems_121 ?_
            refine g_lald 2 ao rfl rfl (Nat.le_of_ble_eq_true rfl) e_X11_systems_122 hs (fun hi8 hs => ?_)
            obtain rfl := Option.some.inj hs
            exact g_lret rfl ⟨(Py5.2 _), Py5.1, Py5.2⟩ e_X11_systems_123
          · rw [if_neg c61_2] at hs
            by_cases c61_3 : v2 = 3
            · rw [if_pos c61_3] at hs
              refine g_tableIn (off := 63) (tgt := 124) e_X11_systems_61 ok_v2 (by rw [c61_3]; decide) (by rw [c61_3]; decide) (by rw [c61_3]; rfl) rfl ?_
              refine g_aload_n e_X11_systems_124 rfl ?_
              refine g_iload_n e_X11_systems_125 rfl ?_
              obtain ⟨y9, hy9, hs⟩ := bind_elim hs
              refine g_callVr [vI v1] cv_X11_414 ⟨rfl, rfl, Nat.le_of_ble_eq_true rfl, Nat.le_of_ble_eq_true rfl⟩ (ct_X11_harderOf (a_t := a_t) (AO_call [0, 4] ao (by decide) rfl) (FA_call [0, 4] ao.1 rfl rfl) ok_t_systems ok_t_own ok_t_cross ok_t_grainSum ok_v1 hy9) e_X11_systems_126 (ao.2 0 _ rfl) (ov_get 0 ao.1 rfl rfl) rfl rfl rfl (Nat.le_of_ble_eq_true rfl) ⟨Nat.le_refl _, Nat.le_refl _⟩ (fun Py9 => ?_)
              refine g_i2l e_X11_systems_129 Py9 ?_
              obtain rfl := Option.some.inj hs
              exact g_lret rfl ⟨(inI_J Py9), Py5.1, Py5.2⟩ e_X11_systems_130
            · rw [if_neg c61_3] at hs
              by_cases c61_4 : v2 = 4
              · rw [if_pos c61_4] at hs
                refine g_tableIn (off := 70) (tgt := 131) e_X11_systems_61 ok_v2 (by rw [c61_4]; decide) (by rw [c61_4]; decide) (by rw [c61_4]; rfl) rfl ?_
                refine g_aload_n e_X11_systems_131 rfl ?_
                refine g_get 0 39 ao rfl rfl fsX11_g39 fl_X11_93 e_X11_systems_132 ?_
                refine g_iconst e_X11_systems_135 ?_
                refine g_lald 2 ao rfl rfl (Nat.le_of_ble_eq_true rfl) e_X11_systems_136 hs (fun hi10 hs => ?_)
                obtain rfl := Option.some.inj hs
                exact g_lret rfl ⟨(Py5.2 _), Py5.1, Py5.2⟩ e_X11_systems_137
              · rw [if_neg c61_4] at hs
                by_cases c61_5 : v2 = 5
                · rw [if_pos c61_5] at hs
                  refine g_tableIn (off := 77) (tgt := 138) e_X11_systems_61 ok_v2 (by rw [c61_5]; decide) (by rw [c61_5]; decide) (by rw [c61_5]; rfl) rfl ?_
                  refine g_aload_n e_X11_systems_138 rfl ?_
                  refine g_get 0 39 ao rfl rfl fsX11_g39 fl_X11_93 e_X11_systems_139 ?_
                  refine g_iconst e_X11_systems_142 ?_
                  refine g_lald 2 ao rfl rfl (Nat.le_of_ble_eq_true rfl) e_X11_systems_143 hs (fun hi11 hs => ?_)
                  obtain rfl := Option.some.inj hs
                  exact g_lret rfl ⟨(Py5.2 _), Py5.1, Py5.2⟩ e_X11_systems_144
                · rw [if_neg c61_5] at hs
                  by_cases c61_6 : v2 = 6
                  · rw [if_pos c61_6] at hs
                    refine g_tableIn (off := 84) (tgt := 145) e_X11_systems_61 ok_v2 (by rw [c61_6]; decide) (by rw [c61_6]; decide) (by rw [c61_6]; rfl) rfl ?_
                    refine g_aload_n e_X11_systems_145 rfl ?_
                    refine g_get 0 39 ao rfl rfl fsX11_g39 fl_X11_93 e_X11_systems_146 ?_
                    refine g_iconst e_X11_systems_149 ?_
                    refine g_lald 2 ao rfl rfl (Nat.le_of_ble_eq_true rfl) e_X11_systems_150 hs (fun hi12 hs => ?_)
                    obtain rfl := Option.some.inj hs
                    exact g_lret rfl ⟨(Py5.2 _), Py5.1, Py5.2⟩ e_X11_systems_151
                  · rw [if_neg c61_6] at hs
                    refine g_tableOut (tgt := 152) e_X11_systems_61 ok_v2 (by omega) rfl ?_
                    refine g_ldc2 (a := -1000000) e_X11_systems_152 k_X11_412 ?_
                    obtain rfl := Option.some.inj hs
                    exact g_lret rfl ⟨(by decide : inJ (-1000000)), Py5.1, Py5.2⟩ e_X11_systems_155
    · refine g_aload_n e_X11_systems_24 rfl ?_
      refine g_get 0 64 ao rfl rfl fsX11_g64 fl_X11_142 e_X11_systems_25 ?_
      refine g_bipush e_X11_systems_28 bp_100 ?_
      refine g_iload_n e_X11_systems_30 rfl ?_
      refine g_imul e_X11_systems_31 ?_
      refine g_iload_n e_X11_systems_32 rfl ?_
      refine g_iadd e_X11_systems_33 ?_
      refine g_bipush e_X11_systems_34 bp_100 ?_
      refine g_isub e_X11_systems_36 ?_
      refine g_iald 3 ao rfl rfl (Nat.le_of_ble_eq_true rfl) e_X11_systems_37 hs (fun hi13 hs => ?_)
      refine g_i2l e_X11_systems_38 (ok_t_grain _) ?_
      obtain rfl := Option.some.inj hs
      exact g_lret rfl ⟨(inI_J (ok_t_grain _)), ok_t_cur, ok_t_curSum⟩ e_X11_systems_39

noncomputable def m_X11_systems (t_systems : Int) (t_own : Int) (t_cross : Int) (t_cur : Nat → Int) (t_curSum : Nat → Int) (t_grain : Nat → Int) (t_grainSum : Nat → Int) (v1 : Int) (v2 : Int) : Option (Int × (Nat → Int) × (Nat → Int)) := m_X11_systems_0 t_systems t_own t_cross t_cur t_curSum t_grain t_grainSum v1 v2

set_option maxRecDepth 10000 in
set_option maxHeartbeats 8000000 in
theorem ct_X11_systems {l : Launch} {E : EE} {b0 n : Nat} {h : AH} {a_t : Nat} {t_thrown t_taped t_p t_fault t_baseLow t_baseHigh t_newBaseLow t_newBaseHigh t_from t_knots t_lines t_chosen t_undos t_redos t_aimedMany t_fits t_fitOf t_sights t_systems t_own t_cross t_curveLong t_wallFirst : Int} {t_cur t_curSum t_grain t_grainSum : Nat → Int} {v1 v2 : Int} (ao : AO b0 n [a_t, (a_t + 24), (a_t + 28), (a_t + 44), (a_t + 47)]) (hf : FA h [a_t, (a_t + 24), (a_t + 28), (a_t + 44), (a_t + 47)] [.inr (11, fsX11 a_t t_thrown t_taped t_p t_fault t_baseLow t_baseHigh t_newBaseLow t_newBaseHigh t_from t_knots t_lines t_chosen t_undos t_redos t_aimedMany t_fits t_fitOf t_sights t_systems t_own t_cross t_curveLong t_wallFirst), IA E 100 t_cur, JA E 6 t_curSum, IA E 800 t_grain, JA E 48 t_grainSum]) (ok_t_systems : inI t_systems) (ok_t_own : inI t_own) (ok_t_cross : inI t_cross) (ok_t_cur : okA t_cur) (ok_t_curSum : okJ t_curSum) (ok_t_grain : okA t_grain) (ok_t_grainSum : okJ t_grainSum) (ok_v1 : inI v1) (ok_v2 : inI v2) {r : Int × (Nat → Int) × (Nat → Int)} (hm : m_X11_systems t_systems t_own t_cross t_cur t_curSum t_grain t_grainSum v1 v2 = some r) : Ct l E b0 M_X11_systems 0 0 [.ref a_t, vI v1, vI v2] h n (some (vJ r.1)) (ov [a_t, (a_t + 24), (a_t + 28), (a_t + 44), (a_t + 47)] [.inr (11, fsX11 a_t t_thrown t_taped t_p t_fault t_baseLow t_baseHigh t_newBaseLow t_newBaseHigh t_from t_knots t_lines t_chosen t_undos t_redos t_aimedMany t_fits t_fitOf t_sights t_systems t_own t_cross t_curveLong t_wallFirst), IA E 100 r.2.1, JA E 6 r.2.2, IA E 800 t_grain, JA E 48 t_grainSum] h) n (inJ r.1 ∧ okA r.2.1 ∧ okJ r.2.2) := by
  rw [m_X11_systems] at hm
  have hg : G l E b0 M_X11_systems (fun _ => True) (ZM E b0 (some (vJ r.1)) (ov [a_t, (a_t + 24), (a_t + 28), (a_t + 44), (a_t + 47)] [.inr (11, fsX11 a_t t_thrown t_taped t_p t_fault t_baseLow t_baseHigh t_newBaseLow t_newBaseHigh t_from t_knots t_lines t_chosen t_undos t_redos t_aimedMany t_fits t_fitOf t_sights t_systems t_own t_cross t_curveLong t_wallFirst), IA E 100 r.2.1, JA E 6 r.2.2, IA E 800 t_grain, JA E 48 t_grainSum] h) n (inJ r.1 ∧ okA r.2.1 ∧ okJ r.2.2) 0 0) 0 0 n (ov [a_t, (a_t + 24), (a_t + 28), (a_t + 44), (a_t + 47)] [.inr (11, fsX11 a_t t_thrown t_taped t_p t_fault t_baseLow t_baseHigh t_newBaseLow t_newBaseHigh t_from t_knots t_lines t_chosen t_undos t_redos t_aimedMany t_fits t_fitOf t_sights t_systems t_own t_cross t_curveLong t_wallFirst), IA E 100 t_cur, JA E 6 t_curSum, IA E 800 t_grain, JA E 48 t_grainSum] h) 0 [some (.ref a_t), some (vI v1), some (vI v2)] [] := by
    have hs := hm
    exact g_X11_systems_0 ao ok_t_systems ok_t_own ok_t_cross ok_t_cur ok_t_curSum ok_t_grain ok_t_grainSum ok_v1 ok_v2 hs
  rw [FA_id hf] at hg
  exact Ct_of [some (.ref a_t), some (vI v1), some (vI v2)] ⟨by decide +kernel, rfl⟩ rfl (Nat.le_of_ble_eq_true rfl) hg

/-! ===== X11_alongOf ===== -/
theorem e_X11_alongOf_0 : DC cX11_alongOf 0 (.iload_n 1) 1 1 := ⟨by decide +kernel, rfl⟩
theorem e_X11_alongOf_1 : DC cX11_alongOf 1 (.aload_n 0) 1 2 := ⟨by decide +kernel, rfl⟩
theorem e_X11_alongOf_2 : DC cX11_alongOf 2 (.getfield 145) 3 5 := ⟨by decide +kernel, rfl⟩
theorem e_X11_alongOf_5 : DC cX11_alongOf 5 (.bipush 6) 2 7 := ⟨by decide +kernel, rfl⟩
theorem e_X11_alongOf_7 : DC cX11_alongOf 7 (.iload 4) 2 9 := ⟨by decide +kernel, rfl⟩
theorem e_X11_alongOf_9 : DC cX11_alongOf 9 (.imul) 1 10 := ⟨by decide +kernel, rfl⟩
theorem e_X11_alongOf_10 : DC cX11_alongOf 10 (.iaload) 1 11 := ⟨by decide +kernel, rfl⟩
theorem e_X11_alongOf_11 : DC cX11_alongOf 11 (.imul) 1 12 := ⟨by decide +kernel, rfl⟩
theorem e_X11_alongOf_12 : DC cX11_alongOf 12 (.iload_n 2) 1 13 := ⟨by decide +kernel, rfl⟩
theorem e_X11_alongOf_13 : DC cX11_alongOf 13 (.aload_n 0) 1 14 := ⟨by decide +kernel, rfl⟩
theorem e_X11_alongOf_14 : DC cX11_alongOf 14 (.getfield 145) 3 17 := ⟨by decide +kernel, rfl⟩
theorem e_X11_alongOf_17 : DC cX11_alongOf 17 (.bipush 6) 2 19 := ⟨by decide +kernel, rfl⟩
theorem e_X11_alongOf_19 : DC cX11_alongOf 19 (.iload 4) 2 21 := ⟨by decide +kernel, rfl⟩
theorem e_X11_alongOf_21 : DC cX11_alongOf 21 (.imul) 1 22 := ⟨by decide +kernel, rfl⟩
theorem e_X11_alongOf_22 : DC cX11_alongOf 22 (.iconst 1) 1 23 := ⟨by decide +kernel, rfl⟩
theorem e_X11_alongOf_23 : DC cX11_alongOf 23 (.iadd) 1 24 := ⟨by decide +kernel, rfl⟩
theorem e_X11_alongOf_24 : DC cX11_alongOf 24 (.iaload) 1 25 := ⟨by decide +kernel, rfl⟩
theorem e_X11_alongOf_25 : DC cX11_alongOf 25 (.imul) 1 26 := ⟨by decide +kernel, rfl⟩
theorem e_X11_alongOf_26 : DC cX11_alongOf 26 (.iadd) 1 27 := ⟨by decide +kernel, rfl⟩
theorem e_X11_alongOf_27 : DC cX11_alongOf 27 (.iload_n 3) 1 28 := ⟨by decide +kernel, rfl⟩
theorem e_X11_alongOf_28 : DC cX11_alongOf 28 (.aload_n 0) 1 29 := ⟨by decide +kernel, rfl⟩
theorem e_X11_alongOf_29 : DC cX11_alongOf 29 (.getfield 145) 3 32 := ⟨by decide +kernel, rfl⟩
theorem e_X11_alongOf_32 : DC cX11_alongOf 32 (.bipush 6) 2 34 := ⟨by decide +kernel, rfl⟩
theorem e_X11_alongOf_34 : DC cX11_alongOf 34 (.iload 4) 2 36 := ⟨by decide +kernel, rfl⟩
theorem e_X11_alongOf_36 : DC cX11_alongOf 36 (.imul) 1 37 := ⟨by decide +kernel, rfl⟩
theorem e_X11_alongOf_37 : DC cX11_alongOf 37 (.iconst 2) 1 38 := ⟨by decide +kernel, rfl⟩
theorem e_X11_alongOf_38 : DC cX11_alongOf 38 (.iadd) 1 39 := ⟨by decide +kernel, rfl⟩
theorem e_X11_alongOf_39 : DC cX11_alongOf 39 (.iaload) 1 40 := ⟨by decide +kernel, rfl⟩
theorem e_X11_alongOf_40 : DC cX11_alongOf 40 (.imul) 1 41 := ⟨by decide +kernel, rfl⟩
theorem e_X11_alongOf_41 : DC cX11_alongOf 41 (.iadd) 1 42 := ⟨by decide +kernel, rfl⟩
theorem e_X11_alongOf_42 : DC cX11_alongOf 42 (.i2l) 1 43 := ⟨by decide +kernel, rfl⟩
theorem e_X11_alongOf_43 : DC cX11_alongOf 43 (.lstore 5) 2 45 := ⟨by decide +kernel, rfl⟩
theorem e_X11_alongOf_45 : DC cX11_alongOf 45 (.lload 5) 2 47 := ⟨by decide +kernel, rfl⟩
theorem e_X11_alongOf_47 : DC cX11_alongOf 47 (.iload_n 1) 1 48 := ⟨by decide +kernel, rfl⟩
theorem e_X11_alongOf_48 : DC cX11_alongOf 48 (.aload_n 0) 1 49 := ⟨by decide +kernel, rfl⟩
theorem e_X11_alongOf_49 : DC cX11_alongOf 49 (.getfield 145) 3 52 := ⟨by decide +kernel, rfl⟩
theorem e_X11_alongOf_52 : DC cX11_alongOf 52 (.bipush 6) 2 54 := ⟨by decide +kernel, rfl⟩
theorem e_X11_alongOf_54 : DC cX11_alongOf 54 (.iload 4) 2 56 := ⟨by decide +kernel, rfl⟩
theorem e_X11_alongOf_56 : DC cX11_alongOf 56 (.imul) 1 57 := ⟨by decide +kernel, rfl⟩
theorem e_X11_alongOf_57 : DC cX11_alongOf 57 (.iconst 3) 1 58 := ⟨by decide +kernel, rfl⟩
theorem e_X11_alongOf_58 : DC cX11_alongOf 58 (.iadd) 1 59 := ⟨by decide +kernel, rfl⟩
theorem e_X11_alongOf_59 : DC cX11_alongOf 59 (.iaload) 1 60 := ⟨by decide +kernel, rfl⟩
theorem e_X11_alongOf_60 : DC cX11_alongOf 60 (.imul) 1 61 := ⟨by decide +kernel, rfl⟩
theorem e_X11_alongOf_61 : DC cX11_alongOf 61 (.iload_n 2) 1 62 := ⟨by decide +kernel, rfl⟩
theorem e_X11_alongOf_62 : DC cX11_alongOf 62 (.aload_n 0) 1 63 := ⟨by decide +kernel, rfl⟩
theorem e_X11_alongOf_63 : DC cX11_alongOf 63 (.getfield 145) 3 66 := ⟨by decide +kernel, rfl⟩
theorem e_X11_alongOf_66 : DC cX11_alongOf 66 (.bipush 6) 2 68 := ⟨by decide +kernel, rfl⟩
theorem e_X11_alongOf_68 : DC cX11_alongOf 68 (.iload 4) 2 70 := ⟨by decide +kernel, rfl⟩
theorem e_X11_alongOf_70 : DC cX11_alongOf 70 (.imul) 1 71 := ⟨by decide +kernel, rfl⟩
theorem e_X11_alongOf_71 : DC cX11_alongOf 71 (.iconst 4) 1 72 := ⟨by decide +kernel, rfl⟩
theorem e_X11_alongOf_72 : DC cX11_alongOf 72 (.iadd) 1 73 := ⟨by decide +kernel, rfl⟩
theorem e_X11_alongOf_73 : DC cX11_alongOf 73 (.iaload) 1 74 := ⟨by decide +kernel, rfl⟩
theorem e_X11_alongOf_74 : DC cX11_alongOf 74 (.imul) 1 75 := ⟨by decide +kernel, rfl⟩
theorem e_X11_alongOf_75 : DC cX11_alongOf 75 (.iadd) 1 76 := ⟨by decide +kernel, rfl⟩
theorem e_X11_alongOf_76 : DC cX11_alongOf 76 (.iload_n 3) 1 77 := ⟨by decide +kernel, rfl⟩
theorem e_X11_alongOf_77 : DC cX11_alongOf 77 (.aload_n 0) 1 78 := ⟨by decide +kernel, rfl⟩
theorem e_X11_alongOf_78 : DC cX11_alongOf 78 (.getfield 145) 3 81 := ⟨by decide +kernel, rfl⟩
theorem e_X11_alongOf_81 : DC cX11_alongOf 81 (.bipush 6) 2 83 := ⟨by decide +kernel, rfl⟩
theorem e_X11_alongOf_83 : DC cX11_alongOf 83 (.iload 4) 2 85 := ⟨by decide +kernel, rfl⟩
theorem e_X11_alongOf_85 : DC cX11_alongOf 85 (.imul) 1 86 := ⟨by decide +kernel, rfl⟩
theorem e_X11_alongOf_86 : DC cX11_alongOf 86 (.iconst 5) 1 87 := ⟨by decide +kernel, rfl⟩
theorem e_X11_alongOf_87 : DC cX11_alongOf 87 (.iadd) 1 88 := ⟨by decide +kernel, rfl⟩
theorem e_X11_alongOf_88 : DC cX11_alongOf 88 (.iaload) 1 89 := ⟨by decide +kernel, rfl⟩
theorem e_X11_alongOf_89 : DC cX11_alongOf 89 (.imul) 1 90 := ⟨by decide +kernel, rfl⟩
theorem e_X11_alongOf_90 : DC cX11_alongOf 90 (.iadd) 1 91 := ⟨by decide +kernel, rfl⟩
theorem e_X11_alongOf_91 : DC cX11_alongOf 91 (.i2l) 1 92 := ⟨by decide +kernel, rfl⟩
theorem e_X11_alongOf_92 : DC cX11_alongOf 92 (.lmul) 1 93 := ⟨by decide +kernel, rfl⟩
theorem e_X11_alongOf_93 : DC cX11_alongOf 93 (.lreturn) 1 94 := ⟨by decide +kernel, rfl⟩
noncomputable def m_X11_alongOf_0 (t_ways : Nat → Int) (v1 : Int) (v2 : Int) (v3 : Int) (v4 : Int) : Option (Int) :=
  chk (inB (6 * v4) 48) (chk (inB ((6 * v4) + 1) 48) (chk (inB ((6 * v4) + 2) 48) (chk (inI (((v1 * (t_ways (Int.toNat (6 * v4)))) + (v2 * (t_ways (Int.toNat ((6 * v4) + 1))))) + (v3 * (t_ways (Int.toNat ((6 * v4) + 2)))))) (chk (inB ((6 * v4) + 3) 48) (chk (inB ((6 * v4) + 4) 48) (chk (inB ((6 * v4) + 5) 48) (chk (inI (((v1 * (t_ways (Int.toNat ((6 * v4) + 3)))) + (v2 * (t_ways (Int.toNat ((6 * v4) + 4))))) + (v3 * (t_ways (Int.toNat ((6 * v4) + 5)))))) (chk (inJ ((((v1 * (t_ways (Int.toNat (6 * v4)))) + (v2 * (t_ways (Int.toNat ((6 * v4) + 1))))) + (v3 * (t_ways (Int.toNat ((6 * v4) + 2))))) * (((v1 * (t_ways (Int.toNat ((6 * v4) + 3)))) + (v2 * (t_ways (Int.toNat ((6 * v4) + 4))))) + (v3 * (t_ways (Int.toNat ((6 * v4) + 5))))))) (some ((((v1 * (t_ways (Int.toNat (6 * v4)))) + (v2 * (t_ways (Int.toNat ((6 * v4) + 1))))) + (v3 * (t_ways (Int.toNat ((6 * v4) + 2))))) * (((v1 * (t_ways (Int.toNat ((6 * v4) + 3)))) + (v2 * (t_ways (Int.toNat ((6 * v4) + 4))))) + (v3 * (t_ways (Int.toNat ((6 * v4) + 5)))))))))))))))

set_option maxRecDepth 10000 in
set_option maxHeartbeats 8000000 in
theorem g_X11_alongOf_0 {l : Launch} {E : EE} {b0 n : Nat} {h : AH} {a_t : Nat} {t_thrown t_taped t_p t_fault t_baseLow t_baseHigh t_newBaseLow t_newBaseHigh t_from t_knots t_lines t_chosen t_undos t_redos t_aimedMany t_fits t_fitOf t_sights t_systems t_own t_cross t_curveLong t_wallFirst v1 v2 v3 v4 : Int} {t_ways : Nat → Int} {r : Int} (ao : AO b0 n [a_t, (a_t + 45)]) (ok_t_ways : okA t_ways) (ok_v1 : inI v1) (ok_v2 : inI v2) (ok_v3 : inI v3) (ok_v4 : inI v4) (hs : m_X11_alongOf_0 t_ways v1 v2 v3 v4 = some r) : G l E b0 M_X11_alongOf (fun _ => True) (ZM E b0 (some (vJ r)) (ov [a_t, (a_t + 45)] [.inr (11, fsX11 a_t t_thrown t_taped t_p t_fault t_baseLow t_baseHigh t_newBaseLow t_newBaseHigh t_from t_knots t_lines t_chosen t_undos t_redos t_aimedMany t_fits t_fitOf t_sights t_systems t_own t_cross t_curveLong t_wallFirst), IA E 48 t_ways] h) n (inJ r) 0 0) 0 0 n (ov [a_t, (a_t + 45)] [.inr (11, fsX11 a_t t_thrown t_taped t_p t_fault t_baseLow t_baseHigh t_newBaseLow t_newBaseHigh t_from t_knots t_lines t_chosen t_undos t_redos t_aimedMany t_fits t_fitOf t_sights t_systems t_own t_cross t_curveLong t_wallFirst), IA E 48 t_ways] h) 0 [some (.ref a_t), some (vI v1), some (vI v2), some (vI v3), some (vI v4), none, none] [] := by
  rw [m_X11_alongOf_0] at hs
  refine g_iload_n e_X11_alongOf_0 rfl ?_
  refine g_aload_n e_X11_alongOf_1 rfl ?_
  refine g_get 0 65 ao rfl rfl fsX11_g65 fl_X11_145 e_X11_alongOf_2 ?_
  refine g_bipush e_X11_alongOf_5 bp_6 ?_
  refine g_iload e_X11_alongOf_7 rfl ?_
  refine g_imul e_X11_alongOf_9 ?_
  refine g_iald 1 ao rfl rfl (Nat.le_of_ble_eq_true rfl) e_X11_alongOf_10 hs (fun hi1 hs => ?_)
  refine g_imul e_X11_alongOf_11 ?_
  refine g_iload_n e_X11_alongOf_12 rfl ?_
  refine g_aload_n e_X11_alongOf_13 rfl ?_
  refine g_get 0 65 ao rfl rfl fsX11_g65 fl_X11_145 e_X11_alongOf_14 ?_
  refine g_bipush e_X11_alongOf_17 bp_6 ?_
  refine g_iload e_X11_alongOf_19 rfl ?_
  refine g_imul e_X11_alongOf_21 ?_
  refine g_iconst e_X11_alongOf_22 ?_
  refine g_iadd e_X11_alongOf_23 ?_
  refine g_iald 1 ao rfl rfl (Nat.le_of_ble_eq_true rfl) e_X11_alongOf_24 hs (fun hi2 hs => ?_)
  refine g_imul e_X11_alongOf_25 ?_
  refine g_iadd e_X11_alongOf_26 ?_
  refine g_iload_n e_X11_alongOf_27 rfl ?_
  refine g_aload_n e_X11_alongOf_28 rfl ?_
  refine g_get 0 65 ao rfl rfl fsX11_g65 fl_X11_145 e_X11_alongOf_29 ?_
  refine g_bipush e_X11_alongOf_32 bp_6 ?_
  refine g_iload e_X11_alongOf_34 rfl ?_
  refine g_imul e_X11_alongOf_36 ?_
  refine g_iconst e_X11_alongOf_37 ?_
  refine g_iadd e_X11_alongOf_38 ?_
  refine g_iald 1 ao rfl rfl (Nat.le_of_ble_eq_true rfl) e_X11_alongOf_39 hs (fun hi3 hs => ?_)
  refine g_imul e_X11_alongOf_40 ?_
  refine g_iadd e_X11_alongOf_41 ?_
  obtain ⟨hc4, hs⟩ := chk_elim hs
  refine g_i2l e_X11_alongOf_42 hc4 ?_
  refine g_lstore e_X11_alongOf_43 st2_5 rfl ?_
  refine g_lload e_X11_alongOf_45 rfl ?_
  refine g_iload_n e_X11_alongOf_47 rfl ?_
  refine g_aload_n e_X11_alongOf_48 rfl ?_
  refine g_get 0 65 ao rfl rfl fsX11_g65 fl_X11_145 e_X11_alongOf_49 ?_
  refine g_bipush e_X11_alongOf_52 bp_6 ?_
  refine g_iload e_X11_alongOf_54 rfl ?_
  refine g_imul e_X11_alongOf_56 ?_
  refine g_iconst e_X11_alongOf_57 ?_
  refine g_iadd e_X11_alongOf_58 ?_
  refine g_iald 1 ao rfl rfl (Nat.le_of_ble_eq_true rfl) e_X11_alongOf_59 hs (fun hi5 hs => ?_)
  refine g_imul e_X11_alongOf_60 ?_
  refine g_iload_n e_X11_alongOf_61 rfl ?_
  refine g_aload_n e_X11_alongOf_62 rfl ?_
  refine g_get 0 65 ao rfl rfl fsX11_g65 fl_X11_145 e_X11_alongOf_63 ?_
  refine g_bipush e_X11_alongOf_66 bp_6 ?_
  refine g_iload e_X11_alongOf_68 rfl ?_
  refine g_imul e_X11_alongOf_70 ?_
  refine g_iconst e_X11_alongOf_71 ?_
  refine g_iadd e_X11_alongOf_72 ?_
  refine g_iald 1 ao rfl rfl (Nat.le_of_ble_eq_true rfl) e_X11_alongOf_73 hs (fun hi6 hs => ?_)
  refine g_imul e_X11_alongOf_74 ?_
  refine g_iadd e_X11_alongOf_75 ?_
  refine g_iload_n e_X11_alongOf_76 rfl ?_
  refine g_aload_n e_X11_alongOf_77 rfl ?_
  refine g_get 0 65 ao rfl rfl fsX11_g65 fl_X11_145 e_X11_alongOf_78 ?_
  refine g_bipush e_X11_alongOf_81 bp_6 ?_
  refine g_iload e_X11_alongOf_83 rfl ?_
  refine g_imul e_X11_alongOf_85 ?_
  refine g_iconst e_X11_alongOf_86 ?_
  refine g_iadd e_X11_alongOf_87 ?_
  refine g_iald 1 ao rfl rfl (Nat.le_of_ble_eq_true rfl) e_X11_alongOf_88 hs (fun hi7 hs => ?_)
  refine g_imul e_X11_alongOf_89 ?_
  refine g_iadd e_X11_alongOf_90 ?_
  obtain ⟨hc8, hs⟩ := chk_elim hs
  refine g_i2l e_X11_alongOf_91 hc8 ?_
  refine g_lmul e_X11_alongOf_92 ?_
  obtain ⟨hc9, hs⟩ := chk_elim hs
  obtain rfl := Option.some.inj hs
  exact g_lret rfl hc9 e_X11_alongOf_93

noncomputable def m_X11_alongOf (t_ways : Nat → Int) (v1 : Int) (v2 : Int) (v3 : Int) (v4 : Int) : Option (Int) := m_X11_alongOf_0 t_ways v1 v2 v3 v4

set_option maxRecDepth 10000 in
set_option maxHeartbeats 8000000 in
theorem ct_X11_alongOf {l : Launch} {E : EE} {b0 n : Nat} {h : AH} {a_t : Nat} {t_thrown t_taped t_p t_fault t_baseLow t_baseHigh t_newBaseLow t_newBaseHigh t_from t_knots t_lines t_chosen t_undos t_redos t_aimedMany t_fits t_fitOf t_sights t_systems t_own t_cross t_curveLong t_wallFirst : Int} {t_ways : Nat → Int} {v1 v2 v3 v4 : Int} (ao : AO b0 n [a_t, (a_t + 45)]) (hf : FA h [a_t, (a_t + 45)] [.inr (11, fsX11 a_t t_thrown t_taped t_p t_fault t_baseLow t_baseHigh t_newBaseLow t_newBaseHigh t_from t_knots t_lines t_chosen t_undos t_redos t_aimedMany t_fits t_fitOf t_sights t_systems t_own t_cross t_curveLong t_wallFirst), IA E 48 t_ways]) (ok_t_ways : okA t_ways) (ok_v1 : inI v1) (ok_v2 : inI v2) (ok_v3 : inI v3) (ok_v4 : inI v4) {r : Int} (hm : m_X11_alongOf t_ways v1 v2 v3 v4 = some r) : Ct l E b0 M_X11_alongOf 0 0 [.ref a_t, vI v1, vI v2, vI v3, vI v4] h n (some (vJ r)) h n (inJ r) := by
  rw [m_X11_alongOf] at hm
  have hg : G l E b0 M_X11_alongOf (fun _ => True) (ZM E b0 (some (vJ r)) (ov [a_t, (a_t + 45)] [.inr (11, fsX11 a_t t_thrown t_taped t_p t_fault t_baseLow t_baseHigh t_newBaseLow t_newBaseHigh t_from t_knots t_lines t_chosen t_undos t_redos t_aimedMany t_fits t_fitOf t_sights t_systems t_own t_cross t_curveLong t_wallFirst), IA E 48 t_ways] h) n (inJ r) 0 0) 0 0 n (ov [a_t, (a_t + 45)] [.inr (11, fsX11 a_t t_thrown t_taped t_p t_fault t_baseLow t_baseHigh t_newBaseLow t_newBaseHigh t_from t_knots t_lines t_chosen t_undos t_redos t_aimedMany t_fits t_fitOf t_sights t_systems t_own t_cross t_curveLong t_wallFirst), IA E 48 t_ways] h) 0 [some (.ref a_t), some (vI v1), some (vI v2), some (vI v3), some (vI v4), none, none] [] := by
    have hs := hm
    exact g_X11_alongOf_0 ao ok_t_ways ok_v1 ok_v2 ok_v3 ok_v4 hs
  rw [FA_id hf] at hg
  exact Ct_of [some (.ref a_t), some (vI v1), some (vI v2), some (vI v3), some (vI v4), none, none] ⟨by decide +kernel, rfl⟩ rfl (Nat.le_of_ble_eq_true rfl) hg

/-! ===== X11_pulledOn ===== -/
theorem e_X11_pulledOn_0 : DC cX11_pulledOn 0 (.aload_n 0) 1 1 := ⟨by decide +kernel, rfl⟩
theorem e_X11_pulledOn_1 : DC cX11_pulledOn 1 (.iload_n 1) 1 2 := ⟨by decide +kernel, rfl⟩
theorem e_X11_pulledOn_2 : DC cX11_pulledOn 2 (.iload_n 2) 1 3 := ⟨by decide +kernel, rfl⟩
theorem e_X11_pulledOn_3 : DC cX11_pulledOn 3 (.iload_n 3) 1 4 := ⟨by decide +kernel, rfl⟩
theorem e_X11_pulledOn_4 : DC cX11_pulledOn 4 (.iload 5) 2 6 := ⟨by decide +kernel, rfl⟩
theorem e_X11_pulledOn_6 : DC cX11_pulledOn 6 (.invokevirtual 417) 3 9 := ⟨by decide +kernel, rfl⟩
theorem e_X11_pulledOn_9 : DC cX11_pulledOn 9 (.lstore 6) 2 11 := ⟨by decide +kernel, rfl⟩
theorem e_X11_pulledOn_11 : DC cX11_pulledOn 11 (.iload_n 1) 1 12 := ⟨by decide +kernel, rfl⟩
theorem e_X11_pulledOn_12 : DC cX11_pulledOn 12 (.iload_n 2) 1 13 := ⟨by decide +kernel, rfl⟩
theorem e_X11_pulledOn_13 : DC cX11_pulledOn 13 (.iload_n 3) 1 14 := ⟨by decide +kernel, rfl⟩
theorem e_X11_pulledOn_14 : DC cX11_pulledOn 14 (.invokestatic 281) 3 17 := ⟨by decide +kernel, rfl⟩
theorem e_X11_pulledOn_17 : DC cX11_pulledOn 17 (.i2l) 1 18 := ⟨by decide +kernel, rfl⟩
theorem e_X11_pulledOn_18 : DC cX11_pulledOn 18 (.lstore 8) 2 20 := ⟨by decide +kernel, rfl⟩
theorem e_X11_pulledOn_20 : DC cX11_pulledOn 20 (.lload 8) 2 22 := ⟨by decide +kernel, rfl⟩
theorem e_X11_pulledOn_22 : DC cX11_pulledOn 22 (.lload 8) 2 24 := ⟨by decide +kernel, rfl⟩
theorem e_X11_pulledOn_24 : DC cX11_pulledOn 24 (.lmul) 1 25 := ⟨by decide +kernel, rfl⟩
theorem e_X11_pulledOn_25 : DC cX11_pulledOn 25 (.aload_n 0) 1 26 := ⟨by decide +kernel, rfl⟩
theorem e_X11_pulledOn_26 : DC cX11_pulledOn 26 (.getfield 145) 3 29 := ⟨by decide +kernel, rfl⟩
theorem e_X11_pulledOn_29 : DC cX11_pulledOn 29 (.bipush 6) 2 31 := ⟨by decide +kernel, rfl⟩
theorem e_X11_pulledOn_31 : DC cX11_pulledOn 31 (.iload 5) 2 33 := ⟨by decide +kernel, rfl⟩
theorem e_X11_pulledOn_33 : DC cX11_pulledOn 33 (.imul) 1 34 := ⟨by decide +kernel, rfl⟩
theorem e_X11_pulledOn_34 : DC cX11_pulledOn 34 (.iaload) 1 35 := ⟨by decide +kernel, rfl⟩
theorem e_X11_pulledOn_35 : DC cX11_pulledOn 35 (.aload_n 0) 1 36 := ⟨by decide +kernel, rfl⟩
theorem e_X11_pulledOn_36 : DC cX11_pulledOn 36 (.getfield 145) 3 39 := ⟨by decide +kernel, rfl⟩
theorem e_X11_pulledOn_39 : DC cX11_pulledOn 39 (.bipush 6) 2 41 := ⟨by decide +kernel, rfl⟩
theorem e_X11_pulledOn_41 : DC cX11_pulledOn 41 (.iload 5) 2 43 := ⟨by decide +kernel, rfl⟩
theorem e_X11_pulledOn_43 : DC cX11_pulledOn 43 (.imul) 1 44 := ⟨by decide +kernel, rfl⟩
theorem e_X11_pulledOn_44 : DC cX11_pulledOn 44 (.iconst 1) 1 45 := ⟨by decide +kernel, rfl⟩
theorem e_X11_pulledOn_45 : DC cX11_pulledOn 45 (.iadd) 1 46 := ⟨by decide +kernel, rfl⟩
theorem e_X11_pulledOn_46 : DC cX11_pulledOn 46 (.iaload) 1 47 := ⟨by decide +kernel, rfl⟩
theorem e_X11_pulledOn_47 : DC cX11_pulledOn 47 (.aload_n 0) 1 48 := ⟨by decide +kernel, rfl⟩
theorem e_X11_pulledOn_48 : DC cX11_pulledOn 48 (.getfield 145) 3 51 := ⟨by decide +kernel, rfl⟩
theorem e_X11_pulledOn_51 : DC cX11_pulledOn 51 (.bipush 6) 2 53 := ⟨by decide +kernel, rfl⟩
theorem e_X11_pulledOn_53 : DC cX11_pulledOn 53 (.iload 5) 2 55 := ⟨by decide +kernel, rfl⟩
theorem e_X11_pulledOn_55 : DC cX11_pulledOn 55 (.imul) 1 56 := ⟨by decide +kernel, rfl⟩
theorem e_X11_pulledOn_56 : DC cX11_pulledOn 56 (.iconst 2) 1 57 := ⟨by decide +kernel, rfl⟩
theorem e_X11_pulledOn_57 : DC cX11_pulledOn 57 (.iadd) 1 58 := ⟨by decide +kernel, rfl⟩
theorem e_X11_pulledOn_58 : DC cX11_pulledOn 58 (.iaload) 1 59 := ⟨by decide +kernel, rfl⟩
theorem e_X11_pulledOn_59 : DC cX11_pulledOn 59 (.invokestatic 281) 3 62 := ⟨by decide +kernel, rfl⟩
theorem e_X11_pulledOn_62 : DC cX11_pulledOn 62 (.i2l) 1 63 := ⟨by decide +kernel, rfl⟩
theorem e_X11_pulledOn_63 : DC cX11_pulledOn 63 (.lmul) 1 64 := ⟨by decide +kernel, rfl⟩
theorem e_X11_pulledOn_64 : DC cX11_pulledOn 64 (.aload_n 0) 1 65 := ⟨by decide +kernel, rfl⟩
theorem e_X11_pulledOn_65 : DC cX11_pulledOn 65 (.getfield 145) 3 68 := ⟨by decide +kernel, rfl⟩
theorem e_X11_pulledOn_68 : DC cX11_pulledOn 68 (.bipush 6) 2 70 := ⟨by decide +kernel, rfl⟩
theorem e_X11_pulledOn_70 : DC cX11_pulledOn 70 (.iload 5) 2 72 := ⟨by decide +kernel, rfl⟩
theorem e_X11_pulledOn_72 : DC cX11_pulledOn 72 (.imul) 1 73 := ⟨by decide +kernel, rfl⟩
theorem e_X11_pulledOn_73 : DC cX11_pulledOn 73 (.iconst 3) 1 74 := ⟨by decide +kernel, rfl⟩
theorem e_X11_pulledOn_74 : DC cX11_pulledOn 74 (.iadd) 1 75 := ⟨by decide +kernel, rfl⟩
theorem e_X11_pulledOn_75 : DC cX11_pulledOn 75 (.iaload) 1 76 := ⟨by decide +kernel, rfl⟩
theorem e_X11_pulledOn_76 : DC cX11_pulledOn 76 (.aload_n 0) 1 77 := ⟨by decide +kernel, rfl⟩
theorem e_X11_pulledOn_77 : DC cX11_pulledOn 77 (.getfield 145) 3 80 := ⟨by decide +kernel, rfl⟩
theorem e_X11_pulledOn_80 : DC cX11_pulledOn 80 (.bipush 6) 2 82 := ⟨by decide +kernel, rfl⟩
theorem e_X11_pulledOn_82 : DC cX11_pulledOn 82 (.iload 5) 2 84 := ⟨by decide +kernel, rfl⟩
theorem e_X11_pulledOn_84 : DC cX11_pulledOn 84 (.imul) 1 85 := ⟨by decide +kernel, rfl⟩
theorem e_X11_pulledOn_85 : DC cX11_pulledOn 85 (.iconst 4) 1 86 := ⟨by decide +kernel, rfl⟩
theorem e_X11_pulledOn_86 : DC cX11_pulledOn 86 (.iadd) 1 87 := ⟨by decide +kernel, rfl⟩
theorem e_X11_pulledOn_87 : DC cX11_pulledOn 87 (.iaload) 1 88 := ⟨by decide +kernel, rfl⟩
theorem e_X11_pulledOn_88 : DC cX11_pulledOn 88 (.aload_n 0) 1 89 := ⟨by decide +kernel, rfl⟩
theorem e_X11_pulledOn_89 : DC cX11_pulledOn 89 (.getfield 145) 3 92 := ⟨by decide +kernel, rfl⟩
theorem e_X11_pulledOn_92 : DC cX11_pulledOn 92 (.bipush 6) 2 94 := ⟨by decide +kernel, rfl⟩
theorem e_X11_pulledOn_94 : DC cX11_pulledOn 94 (.iload 5) 2 96 := ⟨by decide +kernel, rfl⟩
theorem e_X11_pulledOn_96 : DC cX11_pulledOn 96 (.imul) 1 97 := ⟨by decide +kernel, rfl⟩
theorem e_X11_pulledOn_97 : DC cX11_pulledOn 97 (.iconst 5) 1 98 := ⟨by decide +kernel, rfl⟩
theorem e_X11_pulledOn_98 : DC cX11_pulledOn 98 (.iadd) 1 99 := ⟨by decide +kernel, rfl⟩
theorem e_X11_pulledOn_99 : DC cX11_pulledOn 99 (.iaload) 1 100 := ⟨by decide +kernel, rfl⟩
theorem e_X11_pulledOn_100 : DC cX11_pulledOn 100 (.invokestatic 281) 3 103 := ⟨by decide +kernel, rfl⟩
theorem e_X11_pulledOn_103 : DC cX11_pulledOn 103 (.i2l) 1 104 := ⟨by decide +kernel, rfl⟩
theorem e_X11_pulledOn_104 : DC cX11_pulledOn 104 (.lmul) 1 105 := ⟨by decide +kernel, rfl⟩
theorem e_X11_pulledOn_105 : DC cX11_pulledOn 105 (.lstore 10) 2 107 := ⟨by decide +kernel, rfl⟩
theorem e_X11_pulledOn_107 : DC cX11_pulledOn 107 (.iload 4) 2 109 := ⟨by decide +kernel, rfl⟩
theorem e_X11_pulledOn_109 : DC cX11_pulledOn 109 (.i2l) 1 110 := ⟨by decide +kernel, rfl⟩
theorem e_X11_pulledOn_110 : DC cX11_pulledOn 110 (.iload 4) 2 112 := ⟨by decide +kernel, rfl⟩
theorem e_X11_pulledOn_112 : DC cX11_pulledOn 112 (.i2l) 1 113 := ⟨by decide +kernel, rfl⟩
theorem e_X11_pulledOn_113 : DC cX11_pulledOn 113 (.lmul) 1 114 := ⟨by decide +kernel, rfl⟩
theorem e_X11_pulledOn_114 : DC cX11_pulledOn 114 (.lload 6) 2 116 := ⟨by decide +kernel, rfl⟩
theorem e_X11_pulledOn_116 : DC cX11_pulledOn 116 (.lmul) 1 117 := ⟨by decide +kernel, rfl⟩
theorem e_X11_pulledOn_117 : DC cX11_pulledOn 117 (.lload 6) 2 119 := ⟨by decide +kernel, rfl⟩
theorem e_X11_pulledOn_119 : DC cX11_pulledOn 119 (.lmul) 1 120 := ⟨by decide +kernel, rfl⟩
theorem e_X11_pulledOn_120 : DC cX11_pulledOn 120 (.lstore 12) 2 122 := ⟨by decide +kernel, rfl⟩
theorem e_X11_pulledOn_122 : DC cX11_pulledOn 122 (.iconst 0) 1 123 := ⟨by decide +kernel, rfl⟩
theorem e_X11_pulledOn_123 : DC cX11_pulledOn 123 (.istore 14) 2 125 := ⟨by decide +kernel, rfl⟩
theorem e_X11_pulledOn_125 : DC cX11_pulledOn 125 (.sipush 9999) 3 128 := ⟨by decide +kernel, rfl⟩
theorem e_X11_pulledOn_128 : DC cX11_pulledOn 128 (.istore 15) 2 130 := ⟨by decide +kernel, rfl⟩
theorem e_X11_pulledOn_130 : DC cX11_pulledOn 130 (.iload 14) 2 132 := ⟨by decide +kernel, rfl⟩
theorem e_X11_pulledOn_132 : DC cX11_pulledOn 132 (.iload 15) 2 134 := ⟨by decide +kernel, rfl⟩
theorem e_X11_pulledOn_134 : DB cX11_pulledOn 134 (.if_icmp .ge 46) (46) 3 137 180 := ⟨by decide +kernel, rfl, rfl⟩
theorem e_X11_pulledOn_137 : DC cX11_pulledOn 137 (.iload 14) 2 139 := ⟨by decide +kernel, rfl⟩
theorem e_X11_pulledOn_139 : DC cX11_pulledOn 139 (.iload 15) 2 141 := ⟨by decide +kernel, rfl⟩
theorem e_X11_pulledOn_141 : DC cX11_pulledOn 141 (.iadd) 1 142 := ⟨by decide +kernel, rfl⟩
theorem e_X11_pulledOn_142 : DC cX11_pulledOn 142 (.iconst 1) 1 143 := ⟨by decide +kernel, rfl⟩
theorem e_X11_pulledOn_143 : DC cX11_pulledOn 143 (.iadd) 1 144 := ⟨by decide +kernel, rfl⟩
theorem e_X11_pulledOn_144 : DC cX11_pulledOn 144 (.iconst 2) 1 145 := ⟨by decide +kernel, rfl⟩
theorem e_X11_pulledOn_145 : DC cX11_pulledOn 145 (.idiv) 1 146 := ⟨by decide +kernel, rfl⟩
theorem e_X11_pulledOn_146 : DC cX11_pulledOn 146 (.istore 16) 2 148 := ⟨by decide +kernel, rfl⟩
theorem e_X11_pulledOn_148 : DC cX11_pulledOn 148 (.iload 16) 2 150 := ⟨by decide +kernel, rfl⟩
theorem e_X11_pulledOn_150 : DC cX11_pulledOn 150 (.i2l) 1 151 := ⟨by decide +kernel, rfl⟩
theorem e_X11_pulledOn_151 : DC cX11_pulledOn 151 (.iload 16) 2 153 := ⟨by decide +kernel, rfl⟩
theorem e_X11_pulledOn_153 : DC cX11_pulledOn 153 (.i2l) 1 154 := ⟨by decide +kernel, rfl⟩
theorem e_X11_pulledOn_154 : DC cX11_pulledOn 154 (.lmul) 1 155 := ⟨by decide +kernel, rfl⟩
theorem e_X11_pulledOn_155 : DC cX11_pulledOn 155 (.lload 10) 2 157 := ⟨by decide +kernel, rfl⟩
theorem e_X11_pulledOn_157 : DC cX11_pulledOn 157 (.lmul) 1 158 := ⟨by decide +kernel, rfl⟩
theorem e_X11_pulledOn_158 : DC cX11_pulledOn 158 (.lload 12) 2 160 := ⟨by decide +kernel, rfl⟩
theorem e_X11_pulledOn_160 : DC cX11_pulledOn 160 (.lcmp) 1 161 := ⟨by decide +kernel, rfl⟩
theorem e_X11_pulledOn_161 : DB cX11_pulledOn 161 (.ifCond .gt 10) (10) 3 164 171 := ⟨by decide +kernel, rfl, rfl⟩
theorem e_X11_pulledOn_164 : DC cX11_pulledOn 164 (.iload 16) 2 166 := ⟨by decide +kernel, rfl⟩
theorem e_X11_pulledOn_166 : DC cX11_pulledOn 166 (.istore 14) 2 168 := ⟨by decide +kernel, rfl⟩
theorem e_X11_pulledOn_168 : DB cX11_pulledOn 168 (.goto 9) (9) 3 171 177 := ⟨by decide +kernel, rfl, rfl⟩
theorem e_X11_pulledOn_171 : DC cX11_pulledOn 171 (.iload 16) 2 173 := ⟨by decide +kernel, rfl⟩
theorem e_X11_pulledOn_173 : DC cX11_pulledOn 173 (.iconst 1) 1 174 := ⟨by decide +kernel, rfl⟩
theorem e_X11_pulledOn_174 : DC cX11_pulledOn 174 (.isub) 1 175 := ⟨by decide +kernel, rfl⟩
theorem e_X11_pulledOn_175 : DC cX11_pulledOn 175 (.istore 15) 2 177 := ⟨by decide +kernel, rfl⟩
theorem e_X11_pulledOn_177 : DB cX11_pulledOn 177 (.goto (-47)) (-47) 3 180 130 := ⟨by decide +kernel, rfl, rfl⟩
theorem e_X11_pulledOn_180 : DC cX11_pulledOn 180 (.lload 6) 2 182 := ⟨by decide +kernel, rfl⟩
theorem e_X11_pulledOn_182 : DC cX11_pulledOn 182 (.lconst 0) 1 183 := ⟨by decide +kernel, rfl⟩
theorem e_X11_pulledOn_183 : DC cX11_pulledOn 183 (.lcmp) 1 184 := ⟨by decide +kernel, rfl⟩
theorem e_X11_pulledOn_184 : DB cX11_pulledOn 184 (.ifCond .ge 9) (9) 3 187 193 := ⟨by decide +kernel, rfl, rfl⟩
theorem e_X11_pulledOn_187 : DC cX11_pulledOn 187 (.iload 14) 2 189 := ⟨by decide +kernel, rfl⟩
theorem e_X11_pulledOn_189 : DC cX11_pulledOn 189 (.ineg) 1 190 := ⟨by decide +kernel, rfl⟩
theorem e_X11_pulledOn_190 : DB cX11_pulledOn 190 (.goto 5) (5) 3 193 195 := ⟨by decide +kernel, rfl, rfl⟩
theorem e_X11_pulledOn_193 : DC cX11_pulledOn 193 (.iload 14) 2 195 := ⟨by decide +kernel, rfl⟩
theorem e_X11_pulledOn_195 : DC cX11_pulledOn 195 (.ireturn) 1 196 := ⟨by decide +kernel, rfl⟩
noncomputable def m_X11_pulledOn_177 (v10 : Int) (v12 : Int) (v14 : Int) (v15 : Int) (ag : Int → Int → Option (Int)) (k_180 : Int → Int → Option (Int)) : Option (Int) :=
  ag v14 v15

set_option maxRecDepth 10000 in
set_option maxHeartbeats 8000000 in
theorem g_X11_pulledOn_177 {l : Launch} {E : EE} {b0 n : Nat} {h : AH} {a_t : Nat} {t_thrown t_taped t_p t_fault t_baseLow t_baseHigh t_newBaseLow t_newBaseHigh t_from t_knots t_lines t_chosen t_undos t_redos t_aimedMany t_fits t_fitOf t_sights t_systems t_own t_cross t_curveLong t_wallFirst v6 v10 v12 v14 v15 : Int} {t_ways : Nat → Int} {r : Int} {ag : Int → Int → Option (Int)} {k_180 : Int → Int → Option (Int)} (ao : AO b0 n [a_t, (a_t + 45)]) (ok_t_ways : okA t_ways) (ok_v6 : inJ v6) (ok_v10 : inJ v10) (ok_v12 : inJ v12) (ok_v14 : inI v14) (ok_v15 : inI v15) (hag : ∀ (v14_ : Int) (v15_ : Int), inI v14_ → inI v15_ → ag v14_ v15_ = some r → G l E b0 M_X11_pulledOn (fun _ => True) (ZM E b0 (some (vI r)) (ov [a_t, (a_t + 45)] [.inr (11, fsX11 a_t t_thrown t_taped t_p t_fault t_baseLow t_baseHigh t_newBaseLow t_newBaseHigh t_from t_knots t_lines t_chosen t_undos t_redos t_aimedMany t_fits t_fitOf t_sights t_systems t_own t_cross t_curveLong t_wallFirst), IA E 48 t_ways] h) n (inI r) 0 0) 0 0 n (ov [a_t, (a_t + 45)] [.inr (11, fsX11 a_t t_thrown t_taped t_p t_fault t_baseLow t_baseHigh t_newBaseLow t_newBaseHigh t_from t_knots t_lines t_chosen t_undos t_redos t_aimedMany t_fits t_fitOf t_sights t_systems t_own t_cross t_curveLong t_wallFirst), IA E 48 t_ways] h) 130 [none, none, none, none, none, none, some (vJ v6), none, none, none, some (vJ v10), none, some (vJ v12), none, some (vI v14_), some (vI v15_), none] []) (hk_180 : ∀ (v14_ : Int) (v15_ : Int), inI v14_ → inI v15_ → k_180 v14_ v15_ = some r → G l E b0 M_X11_pulledOn (fun _ => True) (ZM E b0 (some (vI r)) (ov [a_t, (a_t + 45)] [.inr (11, fsX11 a_t t_thrown t_taped t_p t_fault t_baseLow t_baseHigh t_newBaseLow t_newBaseHigh t_from t_knots t_lines t_chosen t_undos t_redos t_aimedMany t_fits t_fitOf t_sights t_systems t_own t_cross t_curveLong t_wallFirst), IA E 48 t_ways] h) n (inI r) 0 0) 0 0 n (ov [a_t, (a_t + 45)] [.inr (11, fsX11 a_t t_thrown t_taped t_p t_fault t_baseLow t_baseHigh t_newBaseLow t_newBaseHigh t_from t_knots t_lines t_chosen t_undos t_redos t_aimedMany t_fits t_fitOf t_sights t_systems t_own t_cross t_curveLong t_wallFirst), IA E 48 t_ways] h) 180 [none, none, none, none, none, none, some (vJ v6), none, none, none, none, none, none, none, some (vI v14_), none, none] []) (hs : m_X11_pulledOn_177 v10 v12 v14 v15 ag k_180 = some r) : G l E b0 M_X11_pulledOn (fun _ => True) (ZM E b0 (some (vI r)) (ov [a_t, (a_t + 45)] [.inr (11, fsX11 a_t t_thrown t_taped t_p t_fault t_baseLow t_baseHigh t_newBaseLow t_newBaseHigh t_from t_knots t_lines t_chosen t_undos t_redos t_aimedMany t_fits t_fitOf t_sights t_systems t_own t_cross t_curveLong t_wallFirst), IA E 48 t_ways] h) n (inI r) 0 0) 0 0 n (ov [a_t, (a_t + 45)] [.inr (11, fsX11 a_t t_thrown t_taped t_p t_fault t_baseLow t_baseHigh t_newBaseLow t_newBaseHigh t_from t_knots t_lines t_chosen t_undos t_redos t_aimedMany t_fits t_fitOf t_sights t_systems t_own t_cross t_curveLong t_wallFirst), IA E 48 t_ways] h) 177 [none, none, none, none, none, none, some (vJ v6), none, none, none, some (vJ v10), none, some (vJ v12), none, some (vI v14), some (vI v15), none] [] := by
  rw [m_X11_pulledOn_177] at hs
  refine g_goto e_X11_pulledOn_177 ?_
  exact hag _ _ ok_v14 ok_v15 hs

noncomputable def m_X11_pulledOn_130 (v10 : Int) (v12 : Int) (k_180 : Int → Int → Option (Int)) : Nat → Int → Int → Option (Int)
  | 0, _, _ => none
  | F + 1, v14, v15 => if v15 ≤ v14 then (k_180 v14 v15) else (chk (inI ((v14 + v15) + 1)) (chk (2 ≠ 0) (chk (inI (Int.tdiv ((v14 + v15) + 1) 2)) (chk (inJ (((Int.tdiv ((v14 + v15) + 1) 2) * (Int.tdiv ((v14 + v15) + 1) 2)) * v10)) (if v12 < (((Int.tdiv ((v14 + v15) + 1) 2) * (Int.tdiv ((v14 + v15) + 1) 2)) * v10) then (chk (inI ((Int.tdiv ((v14 + v15) + 1) 2) - 1)) (m_X11_pulledOn_177 v10 v12 v14 ((Int.tdiv ((v14 + v15) + 1) 2) - 1) (m_X11_pulledOn_130 v10 v12 k_180 F) k_180)) else (m_X11_pulledOn_177 v10 v12 (Int.tdiv ((v14 + v15) + 1) 2) v15 (m_X11_pulledOn_130 v10 v12 k_180 F) k_180))))))

set_option maxRecDepth 10000 in
set_option maxHeartbeats 8000000 in
theorem g_X11_pulledOn_130 {l : Launch} {E : EE} {b0 n : Nat} {h : AH} {a_t : Nat} {t_thrown t_taped t_p t_fault t_baseLow t_baseHigh t_newBaseLow t_newBaseHigh t_from t_knots t_lines t_chosen t_undos t_redos t_aimedMany t_fits t_fitOf t_sights t_systems t_own t_cross t_curveLong t_wallFirst v6 v10 v12 : Int} {t_ways : Nat → Int} {r : Int} {k_180 : Int → Int → Option (Int)} (ao : AO b0 n [a_t, (a_t + 45)]) (ok_t_ways : okA t_ways) (ok_v6 : inJ v6) (ok_v10 : inJ v10) (ok_v12 : inJ v12) (hk_180 : ∀ (v14_ : Int) (v15_ : Int), inI v14_ → inI v15_ → k_180 v14_ v15_ = some r → G l E b0 M_X11_pulledOn (fun _ => True) (ZM E b0 (some (vI r)) (ov [a_t, (a_t + 45)] [.inr (11, fsX11 a_t t_thrown t_taped t_p t_fault t_baseLow t_baseHigh t_newBaseLow t_newBaseHigh t_from t_knots t_lines t_chosen t_undos t_redos t_aimedMany t_fits t_fitOf t_sights t_systems t_own t_cross t_curveLong t_wallFirst), IA E 48 t_ways] h) n (inI r) 0 0) 0 0 n (ov [a_t, (a_t + 45)] [.inr (11, fsX11 a_t t_thrown t_taped t_p t_fault t_baseLow t_baseHigh t_newBaseLow t_newBaseHigh t_from t_knots t_lines t_chosen t_undos t_redos t_aimedMany t_fits t_fitOf t_sights t_systems t_own t_cross t_curveLong t_wallFirst), IA E 48 t_ways] h) 180 [none, none, none, none, none, none, some (vJ v6), none, none, none, none, none, none, none, some (vI v14_), none, none] []) :
    ∀ (F : Nat) (v14 : Int) (v15 : Int), inI v14 → inI v15 → m_X11_pulledOn_130 v10 v12 k_180 F v14 v15 = some r → G l E b0 M_X11_pulledOn (fun _ => True) (ZM E b0 (some (vI r)) (ov [a_t, (a_t + 45)] [.inr (11, fsX11 a_t t_thrown t_taped t_p t_fault t_baseLow t_baseHigh t_newBaseLow t_newBaseHigh t_from t_knots t_lines t_chosen t_undos t_redos t_aimedMany t_fits t_fitOf t_sights t_systems t_own t_cross t_curveLong t_wallFirst), IA E 48 t_ways] h) n (inI r) 0 0) 0 0 n (ov [a_t, (a_t + 45)] [.inr (11, fsX11 a_t t_thrown t_taped t_p t_fault t_baseLow t_baseHigh t_newBaseLow t_newBaseHigh t_from t_knots t_lines t_chosen t_undos t_redos t_aimedMany t_fits t_fitOf t_sights t_systems t_own t_cross t_curveLong t_wallFirst), IA E 48 t_ways] h) 130 [none, none, none, none, none, none, some (vJ v6), none, none, none, some (vJ v10), none, some (vJ v12), none, some (vI v14), some (vI v15), none] [] := by
  intro F
  induction F with
  | zero =>
    intro v14 v15 ok_v14 ok_v15 hs
    rw [m_X11_pulledOn_130] at hs
    cases hs
  | succ F ih =>
    intro v14 v15 ok_v14 ok_v15 hs
    rw [m_X11_pulledOn_130] at hs
    refine g_iload e_X11_pulledOn_130 rfl ?_
    refine g_iload e_X11_pulledOn_132 rfl ?_
    refine g_icmp_ge e_X11_pulledOn_134 ok_v14 ok_v15 hs (fun c134 hs => ?_) (fun c134 hs => ?_)
    · exact g_mask [true, true, true, true, true, true, true, true, true, true, false, true, false, true, true, false, true] (hk_180 _ _ ok_v14 ok_v15 hs)
    · refine g_iload e_X11_pulledOn_137 rfl ?_
      refine g_iload e_X11_pulledOn_139 rfl ?_
      refine g_iadd e_X11_pulledOn_141 ?_
      refine g_iconst e_X11_pulledOn_142 ?_
      refine g_iadd e_X11_pulledOn_143 ?_
      refine g_iconst e_X11_pulledOn_144 ?_
      obtain ⟨hc11, hs⟩ := chk_elim hs
      refine g_idiv e_X11_pulledOn_145 hc11 (by decide : inI 2) hs (fun hs => ?_)
      refine g_istore e_X11_pulledOn_146 st1_16 rfl ?_
      refine g_iload e_X11_pulledOn_148 rfl ?_
      obtain ⟨hc12, hs⟩ := chk_elim hs
      refine g_i2l e_X11_pulledOn_150 hc12 ?_
      refine g_iload e_X11_pulledOn_151 rfl ?_
      refine g_i2l e_X11_pulledOn_153 hc12 ?_
      refine g_lmul e_X11_pulledOn_154 ?_
      refine g_lload e_X11_pulledOn_155 rfl ?_
      refine g_lmul e_X11_pulledOn_157 ?_
      refine g_lload e_X11_pulledOn_158 rfl ?_
      obtain ⟨hc13, hs⟩ := chk_elim hs
      refine g_lcmp_gt e_X11_pulledOn_160 e_X11_pulledOn_161 hc13 ok_v12 hs (fun c160 hs => ?_) (fun c160 hs => ?_)
      · refine g_iload e_X11_pulledOn_171 rfl ?_
        refine g_iconst e_X11_pulledOn_173 ?_
        refine g_isub e_X11_pulledOn_174 ?_
        refine g_istore e_X11_pulledOn_175 st1_15 rfl ?_
        obtain ⟨hc14, hs⟩ := chk_elim hs
        exact g_mask [true, true, true, true, true, true, true, true, true, true, true, true, true, true, true, true, false] (g_X11_pulledOn_177 ao ok_t_ways ok_v6 ok_v10 ok_v12 ok_v14 hc14 ih hk_180 hs)
      · refine g_iload e_X11_pulledOn_164 rfl ?_
        refine g_istore e_X11_pulledOn_166 st1_14 rfl ?_
        refine g_goto e_X11_pulledOn_168 ?_
        exact g_mask [true, true, true, true, true, true, true, true, true, true, true, true, true, true, true, true, false] (g_X11_pulledOn_177 ao ok_t_ways ok_v6 ok_v10 ok_v12 hc12 ok_v15 ih hk_180 hs)

noncomputable def m_X11_pulledOn_180 (v6 : Int) (v14 : Int) : Option (Int) :=
  if 0 ≤ v6 then (some (v14)) else (chk (inI (-v14)) (some (-v14)))

set_option maxRecDepth 10000 in
set_option maxHeartbeats 8000000 in
theorem g_X11_pulledOn_180 {l : Launch} {E : EE} {b0 n : Nat} {h : AH} {a_t : Nat} {t_thrown t_taped t_p t_fault t_baseLow t_baseHigh t_newBaseLow t_newBaseHigh t_from t_knots t_lines t_chosen t_undos t_redos t_aimedMany t_fits t_fitOf t_sights t_systems t_own t_cross t_curveLong t_wallFirst v6 v14 : Int} {t_ways : Nat → Int} {r : Int} (ao : AO b0 n [a_t, (a_t + 45)]) (ok_t_ways : okA t_ways) (ok_v6 : inJ v6) (ok_v14 : inI v14) (hs : m_X11_pulledOn_180 v6 v14 = some r) : G l E b0 M_X11_pulledOn (fun _ => True) (ZM E b0 (some (vI r)) (ov [a_t, (a_t + 45)] [.inr (11, fsX11 a_t t_thrown t_taped t_p t_fault t_baseLow t_baseHigh t_newBaseLow t_newBaseHigh t_from t_knots t_lines t_chosen t_undos t_redos t_aimedMany t_fits t_fitOf t_sights t_systems t_own t_cross t_curveLong t_wallFirst), IA E 48 t_ways] h) n (inI r) 0 0) 0 0 n (ov [a_t, (a_t + 45)] [.inr (11, fsX11 a_t t_thrown t_taped t_p t_fault t_baseLow t_baseHigh t_newBaseLow t_newBaseHigh t_from t_knots t_lines t_chosen t_undos t_redos t_aimedMany t_fits t_fitOf t_sights t_systems t_own t_cross t_curveLong t_wallFirst), IA E 48 t_ways] h) 180 [none, none, none, none, none, none, some (vJ v6), none, none, none, none, none, none, none, some (vI v14), none, none] [] := by
  rw [m_X11_pulledOn_180] at hs
  refine g_lload e_X11_pulledOn_180 rfl ?_
  refine g_lconst (a := 0) e_X11_pulledOn_182 rfl ?_
  refine g_lcmp_ge e_X11_pulledOn_183 e_X11_pulledOn_184 ok_v6 (by decide : inJ 0) hs (fun c183 hs => ?_) (fun c183 hs => ?_)
  · refine g_iload e_X11_pulledOn_193 rfl ?_
    obtain rfl := Option.some.inj hs
    exact g_iret rfl ok_v14 e_X11_pulledOn_195
  · refine g_iload e_X11_pulledOn_187 rfl ?_
    refine g_ineg e_X11_pulledOn_189 ?_
    refine g_goto e_X11_pulledOn_190 ?_
    obtain ⟨hc17, hs⟩ := chk_elim hs
    obtain rfl := Option.some.inj hs
    exact g_iret rfl hc17 e_X11_pulledOn_195

noncomputable def m_X11_pulledOn_0 (t_ways : Nat → Int) (v1 : Int) (v2 : Int) (v3 : Int) (v4 : Int) (v5 : Int) : Option (Int) :=
  (m_X11_alongOf t_ways v1 v2 v3 v5).bind (fun y1 => (m_X11_square v1 v2 v3).bind (fun y2 => chk (inB (6 * v5) 48) (chk (inB ((6 * v5) + 1) 48) (chk (inB ((6 * v5) + 2) 48) ((m_X11_square (t_ways (Int.toNat (6 * v5))) (t_ways (Int.toNat ((6 * v5) + 1))) (t_ways (Int.toNat ((6 * v5) + 2)))).bind (fun y6 => chk (inB ((6 * v5) + 3) 48) (chk (inB ((6 * v5) + 4) 48) (chk (inB ((6 * v5) + 5) 48) ((m_X11_square (t_ways (Int.toNat ((6 * v5) + 3))) (t_ways (Int.toNat ((6 * v5) + 4))) (t_ways (Int.toNat ((6 * v5) + 5)))).bind (fun y10 => chk (inJ (((y2 * y2) * y6) * y10)) (chk (inJ (((v4 * v4) * y1) * y1)) (m_X11_pulledOn_130 (((y2 * y2) * y6) * y10) (((v4 * v4) * y1) * y1) (fun v14' v15' => m_X11_pulledOn_180 y1 v14') FU 0 9999))))))))))))

set_option maxRecDepth 10000 in
set_option maxHeartbeats 8000000 in
theorem g_X11_pulledOn_0 {l : Launch} {E : EE} {b0 n : Nat} {h : AH} {a_t : Nat} {t_thrown t_taped t_p t_fault t_baseLow t_baseHigh t_newBaseLow t_newBaseHigh t_from t_knots t_lines t_chosen t_undos t_redos t_aimedMany t_fits t_fitOf t_sights t_systems t_own t_cross t_curveLong t_wallFirst v1 v2 v3 v4 v5 : Int} {t_ways : Nat → Int} {r : Int} (ao : AO b0 n [a_t, (a_t + 45)]) (ok_t_ways : okA t_ways) (ok_v1 : inI v1) (ok_v2 : inI v2) (ok_v3 : inI v3) (ok_v4 : inI v4) (ok_v5 : inI v5) (hs : m_X11_pulledOn_0 t_ways v1 v2 v3 v4 v5 = some r) : G l E b0 M_X11_pulledOn (fun _ => True) (ZM E b0 (some (vI r)) (ov [a_t, (a_t + 45)] [.inr (11, fsX11 a_t t_thrown t_taped t_p t_fault t_baseLow t_baseHigh t_newBaseLow t_newBaseHigh t_from t_knots t_lines t_chosen t_undos t_redos t_aimedMany t_fits t_fitOf t_sights t_systems t_own t_cross t_curveLong t_wallFirst), IA E 48 t_ways] h) n (inI r) 0 0) 0 0 n (ov [a_t, (a_t + 45)] [.inr (11, fsX11 a_t t_thrown t_taped t_p t_fault t_baseLow t_baseHigh t_newBaseLow t_newBaseHigh t_from t_knots t_lines t_chosen t_undos t_redos t_aimedMany t_fits t_fitOf t_sights t_systems t_own t_cross t_curveLong t_wallFirst), IA E 48 t_ways] h) 0 [some (.ref a_t), some (vI v1), some (vI v2), some (vI v3), some (vI v4), some (vI v5), none, none, none, none, none, none, none, none, none, none, none] [] := by
  rw [m_X11_pulledOn_0] at hs
  refine g_aload_n e_X11_pulledOn_0 rfl ?_
  refine g_iload_n e_X11_pulledOn_1 rfl ?_
  refine g_iload_n e_X11_pulledOn_2 rfl ?_
  refine g_iload_n e_X11_pulledOn_3 rfl ?_
  refine g_iload e_X11_pulledOn_4 rfl ?_
  obtain ⟨y1, hy1, hs⟩ := bind_elim hs
  refine g_callVr [vI v1, vI v2, vI v3, vI v5] cv_X11_417 ⟨rfl, rfl, Nat.le_of_ble_eq_true rfl, Nat.le_of_ble_eq_true rfl⟩ (ct_X11_alongOf (a_t := a_t) (AO_call [0, 1] ao (by decide) rfl) (FA_call [0, 1] ao.1 rfl rfl) ok_t_ways ok_v1 ok_v2 ok_v3 ok_v5 hy1) e_X11_pulledOn_6 (ao.2 0 _ rfl) (ov_get 0 ao.1 rfl rfl) rfl rfl rfl (Nat.le_of_ble_eq_true rfl) ⟨Nat.le_refl _, Nat.le_refl _⟩ (fun Py1 => ?_)
  refine g_lstore e_X11_pulledOn_9 st2_6 rfl ?_
  refine g_iload_n e_X11_pulledOn_11 rfl ?_
  refine g_iload_n e_X11_pulledOn_12 rfl ?_
  refine g_iload_n e_X11_pulledOn_13 rfl ?_
  obtain ⟨y2, hy2, hs⟩ := bind_elim hs
  refine g_callSr [vI v1, vI v2, vI v3] cs_X11_281 ⟨rfl, rfl, Nat.le_of_ble_eq_true rfl, Nat.le_of_ble_eq_true rfl⟩ (ct_X11_square ⟨List.nodup_nil, fun i a h => by simp at h⟩ (fun i a e h => by simp at h) ok_v1 ok_v2 ok_v3 hy2) e_X11_pulledOn_14 rfl rfl (Nat.le_of_ble_eq_true rfl) ⟨Nat.le_refl _, Nat.le_refl _⟩ (fun Py2 => ?_)
  refine g_i2l e_X11_pulledOn_17 Py2 ?_
  refine g_lstore e_X11_pulledOn_18 st2_8 rfl ?_
  refine g_lload e_X11_pulledOn_20 rfl ?_
  refine g_lload e_X11_pulledOn_22 rfl ?_
  refine g_lmul e_X11_pulledOn_24 ?_
  refine g_aload_n e_X11_pulledOn_25 rfl ?_
  refine g_get 0 65 ao rfl rfl fsX11_g65 fl_X11_145 e_X11_pulledOn_26 ?_
  refine g_bipush e_X11_pulledOn_29 bp_6 ?_
  refine g_iload e_X11_pulledOn_31 rfl ?_
  refine g_imul e_X11_pulledOn_33 ?_
  refine g_iald 1 ao rfl rfl (Nat.le_of_ble_eq_true rfl) e_X11_pulledOn_34 hs (fun hi3 hs => ?_)
  refine g_aload_n e_X11_pulledOn_35 rfl ?_
  refine g_get 0 65 ao rfl rfl fsX11_g65 fl_X11_145 e_X11_pulledOn_36 ?_
  refine g_bipush e_X11_pulledOn_39 bp_6 ?_
  refine g_iload e_X11_pulledOn_41 rfl ?_
  refine g_imul e_X11_pulledOn_43 ?_
  refine g_iconst e_X11_pulledOn_44 ?_
  refine g_iadd e_X11_pulledOn_45 ?_
  refine g_iald 1 ao rfl rfl (Nat.le_of_ble_eq_true rfl) e_X11_pulledOn_46 hs (fun hi4 hs => ?_)
  refine g_aload_n e_X11_pulledOn_47 rfl ?_
  refine g_get 0 65 ao rfl rfl fsX11_g65 fl_X11_145 e_X11_pulledOn_48 ?_
  refine g_bipush e_X11_pulledOn_51 bp_6 ?_
  refine g_iload e_X11_pulledOn_53 rfl ?_
  refine g_imul e_X11_pulledOn_55 ?_
  refine g_iconst e_X11_pulledOn_56 ?_
  refine g_iadd e_X11_pulledOn_57 ?_
  refine g_iald 1 ao rfl rfl (Nat.le_of_ble_eq_true rfl) e_X11_pulledOn_58 hs (fun hi5 hs => ?_)
  obtain ⟨y6, hy6, hs⟩ := bind_elim hs
  refine g_callSr [vI (t_ways (Int.toNat (6 * v5))), vI (t_ways (Int.toNat ((6 * v5) + 1))), vI (t_ways (Int.toNat ((6 * v5) + 2)))] cs_X11_281 ⟨rfl, rfl, Nat.le_of_ble_eq_true rfl, Nat.le_of_ble_eq_true rfl⟩ (ct_X11_square ⟨List.nodup_nil, fun i a h => by simp at h⟩ (fun i a e h => by simp at h) (ok_t_ways _) (ok_t_ways _) (ok_t_ways _) hy6) e_X11_pulledOn_59 rfl rfl (Nat.le_of_ble_eq_true rfl) ⟨Nat.le_refl _, Nat.le_refl _⟩ (fun Py6 => ?_)
  refine g_i2l e_X11_pulledOn_62 Py6 ?_
  refine g_lmul e_X11_pulledOn_63 ?_
  refine g_aload_n e_X11_pulledOn_64 rfl ?_
  refine g_get 0 65 ao rfl rfl fsX11_g65 fl_X11_145 e_X11_pulledOn_65 ?_
  refine g_bipush e_X11_pulledOn_68 bp_6 ?_
  refine g_iload e_X11_pulledOn_70 rfl ?_
  refine g_imul e_X11_pulledOn_72 ?_
  refine g_iconst e_X11_pulledOn_73 ?_
  refine g_iadd e_X11_pulledOn_74 ?_
  refine g_iald 1 ao rfl rfl (Nat.le_of_ble_eq_true rfl) e_X11_pulledOn_75 hs (fun hi7 hs => ?_)
  refine g_aload_n e_X11_pulledOn_76 rfl ?_
  refine g_get 0 65 ao rfl rfl fsX11_g65 fl_X11_145 e_X11_pulledOn_77 ?_
  refine g_bipush e_X11_pulledOn_80 bp_6 ?_
  refine g_iload e_X11_pulledOn_82 rfl ?_
  refine g_imul e_X11_pulledOn_84 ?_
  refine g_iconst e_X11_pulledOn_85 ?_
  refine g_iadd e_X11_pulledOn_86 ?_
  refine g_iald 1 ao rfl rfl (Nat.le_of_ble_eq_true rfl) e_X11_pulledOn_87 hs (fun hi8 hs => ?_)
  refine g_aload_n e_X11_pulledOn_88 rfl ?_
  refine g_get 0 65 ao rfl rfl fsX11_g65 fl_X11_145 e_X11_pulledOn_89 ?_
  refine g_bipush e_X11_pulledOn_92 bp_6 ?_
  refine g_iload e_X11_pulledOn_94 rfl ?_
  refine g_imul e_X11_pulledOn_96 ?_
  refine g_iconst e_X11_pulledOn_97 ?_
  refine g_iadd e_X11_pulledOn_98 ?_
  refine g_iald 1 ao rfl rfl (Nat.le_of_ble_eq_true rfl) e_X11_pulledOn_99 hs (fun hi9 hs => ?_)
  obtain ⟨y10, hy10, hs⟩ := bind_elim hs
  refine g_callSr [vI (t_ways (Int.toNat ((6 * v5) + 3))), vI (t_ways (Int.toNat ((6 * v5) + 4))), vI (t_ways (Int.toNat ((6 * v5) + 5)))] cs_X11_281 ⟨rfl, rfl, Nat.le_of_ble_eq_true rfl, Nat.le_of_ble_eq_true rfl⟩ (ct_X11_square ⟨List.nodup_nil, fun i a h => by simp at h⟩ (fun i a e h => by simp at h) (ok_t_ways _) (ok_t_ways _) (ok_t_ways _) hy10) e_X11_pulledOn_100 rfl rfl (Nat.le_of_ble_eq_true rfl) ⟨Nat.le_refl _, Nat.le_refl _⟩ (fun Py10 => ?_)
  refine g_i2l e_X11_pulledOn_103 Py10 ?_
  refine g_lmul e_X11_pulledOn_104 ?_
  refine g_lstore e_X11_pulledOn_105 st2_10 rfl ?_
  refine g_iload e_X11_pulledOn_107 rfl ?_
  refine g_i2l e_X11_pulledOn_109 ok_v4 ?_
  refine g_iload e_X11_pulledOn_110 rfl ?_
  refine g_i2l e_X11_pulledOn_112 ok_v4 ?_
  refine g_lmul e_X11_pulledOn_113 ?_
  refine g_lload e_X11_pulledOn_114 rfl ?_
  refine g_lmul e_X11_pulledOn_116 ?_
  refine g_lload e_X11_pulledOn_117 rfl ?_
  refine g_lmul e_X11_pulledOn_119 ?_
  refine g_lstore e_X11_pulledOn_120 st2_12 rfl ?_
  refine g_iconst e_X11_pulledOn_122 ?_
  refine g_istore e_X11_pulledOn_123 st1_14 rfl ?_
  refine g_sipush e_X11_pulledOn_125 sp_9999 ?_
  refine g_istore e_X11_pulledOn_128 st1_15 rfl ?_
  obtain ⟨hc15, hs⟩ := chk_elim hs
  obtain ⟨hc16, hs⟩ := chk_elim hs
  exact g_mask [false, false, false, false, false, false, true, true, false, true, true, true, true, true, true, true, true] (g_X11_pulledOn_130 ao ok_t_ways Py1 hc15 hc16 (hk_180 := by
      intro v14' v15' ok_v14' ok_v15' hs
      exact g_X11_pulledOn_180 ao ok_t_ways Py1 ok_v14' hs) FU _ _ (by decide : inI 0) (by decide : inI 9999) hs)

noncomputable def m_X11_pulledOn (t_ways : Nat → Int) (v1 : Int) (v2 : Int) (v3 : Int) (v4 : Int) (v5 : Int) : Option (Int) := m_X11_pulledOn_0 t_ways v1 v2 v3 v4 v5

set_option maxRecDepth 10000 in
set_option maxHeartbeats 8000000 in
theorem ct_X11_pulledOn {l : Launch} {E : EE} {b0 n : Nat} {h : AH} {a_t : Nat} {t_thrown t_taped t_p t_fault t_baseLow t_baseHigh t_newBaseLow t_newBaseHigh t_from t_knots t_lines t_chosen t_undos t_redos t_aimedMany t_fits t_fitOf t_sights t_systems t_own t_cross t_curveLong t_wallFirst : Int} {t_ways : Nat → Int} {v1 v2 v3 v4 v5 : Int} (ao : AO b0 n [a_t, (a_t + 45)]) (hf : FA h [a_t, (a_t + 45)] [.inr (11, fsX11 a_t t_thrown t_taped t_p t_fault t_baseLow t_baseHigh t_newBaseLow t_newBaseHigh t_from t_knots t_lines t_chosen t_undos t_redos t_aimedMany t_fits t_fitOf t_sights t_systems t_own t_cross t_curveLong t_wallFirst), IA E 48 t_ways]) (ok_t_ways : okA t_ways) (ok_v1 : inI v1) (ok_v2 : inI v2) (ok_v3 : inI v3) (ok_v4 : inI v4) (ok_v5 : inI v5) {r : Int} (hm : m_X11_pulledOn t_ways v1 v2 v3 v4 v5 = some r) : Ct l E b0 M_X11_pulledOn 0 0 [.ref a_t, vI v1, vI v2, vI v3, vI v4, vI v5] h n (some (vI r)) h n (inI r) := by
  rw [m_X11_pulledOn] at hm
  have hg : G l E b0 M_X11_pulledOn (fun _ => True) (ZM E b0 (some (vI r)) (ov [a_t, (a_t + 45)] [.inr (11, fsX11 a_t t_thrown t_taped t_p t_fault t_baseLow t_baseHigh t_newBaseLow t_newBaseHigh t_from t_knots t_lines t_chosen t_undos t_redos t_aimedMany t_fits t_fitOf t_sights t_systems t_own t_cross t_curveLong t_wallFirst), IA E 48 t_ways] h) n (inI r) 0 0) 0 0 n (ov [a_t, (a_t + 45)] [.inr (11, fsX11 a_t t_thrown t_taped t_p t_fault t_baseLow t_baseHigh t_newBaseLow t_newBaseHigh t_from t_knots t_lines t_chosen t_undos t_redos t_aimedMany t_fits t_fitOf t_sights t_systems t_own t_cross t_curveLong t_wallFirst), IA E 48 t_ways] h) 0 [some (.ref a_t), some (vI v1), some (vI v2), some (vI v3), some (vI v4), some (vI v5), none, none, none, none, none, none, none, none, none, none, none] [] := by
    have hs := hm
    exact g_X11_pulledOn_0 ao ok_t_ways ok_v1 ok_v2 ok_v3 ok_v4 ok_v5 hs
  rw [FA_id hf] at hg
  exact Ct_of [some (.ref a_t), some (vI v1), some (vI v2), some (vI v3), some (vI v4), some (vI v5), none, none, none, none, none, none, none, none, none, none, none] ⟨by decide +kernel, rfl⟩ rfl (Nat.le_of_ble_eq_true rfl) hg

/-! ===== X11_pulled ===== -/
theorem e_X11_pulled_0 : DC cX11_pulled 0 (.iload_n 1) 1 1 := ⟨by decide +kernel, rfl⟩
theorem e_X11_pulled_1 : DC cX11_pulled 1 (.iload_n 2) 1 2 := ⟨by decide +kernel, rfl⟩
theorem e_X11_pulled_2 : DC cX11_pulled 2 (.iload_n 3) 1 3 := ⟨by decide +kernel, rfl⟩
theorem e_X11_pulled_3 : DC cX11_pulled 3 (.invokestatic 311) 3 6 := ⟨by decide +kernel, rfl⟩
theorem e_X11_pulled_6 : DB cX11_pulled 6 (.ifCond .eq 38) (38) 3 9 44 := ⟨by decide +kernel, rfl, rfl⟩
theorem e_X11_pulled_9 : DC cX11_pulled 9 (.iload 4) 2 11 := ⟨by decide +kernel, rfl⟩
theorem e_X11_pulled_11 : DC cX11_pulled 11 (.iconst 0) 1 12 := ⟨by decide +kernel, rfl⟩
theorem e_X11_pulled_12 : DC cX11_pulled 12 (.sipush 9999) 3 15 := ⟨by decide +kernel, rfl⟩
theorem e_X11_pulled_15 : DC cX11_pulled 15 (.invokestatic 226) 3 18 := ⟨by decide +kernel, rfl⟩
theorem e_X11_pulled_18 : DB cX11_pulled 18 (.ifCond .eq 26) (26) 3 21 44 := ⟨by decide +kernel, rfl, rfl⟩
theorem e_X11_pulled_21 : DC cX11_pulled 21 (.aload_n 0) 1 22 := ⟨by decide +kernel, rfl⟩
theorem e_X11_pulled_22 : DC cX11_pulled 22 (.iload 5) 2 24 := ⟨by decide +kernel, rfl⟩
theorem e_X11_pulled_24 : DC cX11_pulled 24 (.invokevirtual 407) 3 27 := ⟨by decide +kernel, rfl⟩
theorem e_X11_pulled_27 : DB cX11_pulled 27 (.ifCond .eq 17) (17) 3 30 44 := ⟨by decide +kernel, rfl, rfl⟩
theorem e_X11_pulled_30 : DC cX11_pulled 30 (.aload_n 0) 1 31 := ⟨by decide +kernel, rfl⟩
theorem e_X11_pulled_31 : DC cX11_pulled 31 (.iload_n 1) 1 32 := ⟨by decide +kernel, rfl⟩
theorem e_X11_pulled_32 : DC cX11_pulled 32 (.iload_n 2) 1 33 := ⟨by decide +kernel, rfl⟩
theorem e_X11_pulled_33 : DC cX11_pulled 33 (.iload_n 3) 1 34 := ⟨by decide +kernel, rfl⟩
theorem e_X11_pulled_34 : DC cX11_pulled 34 (.iload 4) 2 36 := ⟨by decide +kernel, rfl⟩
theorem e_X11_pulled_36 : DC cX11_pulled 36 (.iload 5) 2 38 := ⟨by decide +kernel, rfl⟩
theorem e_X11_pulled_38 : DC cX11_pulled 38 (.invokevirtual 421) 3 41 := ⟨by decide +kernel, rfl⟩
theorem e_X11_pulled_41 : DB cX11_pulled 41 (.goto 6) (6) 3 44 47 := ⟨by decide +kernel, rfl, rfl⟩
theorem e_X11_pulled_44 : DC cX11_pulled 44 (.ldc_w 424) 3 47 := ⟨by decide +kernel, rfl⟩
theorem e_X11_pulled_47 : DC cX11_pulled 47 (.ireturn) 1 48 := ⟨by decide +kernel, rfl⟩
noncomputable def m_X11_pulled_0 (t_systems : Int) (t_ways : Nat → Int) (v1 : Int) (v2 : Int) (v3 : Int) (v4 : Int) (v5 : Int) : Option (Int) :=
  (m_X11_isPull v1 v2 v3).bind (fun y1 => if y1 = 0 then (some ((-1000000))) else ((m_X11_in v4 0 9999).bind (fun y2 => if y2 = 0 then (some ((-1000000))) else ((m_X11_isSystem t_systems v5).bind (fun y3 => if y3 = 0 then (some ((-1000000))) else ((m_X11_pulledOn t_ways v1 v2 v3 v4 v5).bind (fun y4 => some (y4))))))))

set_option maxRecDepth 10000 in
set_option maxHeartbeats 8000000 in
theorem g_X11_pulled_0 {l : Launch} {E : EE} {b0 n : Nat} {h : AH} {a_t : Nat} {t_thrown t_taped t_p t_fault t_baseLow t_baseHigh t_newBaseLow t_newBaseHigh t_from t_knots t_lines t_chosen t_undos t_redos t_aimedMany t_fits t_fitOf t_sights t_systems t_own t_cross t_curveLong t_wallFirst v1 v2 v3 v4 v5 : Int} {t_ways : Nat → Int} {r : Int} (ao : AO b0 n [a_t, (a_t + 45)]) (ok_t_systems : inI t_systems) (ok_t_ways : okA t_ways) (ok_v1 : inI v1) (ok_v2 : inI v2) (ok_v3 : inI v3) (ok_v4 : inI v4) (ok_v5 : inI v5) (hs : m_X11_pulled_0 t_systems t_ways v1 v2 v3 v4 v5 = some r) : G l E b0 M_X11_pulled (fun _ => True) (ZM E b0 (some (vI r)) (ov [a_t, (a_t + 45)] [.inr (11, fsX11 a_t t_thrown t_taped t_p t_fault t_baseLow t_baseHigh t_newBaseLow t_newBaseHigh t_from t_knots t_lines t_chosen t_undos t_redos t_aimedMany t_fits t_fitOf t_sights t_systems t_own t_cross t_curveLong t_wallFirst), IA E 48 t_ways] h) n (inI r) 0 0) 0 0 n (ov [a_t, (a_t + 45)] [.inr (11, fsX11 a_t t_thrown t_taped t_p t_fault t_baseLow t_baseHigh t_newBaseLow t_newBaseHigh t_from t_knots t_lines t_chosen t_undos t_redos t_aimedMany t_fits t_fitOf t_sights t_systems t_own t_cross t_curveLong t_wallFirst), IA E 48 t_ways] h) 0 [some (.ref a_t), some (vI v1), some (vI v2), some (vI v3), some (vI v4), some (vI v5)] [] := by
  rw [m_X11_pulled_0] at hs
  refine g_iload_n e_X11_pulled_0 rfl ?_
  refine g_iload_n e_X11_pulled_1 rfl ?_
  refine g_iload_n e_X11_pulled_2 rfl ?_
  obtain ⟨y1, hy1, hs⟩ := bind_elim hs
  refine g_callSr [vI v1, vI v2, vI v3] cs_X11_311 ⟨rfl, rfl, Nat.le_of_ble_eq_true rfl, Nat.le_of_ble_eq_true rfl⟩ (ct_X11_isPull ⟨List.nodup_nil, fun i a h => by simp at h⟩ (fun i a e h => by simp at h) ok_v1 ok_v2 ok_v3 hy1) e_X11_pulled_3 rfl rfl (Nat.le_of_ble_eq_true rfl) ⟨Nat.le_refl _, Nat.le_refl _⟩ (fun Py1 => ?_)
  refine g_if_eq e_X11_pulled_6 (inZ_I Py1) hs (fun c6 hs => ?_) (fun c6 hs => ?_)
  · refine g_ldcw (a := -1000000) e_X11_pulled_44 k_X11_424 ?_
    obtain rfl := Option.some.inj hs
    exact g_iret rfl (by decide : inI (-1000000)) e_X11_pulled_47
  · refine g_iload e_X11_pulled_9 rfl ?_
    refine g_iconst e_X11_pulled_11 ?_
    refine g_sipush e_X11_pulled_12 sp_9999 ?_
    obtain ⟨y2, hy2, hs⟩ := bind_elim hs
    refine g_callSr [vI v4, vI 0, vI 9999] cs_X11_226 ⟨rfl, rfl, Nat.le_of_ble_eq_true rfl, Nat.le_of_ble_eq_true rfl⟩ (ct_X11_in ⟨List.nodup_nil, fun i a h => by simp at h⟩ (fun i a e h => by simp at h) ok_v4 (by decide : inI 0) (by decide : inI 9999) hy2) e_X11_pulled_15 rfl rfl (Nat.le_of_ble_eq_true rfl) ⟨Nat.le_refl _, Nat.le_refl _⟩ (fun Py2 => ?_)
    refine g_if_eq e_X11_pulled_18 (inZ_I Py2) hs (fun c18 hs => ?_) (fun c18 hs => ?_)
    · refine g_ldcw (a := -1000000) e_X11_pulled_44 k_X11_424 ?_
      obtain rfl := Option.some.inj hs
      exact g_iret rfl (by decide : inI (-1000000)) e_X11_pulled_47
    · refine g_aload_n e_X11_pulled_21 rfl ?_
      refine g_iload e_X11_pulled_22 rfl ?_
      obtain ⟨y3, hy3, hs⟩ := bind_elim hs
      refine g_callVr [vI v5] cv_X11_407 ⟨rfl, rfl, Nat.le_of_ble_eq_true rfl, Nat.le_of_ble_eq_true rfl⟩ (ct_X11_isSystem (a_t := a_t) (AO_call [0] ao (by decide) rfl) (FA_call [0] ao.1 rfl rfl) ok_t_systems ok_v5 hy3) e_X11_pulled_24 (ao.2 0 _ rfl) (ov_get 0 ao.1 rfl rfl) rfl rfl rfl (Nat.le_of_ble_eq_true rfl) ⟨Nat.le_refl _, Nat.le_refl _⟩ (fun Py3 => ?_)
      refine g_if_eq e_X11_pulled_27 (inZ_I Py3) hs (fun c27 hs => ?_) (fun c27 hs => ?_)
      · refine g_ldcw (a := -1000000) e_X11_pulled_44 k_X11_424 ?_
        obtain rfl := Option.some.inj hs
        exact g_iret rfl (by decide : inI (-1000000)) e_X11_pulled_47
      · refine g_aload_n e_X11_pulled_30 rfl ?_
        refine g_iload_n e_X11_pulled_31 rfl ?_
        refine g_iload_n e_X11_pulled_32 rfl ?_
        refine g_iload_n e_X11_pulled_33 rfl ?_
        refine g_iload e_X11_pulled_34 rfl ?_
        refine g_iload e_X11_pulled_36 rfl ?_
        obtain ⟨y4, hy4, hs⟩ := bind_elim hs
        refine g_callVr [vI v1, vI v2, vI v3, vI v4, vI v5] cv_X11_421 ⟨rfl, rfl, Nat.le_of_ble_eq_true rfl, Nat.le_of_ble_eq_true rfl⟩ (ct_X11_pulledOn (a_t := a_t) (AO_call [0, 1] ao (by decide) rfl) (FA_call [0, 1] ao.1 rfl rfl) ok_t_ways ok_v1 ok_v2 ok_v3 ok_v4 ok_v5 hy4) e_X11_pulled_38 (ao.2 0 _ rfl) (ov_get 0 ao.1 rfl rfl) rfl rfl rfl (Nat.le_of_ble_eq_true rfl) ⟨Nat.le_refl _, Nat.le_refl _⟩ (fun Py4 => ?_)
        refine g_goto e_X11_pulled_41 ?_
        obtain rfl := Option.some.inj hs
        exact g_iret rfl Py4 e_X11_pulled_47

noncomputable def m_X11_pulled (t_systems : Int) (t_ways : Nat → Int) (v1 : Int) (v2 : Int) (v3 : Int) (v4 : Int) (v5 : Int) : Option (Int) := m_X11_pulled_0 t_systems t_ways v1 v2 v3 v4 v5

set_option maxRecDepth 10000 in
set_option maxHeartbeats 8000000 in
theorem ct_X11_pulled {l : Launch} {E : EE} {b0 n : Nat} {h : AH} {a_t : Nat} {t_thrown t_taped t_p t_fault t_baseLow t_baseHigh t_newBaseLow t_newBaseHigh t_from t_knots t_lines t_chosen t_undos t_redos t_aimedMany t_fits t_fitOf t_sights t_systems t_own t_cross t_curveLong t_wallFirst : Int} {t_ways : Nat → Int} {v1 v2 v3 v4 v5 : Int} (ao : AO b0 n [a_t, (a_t + 45)]) (hf : FA h [a_t, (a_t + 45)] [.inr (11, fsX11 a_t t_thrown t_taped t_p t_fault t_baseLow t_baseHigh t_newBaseLow t_newBaseHigh t_from t_knots t_lines t_chosen t_undos t_redos t_aimedMany t_fits t_fitOf t_sights t_systems t_own t_cross t_curveLong t_wallFirst), IA E 48 t_ways]) (ok_t_systems : inI t_systems) (ok_t_ways : okA t_ways) (ok_v1 : inI v1) (ok_v2 : inI v2) (ok_v3 : inI v3) (ok_v4 : inI v4) (ok_v5 : inI v5) {r : Int} (hm : m_X11_pulled t_systems t_ways v1 v2 v3 v4 v5 = some r) : Ct l E b0 M_X11_pulled 0 0 [.ref a_t, vI v1, vI v2, vI v3, vI v4, vI v5] h n (some (vI r)) h n (inI r) := by
  rw [m_X11_pulled] at hm
  have hg : G l E b0 M_X11_pulled (fun _ => True) (ZM E b0 (some (vI r)) (ov [a_t, (a_t + 45)] [.inr (11, fsX11 a_t t_thrown t_taped t_p t_fault t_baseLow t_baseHigh t_newBaseLow t_newBaseHigh t_from t_knots t_lines t_chosen t_undos t_redos t_aimedMany t_fits t_fitOf t_sights t_systems t_own t_cross t_curveLong t_wallFirst), IA E 48 t_ways] h) n (inI r) 0 0) 0 0 n (ov [a_t, (a_t + 45)] [.inr (11, fsX11 a_t t_thrown t_taped t_p t_fault t_baseLow t_baseHigh t_newBaseLow t_newBaseHigh t_from t_knots t_lines t_chosen t_undos t_redos t_aimedMany t_fits t_fitOf t_sights t_systems t_own t_cross t_curveLong t_wallFirst), IA E 48 t_ways] h) 0 [some (.ref a_t), some (vI v1), some (vI v2), some (vI v3), some (vI v4), some (vI v5)] [] := by
    have hs := hm
    exact g_X11_pulled_0 ao ok_t_systems ok_t_ways ok_v1 ok_v2 ok_v3 ok_v4 ok_v5 hs
  rw [FA_id hf] at hg
  exact Ct_of [some (.ref a_t), some (vI v1), some (vI v2), some (vI v3), some (vI v4), some (vI v5)] ⟨by decide +kernel, rfl⟩ rfl (Nat.le_of_ble_eq_true rfl) hg

/-! ===== X11_steps ===== -/
theorem e_X11_steps_0 : DC cX11_steps 0 (.iconst 0) 1 1 := ⟨by decide +kernel, rfl⟩
theorem e_X11_steps_1 : DC cX11_steps 1 (.istore 6) 2 3 := ⟨by decide +kernel, rfl⟩
theorem e_X11_steps_3 : DC cX11_steps 3 (.iconst 0) 1 4 := ⟨by decide +kernel, rfl⟩
theorem e_X11_steps_4 : DC cX11_steps 4 (.istore 7) 2 6 := ⟨by decide +kernel, rfl⟩
theorem e_X11_steps_6 : DC cX11_steps 6 (.iload 7) 2 8 := ⟨by decide +kernel, rfl⟩
theorem e_X11_steps_8 : DC cX11_steps 8 (.aload_n 0) 1 9 := ⟨by decide +kernel, rfl⟩
theorem e_X11_steps_9 : DC cX11_steps 9 (.getfield 398) 3 12 := ⟨by decide +kernel, rfl⟩
theorem e_X11_steps_12 : DB cX11_steps 12 (.if_icmp .ge 22) (22) 3 15 34 := ⟨by decide +kernel, rfl, rfl⟩
theorem e_X11_steps_15 : DC cX11_steps 15 (.aload_n 0) 1 16 := ⟨by decide +kernel, rfl⟩
theorem e_X11_steps_16 : DC cX11_steps 16 (.getfield 148) 3 19 := ⟨by decide +kernel, rfl⟩
theorem e_X11_steps_19 : DC cX11_steps 19 (.iload 7) 2 21 := ⟨by decide +kernel, rfl⟩
theorem e_X11_steps_21 : DC cX11_steps 21 (.aload_n 0) 1 22 := ⟨by decide +kernel, rfl⟩
theorem e_X11_steps_22 : DC cX11_steps 22 (.iload 7) 2 24 := ⟨by decide +kernel, rfl⟩
theorem e_X11_steps_24 : DC cX11_steps 24 (.invokevirtual 414) 3 27 := ⟨by decide +kernel, rfl⟩
theorem e_X11_steps_27 : DC cX11_steps 27 (.iastore) 1 28 := ⟨by decide +kernel, rfl⟩
theorem e_X11_steps_28 : DC cX11_steps 28 (.iinc 7 1) 3 31 := ⟨by decide +kernel, rfl⟩
theorem e_X11_steps_31 : DB cX11_steps 31 (.goto (-25)) (-25) 3 34 6 := ⟨by decide +kernel, rfl, rfl⟩
theorem e_X11_steps_34 : DC cX11_steps 34 (.aload_n 0) 1 35 := ⟨by decide +kernel, rfl⟩
theorem e_X11_steps_35 : DC cX11_steps 35 (.invokevirtual 343) 3 38 := ⟨by decide +kernel, rfl⟩
theorem e_X11_steps_38 : DC cX11_steps 38 (.iconst 0) 1 39 := ⟨by decide +kernel, rfl⟩
theorem e_X11_steps_39 : DC cX11_steps 39 (.istore 7) 2 41 := ⟨by decide +kernel, rfl⟩
theorem e_X11_steps_41 : DC cX11_steps 41 (.iload 7) 2 43 := ⟨by decide +kernel, rfl⟩
theorem e_X11_steps_43 : DC cX11_steps 43 (.aload_n 0) 1 44 := ⟨by decide +kernel, rfl⟩
theorem e_X11_steps_44 : DC cX11_steps 44 (.getfield 398) 3 47 := ⟨by decide +kernel, rfl⟩
theorem e_X11_steps_47 : DB cX11_steps 47 (.if_icmp .ge 92) (92) 3 50 139 := ⟨by decide +kernel, rfl, rfl⟩
theorem e_X11_steps_50 : DC cX11_steps 50 (.aload_n 0) 1 51 := ⟨by decide +kernel, rfl⟩
theorem e_X11_steps_51 : DC cX11_steps 51 (.aload_n 0) 1 52 := ⟨by decide +kernel, rfl⟩
theorem e_X11_steps_52 : DC cX11_steps 52 (.getfield 142) 3 55 := ⟨by decide +kernel, rfl⟩
theorem e_X11_steps_55 : DC cX11_steps 55 (.bipush 100) 2 57 := ⟨by decide +kernel, rfl⟩
theorem e_X11_steps_57 : DC cX11_steps 57 (.iload 7) 2 59 := ⟨by decide +kernel, rfl⟩
theorem e_X11_steps_59 : DC cX11_steps 59 (.imul) 1 60 := ⟨by decide +kernel, rfl⟩
theorem e_X11_steps_60 : DC cX11_steps 60 (.aload_n 0) 1 61 := ⟨by decide +kernel, rfl⟩
theorem e_X11_steps_61 : DC cX11_steps 61 (.getfield 151) 3 64 := ⟨by decide +kernel, rfl⟩
theorem e_X11_steps_64 : DC cX11_steps 64 (.bipush 6) 2 66 := ⟨by decide +kernel, rfl⟩
theorem e_X11_steps_66 : DC cX11_steps 66 (.iload 7) 2 68 := ⟨by decide +kernel, rfl⟩
theorem e_X11_steps_68 : DC cX11_steps 68 (.imul) 1 69 := ⟨by decide +kernel, rfl⟩
theorem e_X11_steps_69 : DC cX11_steps 69 (.invokevirtual 346) 3 72 := ⟨by decide +kernel, rfl⟩
theorem e_X11_steps_72 : DC cX11_steps 72 (.aload_n 0) 1 73 := ⟨by decide +kernel, rfl⟩
theorem e_X11_steps_73 : DC cX11_steps 73 (.aload_n 0) 1 74 := ⟨by decide +kernel, rfl⟩
theorem e_X11_steps_74 : DC cX11_steps 74 (.iload_n 1) 1 75 := ⟨by decide +kernel, rfl⟩
theorem e_X11_steps_75 : DC cX11_steps 75 (.iload_n 2) 1 76 := ⟨by decide +kernel, rfl⟩
theorem e_X11_steps_76 : DC cX11_steps 76 (.iload_n 3) 1 77 := ⟨by decide +kernel, rfl⟩
theorem e_X11_steps_77 : DC cX11_steps 77 (.iload 4) 2 79 := ⟨by decide +kernel, rfl⟩
theorem e_X11_steps_79 : DC cX11_steps 79 (.iload 7) 2 81 := ⟨by decide +kernel, rfl⟩
theorem e_X11_steps_81 : DC cX11_steps 81 (.invokevirtual 421) 3 84 := ⟨by decide +kernel, rfl⟩
theorem e_X11_steps_84 : DC cX11_steps 84 (.iload 5) 2 86 := ⟨by decide +kernel, rfl⟩
theorem e_X11_steps_86 : DC cX11_steps 86 (.aload_n 0) 1 87 := ⟨by decide +kernel, rfl⟩
theorem e_X11_steps_87 : DC cX11_steps 87 (.getfield 148) 3 90 := ⟨by decide +kernel, rfl⟩
theorem e_X11_steps_90 : DC cX11_steps 90 (.iload 7) 2 92 := ⟨by decide +kernel, rfl⟩
theorem e_X11_steps_92 : DC cX11_steps 92 (.iaload) 1 93 := ⟨by decide +kernel, rfl⟩
theorem e_X11_steps_93 : DC cX11_steps 93 (.invokevirtual 340) 3 96 := ⟨by decide +kernel, rfl⟩
theorem e_X11_steps_96 : DB cX11_steps 96 (.ifCond .ne 8) (8) 3 99 104 := ⟨by decide +kernel, rfl, rfl⟩
theorem e_X11_steps_99 : DC cX11_steps 99 (.iload 6) 2 101 := ⟨by decide +kernel, rfl⟩
theorem e_X11_steps_101 : DB cX11_steps 101 (.ifCond .eq 7) (7) 3 104 108 := ⟨by decide +kernel, rfl, rfl⟩
theorem e_X11_steps_104 : DC cX11_steps 104 (.iconst 1) 1 105 := ⟨by decide +kernel, rfl⟩
theorem e_X11_steps_105 : DB cX11_steps 105 (.goto 4) (4) 3 108 109 := ⟨by decide +kernel, rfl, rfl⟩
theorem e_X11_steps_108 : DC cX11_steps 108 (.iconst 0) 1 109 := ⟨by decide +kernel, rfl⟩
theorem e_X11_steps_109 : DC cX11_steps 109 (.istore 6) 2 111 := ⟨by decide +kernel, rfl⟩
theorem e_X11_steps_111 : DC cX11_steps 111 (.aload_n 0) 1 112 := ⟨by decide +kernel, rfl⟩
theorem e_X11_steps_112 : DC cX11_steps 112 (.aload_n 0) 1 113 := ⟨by decide +kernel, rfl⟩
theorem e_X11_steps_113 : DC cX11_steps 113 (.getfield 142) 3 116 := ⟨by decide +kernel, rfl⟩
theorem e_X11_steps_116 : DC cX11_steps 116 (.bipush 100) 2 118 := ⟨by decide +kernel, rfl⟩
theorem e_X11_steps_118 : DC cX11_steps 118 (.iload 7) 2 120 := ⟨by decide +kernel, rfl⟩
theorem e_X11_steps_120 : DC cX11_steps 120 (.imul) 1 121 := ⟨by decide +kernel, rfl⟩
theorem e_X11_steps_121 : DC cX11_steps 121 (.aload_n 0) 1 122 := ⟨by decide +kernel, rfl⟩
theorem e_X11_steps_122 : DC cX11_steps 122 (.getfield 151) 3 125 := ⟨by decide +kernel, rfl⟩
theorem e_X11_steps_125 : DC cX11_steps 125 (.bipush 6) 2 127 := ⟨by decide +kernel, rfl⟩
theorem e_X11_steps_127 : DC cX11_steps 127 (.iload 7) 2 129 := ⟨by decide +kernel, rfl⟩
theorem e_X11_steps_129 : DC cX11_steps 129 (.imul) 1 130 := ⟨by decide +kernel, rfl⟩
theorem e_X11_steps_130 : DC cX11_steps 130 (.invokevirtual 353) 3 133 := ⟨by decide +kernel, rfl⟩
theorem e_X11_steps_133 : DC cX11_steps 133 (.iinc 7 1) 3 136 := ⟨by decide +kernel, rfl⟩
theorem e_X11_steps_136 : DB cX11_steps 136 (.goto (-95)) (-95) 3 139 41 := ⟨by decide +kernel, rfl, rfl⟩
theorem e_X11_steps_139 : DC cX11_steps 139 (.iload 6) 2 141 := ⟨by decide +kernel, rfl⟩
theorem e_X11_steps_141 : DC cX11_steps 141 (.ireturn) 1 142 := ⟨by decide +kernel, rfl⟩
noncomputable def m_X11_steps_6 (t_systems : Int) (t_own : Int) (t_cross : Int) (t_grainSum : Nat → Int) (k_34 : (Nat → Int) → Int → Option (Int × (Nat → Int) × (Nat → Int) × (Nat → Int) × (Nat → Int) × (Nat → Int) × (Nat → Int) × (Nat → Int) × (Nat → Int))) : Nat → (Nat → Int) → Int → Option (Int × (Nat → Int) × (Nat → Int) × (Nat → Int) × (Nat → Int) × (Nat → Int) × (Nat → Int) × (Nat → Int) × (Nat → Int))
  | 0, _, _ => none
  | F + 1, t_harder, v7 => if t_systems ≤ v7 then (k_34 t_harder v7) else ((m_X11_harderOf t_systems t_own t_cross t_grainSum v7).bind (fun y1 => chk (inB v7 8) (chk (inI (v7 + 1)) (m_X11_steps_6 t_systems t_own t_cross t_grainSum k_34 F (up t_harder (Int.toNat v7) y1) (v7 + 1)))))

set_option maxRecDepth 10000 in
set_option maxHeartbeats 8000000 in
theorem g_X11_steps_6 {l : Launch} {E : EE} {b0 n : Nat} {h : AH} {a_t : Nat} {t_thrown t_taped t_p t_fault t_baseLow t_baseHigh t_newBaseLow t_newBaseHigh t_from t_knots t_lines t_chosen t_undos t_redos t_aimedMany t_fits t_fitOf t_sights t_systems t_own t_cross t_curveLong t_wallFirst v1 v2 v3 v4 v5 v6 : Int} {t_push t_speckLow t_speckHigh t_sourceHold t_cur t_was t_feel t_pushAt t_curSum t_grain t_ways t_grainSum : Nat → Int} {r : Int × (Nat → Int) × (Nat → Int) × (Nat → Int) × (Nat → Int) × (Nat → Int) × (Nat → Int) × (Nat → Int) × (Nat → Int)} {k_34 : (Nat → Int) → Int → Option (Int × (Nat → Int) × (Nat → Int) × (Nat → Int) × (Nat → Int) × (Nat → Int) × (Nat → Int) × (Nat → Int) × (Nat → Int))} (ao : AO b0 n [a_t, (a_t + 6), (a_t + 8), (a_t + 9), (a_t + 10), (a_t + 24), (a_t + 25), (a_t + 26), (a_t + 27), (a_t + 28), (a_t + 44), (a_t + 45), (a_t + 46), (a_t + 47)]) (ok_t_baseLow : inI t_baseLow) (ok_t_baseHigh : inI t_baseHigh) (ok_t_systems : inI t_systems) (ok_t_own : inI t_own) (ok_t_cross : inI t_cross) (ok_t_push : okA t_push) (ok_t_speckLow : okA t_speckLow) (ok_t_speckHigh : okA t_speckHigh) (ok_t_sourceHold : okA t_sourceHold) (ok_t_cur : okA t_cur) (ok_t_was : okA t_was) (ok_t_feel : okA t_feel) (ok_t_pushAt : okA t_pushAt) (ok_t_curSum : okJ t_curSum) (ok_t_grain : okA t_grain) (ok_t_ways : okA t_ways) (ok_t_grainSum : okJ t_grainSum) (ok_v1 : inI v1) (ok_v2 : inI v2) (ok_v3 : inI v3) (ok_v4 : inI v4) (ok_v5 : inI v5) (ok_v6 : inZ v6) (hk_34 : ∀ (t_harder_ : Nat → Int) (v7_ : Int), okA t_harder_ → inI v7_ → k_34 t_harder_ v7_ = some r → G l E b0 M_X11_steps (fun _ => True) (ZM E b0 (some (vI r.1)) (ov [a_t, (a_t + 6), (a_t + 8), (a_t + 9), (a_t + 10), (a_t + 24), (a_t + 25), (a_t + 26), (a_t + 27), (a_t + 28), (a_t + 44), (a_t + 45), (a_t + 46), (a_t + 47)] [.inr (11, fsX11 a_t t_thrown t_taped t_p t_fault t_baseLow t_baseHigh t_newBaseLow t_newBaseHigh t_from t_knots t_lines t_chosen t_undos t_redos t_aimedMany t_fits t_fitOf t_sights t_systems t_own t_cross t_curveLong t_wallFirst), IA E 21 t_push, IA E 100 t_speckLow, IA E 100 t_speckHigh, IA E 100 t_sourceHold, IA E 100 r.2.1, IA E 100 r.2.2.1, IA E 100 r.2.2.2.1, IA E 21 r.2.2.2.2.1, JA E 6 r.2.2.2.2.2.1, IA E 800 r.2.2.2.2.2.2.1, IA E 48 t_ways, IA E 8 r.2.2.2.2.2.2.2.1, JA E 48 r.2.2.2.2.2.2.2.2] h) n (inZ r.1 ∧ okA r.2.1 ∧ okA r.2.2.1 ∧ okA r.2.2.2.1 ∧ okA r.2.2.2.2.1 ∧ okJ r.2.2.2.2.2.1 ∧ okA r.2.2.2.2.2.2.1 ∧ okA r.2.2.2.2.2.2.2.1 ∧ okJ r.2.2.2.2.2.2.2.2) 0 0) 0 0 n (ov [a_t, (a_t + 6), (a_t + 8), (a_t + 9), (a_t + 10), (a_t + 24), (a_t + 25), (a_t + 26), (a_t + 27), (a_t + 28), (a_t + 44), (a_t + 45), (a_t + 46), (a_t + 47)] [.inr (11, fsX11 a_t t_thrown t_taped t_p t_fault t_baseLow t_baseHigh t_newBaseLow t_newBaseHigh t_from t_knots t_lines t_chosen t_undos t_redos t_aimedMany t_fits t_fitOf t_sights t_systems t_own t_cross t_curveLong t_wallFirst), IA E 21 t_push, IA E 100 t_speckLow, IA E 100 t_speckHigh, IA E 100 t_sourceHold, IA E 100 t_cur, IA E 100 t_was, IA E 100 t_feel, IA E 21 t_pushAt, JA E 6 t_curSum, IA E 800 t_grain, IA E 48 t_ways, IA E 8 t_harder_, JA E 48 t_grainSum] h) 34 [some (.ref a_t), some (vI v1), some (vI v2), some (vI v3), some (vI v4), some (vI v5), some (vI v6), none] []) :
    ∀ (F : Nat) (t_harder : Nat → Int) (v7 : Int), okA t_harder → inI v7 → m_X11_steps_6 t_systems t_own t_cross t_grainSum k_34 F t_harder v7 = some r → G l E b0 M_X11_steps (fun _ => True) (ZM E b0 (some (vI r.1)) (ov [a_t, (a_t + 6), (a_t + 8), (a_t + 9), (a_t + 10), (a_t + 24), (a_t + 25), (a_t + 26), (a_t + 27), (a_t + 28), (a_t + 44), (a_t + 45), (a_t + 46), (a_t + 47)] [.inr (11, fsX11 a_t t_thrown t_taped t_p t_fault t_baseLow t_baseHigh t_newBaseLow t_newBaseHigh t_from t_knots t_lines t_chosen t_undos t_redos t_aimedMany t_fits t_fitOf t_sights t_systems t_own t_cross t_curveLong t_wallFirst), IA E 21 t_push, IA E 100 t_speckLow, IA E 100 t_speckHigh, IA E 100 t_sourceHold, IA E 100 r.2.1, IA E 100 r.2.2.1, IA E 100 r.2.2.2.1, IA E 21 r.2.2.2.2.1, JA E 6 r.2.2.2.2.2.1, IA E 800 r.2.2.2.2.2.2.1, IA E 48 t_ways, IA E 8 r.2.2.2.2.2.2.2.1, JA E 48 r.2.2.2.2.2.2.2.2] h) n (inZ r.1 ∧ okA r.2.1 ∧ okA r.2.2.1 ∧ okA r.2.2.2.1 ∧ okA r.2.2.2.2.1 ∧ okJ r.2.2.2.2.2.1 ∧ okA r.2.2.2.2.2.2.1 ∧ okA r.2.2.2.2.2.2.2.1 ∧ okJ r.2.2.2.2.2.2.2.2) 0 0) 0 0 n (ov [a_t, (a_t + 6), (a_t + 8), (a_t + 9), (a_t + 10), (a_t + 24), (a_t + 25), (a_t + 26), (a_t + 27), (a_t + 28), (a_t + 44), (a_t + 45), (a_t + 46), (a_t + 47)] [.inr (11, fsX11 a_t t_thrown t_taped t_p t_fault t_baseLow t_baseHigh t_newBaseLow t_newBaseHigh t_from t_knots t_lines t_chosen t_undos t_redos t_aimedMany t_fits t_fitOf t_sights t_systems t_own t_cross t_curveLong t_wallFirst), IA E 21 t_push, IA E 100 t_speckLow, IA E 100 t_speckHigh, IA E 100 t_sourceHold, IA E 100 t_cur, IA E 100 t_was, IA E 100 t_feel, IA E 21 t_pushAt, JA E 6 t_curSum, IA E 800 t_grain, IA E 48 t_ways, IA E 8 t_harder, JA E 48 t_grainSum] h) 6 [some (.ref a_t), some (vI v1), some (vI v2), some (vI v3), some (vI v4), some (vI v5), some (vI v6), some (vI v7)] [] := by
  intro F
  induction F with
  | zero =>
    intro t_harder v7 ok_t_harder ok_v7 hs
    rw [m_X11_steps_6] at hs
    cases hs
  | succ F ih =>
    intro t_harder v7 ok_t_harder ok_v7 hs
    rw [m_X11_steps_6] at hs
    refine g_iload e_X11_steps_6 rfl ?_
    refine g_aload_n e_X11_steps_8 rfl ?_
    refine g_get 0 61 ao rfl rfl fsX11_g61 fl_X11_398 e_X11_steps_9 ?_
    refine g_icmp_ge e_X11_steps_12 ok_v7 ok_t_systems hs (fun c12 hs => ?_) (fun c12 hs => ?_)
    · exact g_mask [true, true, true, true, true, true, true, false] (hk_34 _ _ ok_t_harder ok_v7 hs)
    · refine g_aload_n e_X11_steps_15 rfl ?_
      refine g_get 0 66 ao rfl rfl fsX11_g66 fl_X11_148 e_X11_steps_16 ?_
      refine g_iload e_X11_steps_19 rfl ?_
      refine g_aload_n e_X11_steps_21 rfl ?_
      refine g_iload e_X11_steps_22 rfl ?_
      obtain ⟨y1, hy1, hs⟩ := bind_elim hs
      refine g_callVr [vI v7] cv_X11_414 ⟨rfl, rfl, Nat.le_of_ble_eq_true rfl, Nat.le_of_ble_eq_true rfl⟩ (ct_X11_harderOf (a_t := a_t) (AO_call [0, 13] ao (by decide) rfl) (FA_call [0, 13] ao.1 rfl rfl) ok_t_systems ok_t_own ok_t_cross ok_t_grainSum ok_v7 hy1) e_X11_steps_24 (ao.2 0 _ rfl) (ov_get 0 ao.1 rfl rfl) rfl rfl rfl (Nat.le_of_ble_eq_true rfl) ⟨Nat.le_refl _, Nat.le_refl _⟩ (fun Py1 => ?_)
      refine g_iast 12 ao rfl rfl ls_12 (Nat.le_of_ble_eq_true rfl) e_X11_steps_27 hs (fun hi2 hs => ?_)
      refine g_iinc e_X11_steps_28 rfl st1_7 rfl ?_
      refine g_goto e_X11_steps_31 ?_
      obtain ⟨hc3, hs⟩ := chk_elim hs
      exact ih _ _ (okA_up ok_t_harder Py1) hc3 hs

noncomputable def m_X11_steps_109 (t_baseLow : Int) (t_baseHigh : Int) (t_systems : Int) (t_speckLow : Nat → Int) (t_speckHigh : Nat → Int) (t_sourceHold : Nat → Int) (t_cur : Nat → Int) (t_was : Nat → Int) (t_feel : Nat → Int) (t_pushAt : Nat → Int) (t_curSum : Nat → Int) (t_grain : Nat → Int) (t_ways : Nat → Int) (t_harder : Nat → Int) (t_grainSum : Nat → Int) (v1 : Int) (v2 : Int) (v3 : Int) (v4 : Int) (v5 : Int) (v7 : Int) (s0 : Int) (ag : (Nat → Int) → (Nat → Int) → (Nat → Int) → (Nat → Int) → (Nat → Int) → (Nat → Int) → Int → Int → Option (Int × (Nat → Int) × (Nat → Int) × (Nat → Int) × (Nat → Int) × (Nat → Int) × (Nat → Int) × (Nat → Int) × (Nat → Int))) (k_139 : (Nat → Int) → (Nat → Int) → (Nat → Int) → (Nat → Int) → (Nat → Int) → (Nat → Int) → Int → Int → Option (Int × (Nat → Int) × (Nat → Int) × (Nat → Int) × (Nat → Int) × (Nat → Int) × (Nat → Int) × (Nat → Int) × (Nat → Int))) : Option (Int × (Nat → Int) × (Nat → Int) × (Nat → Int) × (Nat → Int) × (Nat → Int) × (Nat → Int) × (Nat → Int) × (Nat → Int)) :=
  chk (inI (100 * v7)) (chk (inI (6 * v7)) ((m_X11_keeps 800 48 t_cur t_curSum t_grain t_grainSum (100 * v7) (6 * v7)).bind (fun y13 => chk (inI (v7 + 1)) (ag t_cur t_was t_feel t_curSum y13.1 y13.2 s0 (v7 + 1)))))

set_option maxRecDepth 10000 in
set_option maxHeartbeats 8000000 in
theorem g_X11_steps_109 {l : Launch} {E : EE} {b0 n : Nat} {h : AH} {a_t : Nat} {t_thrown t_taped t_p t_fault t_baseLow t_baseHigh t_newBaseLow t_newBaseHigh t_from t_knots t_lines t_chosen t_undos t_redos t_aimedMany t_fits t_fitOf t_sights t_systems t_own t_cross t_curveLong t_wallFirst v1 v2 v3 v4 v5 v7 s0 : Int} {t_push t_speckLow t_speckHigh t_sourceHold t_cur t_was t_feel t_pushAt t_curSum t_grain t_ways t_harder t_grainSum : Nat → Int} {r : Int × (Nat → Int) × (Nat → Int) × (Nat → Int) × (Nat → Int) × (Nat → Int) × (Nat → Int) × (Nat → Int) × (Nat → Int)} {ag : (Nat → Int) → (Nat → Int) → (Nat → Int) → (Nat → Int) → (Nat → Int) → (Nat → Int) → Int → Int → Option (Int × (Nat → Int) × (Nat → Int) × (Nat → Int) × (Nat → Int) × (Nat → Int) × (Nat → Int) × (Nat → Int) × (Nat → Int))} {k_139 : (Nat → Int) → (Nat → Int) → (Nat → Int) → (Nat → Int) → (Nat → Int) → (Nat → Int) → Int → Int → Option (Int × (Nat → Int) × (Nat → Int) × (Nat → Int) × (Nat → Int) × (Nat → Int) × (Nat → Int) × (Nat → Int) × (Nat → Int))} (ao : AO b0 n [a_t, (a_t + 6), (a_t + 8), (a_t + 9), (a_t + 10), (a_t + 24), (a_t + 25), (a_t + 26), (a_t + 27), (a_t + 28), (a_t + 44), (a_t + 45), (a_t + 46), (a_t + 47)]) (ok_t_baseLow : inI t_baseLow) (ok_t_baseHigh : inI t_baseHigh) (ok_t_systems : inI t_systems) (ok_t_own : inI t_own) (ok_t_cross : inI t_cross) (ok_t_push : okA t_push) (ok_t_speckLow : okA t_speckLow) (ok_t_speckHigh : okA t_speckHigh) (ok_t_sourceHold : okA t_sourceHold) (ok_t_cur : okA t_cur) (ok_t_was : okA t_was) (ok_t_feel : okA t_feel) (ok_t_pushAt : okA t_pushAt) (ok_t_curSum : okJ t_curSum) (ok_t_grain : okA t_grain) (ok_t_ways : okA t_ways) (ok_t_harder : okA t_harder) (ok_t_grainSum : okJ t_grainSum) (ok_v1 : inI v1) (ok_v2 : inI v2) (ok_v3 : inI v3) (ok_v4 : inI v4) (ok_v5 : inI v5) (ok_v7 : inI v7) (ok_s0 : inZ s0) (hag : ∀ (t_cur_ : Nat → Int) (t_was_ : Nat → Int) (t_feel_ : Nat → Int) (t_curSum_ : Nat → Int) (t_grain_ : Nat → Int) (t_grainSum_ : Nat → Int) (v6_ : Int) (v7_ : Int), okA t_cur_ → okA t_was_ → okA t_feel_ → okJ t_curSum_ → okA t_grain_ → okJ t_grainSum_ → inZ v6_ → inI v7_ → ag t_cur_ t_was_ t_feel_ t_curSum_ t_grain_ t_grainSum_ v6_ v7_ = some r → G l E b0 M_X11_steps (fun _ => True) (ZM E b0 (some (vI r.1)) (ov [a_t, (a_t + 6), (a_t + 8), (a_t + 9), (a_t + 10), (a_t + 24), (a_t + 25), (a_t + 26), (a_t + 27), (a_t + 28), (a_t + 44), (a_t + 45), (a_t + 46), (a_t + 47)] [.inr (11, fsX11 a_t t_thrown t_taped t_p t_fault t_baseLow t_baseHigh t_newBaseLow t_newBaseHigh t_from t_knots t_lines t_chosen t_undos t_redos t_aimedMany t_fits t_fitOf t_sights t_systems t_own t_cross t_curveLong t_wallFirst), IA E 21 t_push, IA E 100 t_speckLow, IA E 100 t_speckHigh, IA E 100 t_sourceHold, IA E 100 r.2.1, IA E 100 r.2.2.1, IA E 100 r.2.2.2.1, IA E 21 r.2.2.2.2.1, JA E 6 r.2.2.2.2.2.1, IA E 800 r.2.2.2.2.2.2.1, IA E 48 t_ways, IA E 8 r.2.2.2.2.2.2.2.1, JA E 48 r.2.2.2.2.2.2.2.2] h) n (inZ r.1 ∧ okA r.2.1 ∧ okA r.2.2.1 ∧ okA r.2.2.2.1 ∧ okA r.2.2.2.2.1 ∧ okJ r.2.2.2.2.2.1 ∧ okA r.2.2.2.2.2.2.1 ∧ okA r.2.2.2.2.2.2.2.1 ∧ okJ r.2.2.2.2.2.2.2.2) 0 0) 0 0 n (ov [a_t, (a_t + 6), (a_t + 8), (a_t + 9), (a_t + 10), (a_t + 24), (a_t + 25), (a_t + 26), (a_t + 27), (a_t + 28), (a_t + 44), (a_t + 45), (a_t + 46), (a_t + 47)] [.inr (11, fsX11 a_t t_thrown t_taped t_p t_fault t_baseLow t_baseHigh t_newBaseLow t_newBaseHigh t_from t_knots t_lines t_chosen t_undos t_redos t_aimedMany t_fits t_fitOf t_sights t_systems t_own t_cross t_curveLong t_wallFirst), IA E 21 t_push, IA E 100 t_speckLow, IA E 100 t_speckHigh, IA E 100 t_sourceHold, IA E 100 t_cur_, IA E 100 t_was_, IA E 100 t_feel_, IA E 21 t_pushAt, JA E 6 t_curSum_, IA E 800 t_grain_, IA E 48 t_ways, IA E 8 t_harder, JA E 48 t_grainSum_] h) 41 [some (.ref a_t), some (vI v1), some (vI v2), some (vI v3), some (vI v4), some (vI v5), some (vI v6_), some (vI v7_)] []) (hk_139 : ∀ (t_cur_ : Nat → Int) (t_was_ : Nat → Int) (t_feel_ : Nat → Int) (t_curSum_ : Nat → Int) (t_grain_ : Nat → Int) (t_grainSum_ : Nat → Int) (v6_ : Int) (v7_ : Int), okA t_cur_ → okA t_was_ → okA t_feel_ → okJ t_curSum_ → okA t_grain_ → okJ t_grainSum_ → inZ v6_ → inI v7_ → k_139 t_cur_ t_was_ t_feel_ t_curSum_ t_grain_ t_grainSum_ v6_ v7_ = some r → G l E b0 M_X11_steps (fun _ => True) (ZM E b0 (some (vI r.1)) (ov [a_t, (a_t + 6), (a_t + 8), (a_t + 9), (a_t + 10), (a_t + 24), (a_t + 25), (a_t + 26), (a_t + 27), (a_t + 28), (a_t + 44), (a_t + 45), (a_t + 46), (a_t + 47)] [.inr (11, fsX11 a_t t_thrown t_taped t_p t_fault t_baseLow t_baseHigh t_newBaseLow t_newBaseHigh t_from t_knots t_lines t_chosen t_undos t_redos t_aimedMany t_fits t_fitOf t_sights t_systems t_own t_cross t_curveLong t_wallFirst), IA E 21 t_push, IA E 100 t_speckLow, IA E 100 t_speckHigh, IA E 100 t_sourceHold, IA E 100 r.2.1, IA E 100 r.2.2.1, IA E 100 r.2.2.2.1, IA E 21 r.2.2.2.2.1, JA E 6 r.2.2.2.2.2.1, IA E 800 r.2.2.2.2.2.2.1, IA E 48 t_ways, IA E 8 r.2.2.2.2.2.2.2.1, JA E 48 r.2.2.2.2.2.2.2.2] h) n (inZ r.1 ∧ okA r.2.1 ∧ okA r.2.2.1 ∧ okA r.2.2.2.1 ∧ okA r.2.2.2.2.1 ∧ okJ r.2.2.2.2.2.1 ∧ okA r.2.2.2.2.2.2.1 ∧ okA r.2.2.2.2.2.2.2.1 ∧ okJ r.2.2.2.2.2.2.2.2) 0 0) 0 0 n (ov [a_t, (a_t + 6), (a_t + 8), (a_t + 9), (a_t + 10), (a_t + 24), (a_t + 25), (a_t + 26), (a_t + 27), (a_t + 28), (a_t + 44), (a_t + 45), (a_t + 46), (a_t + 47)] [.inr (11, fsX11 a_t t_thrown t_taped t_p t_fault t_baseLow t_baseHigh t_newBaseLow t_newBaseHigh t_from t_knots t_lines t_chosen t_undos t_redos t_aimedMany t_fits t_fitOf t_sights t_systems t_own t_cross t_curveLong t_wallFirst), IA E 21 t_push, IA E 100 t_speckLow, IA E 100 t_speckHigh, IA E 100 t_sourceHold, IA E 100 t_cur_, IA E 100 t_was_, IA E 100 t_feel_, IA E 21 t_pushAt, JA E 6 t_curSum_, IA E 800 t_grain_, IA E 48 t_ways, IA E 8 t_harder, JA E 48 t_grainSum_] h) 139 [none, none, none, none, none, none, some (vI v6_), none] []) (hs : m_X11_steps_109 t_baseLow t_baseHigh t_systems t_speckLow t_speckHigh t_sourceHold t_cur t_was t_feel t_pushAt t_curSum t_grain t_ways t_harder t_grainSum v1 v2 v3 v4 v5 v7 s0 ag k_139 = some r) : G l E b0 M_X11_steps (fun _ => True) (ZM E b0 (some (vI r.1)) (ov [a_t, (a_t + 6), (a_t + 8), (a_t + 9), (a_t + 10), (a_t + 24), (a_t + 25), (a_t + 26), (a_t + 27), (a_t + 28), (a_t + 44), (a_t + 45), (a_t + 46), (a_t + 47)] [.inr (11, fsX11 a_t t_thrown t_taped t_p t_fault t_baseLow t_baseHigh t_newBaseLow t_newBaseHigh t_from t_knots t_lines t_chosen t_undos t_redos t_aimedMany t_fits t_fitOf t_sights t_systems t_own t_cross t_curveLong t_wallFirst), IA E 21 t_push, IA E 100 t_speckLow, IA E 100 t_speckHigh, IA E 100 t_sourceHold, IA E 100 r.2.1, IA E 100 r.2.2.1, IA E 100 r.2.2.2.1, IA E 21 r.2.2.2.2.1, JA E 6 r.2.2.2.2.2.1, IA E 800 r.2.2.2.2.2.2.1, IA E 48 t_ways, IA E 8 r.2.2.2.2.2.2.2.1, JA E 48 r.2.2.2.2.2.2.2.2] h) n (inZ r.1 ∧ okA r.2.1 ∧ okA r.2.2.1 ∧ okA r.2.2.2.1 ∧ okA r.2.2.2.2.1 ∧ okJ r.2.2.2.2.2.1 ∧ okA r.2.2.2.2.2.2.1 ∧ okA r.2.2.2.2.2.2.2.1 ∧ okJ r.2.2.2.2.2.2.2.2) 0 0) 0 0 n (ov [a_t, (a_t + 6), (a_t + 8), (a_t + 9), (a_t + 10), (a_t + 24), (a_t + 25), (a_t + 26), (a_t + 27), (a_t + 28), (a_t + 44), (a_t + 45), (a_t + 46), (a_t + 47)] [.inr (11, fsX11 a_t t_thrown t_taped t_p t_fault t_baseLow t_baseHigh t_newBaseLow t_newBaseHigh t_from t_knots t_lines t_chosen t_undos t_redos t_aimedMany t_fits t_fitOf t_sights t_systems t_own t_cross t_curveLong t_wallFirst), IA E 21 t_push, IA E 100 t_speckLow, IA E 100 t_speckHigh, IA E 100 t_sourceHold, IA E 100 t_cur, IA E 100 t_was, IA E 100 t_feel, IA E 21 t_pushAt, JA E 6 t_curSum, IA E 800 t_grain, IA E 48 t_ways, IA E 8 t_harder, JA E 48 t_grainSum] h) 109 [some (.ref a_t), some (vI v1), some (vI v2), some (vI v3), some (vI v4), some (vI v5), none, some (vI v7)] [vI s0] := by
  rw [m_X11_steps_109] at hs
  refine g_istore e_X11_steps_109 st1_6 rfl ?_
  refine g_aload_n e_X11_steps_111 rfl ?_
  refine g_aload_n e_X11_steps_112 rfl ?_
  refine g_get 0 64 ao rfl rfl fsX11_g64 fl_X11_142 e_X11_steps_113 ?_
  refine g_bipush e_X11_steps_116 bp_100 ?_
  refine g_iload e_X11_steps_118 rfl ?_
  refine g_imul e_X11_steps_120 ?_
  refine g_aload_n e_X11_steps_121 rfl ?_
  refine g_get 0 67 ao rfl rfl fsX11_g67 fl_X11_151 e_X11_steps_122 ?_
  refine g_bipush e_X11_steps_125 bp_6 ?_
  refine g_iload e_X11_steps_127 rfl ?_
  refine g_imul e_X11_steps_129 ?_
  obtain ⟨hc11, hs⟩ := chk_elim hs
  obtain ⟨hc12, hs⟩ := chk_elim hs
  obtain ⟨y13, hy13, hs⟩ := bind_elim hs
  refine g_callVv [.ref (a_t + 44), vI (100 * v7), .ref (a_t + 47), vI (6 * v7)] cv_X11_353 ⟨rfl, rfl, Nat.le_of_ble_eq_true rfl, Nat.le_of_ble_eq_true rfl⟩ (Ct_heap (ct_X11_keeps (a_t := a_t) (a_p1 := (a_t + 44)) (a_p3 := (a_t + 47)) (AO_call [0, 5, 9, 10, 13] ao (by decide) rfl) (by omega) (by omega) (FA_call [0, 5, 9, 10, 13] ao.1 rfl rfl) ok_t_cur ok_t_curSum ok_t_grain ok_t_grainSum hc11 hc12 hy13) (ov_call (esn := [.inr (11, fsX11 a_t t_thrown t_taped t_p t_fault t_baseLow t_baseHigh t_newBaseLow t_newBaseHigh t_from t_knots t_lines t_chosen t_undos t_redos t_aimedMany t_fits t_fitOf t_sights t_systems t_own t_cross t_curveLong t_wallFirst), IA E 21 t_push, IA E 100 t_speckLow, IA E 100 t_speckHigh, IA E 100 t_sourceHold, IA E 100 t_cur, IA E 100 t_was, IA E 100 t_feel, IA E 21 t_pushAt, JA E 6 t_curSum, IA E 800 y13.1, IA E 48 t_ways, IA E 8 t_harder, JA E 48 y13.2]) [0, 5, 9, 10, 13] ao.1 rfl rfl rfl rfl)) e_X11_steps_130 (ao.2 0 _ rfl) (ov_get 0 ao.1 rfl rfl) rfl rfl rfl (Nat.le_of_ble_eq_true rfl) ⟨Nat.le_refl _, Nat.le_refl _⟩ (fun Py13 => ?_)
  refine g_iinc e_X11_steps_133 rfl st1_7 rfl ?_
  refine g_goto e_X11_steps_136 ?_
  obtain ⟨hc14, hs⟩ := chk_elim hs
  exact hag _ _ _ _ _ _ _ _ ok_t_cur ok_t_was ok_t_feel ok_t_curSum Py13.1 Py13.2 ok_s0 hc14 hs

noncomputable def m_X11_steps_104 (t_baseLow : Int) (t_baseHigh : Int) (t_systems : Int) (t_speckLow : Nat → Int) (t_speckHigh : Nat → Int) (t_sourceHold : Nat → Int) (t_cur : Nat → Int) (t_was : Nat → Int) (t_feel : Nat → Int) (t_pushAt : Nat → Int) (t_curSum : Nat → Int) (t_grain : Nat → Int) (t_ways : Nat → Int) (t_harder : Nat → Int) (t_grainSum : Nat → Int) (v1 : Int) (v2 : Int) (v3 : Int) (v4 : Int) (v5 : Int) (v7 : Int) (ag : (Nat → Int) → (Nat → Int) → (Nat → Int) → (Nat → Int) → (Nat → Int) → (Nat → Int) → Int → Int → Option (Int × (Nat → Int) × (Nat → Int) × (Nat → Int) × (Nat → Int) × (Nat → Int) × (Nat → Int) × (Nat → Int) × (Nat → Int))) (k_139 : (Nat → Int) → (Nat → Int) → (Nat → Int) → (Nat → Int) → (Nat → Int) → (Nat → Int) → Int → Int → Option (Int × (Nat → Int) × (Nat → Int) × (Nat → Int) × (Nat → Int) × (Nat → Int) × (Nat → Int) × (Nat → Int) × (Nat → Int))) : Option (Int × (Nat → Int) × (Nat → Int) × (Nat → Int) × (Nat → Int) × (Nat → Int) × (Nat → Int) × (Nat → Int) × (Nat → Int)) :=
  m_X11_steps_109 t_baseLow t_baseHigh t_systems t_speckLow t_speckHigh t_sourceHold t_cur t_was t_feel t_pushAt t_curSum t_grain t_ways t_harder t_grainSum v1 v2 v3 v4 v5 v7 1 ag k_139

set_option maxRecDepth 10000 in
set_option maxHeartbeats 8000000 in
theorem g_X11_steps_104 {l : Launch} {E : EE} {b0 n : Nat} {h : AH} {a_t : Nat} {t_thrown t_taped t_p t_fault t_baseLow t_baseHigh t_newBaseLow t_newBaseHigh t_from t_knots t_lines t_chosen t_undos t_redos t_aimedMany t_fits t_fitOf t_sights t_systems t_own t_cross t_curveLong t_wallFirst v1 v2 v3 v4 v5 v7 : Int} {t_push t_speckLow t_speckHigh t_sourceHold t_cur t_was t_feel t_pushAt t_curSum t_grain t_ways t_harder t_grainSum : Nat → Int} {r : Int × (Nat → Int) × (Nat → Int) × (Nat → Int) × (Nat → Int) × (Nat → Int) × (Nat → Int) × (Nat → Int) × (Nat → Int)} {ag : (Nat → Int) → (Nat → Int) → (Nat → Int) → (Nat → Int) → (Nat → Int) → (Nat → Int) → Int → Int → Option (Int × (Nat → Int) × (Nat → Int) × (Nat → Int) × (Nat → Int) × (Nat → Int) × (Nat → Int) × (Nat → Int) × (Nat → Int))} {k_139 : (Nat → Int) → (Nat → Int) → (Nat → Int) → (Nat → Int) → (Nat → Int) → (Nat → Int) → Int → Int → Option (Int × (Nat → Int) × (Nat → Int) × (Nat → Int) × (Nat → Int) × (Nat → Int) × (Nat → Int) × (Nat → Int) × (Nat → Int))} (ao : AO b0 n [a_t, (a_t + 6), (a_t + 8), (a_t + 9), (a_t + 10), (a_t + 24), (a_t + 25), (a_t + 26), (a_t + 27), (a_t + 28), (a_t + 44), (a_t + 45), (a_t + 46), (a_t + 47)]) (ok_t_baseLow : inI t_baseLow) (ok_t_baseHigh : inI t_baseHigh) (ok_t_systems : inI t_systems) (ok_t_own : inI t_own) (ok_t_cross : inI t_cross) (ok_t_push : okA t_push) (ok_t_speckLow : okA t_speckLow) (ok_t_speckHigh : okA t_speckHigh) (ok_t_sourceHold : okA t_sourceHold) (ok_t_cur : okA t_cur) (ok_t_was : okA t_was) (ok_t_feel : okA t_feel) (ok_t_pushAt : okA t_pushAt) (ok_t_curSum : okJ t_curSum) (ok_t_grain : okA t_grain) (ok_t_ways : okA t_ways) (ok_t_harder : okA t_harder) (ok_t_grainSum : okJ t_grainSum) (ok_v1 : inI v1) (ok_v2 : inI v2) (ok_v3 : inI v3) (ok_v4 : inI v4) (ok_v5 : inI v5) (ok_v7 : inI v7) (hag : ∀ (t_cur_ : Nat → Int) (t_was_ : Nat → Int) (t_feel_ : Nat → Int) (t_curSum_ : Nat → Int) (t_grain_ : Nat → Int) (t_grainSum_ : Nat → Int) (v6_ : Int) (v7_ : Int), okA t_cur_ → okA t_was_ → okA t_feel_ → okJ t_curSum_ → okA t_grain_ → okJ t_grainSum_ → inZ v6_ → inI v7_ → ag t_cur_ t_was_ t_feel_ t_curSum_ t_grain_ t_grainSum_ v6_ v7_ = some r → G l E b0 M_X11_steps (fun _ => True) (ZM E b0 (some (vI r.1)) (ov [a_t, (a_t + 6), (a_t + 8), (a_t + 9), (a_t + 10), (a_t + 24), (a_t + 25), (a_t + 26), (a_t + 27), (a_t + 28), (a_t + 44), (a_t + 45), (a_t + 46), (a_t + 47)] [.inr (11, fsX11 a_t t_thrown t_taped t_p t_fault t_baseLow t_baseHigh t_newBaseLow t_newBaseHigh t_from t_knots t_lines t_chosen t_undos t_redos t_aimedMany t_fits t_fitOf t_sights t_systems t_own t_cross t_curveLong t_wallFirst), IA E 21 t_push, IA E 100 t_speckLow, IA E 100 t_speckHigh, IA E 100 t_sourceHold, IA E 100 r.2.1, IA E 100 r.2.2.1, IA E 100 r.2.2.2.1, IA E 21 r.2.2.2.2.1, JA E 6 r.2.2.2.2.2.1, IA E 800 r.2.2.2.2.2.2.1, IA E 48 t_ways, IA E 8 r.2.2.2.2.2.2.2.1, JA E 48 r.2.2.2.2.2.2.2.2] h) n (inZ r.1 ∧ okA r.2.1 ∧ okA r.2.2.1 ∧ okA r.2.2.2.1 ∧ okA r.2.2.2.2.1 ∧ okJ r.2.2.2.2.2.1 ∧ okA r.2.2.2.2.2.2.1 ∧ okA r.2.2.2.2.2.2.2.1 ∧ okJ r.2.2.2.2.2.2.2.2) 0 0) 0 0 n (ov [a_t, (a_t + 6), (a_t + 8), (a_t + 9), (a_t + 10), (a_t + 24), (a_t + 25), (a_t + 26), (a_t + 27), (a_t + 28), (a_t + 44), (a_t + 45), (a_t + 46), (a_t + 47)] [.inr (11, fsX11 a_t t_thrown t_taped t_p t_fault t_baseLow t_baseHigh t_newBaseLow t_newBaseHigh t_from t_knots t_lines t_chosen t_undos t_redos t_aimedMany t_fits t_fitOf t_sights t_systems t_own t_cross t_curveLong t_wallFirst), IA E 21 t_push, IA E 100 t_speckLow, IA E 100 t_speckHigh, IA E 100 t_sourceHold, IA E 100 t_cur_, IA E 100 t_was_, IA E 100 t_feel_, IA E 21 t_pushAt, JA E 6 t_curSum_, IA E 800 t_grain_, IA E 48 t_ways, IA E 8 t_harder, JA E 48 t_grainSum_] h) 41 [some (.ref a_t), some (vI v1), some (vI v2), some (vI v3), some (vI v4), some (vI v5), some (vI v6_), some (vI v7_)] []) (hk_139 : ∀ (t_cur_ : Nat → Int) (t_was_ : Nat → Int) (t_feel_ : Nat → Int) (t_curSum_ : Nat → Int) (t_grain_ : Nat → Int) (t_grainSum_ : Nat → Int) (v6_ : Int) (v7_ : Int), okA t_cur_ → okA t_was_ → okA t_feel_ → okJ t_curSum_ → okA t_grain_ → okJ t_grainSum_ → inZ v6_ → inI v7_ → k_139 t_cur_ t_was_ t_feel_ t_curSum_ t_grain_ t_grainSum_ v6_ v7_ = some r → G l E b0 M_X11_steps (fun _ => True) (ZM E b0 (some (vI r.1)) (ov [a_t, (a_t + 6), (a_t + 8), (a_t + 9), (a_t + 10), (a_t + 24), (a_t + 25), (a_t + 26), (a_t + 27), (a_t + 28), (a_t + 44), (a_t + 45), (a_t + 46), (a_t + 47)] [.inr (11, fsX11 a_t t_thrown t_taped t_p t_fault t_baseLow t_baseHigh t_newBaseLow t_newBaseHigh t_from t_knots t_lines t_chosen t_undos t_redos t_aimedMany t_fits t_fitOf t_sights t_systems t_own t_cross t_curveLong t_wallFirst), IA E 21 t_push, IA E 100 t_speckLow, IA E 100 t_speckHigh, IA E 100 t_sourceHold, IA E 100 r.2.1, IA E 100 r.2.2.1, IA E 100 r.2.2.2.1, IA E 21 r.2.2.2.2.1, JA E 6 r.2.2.2.2.2.1, IA E 800 r.2.2.2.2.2.2.1, IA E 48 t_ways, IA E 8 r.2.2.2.2.2.2.2.1, JA E 48 r.2.2.2.2.2.2.2.2] h) n (inZ r.1 ∧ okA r.2.1 ∧ okA r.2.2.1 ∧ okA r.2.2.2.1 ∧ okA r.2.2.2.2.1 ∧ okJ r.2.2.2.2.2.1 ∧ okA r.2.2.2.2.2.2.1 ∧ okA r.2.2.2.2.2.2.2.1 ∧ okJ r.2.2.2.2.2.2.2.2) 0 0) 0 0 n (ov [a_t, (a_t + 6), (a_t + 8), (a_t + 9), (a_t + 10), (a_t + 24), (a_t + 25), (a_t + 26), (a_t + 27), (a_t + 28), (a_t + 44), (a_t + 45), (a_t + 46), (a_t + 47)] [.inr (11, fsX11 a_t t_thrown t_taped t_p t_fault t_baseLow t_baseHigh t_newBaseLow t_newBaseHigh t_from t_knots t_lines t_chosen t_undos t_redos t_aimedMany t_fits t_fitOf t_sights t_systems t_own t_cross t_curveLong t_wallFirst), IA E 21 t_push, IA E 100 t_speckLow, IA E 100 t_speckHigh, IA E 100 t_sourceHold, IA E 100 t_cur_, IA E 100 t_was_, IA E 100 t_feel_, IA E 21 t_pushAt, JA E 6 t_curSum_, IA E 800 t_grain_, IA E 48 t_ways, IA E 8 t_harder, JA E 48 t_grainSum_] h) 139 [none, none, none, none, none, none, some (vI v6_), none] []) (hs : m_X11_steps_104 t_baseLow t_baseHigh t_systems t_speckLow t_speckHigh t_sourceHold t_cur t_was t_feel t_pushAt t_curSum t_grain t_ways t_harder t_grainSum v1 v2 v3 v4 v5 v7 ag k_139 = some r) : G l E b0 M_X11_steps (fun _ => True) (ZM E b0 (some (vI r.1)) (ov [a_t, (a_t + 6), (a_t + 8), (a_t + 9), (a_t + 10), (a_t + 24), (a_t + 25), (a_t + 26), (a_t + 27), (a_t + 28), (a_t + 44), (a_t + 45), (a_t + 46), (a_t + 47)] [.inr (11, fsX11 a_t t_thrown t_taped t_p t_fault t_baseLow t_baseHigh t_newBaseLow t_newBaseHigh t_from t_knots t_lines t_chosen t_undos t_redos t_aimedMany t_fits t_fitOf t_sights t_systems t_own t_cross t_curveLong t_wallFirst), IA E 21 t_push, IA E 100 t_speckLow, IA E 100 t_speckHigh, IA E 100 t_sourceHold, IA E 100 r.2.1, IA E 100 r.2.2.1, IA E 100 r.2.2.2.1, IA E 21 r.2.2.2.2.1, JA E 6 r.2.2.2.2.2.1, IA E 800 r.2.2.2.2.2.2.1, IA E 48 t_ways, IA E 8 r.2.2.2.2.2.2.2.1, JA E 48 r.2.2.2.2.2.2.2.2] h) n (inZ r.1 ∧ okA r.2.1 ∧ okA r.2.2.1 ∧ okA r.2.2.2.1 ∧ okA r.2.2.2.2.1 ∧ okJ r.2.2.2.2.2.1 ∧ okA r.2.2.2.2.2.2.1 ∧ okA r.2.2.2.2.2.2.2.1 ∧ okJ r.2.2.2.2.2.2.2.2) 0 0) 0 0 n (ov [a_t, (a_t + 6), (a_t + 8), (a_t + 9), (a_t + 10), (a_t + 24), (a_t + 25), (a_t + 26), (a_t + 27), (a_t + 28), (a_t + 44), (a_t + 45), (a_t + 46), (a_t + 47)] [.inr (11, fsX11 a_t t_thrown t_taped t_p t_fault t_baseLow t_baseHigh t_newBaseLow t_newBaseHigh t_from t_knots t_lines t_chosen t_undos t_redos t_aimedMany t_fits t_fitOf t_sights t_systems t_own t_cross t_curveLong t_wallFirst), IA E 21 t_push, IA E 100 t_speckLow, IA E 100 t_speckHigh, IA E 100 t_sourceHold, IA E 100 t_cur, IA E 100 t_was, IA E 100 t_feel, IA E 21 t_pushAt, JA E 6 t_curSum, IA E 800 t_grain, IA E 48 t_ways, IA E 8 t_harder, JA E 48 t_grainSum] h) 104 [some (.ref a_t), some (vI v1), some (vI v2), some (vI v3), some (vI v4), some (vI v5), none, some (vI v7)] [] := by
  rw [m_X11_steps_104] at hs
  refine g_iconst e_X11_steps_104 ?_
  refine g_goto e_X11_steps_105 ?_
  exact g_X11_steps_109 ao ok_t_baseLow ok_t_baseHigh ok_t_systems ok_t_own ok_t_cross ok_t_push ok_t_speckLow ok_t_speckHigh ok_t_sourceHold ok_t_cur ok_t_was ok_t_feel ok_t_pushAt ok_t_curSum ok_t_grain ok_t_ways ok_t_harder ok_t_grainSum ok_v1 ok_v2 ok_v3 ok_v4 ok_v5 ok_v7 (by decide : inZ 1) hag hk_139 hs

noncomputable def m_X11_steps_41 (t_baseLow : Int) (t_baseHigh : Int) (t_systems : Int) (t_speckLow : Nat → Int) (t_speckHigh : Nat → Int) (t_sourceHold : Nat → Int) (t_pushAt : Nat → Int) (t_ways : Nat → Int) (t_harder : Nat → Int) (v1 : Int) (v2 : Int) (v3 : Int) (v4 : Int) (v5 : Int) (k_139 : (Nat → Int) → (Nat → Int) → (Nat → Int) → (Nat → Int) → (Nat → Int) → (Nat → Int) → Int → Int → Option (Int × (Nat → Int) × (Nat → Int) × (Nat → Int) × (Nat → Int) × (Nat → Int) × (Nat → Int) × (Nat → Int) × (Nat → Int))) : Nat → (Nat → Int) → (Nat → Int) → (Nat → Int) → (Nat → Int) → (Nat → Int) → (Nat → Int) → Int → Int → Option (Int × (Nat → Int) × (Nat → Int) × (Nat → Int) × (Nat → Int) × (Nat → Int) × (Nat → Int) × (Nat → Int) × (Nat → Int))
  | 0, _, _, _, _, _, _, _, _ => none
  | F + 1, t_cur, t_was, t_feel, t_curSum, t_grain, t_grainSum, v6, v7 => if t_systems ≤ v7 then (some (v6, t_cur, t_was, t_feel, t_pushAt, t_curSum, t_grain, t_harder, t_grainSum)) else (chk (inI (100 * v7)) (chk (inI (6 * v7)) ((m_X11_takes 800 48 t_cur t_curSum t_grain t_grainSum (100 * v7) (6 * v7)).bind (fun y7 => (m_X11_pulledOn t_ways v1 v2 v3 v4 v7).bind (fun y8 => chk (inB v7 8) ((m_X11_tick t_baseLow t_baseHigh t_speckLow t_speckHigh t_sourceHold y7.1 t_was t_feel t_pushAt y7.2 y8 v5 (t_harder (Int.toNat v7))).bind (fun y10 => if y10.1 = 0 then (if v6 = 0 then (m_X11_steps_109 t_baseLow t_baseHigh t_systems t_speckLow t_speckHigh t_sourceHold y10.2.1 y10.2.2.1 y10.2.2.2.1 t_pushAt y10.2.2.2.2 t_grain t_ways t_harder t_grainSum v1 v2 v3 v4 v5 v7 0 (m_X11_steps_41 t_baseLow t_baseHigh t_systems t_speckLow t_speckHigh t_sourceHold t_pushAt t_ways t_harder v1 v2 v3 v4 v5 k_139 F) k_139) else (m_X11_steps_104 t_baseLow t_baseHigh t_systems t_speckLow t_speckHigh t_sourceHold y10.2.1 y10.2.2.1 y10.2.2.2.1 t_pushAt y10.2.2.2.2 t_grain t_ways t_harder t_grainSum v1 v2 v3 v4 v5 v7 (m_X11_steps_41 t_baseLow t_baseHigh t_systems t_speckLow t_speckHigh t_sourceHold t_pushAt t_ways t_harder v1 v2 v3 v4 v5 k_139 F) k_139)) else (m_X11_steps_104 t_baseLow t_baseHigh t_systems t_speckLow t_speckHigh t_sourceHold y10.2.1 y10.2.2.1 y10.2.2.2.1 t_pushAt y10.2.2.2.2 t_grain t_ways t_harder t_grainSum v1 v2 v3 v4 v5 v7 (m_X11_steps_41 t_baseLow t_baseHigh t_systems t_speckLow t_speckHigh t_sourceHold t_pushAt t_ways t_harder v1 v2 v3 v4 v5 k_139 F) k_139))))))))

set_option maxRecDepth 10000 in
set_option maxHeartbeats 8000000 in
theorem g_X11_steps_41 {l : Launch} {E : EE} {b0 n : Nat} {h : AH} {a_t : Nat} {t_thrown t_taped t_p t_fault t_baseLow t_baseHigh t_newBaseLow t_newBaseHigh t_from t_knots t_lines t_chosen t_undos t_redos t_aimedMany t_fits t_fitOf t_sights t_systems t_own t_cross t_curveLong t_wallFirst v1 v2 v3 v4 v5 : Int} {t_push t_speckLow t_speckHigh t_sourceHold t_pushAt t_ways t_harder : Nat → Int} {r : Int × (Nat → Int) × (Nat → Int) × (Nat → Int) × (Nat → Int) × (Nat → Int) × (Nat → Int) × (Nat → Int) × (Nat → Int)} {k_139 : (Nat → Int) → (Nat → Int) → (Nat → Int) → (Nat → Int) → (Nat → Int) → (Nat → Int) → Int → Int → Option (Int × (Nat → Int) × (Nat → Int) × (Nat → Int) × (Nat → Int) × (Nat → Int) × (Nat → Int) × (Nat → Int) × (Nat → Int))} (ao : AO b0 n [a_t, (a_t + 6), (a_t + 8), (a_t + 9), (a_t + 10), (a_t + 24), (a_t + 25), (a_t + 26), (a_t + 27), (a_t + 28), (a_t + 44), (a_t + 45), (a_t + 46), (a_t + 47)]) (ok_t_baseLow : inI t_baseLow) (ok_t_baseHigh : inI t_baseHigh) (ok_t_systems : inI t_systems) (ok_t_own : inI t_own) (ok_t_cross : inI t_cross) (ok_t_push : okA t_push) (ok_t_speckLow : okA t_speckLow) (ok_t_speckHigh : okA t_speckHigh) (ok_t_sourceHold : okA t_sourceHold) (ok_t_pushAt : okA t_pushAt) (ok_t_ways : okA t_ways) (ok_t_harder : okA t_harder) (ok_v1 : inI v1) (ok_v2 : inI v2) (ok_v3 : inI v3) (ok_v4 : inI v4) (ok_v5 : inI v5) (hk_139 : ∀ (t_cur_ : Nat → Int) (t_was_ : Nat → Int) (t_feel_ : Nat → Int) (t_curSum_ : Nat → Int) (t_grain_ : Nat → Int) (t_grainSum_ : Nat → Int) (v6_ : Int) (v7_ : Int), okA t_cur_ → okA t_was_ → okA t_feel_ → okJ t_curSum_ → okA t_grain_ → okJ t_grainSum_ → inZ v6_ → inI v7_ → k_139 t_cur_ t_was_ t_feel_ t_curSum_ t_grain_ t_grainSum_ v6_ v7_ = some r → G l E b0 M_X11_steps (fun _ => True) (ZM E b0 (some (vI r.1)) (ov [a_t, (a_t + 6), (a_t + 8), (a_t + 9), (a_t + 10), (a_t + 24), (a_t + 25), (a_t + 26), (a_t + 27), (a_t + 28), (a_t + 44), (a_t + 45), (a_t + 46), (a_t + 47)] [.inr (11, fsX11 a_t t_thrown t_taped t_p t_fault t_baseLow t_baseHigh t_newBaseLow t_newBaseHigh t_from t_knots t_lines t_chosen t_undos t_redos t_aimedMany t_fits t_fitOf t_sights t_systems t_own t_cross t_curveLong t_wallFirst), IA E 21 t_push, IA E 100 t_speckLow, IA E 100 t_speckHigh, IA E 100 t_sourceHold, IA E 100 r.2.1, IA E 100 r.2.2.1, IA E 100 r.2.2.2.1, IA E 21 r.2.2.2.2.1, JA E 6 r.2.2.2.2.2.1, IA E 800 r.2.2.2.2.2.2.1, IA E 48 t_ways, IA E 8 r.2.2.2.2.2.2.2.1, JA E 48 r.2.2.2.2.2.2.2.2] h) n (inZ r.1 ∧ okA r.2.1 ∧ okA r.2.2.1 ∧ okA r.2.2.2.1 ∧ okA r.2.2.2.2.1 ∧ okJ r.2.2.2.2.2.1 ∧ okA r.2.2.2.2.2.2.1 ∧ okA r.2.2.2.2.2.2.2.1 ∧ okJ r.2.2.2.2.2.2.2.2) 0 0) 0 0 n (ov [a_t, (a_t + 6), (a_t + 8), (a_t + 9), (a_t + 10), (a_t + 24), (a_t + 25), (a_t + 26), (a_t + 27), (a_t + 28), (a_t + 44), (a_t + 45), (a_t + 46), (a_t + 47)] [.inr (11, fsX11 a_t t_thrown t_taped t_p t_fault t_baseLow t_baseHigh t_newBaseLow t_newBaseHigh t_from t_knots t_lines t_chosen t_undos t_redos t_aimedMany t_fits t_fitOf t_sights t_systems t_own t_cross t_curveLong t_wallFirst), IA E 21 t_push, IA E 100 t_speckLow, IA E 100 t_speckHigh, IA E 100 t_sourceHold, IA E 100 t_cur_, IA E 100 t_was_, IA E 100 t_feel_, IA E 21 t_pushAt, JA E 6 t_curSum_, IA E 800 t_grain_, IA E 48 t_ways, IA E 8 t_harder, JA E 48 t_grainSum_] h) 139 [none, none, none, none, none, none, some (vI v6_), none] []) :
    ∀ (F : Nat) (t_cur : Nat → Int) (t_was : Nat → Int) (t_feel : Nat → Int) (t_curSum : Nat → Int) (t_grain : Nat → Int) (t_grainSum : Nat → Int) (v6 : Int) (v7 : Int), okA t_cur → okA t_was → okA t_feel → okJ t_curSum → okA t_grain → okJ t_grainSum → inZ v6 → inI v7 → m_X11_steps_41 t_baseLow t_baseHigh t_systems t_speckLow t_speckHigh t_sourceHold t_pushAt t_ways t_harder v1 v2 v3 v4 v5 k_139 F t_cur t_was t_feel t_curSum t_grain t_grainSum v6 v7 = some r → G l E b0 M_X11_steps (fun _ => True) (ZM E b0 (some (vI r.1)) (ov [a_t, (a_t + 6), (a_t + 8), (a_t + 9), (a_t + 10), (a_t + 24), (a_t + 25), (a_t + 26), (a_t + 27), (a_t + 28), (a_t + 44), (a_t + 45), (a_t + 46), (a_t + 47)] [.inr (11, fsX11 a_t t_thrown t_taped t_p t_fault t_baseLow t_baseHigh t_newBaseLow t_newBaseHigh t_from t_knots t_lines t_chosen t_undos t_redos t_aimedMany t_fits t_fitOf t_sights t_systems t_own t_cross t_curveLong t_wallFirst), IA E 21 t_push, IA E 100 t_speckLow, IA E 100 t_speckHigh, IA E 100 t_sourceHold, IA E 100 r.2.1, IA E 100 r.2.2.1, IA E 100 r.2.2.2.1, IA E 21 r.2.2.2.2.1, JA E 6 r.2.2.2.2.2.1, IA E 800 r.2.2.2.2.2.2.1, IA E 48 t_ways, IA E 8 r.2.2.2.2.2.2.2.1, JA E 48 r.2.2.2.2.2.2.2.2] h) n (inZ r.1 ∧ okA r.2.1 ∧ okA r.2.2.1 ∧ okA r.2.2.2.1 ∧ okA r.2.2.2.2.1 ∧ okJ r.2.2.2.2.2.1 ∧ okA r.2.2.2.2.2.2.1 ∧ okA r.2.2.2.2.2.2.2.1 ∧ okJ r.2.2.2.2.2.2.2.2) 0 0) 0 0 n (ov [a_t, (a_t + 6), (a_t + 8), (a_t + 9), (a_t + 10), (a_t + 24), (a_t + 25), (a_t + 26), (a_t + 27), (a_t + 28), (a_t + 44), (a_t + 45), (a_t + 46), (a_t + 47)] [.inr (11, fsX11 a_t t_thrown t_taped t_p t_fault t_baseLow t_baseHigh t_newBaseLow t_newBaseHigh t_from t_knots t_lines t_chosen t_undos t_redos t_aimedMany t_fits t_fitOf t_sights t_systems t_own t_cross t_curveLong t_wallFirst), IA E 21 t_push, IA E 100 t_speckLow, IA E 100 t_speckHigh, IA E 100 t_sourceHold, IA E 100 t_cur, IA E 100 t_was, IA E 100 t_feel, IA E 21 t_pushAt, JA E 6 t_curSum, IA E 800 t_grain, IA E 48 t_ways, IA E 8 t_harder, JA E 48 t_grainSum] h) 41 [some (.ref a_t), some (vI v1), some (vI v2), some (vI v3), some (vI v4), some (vI v5), some (vI v6), some (vI v7)] [] := by
  intro F
  induction F with
  | zero =>
    intro t_cur t_was t_feel t_curSum t_grain t_grainSum v6 v7 ok_t_cur ok_t_was ok_t_feel ok_t_curSum ok_t_grain ok_t_grainSum ok_v6 ok_v7 hs
    rw [m_X11_steps_41] at hs
    cases hs
  | succ F ih =>
    intro t_cur t_was t_feel t_curSum t_grain t_grainSum v6 v7 ok_t_cur ok_t_was ok_t_feel ok_t_curSum ok_t_grain ok_t_grainSum ok_v6 ok_v7 hs
    rw [m_X11_steps_41] at hs
    refine g_iload e_X11_steps_41 rfl ?_
    refine g_aload_n e_X11_steps_43 rfl ?_
    refine g_get 0 61 ao rfl rfl fsX11_g61 fl_X11_398 e_X11_steps_44 ?_
    refine g_icmp_ge e_X11_steps_47 ok_v7 ok_t_systems hs (fun c47 hs => ?_) (fun c47 hs => ?_)
    · refine g_iload e_X11_steps_139 rfl ?_
      obtain rfl := Option.some.inj hs
      exact g_zret rfl ok_v6 ⟨ok_v6, ok_t_cur, ok_t_was, ok_t_feel, ok_t_pushAt, ok_t_curSum, ok_t_grain, ok_t_harder, ok_t_grainSum⟩ e_X11_steps_141
    · refine g_aload_n e_X11_steps_50 rfl ?_
      refine g_aload_n e_X11_steps_51 rfl ?_
      refine g_get 0 64 ao rfl rfl fsX11_g64 fl_X11_142 e_X11_steps_52 ?_
      refine g_bipush e_X11_steps_55 bp_100 ?_
      refine g_iload e_X11_steps_57 rfl ?_
      refine g_imul e_X11_steps_59 ?_
      refine g_aload_n e_X11_steps_60 rfl ?_
      refine g_get 0 67 ao rfl rfl fsX11_g67 fl_X11_151 e_X11_steps_61 ?_
      refine g_bipush e_X11_steps_64 bp_6 ?_
      refine g_iload e_X11_steps_66 rfl ?_
      refine g_imul e_X11_steps_68 ?_
      obtain ⟨hc5, hs⟩ := chk_elim hs
      obtain ⟨hc6, hs⟩ := chk_elim hs
      obtain ⟨y7, hy7, hs⟩ := bind_elim hs
      refine g_callVv [.ref (a_t + 44), vI (100 * v7), .ref (a_t + 47), vI (6 * v7)] cv_X11_346 ⟨rfl, rfl, Nat.le_of_ble_eq_true rfl, Nat.le_of_ble_eq_true rfl⟩ (Ct_heap (ct_X11_takes (a_t := a_t) (a_p1 := (a_t + 44)) (a_p3 := (a_t + 47)) (AO_call [0, 5, 9, 10, 13] ao (by decide) rfl) (by omega) (by omega) (FA_call [0, 5, 9, 10, 13] ao.1 rfl rfl) ok_t_cur ok_t_curSum ok_t_grain ok_t_grainSum hc5 hc6 hy7) (ov_call (esn := [.inr (11, fsX11 a_t t_thrown t_taped t_p t_fault t_baseLow t_baseHigh t_newBaseLow t_newBaseHigh t_from t_knots t_lines t_chosen t_undos t_redos t_aimedMany t_fits t_fitOf t_sights t_systems t_own t_cross t_curveLong t_wallFirst), IA E 21 t_push, IA E 100 t_speckLow, IA E 100 t_speckHigh, IA E 100 t_sourceHold, IA E 100 y7.1, IA E 100 t_was, IA E 100 t_feel, IA E 21 t_pushAt, JA E 6 y7.2, IA E 800 t_grain, IA E 48 t_ways, IA E 8 t_harder, JA E 48 t_grainSum]) [0, 5, 9, 10, 13] ao.1 rfl rfl rfl rfl)) e_X11_steps_69 (ao.2 0 _ rfl) (ov_get 0 ao.1 rfl rfl) rfl rfl rfl (Nat.le_of_ble_eq_true rfl) ⟨Nat.le_refl _, Nat.le_refl _⟩ (fun Py7 => ?_)
      refine g_aload_n e_X11_steps_72 rfl ?_
      refine g_aload_n e_X11_steps_73 rfl ?_
      refine g_iload_n e_X11_steps_74 rfl ?_
      refine g_iload_n e_X11_steps_75 rfl ?_
      refine g_iload_n e_X11_steps_76 rfl ?_
      refine g_iload e_X11_steps_77 rfl ?_
      refine g_iload e_X11_steps_79 rfl ?_
      obtain ⟨y8, hy8, hs⟩ := bind_elim hs
      refine g_callVr [vI v1, vI v2, vI v3, vI v4, vI v7] cv_X11_421 ⟨rfl, rfl, Nat.le_of_ble_eq_true rfl, Nat.le_of_ble_eq_true rfl⟩ (ct_X11_pulledOn (a_t := a_t) (AO_call [0, 11] ao (by decide) rfl) (FA_call [0, 11] ao.1 rfl rfl) ok_t_ways ok_v1 ok_v2 ok_v3 ok_v4 ok_v7 hy8) e_X11_steps_81 (ao.2 0 _ rfl) (ov_get 0 ao.1 rfl rfl) rfl rfl rfl (Nat.le_of_ble_eq_true rfl) ⟨Nat.le_refl _, Nat.le_refl _⟩ (fun Py8 => ?_)
      refine g_iload e_X11_steps_84 rfl ?_
      refine g_aload_n e_X11_steps_86 rfl ?_
      refine g_get 0 66 ao rfl rfl fsX11_g66 fl_X11_148 e_X11_steps_87 ?_
      refine g_iload e_X11_steps_90 rfl ?_
      refine g_iald 12 ao rfl rfl (Nat.le_of_ble_eq_true rfl) e_X11_steps_92 hs (fun hi9 hs => ?_)
      obtain ⟨y10, hy10, hs⟩ := bind_elim hs
      refine g_callVr [vI y8, vI v5, vI (t_harder (Int.toNat v7))] cv_X11_340 ⟨rfl, rfl, Nat.le_of_ble_eq_true rfl, Nat.le_of_ble_eq_true rfl⟩ (Ct_heap (ct_X11_tick (a_t := a_t) (AO_call [0, 2, 3, 4, 5, 6, 7, 8, 9] ao (by decide) rfl) (FA_call [0, 2, 3, 4, 5, 6, 7, 8, 9] ao.1 rfl rfl) ok_t_baseLow ok_t_baseHigh ok_t_speckLow ok_t_speckHigh ok_t_sourceHold Py7.1 ok_t_was ok_t_feel ok_t_pushAt Py7.2 Py8 ok_v5 (ok_t_harder _) hy10) (ov_call (esn := [.inr (11, fsX11 a_t t_thrown t_taped t_p t_fault t_baseLow t_baseHigh t_newBaseLow t_newBaseHigh t_from t_knots t_lines t_chosen t_undos t_redos t_aimedMany t_fits t_fitOf t_sights t_systems t_own t_cross t_curveLong t_wallFirst), IA E 21 t_push, IA E 100 t_speckLow, IA E 100 t_speckHigh, IA E 100 t_sourceHold, IA E 100 y10.2.1, IA E 100 y10.2.2.1, IA E 100 y10.2.2.2.1, IA E 21 t_pushAt, JA E 6 y10.2.2.2.2, IA E 800 t_grain, IA E 48 t_ways, IA E 8 t_harder, JA E 48 t_grainSum]) [0, 2, 3, 4, 5, 6, 7, 8, 9] ao.1 rfl rfl rfl rfl)) e_X11_steps_93 (ao.2 0 _ rfl) (ov_get 0 ao.1 rfl rfl) rfl rfl rfl (Nat.le_of_ble_eq_true rfl) ⟨Nat.le_refl _, Nat.le_refl _⟩ (fun Py10 => ?_)
      refine g_if_ne e_X11_steps_96 (inZ_I Py10.1) hs (fun c96 hs => ?_) (fun c96 hs => ?_)
      · refine g_iload e_X11_steps_99 rfl ?_
        refine g_if_eq e_X11_steps_101 (inZ_I ok_v6) hs (fun c101 hs => ?_) (fun c101 hs => ?_)
        · refine g_iconst e_X11_steps_108 ?_
          exact g_mask [true, true, true, true, true, true, false, true] (g_X11_steps_109 ao ok_t_baseLow ok_t_baseHigh ok_t_systems ok_t_own ok_t_cross ok_t_push ok_t_speckLow ok_t_speckHigh ok_t_sourceHold Py10.2.1 Py10.2.2.1 Py10.2.2.2.1 ok_t_pushAt Py10.2.2.2.2 ok_t_grain ok_t_ways ok_t_harder ok_t_grainSum ok_v1 ok_v2 ok_v3 ok_v4 ok_v5 ok_v7 (by decide : inZ 0) ih hk_139 hs)
        · exact g_mask [true, true, true, true, true, true, false, true] (g_X11_steps_104 ao ok_t_baseLow ok_t_baseHigh ok_t_systems ok_t_own ok_t_cross ok_t_push ok_t_speckLow ok_t_speckHigh ok_t_sourceHold Py10.2.1 Py10.2.2.1 Py10.2.2.2.1 ok_t_pushAt Py10.2.2.2.2 ok_t_grain ok_t_ways ok_t_harder ok_t_grainSum ok_v1 ok_v2 ok_v3 ok_v4 ok_v5 ok_v7 ih hk_139 hs)
      · exact g_mask [true, true, true, true, true, true, false, true] (g_X11_steps_104 ao ok_t_baseLow ok_t_baseHigh ok_t_systems ok_t_own ok_t_cross ok_t_push ok_t_speckLow ok_t_speckHigh ok_t_sourceHold Py10.2.1 Py10.2.2.1 Py10.2.2.2.1 ok_t_pushAt Py10.2.2.2.2 ok_t_grain ok_t_ways ok_t_harder ok_t_grainSum ok_v1 ok_v2 ok_v3 ok_v4 ok_v5 ok_v7 ih hk_139 hs)

noncomputable def m_X11_steps_139 (t_cur : Nat → Int) (t_was : Nat → Int) (t_feel : Nat → Int) (t_pushAt : Nat → Int) (t_curSum : Nat → Int) (t_grain : Nat → Int) (t_harder : Nat → Int) (t_grainSum : Nat → Int) (v6 : Int) : Option (Int × (Nat → Int) × (Nat → Int) × (Nat → Int) × (Nat → Int) × (Nat → Int) × (Nat → Int) × (Nat → Int) × (Nat → Int)) :=
  some (v6, t_cur, t_was, t_feel, t_pushAt, t_curSum, t_grain, t_harder, t_grainSum)

set_option maxRecDepth 10000 in
set_option maxHeartbeats 8000000 in
theorem g_X11_steps_139 {l : Launch} {E : EE} {b0 n : Nat} {h : AH} {a_t : Nat} {t_thrown t_taped t_p t_fault t_baseLow t_baseHigh t_newBaseLow t_newBaseHigh t_from t_knots t_lines t_chosen t_undos t_redos t_aimedMany t_fits t_fitOf t_sights t_systems t_own t_cross t_curveLong t_wallFirst v6 : Int} {t_push t_speckLow t_speckHigh t_sourceHold t_cur t_was t_feel t_pushAt t_curSum t_grain t_ways t_harder t_grainSum : Nat → Int} {r : Int × (Nat → Int) × (Nat → Int) × (Nat → Int) × (Nat → Int) × (Nat → Int) × (Nat → Int) × (Nat → Int) × (Nat → Int)} (ao : AO b0 n [a_t, (a_t + 6), (a_t + 8), (a_t + 9), (a_t + 10), (a_t + 24), (a_t + 25), (a_t + 26), (a_t + 27), (a_t + 28), (a_t + 44), (a_t + 45), (a_t + 46), (a_t + 47)]) (ok_t_baseLow : inI t_baseLow) (ok_t_baseHigh : inI t_baseHigh) (ok_t_systems : inI t_systems) (ok_t_own : inI t_own) (ok_t_cross : inI t_cross) (ok_t_push : okA t_push) (ok_t_speckLow : okA t_speckLow) (ok_t_speckHigh : okA t_speckHigh) (ok_t_sourceHold : okA t_sourceHold) (ok_t_cur : okA t_cur) (ok_t_was : okA t_was) (ok_t_feel : okA t_feel) (ok_t_pushAt : okA t_pushAt) (ok_t_curSum : okJ t_curSum) (ok_t_grain : okA t_grain) (ok_t_ways : okA t_ways) (ok_t_harder : okA t_harder) (ok_t_grainSum : okJ t_grainSum) (ok_v6 : inZ v6) (hs : m_X11_steps_139 t_cur t_was t_feel t_pushAt t_curSum t_grain t_harder t_grainSum v6 = some r) : G l E b0 M_X11_steps (fun _ => True) (ZM E b0 (some (vI r.1)) (ov [a_t, (a_t + 6), (a_t + 8), (a_t + 9), (a_t + 10), (a_t + 24), (a_t + 25), (a_t + 26), (a_t + 27), (a_t + 28), (a_t + 44), (a_t + 45), (a_t + 46), (a_t + 47)] [.inr (11, fsX11 a_t t_thrown t_taped t_p t_fault t_baseLow t_baseHigh t_newBaseLow t_newBaseHigh t_from t_knots t_lines t_chosen t_undos t_redos t_aimedMany t_fits t_fitOf t_sights t_systems t_own t_cross t_curveLong t_wallFirst), IA E 21 t_push, IA E 100 t_speckLow, IA E 100 t_speckHigh, IA E 100 t_sourceHold, IA E 100 r.2.1, IA E 100 r.2.2.1, IA E 100 r.2.2.2.1, IA E 21 r.2.2.2.2.1, JA E 6 r.2.2.2.2.2.1, IA E 800 r.2.2.2.2.2.2.1, IA E 48 t_ways, IA E 8 r.2.2.2.2.2.2.2.1, JA E 48 r.2.2.2.2.2.2.2.2] h) n (inZ r.1 ∧ okA r.2.1 ∧ okA r.2.2.1 ∧ okA r.2.2.2.1 ∧ okA r.2.2.2.2.1 ∧ okJ r.2.2.2.2.2.1 ∧ okA r.2.2.2.2.2.2.1 ∧ okA r.2.2.2.2.2.2.2.1 ∧ okJ r.2.2.2.2.2.2.2.2) 0 0) 0 0 n (ov [a_t, (a_t + 6), (a_t + 8), (a_t + 9), (a_t + 10), (a_t + 24), (a_t + 25), (a_t + 26), (a_t + 27), (a_t + 28), (a_t + 44), (a_t + 45), (a_t + 46), (a_t + 47)] [.inr (11, fsX11 a_t t_thrown t_taped t_p t_fault t_baseLow t_baseHigh t_newBaseLow t_newBaseHigh t_from t_knots t_lines t_chosen t_undos t_redos t_aimedMany t_fits t_fitOf t_sights t_systems t_own t_cross t_curveLong t_wallFirst), IA E 21 t_push, IA E 100 t_speckLow, IA E 100 t_speckHigh, IA E 100 t_sourceHold, IA E 100 t_cur, IA E 100 t_was, IA E 100 t_feel, IA E 21 t_pushAt, JA E 6 t_curSum, IA E 800 t_grain, IA E 48 t_ways, IA E 8 t_harder, JA E 48 t_grainSum] h) 139 [none, none, none, none, none, none, some (vI v6), none] [] := by
  rw [m_X11_steps_139] at hs
  refine g_iload e_X11_steps_139 rfl ?_
  obtain rfl := Option.some.inj hs
  exact g_zret rfl ok_v6 ⟨ok_v6, ok_t_cur, ok_t_was, ok_t_feel, ok_t_pushAt, ok_t_curSum, ok_t_grain, ok_t_harder, ok_t_grainSum⟩ e_X11_steps_141

noncomputable def m_X11_steps_34 (t_baseLow : Int) (t_baseHigh : Int) (t_systems : Int) (t_push : Nat → Int) (t_speckLow : Nat → Int) (t_speckHigh : Nat → Int) (t_sourceHold : Nat → Int) (t_cur : Nat → Int) (t_was : Nat → Int) (t_feel : Nat → Int) (t_pushAt : Nat → Int) (t_curSum : Nat → Int) (t_grain : Nat → Int) (t_ways : Nat → Int) (t_harder : Nat → Int) (t_grainSum : Nat → Int) (v1 : Int) (v2 : Int) (v3 : Int) (v4 : Int) (v5 : Int) (v6 : Int) : Option (Int × (Nat → Int) × (Nat → Int) × (Nat → Int) × (Nat → Int) × (Nat → Int) × (Nat → Int) × (Nat → Int) × (Nat → Int)) :=
  (m_X11_pushesAsRead t_push t_pushAt).bind (fun y4 => m_X11_steps_41 t_baseLow t_baseHigh t_systems t_speckLow t_speckHigh t_sourceHold y4 t_ways t_harder v1 v2 v3 v4 v5 (fun t_cur' t_was' t_feel' t_curSum' t_grain' t_grainSum' v6' v7' => m_X11_steps_139 t_cur' t_was' t_feel' y4 t_curSum' t_grain' t_harder t_grainSum' v6') FU t_cur t_was t_feel t_curSum t_grain t_grainSum v6 0)

set_option maxRecDepth 10000 in
set_option maxHeartbeats 8000000 in
theorem g_X11_steps_34 {l : Launch} {E : EE} {b0 n : Nat} {h : AH} {a_t : Nat} {t_thrown t_taped t_p t_fault t_baseLow t_baseHigh t_newBaseLow t_newBaseHigh t_from t_knots t_lines t_chosen t_undos t_redos t_aimedMany t_fits t_fitOf t_sights t_systems t_own t_cross t_curveLong t_wallFirst v1 v2 v3 v4 v5 v6 : Int} {t_push t_speckLow t_speckHigh t_sourceHold t_cur t_was t_feel t_pushAt t_curSum t_grain t_ways t_harder t_grainSum : Nat → Int} {r : Int × (Nat → Int) × (Nat → Int) × (Nat → Int) × (Nat → Int) × (Nat → Int) × (Nat → Int) × (Nat → Int) × (Nat → Int)} (ao : AO b0 n [a_t, (a_t + 6), (a_t + 8), (a_t + 9), (a_t + 10), (a_t + 24), (a_t + 25), (a_t + 26), (a_t + 27), (a_t + 28), (a_t + 44), (a_t + 45), (a_t + 46), (a_t + 47)]) (ok_t_baseLow : inI t_baseLow) (ok_t_baseHigh : inI t_baseHigh) (ok_t_systems : inI t_systems) (ok_t_own : inI t_own) (ok_t_cross : inI t_cross) (ok_t_push : okA t_push) (ok_t_speckLow : okA t_speckLow) (ok_t_speckHigh : okA t_speckHigh) (ok_t_sourceHold : okA t_sourceHold) (ok_t_cur : okA t_cur) (ok_t_was : okA t_was) (ok_t_feel : okA t_feel) (ok_t_pushAt : okA t_pushAt) (ok_t_curSum : okJ t_curSum) (ok_t_grain : okA t_grain) (ok_t_ways : okA t_ways) (ok_t_harder : okA t_harder) (ok_t_grainSum : okJ t_grainSum) (ok_v1 : inI v1) (ok_v2 : inI v2) (ok_v3 : inI v3) (ok_v4 : inI v4) (ok_v5 : inI v5) (ok_v6 : inZ v6) (hs : m_X11_steps_34 t_baseLow t_baseHigh t_systems t_push t_speckLow t_speckHigh t_sourceHold t_cur t_was t_feel t_pushAt t_curSum t_grain t_ways t_harder t_grainSum v1 v2 v3 v4 v5 v6 = some r) : G l E b0 M_X11_steps (fun _ => True) (ZM E b0 (some (vI r.1)) (ov [a_t, (a_t + 6), (a_t + 8), (a_t + 9), (a_t + 10), (a_t + 24), (a_t + 25), (a_t + 26), (a_t + 27), (a_t + 28), (a_t + 44), (a_t + 45), (a_t + 46), (a_t + 47)] [.inr (11, fsX11 a_t t_thrown t_taped t_p t_fault t_baseLow t_baseHigh t_newBaseLow t_newBaseHigh t_from t_knots t_lines t_chosen t_undos t_redos t_aimedMany t_fits t_fitOf t_sights t_systems t_own t_cross t_curveLong t_wallFirst), IA E 21 t_push, IA E 100 t_speckLow, IA E 100 t_speckHigh, IA E 100 t_sourceHold, IA E 100 r.2.1, IA E 100 r.2.2.1, IA E 100 r.2.2.2.1, IA E 21 r.2.2.2.2.1, JA E 6 r.2.2.2.2.2.1, IA E 800 r.2.2.2.2.2.2.1, IA E 48 t_ways, IA E 8 r.2.2.2.2.2.2.2.1, JA E 48 r.2.2.2.2.2.2.2.2] h) n (inZ r.1 ∧ okA r.2.1 ∧ okA r.2.2.1 ∧ okA r.2.2.2.1 ∧ okA r.2.2.2.2.1 ∧ okJ r.2.2.2.2.2.1 ∧ okA r.2.2.2.2.2.2.1 ∧ okA r.2.2.2.2.2.2.2.1 ∧ okJ r.2.2.2.2.2.2.2.2) 0 0) 0 0 n (ov [a_t, (a_t + 6), (a_t + 8), (a_t + 9), (a_t + 10), (a_t + 24), (a_t + 25), (a_t + 26), (a_t + 27), (a_t + 28), (a_t + 44), (a_t + 45), (a_t + 46), (a_t + 47)] [.inr (11, fsX11 a_t t_thrown t_taped t_p t_fault t_baseLow t_baseHigh t_newBaseLow t_newBaseHigh t_from t_knots t_lines t_chosen t_undos t_redos t_aimedMany t_fits t_fitOf t_sights t_systems t_own t_cross t_curveLong t_wallFirst), IA E 21 t_push, IA E 100 t_speckLow, IA E 100 t_speckHigh, IA E 100 t_sourceHold, IA E 100 t_cur, IA E 100 t_was, IA E 100 t_feel, IA E 21 t_pushAt, JA E 6 t_curSum, IA E 800 t_grain, IA E 48 t_ways, IA E 8 t_harder, JA E 48 t_grainSum] h) 34 [some (.ref a_t), some (vI v1), some (vI v2), some (vI v3), some (vI v4), some (vI v5), some (vI v6), none] [] := by
  rw [m_X11_steps_34] at hs
  refine g_aload_n e_X11_steps_34 rfl ?_
  obtain ⟨y4, hy4, hs⟩ := bind_elim hs
  refine g_callVv [] cv_X11_343 ⟨rfl, rfl, Nat.le_of_ble_eq_true rfl, Nat.le_of_ble_eq_true rfl⟩ (Ct_heap (ct_X11_pushesAsRead (a_t := a_t) (AO_call [0, 1, 8] ao (by decide) rfl) (FA_call [0, 1, 8] ao.1 rfl rfl) ok_t_push ok_t_pushAt hy4) (ov_call (esn := [.inr (11, fsX11 a_t t_thrown t_taped t_p t_fault t_baseLow t_baseHigh t_newBaseLow t_newBaseHigh t_from t_knots t_lines t_chosen t_undos t_redos t_aimedMany t_fits t_fitOf t_sights t_systems t_own t_cross t_curveLong t_wallFirst), IA E 21 t_push, IA E 100 t_speckLow, IA E 100 t_speckHigh, IA E 100 t_sourceHold, IA E 100 t_cur, IA E 100 t_was, IA E 100 t_feel, IA E 21 y4, JA E 6 t_curSum, IA E 800 t_grain, IA E 48 t_ways, IA E 8 t_harder, JA E 48 t_grainSum]) [0, 1, 8] ao.1 rfl rfl rfl rfl)) e_X11_steps_35 (ao.2 0 _ rfl) (ov_get 0 ao.1 rfl rfl) rfl rfl rfl (Nat.le_of_ble_eq_true rfl) ⟨Nat.le_refl _, Nat.le_refl _⟩ (fun Py4 => ?_)
  refine g_iconst e_X11_steps_38 ?_
  refine g_istore e_X11_steps_39 st1_7 rfl ?_
  exact g_X11_steps_41 ao ok_t_baseLow ok_t_baseHigh ok_t_systems ok_t_own ok_t_cross ok_t_push ok_t_speckLow ok_t_speckHigh ok_t_sourceHold Py4 ok_t_ways ok_t_harder ok_v1 ok_v2 ok_v3 ok_v4 ok_v5 (hk_139 := by
      intro t_cur' t_was' t_feel' t_curSum' t_grain' t_grainSum' v6' v7' ok_t_cur' ok_t_was' ok_t_feel' ok_t_curSum' ok_t_grain' ok_t_grainSum' ok_v6' ok_v7' hs
      exact g_X11_steps_139 ao ok_t_baseLow ok_t_baseHigh ok_t_systems ok_t_own ok_t_cross ok_t_push ok_t_speckLow ok_t_speckHigh ok_t_sourceHold ok_t_cur' ok_t_was' ok_t_feel' Py4 ok_t_curSum' ok_t_grain' ok_t_ways ok_t_harder ok_t_grainSum' ok_v6' hs) FU _ _ _ _ _ _ _ _ ok_t_cur ok_t_was ok_t_feel ok_t_curSum ok_t_grain ok_t_grainSum ok_v6 (by decide : inI 0) hs

noncomputable def m_X11_steps_0 (t_baseLow : Int) (t_baseHigh : Int) (t_systems : Int) (t_own : Int) (t_cross : Int) (t_push : Nat → Int) (t_speckLow : Nat → Int) (t_speckHigh : Nat → Int) (t_sourceHold : Nat → Int) (t_cur : Nat → Int) (t_was : Nat → Int) (t_feel : Nat → Int) (t_pushAt : Nat → Int) (t_curSum : Nat → Int) (t_grain : Nat → Int) (t_ways : Nat → Int) (t_harder : Nat → Int) (t_grainSum : Nat → Int) (v1 : Int) (v2 : Int) (v3 : Int) (v4 : Int) (v5 : Int) : Option (Int × (Nat → Int) × (Nat → Int) × (Nat → Int) × (Nat → Int) × (Nat → Int) × (Nat → Int) × (Nat → Int) × (Nat → Int)) :=
  m_X11_steps_6 t_systems t_own t_cross t_grainSum (fun t_harder' v7' => m_X11_steps_34 t_baseLow t_baseHigh t_systems t_push t_speckLow t_speckHigh t_sourceHold t_cur t_was t_feel t_pushAt t_curSum t_grain t_ways t_harder' t_grainSum v1 v2 v3 v4 v5 0) FU t_harder 0

set_option maxRecDepth 10000 in
set_option maxHeartbeats 8000000 in
theorem g_X11_steps_0 {l : Launch} {E : EE} {b0 n : Nat} {h : AH} {a_t : Nat} {t_thrown t_taped t_p t_fault t_baseLow t_baseHigh t_newBaseLow t_newBaseHigh t_from t_knots t_lines t_chosen t_undos t_redos t_aimedMany t_fits t_fitOf t_sights t_systems t_own t_cross t_curveLong t_wallFirst v1 v2 v3 v4 v5 : Int} {t_push t_speckLow t_speckHigh t_sourceHold t_cur t_was t_feel t_pushAt t_curSum t_grain t_ways t_harder t_grainSum : Nat → Int} {r : Int × (Nat → Int) × (Nat → Int) × (Nat → Int) × (Nat → Int) × (Nat → Int) × (Nat → Int) × (Nat → Int) × (Nat → Int)} (ao : AO b0 n [a_t, (a_t + 6), (a_t + 8), (a_t + 9), (a_t + 10), (a_t + 24), (a_t + 25), (a_t + 26), (a_t + 27), (a_t + 28), (a_t + 44), (a_t + 45), (a_t + 46), (a_t + 47)]) (ok_t_baseLow : inI t_baseLow) (ok_t_baseHigh : inI t_baseHigh) (ok_t_systems : inI t_systems) (ok_t_own : inI t_own) (ok_t_cross : inI t_cross) (ok_t_push : okA t_push) (ok_t_speckLow : okA t_speckLow) (ok_t_speckHigh : okA t_speckHigh) (ok_t_sourceHold : okA t_sourceHold) (ok_t_cur : okA t_cur) (ok_t_was : okA t_was) (ok_t_feel : okA t_feel) (ok_t_pushAt : okA t_pushAt) (ok_t_curSum : okJ t_curSum) (ok_t_grain : okA t_grain) (ok_t_ways : okA t_ways) (ok_t_harder : okA t_harder) (ok_t_grainSum : okJ t_grainSum) (ok_v1 : inI v1) (ok_v2 : inI v2) (ok_v3 : inI v3) (ok_v4 : inI v4) (ok_v5 : inI v5) (hs : m_X11_steps_0 t_baseLow t_baseHigh t_systems t_own t_cross t_push t_speckLow t_speckHigh t_sourceHold t_cur t_was t_feel t_pushAt t_curSum t_grain t_ways t_harder t_grainSum v1 v2 v3 v4 v5 = some r) : G l E b0 M_X11_steps (fun _ => True) (ZM E b0 (some (vI r.1)) (ov [a_t, (a_t + 6), (a_t + 8), (a_t + 9), (a_t + 10), (a_t + 24), (a_t + 25), (a_t + 26), (a_t + 27), (a_t + 28), (a_t + 44), (a_t + 45), (a_t + 46), (a_t + 47)] [.inr (11, fsX11 a_t t_thrown t_taped t_p t_fault t_baseLow t_baseHigh t_newBaseLow t_newBaseHigh t_from t_knots t_lines t_chosen t_undos t_redos t_aimedMany t_fits t_fitOf t_sights t_systems t_own t_cross t_curveLong t_wallFirst), IA E 21 t_push, IA E 100 t_speckLow, IA E 100 t_speckHigh, IA E 100 t_sourceHold, IA E 100 r.2.1, IA E 100 r.2.2.1, IA E 100 r.2.2.2.1, IA E 21 r.2.2.2.2.1, JA E 6 r.2.2.2.2.2.1, IA E 800 r.2.2.2.2.2.2.1, IA E 48 t_ways, IA E 8 r.2.2.2.2.2.2.2.1, JA E 48 r.2.2.2.2.2.2.2.2] h) n (inZ r.1 ∧ okA r.2.1 ∧ okA r.2.2.1 ∧ okA r.2.2.2.1 ∧ okA r.2.2.2.2.1 ∧ okJ r.2.2.2.2.2.1 ∧ okA r.2.2.2.2.2.2.1 ∧ okA r.2.2.2.2.2.2.2.1 ∧ okJ r.2.2.2.2.2.2.2.2) 0 0) 0 0 n (ov [a_t, (a_t + 6), (a_t + 8), (a_t + 9), (a_t + 10), (a_t + 24), (a_t + 25), (a_t + 26), (a_t + 27), (a_t + 28), (a_t + 44), (a_t + 45), (a_t + 46), (a_t + 47)] [.inr (11, fsX11 a_t t_thrown t_taped t_p t_fault t_baseLow t_baseHigh t_newBaseLow t_newBaseHigh t_from t_knots t_lines t_chosen t_undos t_redos t_aimedMany t_fits t_fitOf t_sights t_systems t_own t_cross t_curveLong t_wallFirst), IA E 21 t_push, IA E 100 t_speckLow, IA E 100 t_speckHigh, IA E 100 t_sourceHold, IA E 100 t_cur, IA E 100 t_was, IA E 100 t_feel, IA E 21 t_pushAt, JA E 6 t_curSum, IA E 800 t_grain, IA E 48 t_ways, IA E 8 t_harder, JA E 48 t_grainSum] h) 0 [some (.ref a_t), some (vI v1), some (vI v2), some (vI v3), some (vI v4), some (vI v5), none, none] [] := by
  rw [m_X11_steps_0] at hs
  refine g_iconst e_X11_steps_0 ?_
  refine g_istore e_X11_steps_1 st1_6 rfl ?_
  refine g_iconst e_X11_steps_3 ?_
  refine g_istore e_X11_steps_4 st1_7 rfl ?_
  exact g_X11_steps_6 ao ok_t_baseLow ok_t_baseHigh ok_t_systems ok_t_own ok_t_cross ok_t_push ok_t_speckLow ok_t_speckHigh ok_t_sourceHold ok_t_cur ok_t_was ok_t_feel ok_t_pushAt ok_t_curSum ok_t_grain ok_t_ways ok_t_grainSum ok_v1 ok_v2 ok_v3 ok_v4 ok_v5 (by decide : inZ 0) (hk_34 := by
      intro t_harder' v7' ok_t_harder' ok_v7' hs
      exact g_X11_steps_34 ao ok_t_baseLow ok_t_baseHigh ok_t_systems ok_t_own ok_t_cross ok_t_push ok_t_speckLow ok_t_speckHigh ok_t_sourceHold ok_t_cur ok_t_was ok_t_feel ok_t_pushAt ok_t_curSum ok_t_grain ok_t_ways ok_t_harder' ok_t_grainSum ok_v1 ok_v2 ok_v3 ok_v4 ok_v5 (by decide : inZ 0) hs) FU _ _ ok_t_harder (by decide : inI 0) hs

noncomputable def m_X11_steps (t_baseLow : Int) (t_baseHigh : Int) (t_systems : Int) (t_own : Int) (t_cross : Int) (t_push : Nat → Int) (t_speckLow : Nat → Int) (t_speckHigh : Nat → Int) (t_sourceHold : Nat → Int) (t_cur : Nat → Int) (t_was : Nat → Int) (t_feel : Nat → Int) (t_pushAt : Nat → Int) (t_curSum : Nat → Int) (t_grain : Nat → Int) (t_ways : Nat → Int) (t_harder : Nat → Int) (t_grainSum : Nat → Int) (v1 : Int) (v2 : Int) (v3 : Int) (v4 : Int) (v5 : Int) : Option (Int × (Nat → Int) × (Nat → Int) × (Nat → Int) × (Nat → Int) × (Nat → Int) × (Nat → Int) × (Nat → Int) × (Nat → Int)) := m_X11_steps_0 t_baseLow t_baseHigh t_systems t_own t_cross t_push t_speckLow t_speckHigh t_sourceHold t_cur t_was t_feel t_pushAt t_curSum t_grain t_ways t_harder t_grainSum v1 v2 v3 v4 v5

set_option maxRecDepth 10000 in
set_option maxHeartbeats 8000000 in
theorem ct_X11_steps {l : Launch} {E : EE} {b0 n : Nat} {h : AH} {a_t : Nat} {t_thrown t_taped t_p t_fault t_baseLow t_baseHigh t_newBaseLow t_newBaseHigh t_from t_knots t_lines t_chosen t_undos t_redos t_aimedMany t_fits t_fitOf t_sights t_systems t_own t_cross t_curveLong t_wallFirst : Int} {t_push t_speckLow t_speckHigh t_sourceHold t_cur t_was t_feel t_pushAt t_curSum t_grain t_ways t_harder t_grainSum : Nat → Int} {v1 v2 v3 v4 v5 : Int} (ao : AO b0 n [a_t, (a_t + 6), (a_t + 8), (a_t + 9), (a_t + 10), (a_t + 24), (a_t + 25), (a_t + 26), (a_t + 27), (a_t + 28), (a_t + 44), (a_t + 45), (a_t + 46), (a_t + 47)]) (hf : FA h [a_t, (a_t + 6), (a_t + 8), (a_t + 9), (a_t + 10), (a_t + 24), (a_t + 25), (a_t + 26), (a_t + 27), (a_t + 28), (a_t + 44), (a_t + 45), (a_t + 46), (a_t + 47)] [.inr (11, fsX11 a_t t_thrown t_taped t_p t_fault t_baseLow t_baseHigh t_newBaseLow t_newBaseHigh t_from t_knots t_lines t_chosen t_undos t_redos t_aimedMany t_fits t_fitOf t_sights t_systems t_own t_cross t_curveLong t_wallFirst), IA E 21 t_push, IA E 100 t_speckLow, IA E 100 t_speckHigh, IA E 100 t_sourceHold, IA E 100 t_cur, IA E 100 t_was, IA E 100 t_feel, IA E 21 t_pushAt, JA E 6 t_curSum, IA E 800 t_grain, IA E 48 t_ways, IA E 8 t_harder, JA E 48 t_grainSum]) (ok_t_baseLow : inI t_baseLow) (ok_t_baseHigh : inI t_baseHigh) (ok_t_systems : inI t_systems) (ok_t_own : inI t_own) (ok_t_cross : inI t_cross) (ok_t_push : okA t_push) (ok_t_speckLow : okA t_speckLow) (ok_t_speckHigh : okA t_speckHigh) (ok_t_sourceHold : okA t_sourceHold) (ok_t_cur : okA t_cur) (ok_t_was : okA t_was) (ok_t_feel : okA t_feel) (ok_t_pushAt : okA t_pushAt) (ok_t_curSum : okJ t_curSum) (ok_t_grain : okA t_grain) (ok_t_ways : okA t_ways) (ok_t_harder : okA t_harder) (ok_t_grainSum : okJ t_grainSum) (ok_v1 : inI v1) (ok_v2 : inI v2) (ok_v3 : inI v3) (ok_v4 : inI v4) (ok_v5 : inI v5) {r : Int × (Nat → Int) × (Nat → Int) × (Nat → Int) × (Nat → Int) × (Nat → Int) × (Nat → Int) × (Nat → Int) × (Nat → Int)} (hm : m_X11_steps t_baseLow t_baseHigh t_systems t_own t_cross t_push t_speckLow t_speckHigh t_sourceHold t_cur t_was t_feel t_pushAt t_curSum t_grain t_ways t_harder t_grainSum v1 v2 v3 v4 v5 = some r) : Ct l E b0 M_X11_steps 0 0 [.ref a_t, vI v1, vI v2, vI v3, vI v4, vI v5] h n (some (vI r.1)) (ov [a_t, (a_t + 6), (a_t + 8), (a_t + 9), (a_t + 10), (a_t + 24), (a_t + 25), (a_t + 26), (a_t + 27), (a_t + 28), (a_t + 44), (a_t + 45), (a_t + 46), (a_t + 47)] [.inr (11, fsX11 a_t t_thrown t_taped t_p t_fault t_baseLow t_baseHigh t_newBaseLow t_newBaseHigh t_from t_knots t_lines t_chosen t_undos t_redos t_aimedMany t_fits t_fitOf t_sights t_systems t_own t_cross t_curveLong t_wallFirst), IA E 21 t_push, IA E 100 t_speckLow, IA E 100 t_speckHigh, IA E 100 t_sourceHold, IA E 100 r.2.1, IA E 100 r.2.2.1, IA E 100 r.2.2.2.1, IA E 21 r.2.2.2.2.1, JA E 6 r.2.2.2.2.2.1, IA E 800 r.2.2.2.2.2.2.1, IA E 48 t_ways, IA E 8 r.2.2.2.2.2.2.2.1, JA E 48 r.2.2.2.2.2.2.2.2] h) n (inZ r.1 ∧ okA r.2.1 ∧ okA r.2.2.1 ∧ okA r.2.2.2.1 ∧ okA r.2.2.2.2.1 ∧ okJ r.2.2.2.2.2.1 ∧ okA r.2.2.2.2.2.2.1 ∧ okA r.2.2.2.2.2.2.2.1 ∧ okJ r.2.2.2.2.2.2.2.2) := by
  rw [m_X11_steps] at hm
  have hg : G l E b0 M_X11_steps (fun _ => True) (ZM E b0 (some (vI r.1)) (ov [a_t, (a_t + 6), (a_t + 8), (a_t + 9), (a_t + 10), (a_t + 24), (a_t + 25), (a_t + 26), (a_t + 27), (a_t + 28), (a_t + 44), (a_t + 45), (a_t + 46), (a_t + 47)] [.inr (11, fsX11 a_t t_thrown t_taped t_p t_fault t_baseLow t_baseHigh t_newBaseLow t_newBaseHigh t_from t_knots t_lines t_chosen t_undos t_redos t_aimedMany t_fits t_fitOf t_sights t_systems t_own t_cross t_curveLong t_wallFirst), IA E 21 t_push, IA E 100 t_speckLow, IA E 100 t_speckHigh, IA E 100 t_sourceHold, IA E 100 r.2.1, IA E 100 r.2.2.1, IA E 100 r.2.2.2.1, IA E 21 r.2.2.2.2.1, JA E 6 r.2.2.2.2.2.1, IA E 800 r.2.2.2.2.2.2.1, IA E 48 t_ways, IA E 8 r.2.2.2.2.2.2.2.1, JA E 48 r.2.2.2.2.2.2.2.2] h) n (inZ r.1 ∧ okA r.2.1 ∧ okA r.2.2.1 ∧ okA r.2.2.2.1 ∧ okA r.2.2.2.2.1 ∧ okJ r.2.2.2.2.2.1 ∧ okA r.2.2.2.2.2.2.1 ∧ okA r.2.2.2.2.2.2.2.1 ∧ okJ r.2.2.2.2.2.2.2.2) 0 0) 0 0 n (ov [a_t, (a_t + 6), (a_t + 8), (a_t + 9), (a_t + 10), (a_t + 24), (a_t + 25), (a_t + 26), (a_t + 27), (a_t + 28), (a_t + 44), (a_t + 45), (a_t + 46), (a_t + 47)] [.inr (11, fsX11 a_t t_thrown t_taped t_p t_fault t_baseLow t_baseHigh t_newBaseLow t_newBaseHigh t_from t_knots t_lines t_chosen t_undos t_redos t_aimedMany t_fits t_fitOf t_sights t_systems t_own t_cross t_curveLong t_wallFirst), IA E 21 t_push, IA E 100 t_speckLow, IA E 100 t_speckHigh, IA E 100 t_sourceHold, IA E 100 t_cur, IA E 100 t_was, IA E 100 t_feel, IA E 21 t_pushAt, JA E 6 t_curSum, IA E 800 t_grain, IA E 48 t_ways, IA E 8 t_harder, JA E 48 t_grainSum] h) 0 [some (.ref a_t), some (vI v1), some (vI v2), some (vI v3), some (vI v4), some (vI v5), none, none] [] := by
    have hs := hm
    exact g_X11_steps_0 ao ok_t_baseLow ok_t_baseHigh ok_t_systems ok_t_own ok_t_cross ok_t_push ok_t_speckLow ok_t_speckHigh ok_t_sourceHold ok_t_cur ok_t_was ok_t_feel ok_t_pushAt ok_t_curSum ok_t_grain ok_t_ways ok_t_harder ok_t_grainSum ok_v1 ok_v2 ok_v3 ok_v4 ok_v5 hs
  rw [FA_id hf] at hg
  exact Ct_of [some (.ref a_t), some (vI v1), some (vI v2), some (vI v3), some (vI v4), some (vI v5), none, none] ⟨by decide +kernel, rfl⟩ rfl (Nat.le_of_ble_eq_true rfl) hg


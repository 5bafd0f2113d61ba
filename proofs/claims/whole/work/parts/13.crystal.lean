def M_X1_dropSights : MB := (yX1_dropSights, cX1_dropSights, 2, (some .int), ({ frames := 1, cells := 0, slots := 0, locals := 40 } : Room), RX1)
def M_X1_addSight : MB := (yX1_addSight, cX1_addSight, 3, (some .int), ({ frames := 2, cells := 0, slots := 0, locals := 61 } : Room), RX1)
def M_X1_isSeenBy : MB := (yX1_isSeenBy, cX1_isSeenBy, 3, (some .boolean), ({ frames := 3, cells := 0, slots := 0, locals := 84 } : Room), RX1)
def M_X1_fitsSights : MB := (yX1_fitsSights, cX1_fitsSights, 3, (some .boolean), ({ frames := 4, cells := 0, slots := 0, locals := 106 } : Room), RX1)
def M_X1_fitting : MB := (yX1_fitting, cX1_fitting, 4, (some .int), ({ frames := 5, cells := 0, slots := 0, locals := 128 } : Room), RX1)
def M_X1_fittingSeenBy : MB := (yX1_fittingSeenBy, cX1_fittingSeenBy, 4, (some .int), ({ frames := 5, cells := 0, slots := 0, locals := 128 } : Room), RX1)
def M_X1_drop : MB := (yX1_drop, cX1_drop, 1, none, ({ frames := 3, cells := 0, slots := 0, locals := 84 } : Room), RX1)
def M_X1_bestEye : MB := (yX1_bestEye, cX1_bestEye, 7, (some .int), ({ frames := 6, cells := 0, slots := 0, locals := 151 } : Room), RX1)
theorem cb_X1_fitsSights : CB M_X1_fitsSights 1 := ⟨GW_of 1231 (by decide +kernel) (by decide +kernel), GW_of 95 (by decide +kernel) (by decide +kernel), by decide +kernel, by decide +kernel, by decide +kernel⟩
theorem cb_X1_fitting : CB M_X1_fitting 1 := ⟨GW_of 1227 (by decide +kernel) (by decide +kernel), GW_of 95 (by decide +kernel) (by decide +kernel), by decide +kernel, by decide +kernel, by decide +kernel⟩
theorem cb_X1_fittingSeenBy : CB M_X1_fittingSeenBy 1 := ⟨GW_of 1249 (by decide +kernel) (by decide +kernel), GW_of 95 (by decide +kernel) (by decide +kernel), by decide +kernel, by decide +kernel, by decide +kernel⟩
theorem cb_X1_isSeenBy : CB M_X1_isSeenBy 2 := ⟨GW_of 1235 (by decide +kernel) (by decide +kernel), GW_of 95 (by decide +kernel) (by decide +kernel), by decide +kernel, by decide +kernel, by decide +kernel⟩
theorem cb_X3_drop : CB M_X3_drop 0 := ⟨GW_of 584 (by decide +kernel) (by decide +kernel), GW_of 93 (by decide +kernel) (by decide +kernel), by decide +kernel, by decide +kernel, by decide +kernel⟩
theorem cb_X8_drop : CB M_X8_drop 0 := ⟨GW_of 580 (by decide +kernel) (by decide +kernel), GW_of 87 (by decide +kernel) (by decide +kernel), by decide +kernel, by decide +kernel, by decide +kernel⟩
theorem cb_X8_product : CB M_X8_product 3 := ⟨GW_of 958 (by decide +kernel) (by decide +kernel), GW_of 87 (by decide +kernel) (by decide +kernel), by decide +kernel, by decide +kernel, by decide +kernel⟩
theorem jm_X1_74 : Cond.methodLink RX1 74 Lib.Math.max.name ∈ GW ∧ Cond.static Lib.Math.max.name ∈ GW ∧ Cond.initialized "java/lang/Math" ∈ GW ∧ Cond.code Lib.Math.max.name Lib.Math.max.code 2 (some .int) ∈ GW := ⟨GW_of 1250 (by decide +kernel) (by decide +kernel), GW_of 147 (by decide +kernel) (by decide +kernel), GW_of 88 (by decide +kernel) (by decide +kernel), GW_of 148 (by decide +kernel) (by decide +kernel)⟩
theorem fl_X1_45 : FL RX1 45 1 6 := ⟨RX1, TX1, 7, rfl, by decide, rfl, Or.inl (GW_of 490 (by decide +kernel) (by decide +kernel))⟩
theorem fw_X1_45 : FW RX1 45 1 6 false .int := ⟨RX1, TX1, 7, rfl, by decide, rfl, rfl, by decide +kernel, Or.inl (GW_of 490 (by decide +kernel) (by decide +kernel)), fun h => by cases h⟩
theorem fl_X1_23 : FL RX1 23 1 2 := ⟨RX1, TX1, 7, rfl, by decide, rfl, Or.inl (GW_of 482 (by decide +kernel) (by decide +kernel))⟩
theorem fl_X1_33 : FL RX1 33 1 4 := ⟨RX1, TX1, 7, rfl, by decide, rfl, Or.inl (GW_of 488 (by decide +kernel) (by decide +kernel))⟩
theorem fl_X1_37 : FL RX1 37 1 5 := ⟨RX1, TX1, 7, rfl, by decide, rfl, Or.inl (GW_of 489 (by decide +kernel) (by decide +kernel))⟩
theorem fl_X1_14 : FL RX1 14 1 0 := ⟨RX1, TX1, 7, rfl, by decide, rfl, Or.inl (GW_of 472 (by decide +kernel) (by decide +kernel))⟩
theorem fl_X1_61 : FL RX1 61 8 3 := ⟨RX8, TX8, 4, rfl, by decide, rfl, Or.inr (List.mem_of_getElem? (i := 1) (by decide +kernel))⟩
theorem fl_X1_20 : FL RX1 20 1 1 := ⟨RX1, TX1, 7, rfl, by decide, rfl, Or.inl (GW_of 477 (by decide +kernel) (by decide +kernel))⟩
theorem fl_X1_29 : FL RX1 29 1 3 := ⟨RX1, TX1, 7, rfl, by decide, rfl, Or.inl (GW_of 485 (by decide +kernel) (by decide +kernel))⟩
theorem cv_X1_49 : CV RX1 49 M_X8_has 1 := ⟨cb_X8_has, Or.inl (GW_of 1211 (by decide +kernel) (by decide +kernel)), GW_of 769 (by decide +kernel) (by decide +kernel), GW_of 770 (by decide +kernel) (by decide +kernel)⟩
theorem cv_X1_53 : CV RX1 53 M_X8_product 3 := ⟨cb_X8_product, Or.inl (GW_of 1236 (by decide +kernel) (by decide +kernel)), GW_of 956 (by decide +kernel) (by decide +kernel), GW_of 957 (by decide +kernel) (by decide +kernel)⟩
theorem cv_X1_57 : CV RX1 57 M_X1_isSeenBy 2 := ⟨cb_X1_isSeenBy, Or.inl (GW_of 1232 (by decide +kernel) (by decide +kernel)), GW_of 1233 (by decide +kernel) (by decide +kernel), GW_of 1234 (by decide +kernel) (by decide +kernel)⟩
theorem cv_X1_64 : CV RX1 64 M_X1_fitsSights 1 := ⟨cb_X1_fitsSights, Or.inl (GW_of 1228 (by decide +kernel) (by decide +kernel)), GW_of 1229 (by decide +kernel) (by decide +kernel), GW_of 1230 (by decide +kernel) (by decide +kernel)⟩
theorem cv_X1_41 : CV RX1 41 M_X8_drop 0 := ⟨cb_X8_drop, Or.inl (GW_of 577 (by decide +kernel) (by decide +kernel)), GW_of 578 (by decide +kernel) (by decide +kernel), GW_of 579 (by decide +kernel) (by decide +kernel)⟩
theorem cv_X1_44 : CV RX1 44 M_X3_drop 0 := ⟨cb_X3_drop, Or.inl (GW_of 581 (by decide +kernel) (by decide +kernel)), GW_of 582 (by decide +kernel) (by decide +kernel), GW_of 583 (by decide +kernel) (by decide +kernel)⟩
theorem cv_X1_67 : CV RX1 67 M_X1_fitting 1 := ⟨cb_X1_fitting, Or.inl (GW_of 1245 (by decide +kernel) (by decide +kernel)), GW_of 1225 (by decide +kernel) (by decide +kernel), GW_of 1226 (by decide +kernel) (by decide +kernel)⟩
theorem cv_X1_71 : CV RX1 71 M_X1_fittingSeenBy 1 := ⟨cb_X1_fittingSeenBy, Or.inl (GW_of 1246 (by decide +kernel) (by decide +kernel)), GW_of 1248 (by decide +kernel) (by decide +kernel), GW_of 31 (by decide +kernel) (by decide +kernel)⟩
/-! ===== X1_dropSights ===== -/
theorem e_X1_dropSights_0 : DC cX1_dropSights 0 (.aload_n 0) 1 1 := ⟨by decide +kernel, rfl⟩
theorem e_X1_dropSights_1 : DC cX1_dropSights 1 (.getfield 45) 3 4 := ⟨by decide +kernel, rfl⟩
theorem e_X1_dropSights_4 : DC cX1_dropSights 4 (.istore_n 1) 1 5 := ⟨by decide +kernel, rfl⟩
theorem e_X1_dropSights_5 : DC cX1_dropSights 5 (.aload_n 0) 1 6 := ⟨by decide +kernel, rfl⟩
theorem e_X1_dropSights_6 : DC cX1_dropSights 6 (.iconst 0) 1 7 := ⟨by decide +kernel, rfl⟩
theorem e_X1_dropSights_7 : DC cX1_dropSights 7 (.putfield 45) 3 10 := ⟨by decide +kernel, rfl⟩
theorem e_X1_dropSights_10 : DC cX1_dropSights 10 (.iload_n 1) 1 11 := ⟨by decide +kernel, rfl⟩
theorem e_X1_dropSights_11 : DC cX1_dropSights 11 (.ireturn) 1 12 := ⟨by decide +kernel, rfl⟩
noncomputable def m_X1_dropSights_0 (t_sightMany : Int) : Option (Int × Int) :=
  some (t_sightMany, 0)

set_option maxRecDepth 10000 in
theorem g_X1_dropSights_0 {l : Launch} {E : EE} {b0 n : Nat} {h : AH} {a_t : Nat} {t_sightMany : Int} {r : Int × Int} (ao : AO b0 n [a_t]) (ok_t_sightMany : inI t_sightMany) (hs : m_X1_dropSights_0 t_sightMany = some r) : G l E b0 M_X1_dropSights (fun _ => True) (ZM E b0 (some (vI r.1)) (ov [a_t] [.inr (1, fsX1 a_t r.2)] h) n (inI r.1 ∧ inI r.2) 0 0) 0 0 n (ov [a_t] [.inr (1, fsX1 a_t t_sightMany)] h) 0 [some (.ref a_t), none] [] := by
  rw [m_X1_dropSights_0] at hs
  refine g_aload_n e_X1_dropSights_0 rfl ?_
  refine g_get 0 6 ao rfl rfl fsX1_g6 fl_X1_45 e_X1_dropSights_1 ?_
  refine g_istore_n e_X1_dropSights_4 st1_1 rfl ?_
  refine g_aload_n e_X1_dropSights_5 rfl ?_
  refine g_iconst e_X1_dropSights_6 ?_
  refine g_put 0 6 ao rfl rfl fsX1_k6 fsX1_s6 ls_0 fw_X1_45 (fun h => by cases h) ⟨rfl, rfl⟩ e_X1_dropSights_7 ?_
  refine g_iload_n e_X1_dropSights_10 rfl ?_
  obtain rfl := Option.some.inj hs
  exact g_iret rfl ⟨ok_t_sightMany, (by decide : inI 0)⟩ e_X1_dropSights_11

noncomputable def m_X1_dropSights (t_sightMany : Int) : Option (Int × Int) := m_X1_dropSights_0 t_sightMany

set_option maxRecDepth 10000 in
theorem ct_X1_dropSights {l : Launch} {E : EE} {b0 n : Nat} {h : AH} {a_t : Nat} {t_sightMany : Int} (ao : AO b0 n [a_t]) (hf : FA h [a_t] [.inr (1, fsX1 a_t t_sightMany)]) (ok_t_sightMany : inI t_sightMany) {r : Int × Int} (hm : m_X1_dropSights t_sightMany = some r) : Ct l E b0 M_X1_dropSights 0 0 [.ref a_t] h n (some (vI r.1)) (ov [a_t] [.inr (1, fsX1 a_t r.2)] h) n (inI r.1 ∧ inI r.2) := by
  rw [m_X1_dropSights] at hm
  have hg : G l E b0 M_X1_dropSights (fun _ => True) (ZM E b0 (some (vI r.1)) (ov [a_t] [.inr (1, fsX1 a_t r.2)] h) n (inI r.1 ∧ inI r.2) 0 0) 0 0 n (ov [a_t] [.inr (1, fsX1 a_t t_sightMany)] h) 0 [some (.ref a_t), none] [] := by
    have hs := hm
    exact g_X1_dropSights_0 ao ok_t_sightMany hs
  rw [FA_id hf] at hg
  exact Ct_of [some (.ref a_t), none] ⟨by decide +kernel, rfl⟩ rfl (Nat.le_of_ble_eq_true rfl) hg

/-! ===== X1_addSight ===== -/
theorem e_X1_addSight_0 : DC cX1_addSight 0 (.aload_n 0) 1 1 := ⟨by decide +kernel, rfl⟩
theorem e_X1_addSight_1 : DC cX1_addSight 1 (.getfield 45) 3 4 := ⟨by decide +kernel, rfl⟩
theorem e_X1_addSight_4 : DC cX1_addSight 4 (.bipush 20) 2 6 := ⟨by decide +kernel, rfl⟩
theorem e_X1_addSight_6 : DB cX1_addSight 6 (.if_icmp .ge 14) (14) 3 9 20 := ⟨by decide +kernel, rfl, rfl⟩
theorem e_X1_addSight_9 : DC cX1_addSight 9 (.aload_n 0) 1 10 := ⟨by decide +kernel, rfl⟩
theorem e_X1_addSight_10 : DC cX1_addSight 10 (.getfield 23) 3 13 := ⟨by decide +kernel, rfl⟩
theorem e_X1_addSight_13 : DC cX1_addSight 13 (.iload_n 1) 1 14 := ⟨by decide +kernel, rfl⟩
theorem e_X1_addSight_14 : DC cX1_addSight 14 (.invokevirtual 49) 3 17 := ⟨by decide +kernel, rfl⟩
theorem e_X1_addSight_17 : DB cX1_addSight 17 (.ifCond .ne 5) (5) 3 20 22 := ⟨by decide +kernel, rfl, rfl⟩
theorem e_X1_addSight_20 : DC cX1_addSight 20 (.iconst (-1)) 1 21 := ⟨by decide +kernel, rfl⟩
theorem e_X1_addSight_21 : DC cX1_addSight 21 (.ireturn) 1 22 := ⟨by decide +kernel, rfl⟩
theorem e_X1_addSight_22 : DC cX1_addSight 22 (.aload_n 0) 1 23 := ⟨by decide +kernel, rfl⟩
theorem e_X1_addSight_23 : DC cX1_addSight 23 (.getfield 33) 3 26 := ⟨by decide +kernel, rfl⟩
theorem e_X1_addSight_26 : DC cX1_addSight 26 (.aload_n 0) 1 27 := ⟨by decide +kernel, rfl⟩
theorem e_X1_addSight_27 : DC cX1_addSight 27 (.getfield 45) 3 30 := ⟨by decide +kernel, rfl⟩
theorem e_X1_addSight_30 : DC cX1_addSight 30 (.iload_n 1) 1 31 := ⟨by decide +kernel, rfl⟩
theorem e_X1_addSight_31 : DC cX1_addSight 31 (.iastore) 1 32 := ⟨by decide +kernel, rfl⟩
theorem e_X1_addSight_32 : DC cX1_addSight 32 (.aload_n 0) 1 33 := ⟨by decide +kernel, rfl⟩
theorem e_X1_addSight_33 : DC cX1_addSight 33 (.getfield 37) 3 36 := ⟨by decide +kernel, rfl⟩
theorem e_X1_addSight_36 : DC cX1_addSight 36 (.aload_n 0) 1 37 := ⟨by decide +kernel, rfl⟩
theorem e_X1_addSight_37 : DC cX1_addSight 37 (.getfield 45) 3 40 := ⟨by decide +kernel, rfl⟩
theorem e_X1_addSight_40 : DC cX1_addSight 40 (.iload_n 2) 1 41 := ⟨by decide +kernel, rfl⟩
theorem e_X1_addSight_41 : DC cX1_addSight 41 (.bastore) 1 42 := ⟨by decide +kernel, rfl⟩
theorem e_X1_addSight_42 : DC cX1_addSight 42 (.aload_n 0) 1 43 := ⟨by decide +kernel, rfl⟩
theorem e_X1_addSight_43 : DC cX1_addSight 43 (.dup) 1 44 := ⟨by decide +kernel, rfl⟩
theorem e_X1_addSight_44 : DC cX1_addSight 44 (.getfield 45) 3 47 := ⟨by decide +kernel, rfl⟩
theorem e_X1_addSight_47 : DC cX1_addSight 47 (.iconst 1) 1 48 := ⟨by decide +kernel, rfl⟩
theorem e_X1_addSight_48 : DC cX1_addSight 48 (.iadd) 1 49 := ⟨by decide +kernel, rfl⟩
theorem e_X1_addSight_49 : DC cX1_addSight 49 (.putfield 45) 3 52 := ⟨by decide +kernel, rfl⟩
theorem e_X1_addSight_52 : DC cX1_addSight 52 (.aload_n 0) 1 53 := ⟨by decide +kernel, rfl⟩
theorem e_X1_addSight_53 : DC cX1_addSight 53 (.getfield 45) 3 56 := ⟨by decide +kernel, rfl⟩
theorem e_X1_addSight_56 : DC cX1_addSight 56 (.ireturn) 1 57 := ⟨by decide +kernel, rfl⟩
noncomputable def m_X1_addSight_0 (t_sightMany : Int) (t_eyes_many : Int) (t_sightEyes : Nat → Int) (t_sightSeen : Nat → Int) (v1 : Int) (v2 : Int) : Option (Int × Int × (Nat → Int) × (Nat → Int)) :=
  if 20 ≤ t_sightMany then (some ((-1), t_sightMany, t_sightEyes, t_sightSeen)) else ((m_X8_has t_eyes_many v1).bind (fun y1 => if y1 = 0 then (some ((-1), t_sightMany, t_sightEyes, t_sightSeen)) else (chk (inB t_sightMany 20) (chk (inB t_sightMany 20) (chk (inI (t_sightMany + 1)) (some (t_sightMany + 1, t_sightMany + 1, up t_sightEyes (Int.toNat t_sightMany) v1, up t_sightSeen (Int.toNat t_sightMany) v2)))))))

set_option maxRecDepth 10000 in
theorem g_X1_addSight_0 {l : Launch} {E : EE} {b0 n : Nat} {h : AH} {a_t : Nat} {t_sightMany t_eyes_many v1 v2 : Int} {t_sightEyes t_sightSeen : Nat → Int} {r : Int × Int × (Nat → Int) × (Nat → Int)} (ao : AO b0 n [a_t, (a_t + 9), (a_t + 22), (a_t + 23)]) (ok_t_sightMany : inI t_sightMany) (ok_t_eyes_many : inI t_eyes_many) (ok_t_sightEyes : okA t_sightEyes) (ok_t_sightSeen : okZ t_sightSeen) (ok_v1 : inI v1) (ok_v2 : inZ v2) (hs : m_X1_addSight_0 t_sightMany t_eyes_many t_sightEyes t_sightSeen v1 v2 = some r) : G l E b0 M_X1_addSight (fun _ => True) (ZM E b0 (some (vI r.1)) (ov [a_t, (a_t + 9), (a_t + 22), (a_t + 23)] [.inr (1, fsX1 a_t r.2.1), .inr (8, fsX8 (a_t + 9) t_eyes_many), IA E 20 r.2.2.1, ZA E 20 r.2.2.2] h) n (inI r.1 ∧ inI r.2.1 ∧ okA r.2.2.1 ∧ okZ r.2.2.2) 0 0) 0 0 n (ov [a_t, (a_t + 9), (a_t + 22), (a_t + 23)] [.inr (1, fsX1 a_t t_sightMany), .inr (8, fsX8 (a_t + 9) t_eyes_many), IA E 20 t_sightEyes, ZA E 20 t_sightSeen] h) 0 [some (.ref a_t), some (vI v1), some (vI v2)] [] := by
  rw [m_X1_addSight_0] at hs
  refine g_aload_n e_X1_addSight_0 rfl ?_
  refine g_get 0 6 ao rfl rfl fsX1_g6 fl_X1_45 e_X1_addSight_1 ?_
  refine g_bipush e_X1_addSight_4 bp_20 ?_
  refine g_icmp_ge e_X1_addSight_6 ok_t_sightMany (by decide : inI 20) hs (fun c6 hs => ?_) (fun c6 hs => ?_)
  · refine g_iconst e_X1_addSight_20 ?_
    obtain rfl := Option.some.inj hs
    exact g_iret rfl ⟨(by decide : inI (-1)), ok_t_sightMany, ok_t_sightEyes, ok_t_sightSeen⟩ e_X1_addSight_21
  · refine g_aload_n e_X1_addSight_9 rfl ?_
    refine g_get 0 2 ao rfl rfl fsX1_g2 fl_X1_23 e_X1_addSight_10 ?_
    refine g_iload_n e_X1_addSight_13 rfl ?_
    obtain ⟨y1, hy1, hs⟩ := bind_elim hs
    refine g_callVr [vI v1] cv_X1_49 ⟨rfl, rfl, Nat.le_of_ble_eq_true rfl, Nat.le_of_ble_eq_true rfl⟩ (ct_X8_has (AO_call [1] ao (by decide) rfl) (FA_call [1] ao.1 rfl rfl) ok_t_eyes_many ok_v1 hy1) e_X1_addSight_14 (ao.2 1 _ rfl) (ov_get 1 ao.1 rfl rfl) rfl rfl rfl (Nat.le_of_ble_eq_true rfl) ⟨Nat.le_refl _, Nat.le_refl _⟩ (fun Py1 => ?_)
    refine g_if_ne e_X1_addSight_17 (inZ_I Py1) hs (fun c17 hs => ?_) (fun c17 hs => ?_)
    · refine g_iconst e_X1_addSight_20 ?_
      obtain rfl := Option.some.inj hs
      exact g_iret rfl ⟨(by decide : inI (-1)), ok_t_sightMany, ok_t_sightEyes, ok_t_sightSeen⟩ e_X1_addSight_21
    · refine g_aload_n e_X1_addSight_22 rfl ?_
      refine g_get 0 4 ao rfl rfl fsX1_g4 fl_X1_33 e_X1_addSight_23 ?_
      refine g_aload_n e_X1_addSight_26 rfl ?_
      refine g_get 0 6 ao rfl rfl fsX1_g6 fl_X1_45 e_X1_addSight_27 ?_
      refine g_iload_n e_X1_addSight_30 rfl ?_
      refine g_iast 2 ao rfl rfl ls_2 (Nat.le_of_ble_eq_true rfl) e_X1_addSight_31 hs (fun hi2 hs => ?_)
      refine g_aload_n e_X1_addSight_32 rfl ?_
      refine g_get 0 5 ao rfl rfl fsX1_g5 fl_X1_37 e_X1_addSight_33 ?_
      refine g_aload_n e_X1_addSight_36 rfl ?_
      refine g_get 0 6 ao rfl rfl fsX1_g6 fl_X1_45 e_X1_addSight_37 ?_
      refine g_iload_n e_X1_addSight_40 rfl ?_
      refine g_zast 3 ao rfl rfl ls_3 (Nat.le_of_ble_eq_true rfl) ok_v2 e_X1_addSight_41 hs (fun hi3 hs => ?_)
      refine g_aload_n e_X1_addSight_42 rfl ?_
      refine g_dup e_X1_addSight_43 rfl ?_
      refine g_get 0 6 ao rfl rfl fsX1_g6 fl_X1_45 e_X1_addSight_44 ?_
      refine g_iconst e_X1_addSight_47 ?_
      refine g_iadd e_X1_addSight_48 ?_
      obtain ⟨hc4, hs⟩ := chk_elim hs
      refine g_put 0 6 ao rfl rfl fsX1_k6 fsX1_s6 ls_0 fw_X1_45 (fun h => by cases h) ⟨rfl, rfl⟩ e_X1_addSight_49 ?_
      refine g_aload_n e_X1_addSight_52 rfl ?_
      refine g_get 0 6 ao rfl rfl fsX1_g6 fl_X1_45 e_X1_addSight_53 ?_
      obtain rfl := Option.some.inj hs
      exact g_iret rfl ⟨hc4, hc4, (okA_up ok_t_sightEyes ok_v1), (okZ_up ok_t_sightSeen ok_v2)⟩ e_X1_addSight_56

noncomputable def m_X1_addSight (t_sightMany : Int) (t_eyes_many : Int) (t_sightEyes : Nat → Int) (t_sightSeen : Nat → Int) (v1 : Int) (v2 : Int) : Option (Int × Int × (Nat → Int) × (Nat → Int)) := m_X1_addSight_0 t_sightMany t_eyes_many t_sightEyes t_sightSeen v1 v2

set_option maxRecDepth 10000 in
theorem ct_X1_addSight {l : Launch} {E : EE} {b0 n : Nat} {h : AH} {a_t : Nat} {t_sightMany t_eyes_many : Int} {t_sightEyes t_sightSeen : Nat → Int} {v1 v2 : Int} (ao : AO b0 n [a_t, (a_t + 9), (a_t + 22), (a_t + 23)]) (hf : FA h [a_t, (a_t + 9), (a_t + 22), (a_t + 23)] [.inr (1, fsX1 a_t t_sightMany), .inr (8, fsX8 (a_t + 9) t_eyes_many), IA E 20 t_sightEyes, ZA E 20 t_sightSeen]) (ok_t_sightMany : inI t_sightMany) (ok_t_eyes_many : inI t_eyes_many) (ok_t_sightEyes : okA t_sightEyes) (ok_t_sightSeen : okZ t_sightSeen) (ok_v1 : inI v1) (ok_v2 : inZ v2) {r : Int × Int × (Nat → Int) × (Nat → Int)} (hm : m_X1_addSight t_sightMany t_eyes_many t_sightEyes t_sightSeen v1 v2 = some r) : Ct l E b0 M_X1_addSight 0 0 [.ref a_t, vI v1, vI v2] h n (some (vI r.1)) (ov [a_t, (a_t + 9), (a_t + 22), (a_t + 23)] [.inr (1, fsX1 a_t r.2.1), .inr (8, fsX8 (a_t + 9) t_eyes_many), IA E 20 r.2.2.1, ZA E 20 r.2.2.2] h) n (inI r.1 ∧ inI r.2.1 ∧ okA r.2.2.1 ∧ okZ r.2.2.2) := by
  rw [m_X1_addSight] at hm
  have hg : G l E b0 M_X1_addSight (fun _ => True) (ZM E b0 (some (vI r.1)) (ov [a_t, (a_t + 9), (a_t + 22), (a_t + 23)] [.inr (1, fsX1 a_t r.2.1), .inr (8, fsX8 (a_t + 9) t_eyes_many), IA E 20 r.2.2.1, ZA E 20 r.2.2.2] h) n (inI r.1 ∧ inI r.2.1 ∧ okA r.2.2.1 ∧ okZ r.2.2.2) 0 0) 0 0 n (ov [a_t, (a_t + 9), (a_t + 22), (a_t + 23)] [.inr (1, fsX1 a_t t_sightMany), .inr (8, fsX8 (a_t + 9) t_eyes_many), IA E 20 t_sightEyes, ZA E 20 t_sightSeen] h) 0 [some (.ref a_t), some (vI v1), some (vI v2)] [] := by
    have hs := hm
    exact g_X1_addSight_0 ao ok_t_sightMany ok_t_eyes_many ok_t_sightEyes ok_t_sightSeen ok_v1 ok_v2 hs
  rw [FA_id hf] at hg
  exact Ct_of [some (.ref a_t), some (vI v1), some (vI v2)] ⟨by decide +kernel, rfl⟩ rfl (Nat.le_of_ble_eq_true rfl) hg

/-! ===== X1_isSeenBy ===== -/
theorem e_X1_isSeenBy_0 : DC cX1_isSeenBy 0 (.aload_n 0) 1 1 := ⟨by decide +kernel, rfl⟩
theorem e_X1_isSeenBy_1 : DC cX1_isSeenBy 1 (.getfield 23) 3 4 := ⟨by decide +kernel, rfl⟩
theorem e_X1_isSeenBy_4 : DC cX1_isSeenBy 4 (.iload_n 2) 1 5 := ⟨by decide +kernel, rfl⟩
theorem e_X1_isSeenBy_5 : DC cX1_isSeenBy 5 (.aload_n 0) 1 6 := ⟨by decide +kernel, rfl⟩
theorem e_X1_isSeenBy_6 : DC cX1_isSeenBy 6 (.getfield 14) 3 9 := ⟨by decide +kernel, rfl⟩
theorem e_X1_isSeenBy_9 : DC cX1_isSeenBy 9 (.iload_n 1) 1 10 := ⟨by decide +kernel, rfl⟩
theorem e_X1_isSeenBy_10 : DC cX1_isSeenBy 10 (.invokevirtual 53) 3 13 := ⟨by decide +kernel, rfl⟩
theorem e_X1_isSeenBy_13 : DB cX1_isSeenBy 13 (.ifCond .eq 7) (7) 3 16 20 := ⟨by decide +kernel, rfl, rfl⟩
theorem e_X1_isSeenBy_16 : DC cX1_isSeenBy 16 (.iconst 1) 1 17 := ⟨by decide +kernel, rfl⟩
theorem e_X1_isSeenBy_17 : DB cX1_isSeenBy 17 (.goto 4) (4) 3 20 21 := ⟨by decide +kernel, rfl, rfl⟩
theorem e_X1_isSeenBy_20 : DC cX1_isSeenBy 20 (.iconst 0) 1 21 := ⟨by decide +kernel, rfl⟩
theorem e_X1_isSeenBy_21 : DC cX1_isSeenBy 21 (.ireturn) 1 22 := ⟨by decide +kernel, rfl⟩
noncomputable def m_X1_isSeenBy_0 (t_steps_many : Int) (t_steps_xs : Nat → Int) (t_steps_ys : Nat → Int) (t_steps_zs : Nat → Int) (t_eyes_many : Int) (t_eyes_xs : Nat → Int) (t_eyes_ys : Nat → Int) (t_eyes_zs : Nat → Int) (v1 : Int) (v2 : Int) : Option (Int) :=
  (m_X8_product 16 16 t_eyes_many t_eyes_xs t_eyes_ys t_eyes_zs t_steps_many t_steps_xs t_steps_ys t_steps_zs v2 v1).bind (fun y1 => if y1 = 0 then (some (0)) else (some (1)))

set_option maxRecDepth 10000 in
theorem g_X1_isSeenBy_0 {l : Launch} {E : EE} {b0 n : Nat} {h : AH} {a_t : Nat} {t_sightMany t_steps_many t_eyes_many v1 v2 : Int} {t_steps_xs t_steps_ys t_steps_zs t_eyes_xs t_eyes_ys t_eyes_zs : Nat → Int} {r : Int} (ao : AO b0 n [a_t, (a_t + 1), (a_t + 2), (a_t + 3), (a_t + 4), (a_t + 9), (a_t + 10), (a_t + 11), (a_t + 12)]) (ok_t_steps_many : inI t_steps_many) (ok_t_steps_xs : okA t_steps_xs) (ok_t_steps_ys : okA t_steps_ys) (ok_t_steps_zs : okA t_steps_zs) (ok_t_eyes_many : inI t_eyes_many) (ok_t_eyes_xs : okA t_eyes_xs) (ok_t_eyes_ys : okA t_eyes_ys) (ok_t_eyes_zs : okA t_eyes_zs) (ok_v1 : inI v1) (ok_v2 : inI v2) (hs : m_X1_isSeenBy_0 t_steps_many t_steps_xs t_steps_ys t_steps_zs t_eyes_many t_eyes_xs t_eyes_ys t_eyes_zs v1 v2 = some r) : G l E b0 M_X1_isSeenBy (fun _ => True) (ZM E b0 (some (vI r)) (ov [a_t, (a_t + 1), (a_t + 2), (a_t + 3), (a_t + 4), (a_t + 9), (a_t + 10), (a_t + 11), (a_t + 12)] [.inr (1, fsX1 a_t t_sightMany), .inr (8, fsX8 (a_t + 1) t_steps_many), IA E 16 t_steps_xs, IA E 16 t_steps_ys, IA E 16 t_steps_zs, .inr (8, fsX8 (a_t + 9) t_eyes_many), IA E 16 t_eyes_xs, IA E 16 t_eyes_ys, IA E 16 t_eyes_zs] h) n (inZ r) 0 0) 0 0 n (ov [a_t, (a_t + 1), (a_t + 2), (a_t + 3), (a_t + 4), (a_t + 9), (a_t + 10), (a_t + 11), (a_t + 12)] [.inr (1, fsX1 a_t t_sightMany), .inr (8, fsX8 (a_t + 1) t_steps_many), IA E 16 t_steps_xs, IA E 16 t_steps_ys, IA E 16 t_steps_zs, .inr (8, fsX8 (a_t + 9) t_eyes_many), IA E 16 t_eyes_xs, IA E 16 t_eyes_ys, IA E 16 t_eyes_zs] h) 0 [some (.ref a_t), some (vI v1), some (vI v2)] [] := by
  rw [m_X1_isSeenBy_0] at hs
  refine g_aload_n e_X1_isSeenBy_0 rfl ?_
  refine g_get 0 2 ao rfl rfl fsX1_g2 fl_X1_23 e_X1_isSeenBy_1 ?_
  refine g_iload_n e_X1_isSeenBy_4 rfl ?_
  refine g_aload_n e_X1_isSeenBy_5 rfl ?_
  refine g_get 0 0 ao rfl rfl fsX1_g0 fl_X1_14 e_X1_isSeenBy_6 ?_
  refine g_iload_n e_X1_isSeenBy_9 rfl ?_
  obtain ⟨y1, hy1, hs⟩ := bind_elim hs
  refine g_callVr [vI v2, .ref (a_t + 1), vI v1] cv_X1_53 ⟨rfl, rfl, Nat.le_of_ble_eq_true rfl, Nat.le_of_ble_eq_true rfl⟩ (ct_X8_product (AO_call [5, 6, 7, 8, 1, 2, 3, 4] ao (by decide) rfl) (by omega) (by omega) (FA_call [5, 6, 7, 8, 1, 2, 3, 4] ao.1 rfl rfl) ok_t_eyes_many ok_t_eyes_xs ok_t_eyes_ys ok_t_eyes_zs ok_t_steps_many ok_t_steps_xs ok_t_steps_ys ok_t_steps_zs ok_v2 ok_v1 hy1) e_X1_isSeenBy_10 (ao.2 5 _ rfl) (ov_get 5 ao.1 rfl rfl) rfl rfl rfl (Nat.le_of_ble_eq_true rfl) ⟨Nat.le_refl _, Nat.le_refl _⟩ (fun Py1 => ?_)
  refine g_if_eq e_X1_isSeenBy_13 Py1 hs (fun c13 hs => ?_) (fun c13 hs => ?_)
  · refine g_iconst e_X1_isSeenBy_20 ?_
    obtain rfl := Option.some.inj hs
    exact g_zret rfl (by decide : inZ 0) (by decide : inZ 0) e_X1_isSeenBy_21
  · refine g_iconst e_X1_isSeenBy_16 ?_
    refine g_goto e_X1_isSeenBy_17 ?_
    obtain rfl := Option.some.inj hs
    exact g_zret rfl (by decide : inZ 1) (by decide : inZ 1) e_X1_isSeenBy_21

noncomputable def m_X1_isSeenBy (t_steps_many : Int) (t_steps_xs : Nat → Int) (t_steps_ys : Nat → Int) (t_steps_zs : Nat → Int) (t_eyes_many : Int) (t_eyes_xs : Nat → Int) (t_eyes_ys : Nat → Int) (t_eyes_zs : Nat → Int) (v1 : Int) (v2 : Int) : Option (Int) := m_X1_isSeenBy_0 t_steps_many t_steps_xs t_steps_ys t_steps_zs t_eyes_many t_eyes_xs t_eyes_ys t_eyes_zs v1 v2

set_option maxRecDepth 10000 in
theorem ct_X1_isSeenBy {l : Launch} {E : EE} {b0 n : Nat} {h : AH} {a_t : Nat} {t_sightMany t_steps_many t_eyes_many : Int} {t_steps_xs t_steps_ys t_steps_zs t_eyes_xs t_eyes_ys t_eyes_zs : Nat → Int} {v1 v2 : Int} (ao : AO b0 n [a_t, (a_t + 1), (a_t + 2), (a_t + 3), (a_t + 4), (a_t + 9), (a_t + 10), (a_t + 11), (a_t + 12)]) (hf : FA h [a_t, (a_t + 1), (a_t + 2), (a_t + 3), (a_t + 4), (a_t + 9), (a_t + 10), (a_t + 11), (a_t + 12)] [.inr (1, fsX1 a_t t_sightMany), .inr (8, fsX8 (a_t + 1) t_steps_many), IA E 16 t_steps_xs, IA E 16 t_steps_ys, IA E 16 t_steps_zs, .inr (8, fsX8 (a_t + 9) t_eyes_many), IA E 16 t_eyes_xs, IA E 16 t_eyes_ys, IA E 16 t_eyes_zs]) (ok_t_steps_many : inI t_steps_many) (ok_t_steps_xs : okA t_steps_xs) (ok_t_steps_ys : okA t_steps_ys) (ok_t_steps_zs : okA t_steps_zs) (ok_t_eyes_many : inI t_eyes_many) (ok_t_eyes_xs : okA t_eyes_xs) (ok_t_eyes_ys : okA t_eyes_ys) (ok_t_eyes_zs : okA t_eyes_zs) (ok_v1 : inI v1) (ok_v2 : inI v2) {r : Int} (hm : m_X1_isSeenBy t_steps_many t_steps_xs t_steps_ys t_steps_zs t_eyes_many t_eyes_xs t_eyes_ys t_eyes_zs v1 v2 = some r) : Ct l E b0 M_X1_isSeenBy 0 0 [.ref a_t, vI v1, vI v2] h n (some (vI r)) h n (inZ r) := by
  rw [m_X1_isSeenBy] at hm
  have hg : G l E b0 M_X1_isSeenBy (fun _ => True) (ZM E b0 (some (vI r)) (ov [a_t, (a_t + 1), (a_t + 2), (a_t + 3), (a_t + 4), (a_t + 9), (a_t + 10), (a_t + 11), (a_t + 12)] [.inr (1, fsX1 a_t t_sightMany), .inr (8, fsX8 (a_t + 1) t_steps_many), IA E 16 t_steps_xs, IA E 16 t_steps_ys, IA E 16 t_steps_zs, .inr (8, fsX8 (a_t + 9) t_eyes_many), IA E 16 t_eyes_xs, IA E 16 t_eyes_ys, IA E 16 t_eyes_zs] h) n (inZ r) 0 0) 0 0 n (ov [a_t, (a_t + 1), (a_t + 2), (a_t + 3), (a_t + 4), (a_t + 9), (a_t + 10), (a_t + 11), (a_t + 12)] [.inr (1, fsX1 a_t t_sightMany), .inr (8, fsX8 (a_t + 1) t_steps_many), IA E 16 t_steps_xs, IA E 16 t_steps_ys, IA E 16 t_steps_zs, .inr (8, fsX8 (a_t + 9) t_eyes_many), IA E 16 t_eyes_xs, IA E 16 t_eyes_ys, IA E 16 t_eyes_zs] h) 0 [some (.ref a_t), some (vI v1), some (vI v2)] [] := by
    have hs := hm
    exact g_X1_isSeenBy_0 ao ok_t_steps_many ok_t_steps_xs ok_t_steps_ys ok_t_steps_zs ok_t_eyes_many ok_t_eyes_xs ok_t_eyes_ys ok_t_eyes_zs ok_v1 ok_v2 hs
  rw [FA_id hf] at hg
  exact Ct_of [some (.ref a_t), some (vI v1), some (vI v2)] ⟨by decide +kernel, rfl⟩ rfl (Nat.le_of_ble_eq_true rfl) hg

/-! ===== X1_fitsSights ===== -/
theorem e_X1_fitsSights_0 : DC cX1_fitsSights 0 (.iconst 0) 1 1 := ⟨by decide +kernel, rfl⟩
theorem e_X1_fitsSights_1 : DC cX1_fitsSights 1 (.istore_n 2) 1 2 := ⟨by decide +kernel, rfl⟩
theorem e_X1_fitsSights_2 : DC cX1_fitsSights 2 (.iload_n 2) 1 3 := ⟨by decide +kernel, rfl⟩
theorem e_X1_fitsSights_3 : DC cX1_fitsSights 3 (.aload_n 0) 1 4 := ⟨by decide +kernel, rfl⟩
theorem e_X1_fitsSights_4 : DC cX1_fitsSights 4 (.getfield 45) 3 7 := ⟨by decide +kernel, rfl⟩
theorem e_X1_fitsSights_7 : DB cX1_fitsSights 7 (.if_icmp .ge 31) (31) 3 10 38 := ⟨by decide +kernel, rfl, rfl⟩
theorem e_X1_fitsSights_10 : DC cX1_fitsSights 10 (.aload_n 0) 1 11 := ⟨by decide +kernel, rfl⟩
theorem e_X1_fitsSights_11 : DC cX1_fitsSights 11 (.iload_n 1) 1 12 := ⟨by decide +kernel, rfl⟩
theorem e_X1_fitsSights_12 : DC cX1_fitsSights 12 (.aload_n 0) 1 13 := ⟨by decide +kernel, rfl⟩
theorem e_X1_fitsSights_13 : DC cX1_fitsSights 13 (.getfield 33) 3 16 := ⟨by decide +kernel, rfl⟩
theorem e_X1_fitsSights_16 : DC cX1_fitsSights 16 (.iload_n 2) 1 17 := ⟨by decide +kernel, rfl⟩
theorem e_X1_fitsSights_17 : DC cX1_fitsSights 17 (.iaload) 1 18 := ⟨by decide +kernel, rfl⟩
theorem e_X1_fitsSights_18 : DC cX1_fitsSights 18 (.invokevirtual 57) 3 21 := ⟨by decide +kernel, rfl⟩
theorem e_X1_fitsSights_21 : DC cX1_fitsSights 21 (.aload_n 0) 1 22 := ⟨by decide +kernel, rfl⟩
theorem e_X1_fitsSights_22 : DC cX1_fitsSights 22 (.getfield 37) 3 25 := ⟨by decide +kernel, rfl⟩
theorem e_X1_fitsSights_25 : DC cX1_fitsSights 25 (.iload_n 2) 1 26 := ⟨by decide +kernel, rfl⟩
theorem e_X1_fitsSights_26 : DC cX1_fitsSights 26 (.baload) 1 27 := ⟨by decide +kernel, rfl⟩
theorem e_X1_fitsSights_27 : DB cX1_fitsSights 27 (.if_icmp .eq 5) (5) 3 30 32 := ⟨by decide +kernel, rfl, rfl⟩
theorem e_X1_fitsSights_30 : DC cX1_fitsSights 30 (.iconst 0) 1 31 := ⟨by decide +kernel, rfl⟩
theorem e_X1_fitsSights_31 : DC cX1_fitsSights 31 (.ireturn) 1 32 := ⟨by decide +kernel, rfl⟩
theorem e_X1_fitsSights_32 : DC cX1_fitsSights 32 (.iinc 2 1) 3 35 := ⟨by decide +kernel, rfl⟩
theorem e_X1_fitsSights_35 : DB cX1_fitsSights 35 (.goto (-33)) (-33) 3 38 2 := ⟨by decide +kernel, rfl, rfl⟩
theorem e_X1_fitsSights_38 : DC cX1_fitsSights 38 (.iconst 1) 1 39 := ⟨by decide +kernel, rfl⟩
theorem e_X1_fitsSights_39 : DC cX1_fitsSights 39 (.ireturn) 1 40 := ⟨by decide +kernel, rfl⟩
noncomputable def m_X1_fitsSights_2 (t_sightMany : Int) (t_steps_many : Int) (t_steps_xs : Nat → Int) (t_steps_ys : Nat → Int) (t_steps_zs : Nat → Int) (t_eyes_many : Int) (t_eyes_xs : Nat → Int) (t_eyes_ys : Nat → Int) (t_eyes_zs : Nat → Int) (t_sightEyes : Nat → Int) (t_sightSeen : Nat → Int) (v1 : Int) (k_38 : Int → Option (Int)) (k_30 : Int → Option (Int)) : Nat → Int → Option (Int)
  | 0, _ => none
  | F + 1, v2 => if t_sightMany ≤ v2 then (some (1)) else (chk (inB v2 20) ((m_X1_isSeenBy t_steps_many t_steps_xs t_steps_ys t_steps_zs t_eyes_many t_eyes_xs t_eyes_ys t_eyes_zs v1 (t_sightEyes (Int.toNat v2))).bind (fun y2 => chk (inB v2 20) (if y2 = (t_sightSeen (Int.toNat v2)) then (chk (inI (v2 + 1)) (m_X1_fitsSights_2 t_sightMany t_steps_many t_steps_xs t_steps_ys t_steps_zs t_eyes_many t_eyes_xs t_eyes_ys t_eyes_zs t_sightEyes t_sightSeen v1 k_38 k_30 F (v2 + 1))) else (some (0))))))

set_option maxRecDepth 10000 in
theorem g_X1_fitsSights_2 {l : Launch} {E : EE} {b0 n : Nat} {h : AH} {a_t : Nat} {t_sightMany t_steps_many t_eyes_many v1 : Int} {t_steps_xs t_steps_ys t_steps_zs t_eyes_xs t_eyes_ys t_eyes_zs t_sightEyes t_sightSeen : Nat → Int} {r : Int} {k_38 : Int → Option (Int)} {k_30 : Int → Option (Int)} (ao : AO b0 n [a_t, (a_t + 1), (a_t + 2), (a_t + 3), (a_t + 4), (a_t + 9), (a_t + 10), (a_t + 11), (a_t + 12), (a_t + 22), (a_t + 23)]) (ok_t_sightMany : inI t_sightMany) (ok_t_steps_many : inI t_steps_many) (ok_t_steps_xs : okA t_steps_xs) (ok_t_steps_ys : okA t_steps_ys) (ok_t_steps_zs : okA t_steps_zs) (ok_t_eyes_many : inI t_eyes_many) (ok_t_eyes_xs : okA t_eyes_xs) (ok_t_eyes_ys : okA t_eyes_ys) (ok_t_eyes_zs : okA t_eyes_zs) (ok_t_sightEyes : okA t_sightEyes) (ok_t_sightSeen : okZ t_sightSeen) (ok_v1 : inI v1) (hk_38 : ∀ (v2_ : Int), inI v2_ → k_38 v2_ = some r → G l E b0 M_X1_fitsSights (fun _ => True) (ZM E b0 (some (vI r)) (ov [a_t, (a_t + 1), (a_t + 2), (a_t + 3), (a_t + 4), (a_t + 9), (a_t + 10), (a_t + 11), (a_t + 12), (a_t + 22), (a_t + 23)] [.inr (1, fsX1 a_t t_sightMany), .inr (8, fsX8 (a_t + 1) t_steps_many), IA E 16 t_steps_xs, IA E 16 t_steps_ys, IA E 16 t_steps_zs, .inr (8, fsX8 (a_t + 9) t_eyes_many), IA E 16 t_eyes_xs, IA E 16 t_eyes_ys, IA E 16 t_eyes_zs, IA E 20 t_sightEyes, ZA E 20 t_sightSeen] h) n (inZ r) 0 0) 0 0 n (ov [a_t, (a_t + 1), (a_t + 2), (a_t + 3), (a_t + 4), (a_t + 9), (a_t + 10), (a_t + 11), (a_t + 12), (a_t + 22), (a_t + 23)] [.inr (1, fsX1 a_t t_sightMany), .inr (8, fsX8 (a_t + 1) t_steps_many), IA E 16 t_steps_xs, IA E 16 t_steps_ys, IA E 16 t_steps_zs, .inr (8, fsX8 (a_t + 9) t_eyes_many), IA E 16 t_eyes_xs, IA E 16 t_eyes_ys, IA E 16 t_eyes_zs, IA E 20 t_sightEyes, ZA E 20 t_sightSeen] h) 38 [none, none, none] []) (hk_30 : ∀ (v2_ : Int), inI v2_ → k_30 v2_ = some r → G l E b0 M_X1_fitsSights (fun _ => True) (ZM E b0 (some (vI r)) (ov [a_t, (a_t + 1), (a_t + 2), (a_t + 3), (a_t + 4), (a_t + 9), (a_t + 10), (a_t + 11), (a_t + 12), (a_t + 22), (a_t + 23)] [.inr (1, fsX1 a_t t_sightMany), .inr (8, fsX8 (a_t + 1) t_steps_many), IA E 16 t_steps_xs, IA E 16 t_steps_ys, IA E 16 t_steps_zs, .inr (8, fsX8 (a_t + 9) t_eyes_many), IA E 16 t_eyes_xs, IA E 16 t_eyes_ys, IA E 16 t_eyes_zs, IA E 20 t_sightEyes, ZA E 20 t_sightSeen] h) n (inZ r) 0 0) 0 0 n (ov [a_t, (a_t + 1), (a_t + 2), (a_t + 3), (a_t + 4), (a_t + 9), (a_t + 10), (a_t + 11), (a_t + 12), (a_t + 22), (a_t + 23)] [.inr (1, fsX1 a_t t_sightMany), .inr (8, fsX8 (a_t + 1) t_steps_many), IA E 16 t_steps_xs, IA E 16 t_steps_ys, IA E 16 t_steps_zs, .inr (8, fsX8 (a_t + 9) t_eyes_many), IA E 16 t_eyes_xs, IA E 16 t_eyes_ys, IA E 16 t_eyes_zs, IA E 20 t_sightEyes, ZA E 20 t_sightSeen] h) 30 [none, none, none] []) :
    ∀ (F : Nat) (v2 : Int), inI v2 → m_X1_fitsSights_2 t_sightMany t_steps_many t_steps_xs t_steps_ys t_steps_zs t_eyes_many t_eyes_xs t_eyes_ys t_eyes_zs t_sightEyes t_sightSeen v1 k_38 k_30 F v2 = some r → G l E b0 M_X1_fitsSights (fun _ => True) (ZM E b0 (some (vI r)) (ov [a_t, (a_t + 1), (a_t + 2), (a_t + 3), (a_t + 4), (a_t + 9), (a_t + 10), (a_t + 11), (a_t + 12), (a_t + 22), (a_t + 23)] [.inr (1, fsX1 a_t t_sightMany), .inr (8, fsX8 (a_t + 1) t_steps_many), IA E 16 t_steps_xs, IA E 16 t_steps_ys, IA E 16 t_steps_zs, .inr (8, fsX8 (a_t + 9) t_eyes_many), IA E 16 t_eyes_xs, IA E 16 t_eyes_ys, IA E 16 t_eyes_zs, IA E 20 t_sightEyes, ZA E 20 t_sightSeen] h) n (inZ r) 0 0) 0 0 n (ov [a_t, (a_t + 1), (a_t + 2), (a_t + 3), (a_t + 4), (a_t + 9), (a_t + 10), (a_t + 11), (a_t + 12), (a_t + 22), (a_t + 23)] [.inr (1, fsX1 a_t t_sightMany), .inr (8, fsX8 (a_t + 1) t_steps_many), IA E 16 t_steps_xs, IA E 16 t_steps_ys, IA E 16 t_steps_zs, .inr (8, fsX8 (a_t + 9) t_eyes_many), IA E 16 t_eyes_xs, IA E 16 t_eyes_ys, IA E 16 t_eyes_zs, IA E 20 t_sightEyes, ZA E 20 t_sightSeen] h) 2 [some (.ref a_t), some (vI v1), some (vI v2)] [] := by
  intro F
  induction F with
  | zero =>
    intro v2 ok_v2 hs
    rw [m_X1_fitsSights_2] at hs
    cases hs
  | succ F ih =>
    intro v2 ok_v2 hs
    rw [m_X1_fitsSights_2] at hs
    refine g_iload_n e_X1_fitsSights_2 rfl ?_
    refine g_aload_n e_X1_fitsSights_3 rfl ?_
    refine g_get 0 6 ao rfl rfl fsX1_g6 fl_X1_45 e_X1_fitsSights_4 ?_
    refine g_icmp_ge e_X1_fitsSights_7 ok_v2 ok_t_sightMany hs (fun c7 hs => ?_) (fun c7 hs => ?_)
    · refine g_iconst e_X1_fitsSights_38 ?_
      obtain rfl := Option.some.inj hs
      exact g_zret rfl (by decide : inZ 1) (by decide : inZ 1) e_X1_fitsSights_39
    · refine g_aload_n e_X1_fitsSights_10 rfl ?_
      refine g_iload_n e_X1_fitsSights_11 rfl ?_
      refine g_aload_n e_X1_fitsSights_12 rfl ?_
      refine g_get 0 4 ao rfl rfl fsX1_g4 fl_X1_33 e_X1_fitsSights_13 ?_
      refine g_iload_n e_X1_fitsSights_16 rfl ?_
      refine g_iald 9 ao rfl rfl (Nat.le_of_ble_eq_true rfl) e_X1_fitsSights_17 hs (fun hi1 hs => ?_)
      obtain ⟨y2, hy2, hs⟩ := bind_elim hs
      refine g_callVr [vI v1, vI (t_sightEyes (Int.toNat v2))] cv_X1_57 ⟨rfl, rfl, Nat.le_of_ble_eq_true rfl, Nat.le_of_ble_eq_true rfl⟩ (ct_X1_isSeenBy (AO_call [0, 1, 2, 3, 4, 5, 6, 7, 8] ao (by decide) rfl) (FA_call [0, 1, 2, 3, 4, 5, 6, 7, 8] ao.1 rfl rfl) ok_t_steps_many ok_t_steps_xs ok_t_steps_ys ok_t_steps_zs ok_t_eyes_many ok_t_eyes_xs ok_t_eyes_ys ok_t_eyes_zs ok_v1 (ok_t_sightEyes _) hy2) e_X1_fitsSights_18 (ao.2 0 _ rfl) (ov_get 0 ao.1 rfl rfl) rfl rfl rfl (Nat.le_of_ble_eq_true rfl) ⟨Nat.le_refl _, Nat.le_refl _⟩ (fun Py2 => ?_)
      refine g_aload_n e_X1_fitsSights_21 rfl ?_
      refine g_get 0 5 ao rfl rfl fsX1_g5 fl_X1_37 e_X1_fitsSights_22 ?_
      refine g_iload_n e_X1_fitsSights_25 rfl ?_
      refine g_zald 10 ao rfl rfl (Nat.le_of_ble_eq_true rfl) e_X1_fitsSights_26 hs (fun hi3 hs => ?_)
      refine g_icmp_eq e_X1_fitsSights_27 (inZ_I Py2) (inZ_I (ok_t_sightSeen _)) hs (fun c27 hs => ?_) (fun c27 hs => ?_)
      · refine g_iinc e_X1_fitsSights_32 rfl st1_2 rfl ?_
        refine g_goto e_X1_fitsSights_35 ?_
        obtain ⟨hc4, hs⟩ := chk_elim hs
        exact ih _ hc4 hs
      · refine g_iconst e_X1_fitsSights_30 ?_
        obtain rfl := Option.some.inj hs
        exact g_zret rfl (by decide : inZ 0) (by decide : inZ 0) e_X1_fitsSights_31

noncomputable def m_X1_fitsSights_38 : Option (Int) :=
  some (1)

set_option maxRecDepth 10000 in
theorem g_X1_fitsSights_38 {l : Launch} {E : EE} {b0 n : Nat} {h : AH} {a_t : Nat} {t_sightMany t_steps_many t_eyes_many : Int} {t_steps_xs t_steps_ys t_steps_zs t_eyes_xs t_eyes_ys t_eyes_zs t_sightEyes t_sightSeen : Nat → Int} {r : Int} (ao : AO b0 n [a_t, (a_t + 1), (a_t + 2), (a_t + 3), (a_t + 4), (a_t + 9), (a_t + 10), (a_t + 11), (a_t + 12), (a_t + 22), (a_t + 23)]) (ok_t_sightMany : inI t_sightMany) (ok_t_steps_many : inI t_steps_many) (ok_t_steps_xs : okA t_steps_xs) (ok_t_steps_ys : okA t_steps_ys) (ok_t_steps_zs : okA t_steps_zs) (ok_t_eyes_many : inI t_eyes_many) (ok_t_eyes_xs : okA t_eyes_xs) (ok_t_eyes_ys : okA t_eyes_ys) (ok_t_eyes_zs : okA t_eyes_zs) (ok_t_sightEyes : okA t_sightEyes) (ok_t_sightSeen : okZ t_sightSeen) (hs : m_X1_fitsSights_38 = some r) : G l E b0 M_X1_fitsSights (fun _ => True) (ZM E b0 (some (vI r)) (ov [a_t, (a_t + 1), (a_t + 2), (a_t + 3), (a_t + 4), (a_t + 9), (a_t + 10), (a_t + 11), (a_t + 12), (a_t + 22), (a_t + 23)] [.inr (1, fsX1 a_t t_sightMany), .inr (8, fsX8 (a_t + 1) t_steps_many), IA E 16 t_steps_xs, IA E 16 t_steps_ys, IA E 16 t_steps_zs, .inr (8, fsX8 (a_t + 9) t_eyes_many), IA E 16 t_eyes_xs, IA E 16 t_eyes_ys, IA E 16 t_eyes_zs, IA E 20 t_sightEyes, ZA E 20 t_sightSeen] h) n (inZ r) 0 0) 0 0 n (ov [a_t, (a_t + 1), (a_t + 2), (a_t + 3), (a_t + 4), (a_t + 9), (a_t + 10), (a_t + 11), (a_t + 12), (a_t + 22), (a_t + 23)] [.inr (1, fsX1 a_t t_sightMany), .inr (8, fsX8 (a_t + 1) t_steps_many), IA E 16 t_steps_xs, IA E 16 t_steps_ys, IA E 16 t_steps_zs, .inr (8, fsX8 (a_t + 9) t_eyes_many), IA E 16 t_eyes_xs, IA E 16 t_eyes_ys, IA E 16 t_eyes_zs, IA E 20 t_sightEyes, ZA E 20 t_sightSeen] h) 38 [none, none, none] [] := by
  rw [m_X1_fitsSights_38] at hs
  refine g_iconst e_X1_fitsSights_38 ?_
  obtain rfl := Option.some.inj hs
  exact g_zret rfl (by decide : inZ 1) (by decide : inZ 1) e_X1_fitsSights_39

noncomputable def m_X1_fitsSights_30 : Option (Int) :=
  some (0)

set_option maxRecDepth 10000 in
theorem g_X1_fitsSights_30 {l : Launch} {E : EE} {b0 n : Nat} {h : AH} {a_t : Nat} {t_sightMany t_steps_many t_eyes_many : Int} {t_steps_xs t_steps_ys t_steps_zs t_eyes_xs t_eyes_ys t_eyes_zs t_sightEyes t_sightSeen : Nat → Int} {r : Int} (ao : AO b0 n [a_t, (a_t + 1), (a_t + 2), (a_t + 3), (a_t + 4), (a_t + 9), (a_t + 10), (a_t + 11), (a_t + 12), (a_t + 22), (a_t + 23)]) (ok_t_sightMany : inI t_sightMany) (ok_t_steps_many : inI t_steps_many) (ok_t_steps_xs : okA t_steps_xs) (ok_t_steps_ys : okA t_steps_ys) (ok_t_steps_zs : okA t_steps_zs) (ok_t_eyes_many : inI t_eyes_many) (ok_t_eyes_xs : okA t_eyes_xs) (ok_t_eyes_ys : okA t_eyes_ys) (ok_t_eyes_zs : okA t_eyes_zs) (ok_t_sightEyes : okA t_sightEyes) (ok_t_sightSeen : okZ t_sightSeen) (hs : m_X1_fitsSights_30 = some r) : G l E b0 M_X1_fitsSights (fun _ => True) (ZM E b0 (some (vI r)) (ov [a_t, (a_t + 1), (a_t + 2), (a_t + 3), (a_t + 4), (a_t + 9), (a_t + 10), (a_t + 11), (a_t + 12), (a_t + 22), (a_t + 23)] [.inr (1, fsX1 a_t t_sightMany), .inr (8, fsX8 (a_t + 1) t_steps_many), IA E 16 t_steps_xs, IA E 16 t_steps_ys, IA E 16 t_steps_zs, .inr (8, fsX8 (a_t + 9) t_eyes_many), IA E 16 t_eyes_xs, IA E 16 t_eyes_ys, IA E 16 t_eyes_zs, IA E 20 t_sightEyes, ZA E 20 t_sightSeen] h) n (inZ r) 0 0) 0 0 n (ov [a_t, (a_t + 1), (a_t + 2), (a_t + 3), (a_t + 4), (a_t + 9), (a_t + 10), (a_t + 11), (a_t + 12), (a_t + 22), (a_t + 23)] [.inr (1, fsX1 a_t t_sightMany), .inr (8, fsX8 (a_t + 1) t_steps_many), IA E 16 t_steps_xs, IA E 16 t_steps_ys, IA E 16 t_steps_zs, .inr (8, fsX8 (a_t + 9) t_eyes_many), IA E 16 t_eyes_xs, IA E 16 t_eyes_ys, IA E 16 t_eyes_zs, IA E 20 t_sightEyes, ZA E 20 t_sightSeen] h) 30 [none, none, none] [] := by
  rw [m_X1_fitsSights_30] at hs
  refine g_iconst e_X1_fitsSights_30 ?_
  obtain rfl := Option.some.inj hs
  exact g_zret rfl (by decide : inZ 0) (by decide : inZ 0) e_X1_fitsSights_31

noncomputable def m_X1_fitsSights_0 (t_sightMany : Int) (t_steps_many : Int) (t_steps_xs : Nat → Int) (t_steps_ys : Nat → Int) (t_steps_zs : Nat → Int) (t_eyes_many : Int) (t_eyes_xs : Nat → Int) (t_eyes_ys : Nat → Int) (t_eyes_zs : Nat → Int) (t_sightEyes : Nat → Int) (t_sightSeen : Nat → Int) (v1 : Int) : Option (Int) :=
  m_X1_fitsSights_2 t_sightMany t_steps_many t_steps_xs t_steps_ys t_steps_zs t_eyes_many t_eyes_xs t_eyes_ys t_eyes_zs t_sightEyes t_sightSeen v1 (fun v2' => m_X1_fitsSights_38) (fun v2' => m_X1_fitsSights_30) FU 0

set_option maxRecDepth 10000 in
theorem g_X1_fitsSights_0 {l : Launch} {E : EE} {b0 n : Nat} {h : AH} {a_t : Nat} {t_sightMany t_steps_many t_eyes_many v1 : Int} {t_steps_xs t_steps_ys t_steps_zs t_eyes_xs t_eyes_ys t_eyes_zs t_sightEyes t_sightSeen : Nat → Int} {r : Int} (ao : AO b0 n [a_t, (a_t + 1), (a_t + 2), (a_t + 3), (a_t + 4), (a_t + 9), (a_t + 10), (a_t + 11), (a_t + 12), (a_t + 22), (a_t + 23)]) (ok_t_sightMany : inI t_sightMany) (ok_t_steps_many : inI t_steps_many) (ok_t_steps_xs : okA t_steps_xs) (ok_t_steps_ys : okA t_steps_ys) (ok_t_steps_zs : okA t_steps_zs) (ok_t_eyes_many : inI t_eyes_many) (ok_t_eyes_xs : okA t_eyes_xs) (ok_t_eyes_ys : okA t_eyes_ys) (ok_t_eyes_zs : okA t_eyes_zs) (ok_t_sightEyes : okA t_sightEyes) (ok_t_sightSeen : okZ t_sightSeen) (ok_v1 : inI v1) (hs : m_X1_fitsSights_0 t_sightMany t_steps_many t_steps_xs t_steps_ys t_steps_zs t_eyes_many t_eyes_xs t_eyes_ys t_eyes_zs t_sightEyes t_sightSeen v1 = some r) : G l E b0 M_X1_fitsSights (fun _ => True) (ZM E b0 (some (vI r)) (ov [a_t, (a_t + 1), (a_t + 2), (a_t + 3), (a_t + 4), (a_t + 9), (a_t + 10), (a_t + 11), (a_t + 12), (a_t + 22), (a_t + 23)] [.inr (1, fsX1 a_t t_sightMany), .inr (8, fsX8 (a_t + 1) t_steps_many), IA E 16 t_steps_xs, IA E 16 t_steps_ys, IA E 16 t_steps_zs, .inr (8, fsX8 (a_t + 9) t_eyes_many), IA E 16 t_eyes_xs, IA E 16 t_eyes_ys, IA E 16 t_eyes_zs, IA E 20 t_sightEyes, ZA E 20 t_sightSeen] h) n (inZ r) 0 0) 0 0 n (ov [a_t, (a_t + 1), (a_t + 2), (a_t + 3), (a_t + 4), (a_t + 9), (a_t + 10), (a_t + 11), (a_t + 12), (a_t + 22), (a_t + 23)] [.inr (1, fsX1 a_t t_sightMany), .inr (8, fsX8 (a_t + 1) t_steps_many), IA E 16 t_steps_xs, IA E 16 t_steps_ys, IA E 16 t_steps_zs, .inr (8, fsX8 (a_t + 9) t_eyes_many), IA E 16 t_eyes_xs, IA E 16 t_eyes_ys, IA E 16 t_eyes_zs, IA E 20 t_sightEyes, ZA E 20 t_sightSeen] h) 0 [some (.ref a_t), some (vI v1), none] [] := by
  rw [m_X1_fitsSights_0] at hs
  refine g_iconst e_X1_fitsSights_0 ?_
  refine g_istore_n e_X1_fitsSights_1 st1_2 rfl ?_
  exact g_X1_fitsSights_2 ao ok_t_sightMany ok_t_steps_many ok_t_steps_xs ok_t_steps_ys ok_t_steps_zs ok_t_eyes_many ok_t_eyes_xs ok_t_eyes_ys ok_t_eyes_zs ok_t_sightEyes ok_t_sightSeen ok_v1 (hk_38 := by
      intro v2' ok_v2' hs
      exact g_X1_fitsSights_38 ao ok_t_sightMany ok_t_steps_many ok_t_steps_xs ok_t_steps_ys ok_t_steps_zs ok_t_eyes_many ok_t_eyes_xs ok_t_eyes_ys ok_t_eyes_zs ok_t_sightEyes ok_t_sightSeen hs) (hk_30 := by
      intro v2' ok_v2' hs
      exact g_X1_fitsSights_30 ao ok_t_sightMany ok_t_steps_many ok_t_steps_xs ok_t_steps_ys ok_t_steps_zs ok_t_eyes_many ok_t_eyes_xs ok_t_eyes_ys ok_t_eyes_zs ok_t_sightEyes ok_t_sightSeen hs) FU _ (by decide : inI 0) hs

noncomputable def m_X1_fitsSights (t_sightMany : Int) (t_steps_many : Int) (t_steps_xs : Nat → Int) (t_steps_ys : Nat → Int) (t_steps_zs : Nat → Int) (t_eyes_many : Int) (t_eyes_xs : Nat → Int) (t_eyes_ys : Nat → Int) (t_eyes_zs : Nat → Int) (t_sightEyes : Nat → Int) (t_sightSeen : Nat → Int) (v1 : Int) : Option (Int) := m_X1_fitsSights_0 t_sightMany t_steps_many t_steps_xs t_steps_ys t_steps_zs t_eyes_many t_eyes_xs t_eyes_ys t_eyes_zs t_sightEyes t_sightSeen v1

set_option maxRecDepth 10000 in
theorem ct_X1_fitsSights {l : Launch} {E : EE} {b0 n : Nat} {h : AH} {a_t : Nat} {t_sightMany t_steps_many t_eyes_many : Int} {t_steps_xs t_steps_ys t_steps_zs t_eyes_xs t_eyes_ys t_eyes_zs t_sightEyes t_sightSeen : Nat → Int} {v1 : Int} (ao : AO b0 n [a_t, (a_t + 1), (a_t + 2), (a_t + 3), (a_t + 4), (a_t + 9), (a_t + 10), (a_t + 11), (a_t + 12), (a_t + 22), (a_t + 23)]) (hf : FA h [a_t, (a_t + 1), (a_t + 2), (a_t + 3), (a_t + 4), (a_t + 9), (a_t + 10), (a_t + 11), (a_t + 12), (a_t + 22), (a_t + 23)] [.inr (1, fsX1 a_t t_sightMany), .inr (8, fsX8 (a_t + 1) t_steps_many), IA E 16 t_steps_xs, IA E 16 t_steps_ys, IA E 16 t_steps_zs, .inr (8, fsX8 (a_t + 9) t_eyes_many), IA E 16 t_eyes_xs, IA E 16 t_eyes_ys, IA E 16 t_eyes_zs, IA E 20 t_sightEyes, ZA E 20 t_sightSeen]) (ok_t_sightMany : inI t_sightMany) (ok_t_steps_many : inI t_steps_many) (ok_t_steps_xs : okA t_steps_xs) (ok_t_steps_ys : okA t_steps_ys) (ok_t_steps_zs : okA t_steps_zs) (ok_t_eyes_many : inI t_eyes_many) (ok_t_eyes_xs : okA t_eyes_xs) (ok_t_eyes_ys : okA t_eyes_ys) (ok_t_eyes_zs : okA t_eyes_zs) (ok_t_sightEyes : okA t_sightEyes) (ok_t_sightSeen : okZ t_sightSeen) (ok_v1 : inI v1) {r : Int} (hm : m_X1_fitsSights t_sightMany t_steps_many t_steps_xs t_steps_ys t_steps_zs t_eyes_many t_eyes_xs t_eyes_ys t_eyes_zs t_sightEyes t_sightSeen v1 = some r) : Ct l E b0 M_X1_fitsSights 0 0 [.ref a_t, vI v1] h n (some (vI r)) h n (inZ r) := by
  rw [m_X1_fitsSights] at hm
  have hg : G l E b0 M_X1_fitsSights (fun _ => True) (ZM E b0 (some (vI r)) (ov [a_t, (a_t + 1), (a_t + 2), (a_t + 3), (a_t + 4), (a_t + 9), (a_t + 10), (a_t + 11), (a_t + 12), (a_t + 22), (a_t + 23)] [.inr (1, fsX1 a_t t_sightMany), .inr (8, fsX8 (a_t + 1) t_steps_many), IA E 16 t_steps_xs, IA E 16 t_steps_ys, IA E 16 t_steps_zs, .inr (8, fsX8 (a_t + 9) t_eyes_many), IA E 16 t_eyes_xs, IA E 16 t_eyes_ys, IA E 16 t_eyes_zs, IA E 20 t_sightEyes, ZA E 20 t_sightSeen] h) n (inZ r) 0 0) 0 0 n (ov [a_t, (a_t + 1), (a_t + 2), (a_t + 3), (a_t + 4), (a_t + 9), (a_t + 10), (a_t + 11), (a_t + 12), (a_t + 22), (a_t + 23)] [.inr (1, fsX1 a_t t_sightMany), .inr (8, fsX8 (a_t + 1) t_steps_many), IA E 16 t_steps_xs, IA E 16 t_steps_ys, IA E 16 t_steps_zs, .inr (8, fsX8 (a_t + 9) t_eyes_many), IA E 16 t_eyes_xs, IA E 16 t_eyes_ys, IA E 16 t_eyes_zs, IA E 20 t_sightEyes, ZA E 20 t_sightSeen] h) 0 [some (.ref a_t), some (vI v1), none] [] := by
    have hs := hm
    exact g_X1_fitsSights_0 ao ok_t_sightMany ok_t_steps_many ok_t_steps_xs ok_t_steps_ys ok_t_steps_zs ok_t_eyes_many ok_t_eyes_xs ok_t_eyes_ys ok_t_eyes_zs ok_t_sightEyes ok_t_sightSeen ok_v1 hs
  rw [FA_id hf] at hg
  exact Ct_of [some (.ref a_t), some (vI v1), none] ⟨by decide +kernel, rfl⟩ rfl (Nat.le_of_ble_eq_true rfl) hg

/-! ===== X1_fitting ===== -/
theorem e_X1_fitting_0 : DC cX1_fitting 0 (.iconst 0) 1 1 := ⟨by decide +kernel, rfl⟩
theorem e_X1_fitting_1 : DC cX1_fitting 1 (.istore_n 2) 1 2 := ⟨by decide +kernel, rfl⟩
theorem e_X1_fitting_2 : DC cX1_fitting 2 (.iconst 0) 1 3 := ⟨by decide +kernel, rfl⟩
theorem e_X1_fitting_3 : DC cX1_fitting 3 (.istore_n 3) 1 4 := ⟨by decide +kernel, rfl⟩
theorem e_X1_fitting_4 : DC cX1_fitting 4 (.iload_n 3) 1 5 := ⟨by decide +kernel, rfl⟩
theorem e_X1_fitting_5 : DC cX1_fitting 5 (.aload_n 0) 1 6 := ⟨by decide +kernel, rfl⟩
theorem e_X1_fitting_6 : DC cX1_fitting 6 (.getfield 14) 3 9 := ⟨by decide +kernel, rfl⟩
theorem e_X1_fitting_9 : DC cX1_fitting 9 (.getfield 61) 3 12 := ⟨by decide +kernel, rfl⟩
theorem e_X1_fitting_12 : DB cX1_fitting 12 (.if_icmp .ge 27) (27) 3 15 39 := ⟨by decide +kernel, rfl, rfl⟩
theorem e_X1_fitting_15 : DC cX1_fitting 15 (.aload_n 0) 1 16 := ⟨by decide +kernel, rfl⟩
theorem e_X1_fitting_16 : DC cX1_fitting 16 (.iload_n 3) 1 17 := ⟨by decide +kernel, rfl⟩
theorem e_X1_fitting_17 : DC cX1_fitting 17 (.invokevirtual 64) 3 20 := ⟨by decide +kernel, rfl⟩
theorem e_X1_fitting_20 : DB cX1_fitting 20 (.ifCond .eq 13) (13) 3 23 33 := ⟨by decide +kernel, rfl, rfl⟩
theorem e_X1_fitting_23 : DC cX1_fitting 23 (.iload_n 2) 1 24 := ⟨by decide +kernel, rfl⟩
theorem e_X1_fitting_24 : DC cX1_fitting 24 (.iload_n 1) 1 25 := ⟨by decide +kernel, rfl⟩
theorem e_X1_fitting_25 : DB cX1_fitting 25 (.if_icmp .ne 5) (5) 3 28 30 := ⟨by decide +kernel, rfl, rfl⟩
theorem e_X1_fitting_28 : DC cX1_fitting 28 (.iload_n 3) 1 29 := ⟨by decide +kernel, rfl⟩
theorem e_X1_fitting_29 : DC cX1_fitting 29 (.ireturn) 1 30 := ⟨by decide +kernel, rfl⟩
theorem e_X1_fitting_30 : DC cX1_fitting 30 (.iinc 2 1) 3 33 := ⟨by decide +kernel, rfl⟩
theorem e_X1_fitting_33 : DC cX1_fitting 33 (.iinc 3 1) 3 36 := ⟨by decide +kernel, rfl⟩
theorem e_X1_fitting_36 : DB cX1_fitting 36 (.goto (-32)) (-32) 3 39 4 := ⟨by decide +kernel, rfl, rfl⟩
theorem e_X1_fitting_39 : DC cX1_fitting 39 (.iload_n 1) 1 40 := ⟨by decide +kernel, rfl⟩
theorem e_X1_fitting_40 : DC cX1_fitting 40 (.iconst (-1)) 1 41 := ⟨by decide +kernel, rfl⟩
theorem e_X1_fitting_41 : DB cX1_fitting 41 (.if_icmp .ne 7) (7) 3 44 48 := ⟨by decide +kernel, rfl, rfl⟩
theorem e_X1_fitting_44 : DC cX1_fitting 44 (.iload_n 2) 1 45 := ⟨by decide +kernel, rfl⟩
theorem e_X1_fitting_45 : DB cX1_fitting 45 (.goto 4) (4) 3 48 49 := ⟨by decide +kernel, rfl, rfl⟩
theorem e_X1_fitting_48 : DC cX1_fitting 48 (.iconst (-1)) 1 49 := ⟨by decide +kernel, rfl⟩
theorem e_X1_fitting_49 : DC cX1_fitting 49 (.ireturn) 1 50 := ⟨by decide +kernel, rfl⟩
noncomputable def m_X1_fitting_33 (t_sightMany : Int) (t_steps_many : Int) (t_steps_xs : Nat → Int) (t_steps_ys : Nat → Int) (t_steps_zs : Nat → Int) (t_eyes_many : Int) (t_eyes_xs : Nat → Int) (t_eyes_ys : Nat → Int) (t_eyes_zs : Nat → Int) (t_sightEyes : Nat → Int) (t_sightSeen : Nat → Int) (v1 : Int) (v2 : Int) (v3 : Int) (ag : Int → Int → Option (Int)) (k_39 : Int → Int → Option (Int)) (k_28 : Int → Int → Option (Int)) : Option (Int) :=
  chk (inI (v3 + 1)) (ag v2 (v3 + 1))

set_option maxRecDepth 10000 in
theorem g_X1_fitting_33 {l : Launch} {E : EE} {b0 n : Nat} {h : AH} {a_t : Nat} {t_sightMany t_steps_many t_eyes_many v1 v2 v3 : Int} {t_steps_xs t_steps_ys t_steps_zs t_eyes_xs t_eyes_ys t_eyes_zs t_sightEyes t_sightSeen : Nat → Int} {r : Int} {ag : Int → Int → Option (Int)} {k_39 : Int → Int → Option (Int)} {k_28 : Int → Int → Option (Int)} (ao : AO b0 n [a_t, (a_t + 1), (a_t + 2), (a_t + 3), (a_t + 4), (a_t + 9), (a_t + 10), (a_t + 11), (a_t + 12), (a_t + 22), (a_t + 23)]) (ok_t_sightMany : inI t_sightMany) (ok_t_steps_many : inI t_steps_many) (ok_t_steps_xs : okA t_steps_xs) (ok_t_steps_ys : okA t_steps_ys) (ok_t_steps_zs : okA t_steps_zs) (ok_t_eyes_many : inI t_eyes_many) (ok_t_eyes_xs : okA t_eyes_xs) (ok_t_eyes_ys : okA t_eyes_ys) (ok_t_eyes_zs : okA t_eyes_zs) (ok_t_sightEyes : okA t_sightEyes) (ok_t_sightSeen : okZ t_sightSeen) (ok_v1 : inI v1) (ok_v2 : inI v2) (ok_v3 : inI v3) (hag : ∀ (v2_ : Int) (v3_ : Int), inI v2_ → inI v3_ → ag v2_ v3_ = some r → G l E b0 M_X1_fitting (fun _ => True) (ZM E b0 (some (vI r)) (ov [a_t, (a_t + 1), (a_t + 2), (a_t + 3), (a_t + 4), (a_t + 9), (a_t + 10), (a_t + 11), (a_t + 12), (a_t + 22), (a_t + 23)] [.inr (1, fsX1 a_t t_sightMany), .inr (8, fsX8 (a_t + 1) t_steps_many), IA E 16 t_steps_xs, IA E 16 t_steps_ys, IA E 16 t_steps_zs, .inr (8, fsX8 (a_t + 9) t_eyes_many), IA E 16 t_eyes_xs, IA E 16 t_eyes_ys, IA E 16 t_eyes_zs, IA E 20 t_sightEyes, ZA E 20 t_sightSeen] h) n (inI r) 0 0) 0 0 n (ov [a_t, (a_t + 1), (a_t + 2), (a_t + 3), (a_t + 4), (a_t + 9), (a_t + 10), (a_t + 11), (a_t + 12), (a_t + 22), (a_t + 23)] [.inr (1, fsX1 a_t t_sightMany), .inr (8, fsX8 (a_t + 1) t_steps_many), IA E 16 t_steps_xs, IA E 16 t_steps_ys, IA E 16 t_steps_zs, .inr (8, fsX8 (a_t + 9) t_eyes_many), IA E 16 t_eyes_xs, IA E 16 t_eyes_ys, IA E 16 t_eyes_zs, IA E 20 t_sightEyes, ZA E 20 t_sightSeen] h) 4 [some (.ref a_t), some (vI v1), some (vI v2_), some (vI v3_)] []) (hk_39 : ∀ (v2_ : Int) (v3_ : Int), inI v2_ → inI v3_ → k_39 v2_ v3_ = some r → G l E b0 M_X1_fitting (fun _ => True) (ZM E b0 (some (vI r)) (ov [a_t, (a_t + 1), (a_t + 2), (a_t + 3), (a_t + 4), (a_t + 9), (a_t + 10), (a_t + 11), (a_t + 12), (a_t + 22), (a_t + 23)] [.inr (1, fsX1 a_t t_sightMany), .inr (8, fsX8 (a_t + 1) t_steps_many), IA E 16 t_steps_xs, IA E 16 t_steps_ys, IA E 16 t_steps_zs, .inr (8, fsX8 (a_t + 9) t_eyes_many), IA E 16 t_eyes_xs, IA E 16 t_eyes_ys, IA E 16 t_eyes_zs, IA E 20 t_sightEyes, ZA E 20 t_sightSeen] h) n (inI r) 0 0) 0 0 n (ov [a_t, (a_t + 1), (a_t + 2), (a_t + 3), (a_t + 4), (a_t + 9), (a_t + 10), (a_t + 11), (a_t + 12), (a_t + 22), (a_t + 23)] [.inr (1, fsX1 a_t t_sightMany), .inr (8, fsX8 (a_t + 1) t_steps_many), IA E 16 t_steps_xs, IA E 16 t_steps_ys, IA E 16 t_steps_zs, .inr (8, fsX8 (a_t + 9) t_eyes_many), IA E 16 t_eyes_xs, IA E 16 t_eyes_ys, IA E 16 t_eyes_zs, IA E 20 t_sightEyes, ZA E 20 t_sightSeen] h) 39 [none, some (vI v1), some (vI v2_), none] []) (hk_28 : ∀ (v2_ : Int) (v3_ : Int), inI v2_ → inI v3_ → k_28 v2_ v3_ = some r → G l E b0 M_X1_fitting (fun _ => True) (ZM E b0 (some (vI r)) (ov [a_t, (a_t + 1), (a_t + 2), (a_t + 3), (a_t + 4), (a_t + 9), (a_t + 10), (a_t + 11), (a_t + 12), (a_t + 22), (a_t + 23)] [.inr (1, fsX1 a_t t_sightMany), .inr (8, fsX8 (a_t + 1) t_steps_many), IA E 16 t_steps_xs, IA E 16 t_steps_ys, IA E 16 t_steps_zs, .inr (8, fsX8 (a_t + 9) t_eyes_many), IA E 16 t_eyes_xs, IA E 16 t_eyes_ys, IA E 16 t_eyes_zs, IA E 20 t_sightEyes, ZA E 20 t_sightSeen] h) n (inI r) 0 0) 0 0 n (ov [a_t, (a_t + 1), (a_t + 2), (a_t + 3), (a_t + 4), (a_t + 9), (a_t + 10), (a_t + 11), (a_t + 12), (a_t + 22), (a_t + 23)] [.inr (1, fsX1 a_t t_sightMany), .inr (8, fsX8 (a_t + 1) t_steps_many), IA E 16 t_steps_xs, IA E 16 t_steps_ys, IA E 16 t_steps_zs, .inr (8, fsX8 (a_t + 9) t_eyes_many), IA E 16 t_eyes_xs, IA E 16 t_eyes_ys, IA E 16 t_eyes_zs, IA E 20 t_sightEyes, ZA E 20 t_sightSeen] h) 28 [none, none, none, some (vI v3_)] []) (hs : m_X1_fitting_33 t_sightMany t_steps_many t_steps_xs t_steps_ys t_steps_zs t_eyes_many t_eyes_xs t_eyes_ys t_eyes_zs t_sightEyes t_sightSeen v1 v2 v3 ag k_39 k_28 = some r) : G l E b0 M_X1_fitting (fun _ => True) (ZM E b0 (some (vI r)) (ov [a_t, (a_t + 1), (a_t + 2), (a_t + 3), (a_t + 4), (a_t + 9), (a_t + 10), (a_t + 11), (a_t + 12), (a_t + 22), (a_t + 23)] [.inr (1, fsX1 a_t t_sightMany), .inr (8, fsX8 (a_t + 1) t_steps_many), IA E 16 t_steps_xs, IA E 16 t_steps_ys, IA E 16 t_steps_zs, .inr (8, fsX8 (a_t + 9) t_eyes_many), IA E 16 t_eyes_xs, IA E 16 t_eyes_ys, IA E 16 t_eyes_zs, IA E 20 t_sightEyes, ZA E 20 t_sightSeen] h) n (inI r) 0 0) 0 0 n (ov [a_t, (a_t + 1), (a_t + 2), (a_t + 3), (a_t + 4), (a_t + 9), (a_t + 10), (a_t + 11), (a_t + 12), (a_t + 22), (a_t + 23)] [.inr (1, fsX1 a_t t_sightMany), .inr (8, fsX8 (a_t + 1) t_steps_many), IA E 16 t_steps_xs, IA E 16 t_steps_ys, IA E 16 t_steps_zs, .inr (8, fsX8 (a_t + 9) t_eyes_many), IA E 16 t_eyes_xs, IA E 16 t_eyes_ys, IA E 16 t_eyes_zs, IA E 20 t_sightEyes, ZA E 20 t_sightSeen] h) 33 [some (.ref a_t), some (vI v1), some (vI v2), some (vI v3)] [] := by
  rw [m_X1_fitting_33] at hs
  refine g_iinc e_X1_fitting_33 rfl st1_3 rfl ?_
  refine g_goto e_X1_fitting_36 ?_
  obtain ⟨hc2, hs⟩ := chk_elim hs
  exact hag _ _ ok_v2 hc2 hs

noncomputable def m_X1_fitting_4 (t_sightMany : Int) (t_steps_many : Int) (t_steps_xs : Nat → Int) (t_steps_ys : Nat → Int) (t_steps_zs : Nat → Int) (t_eyes_many : Int) (t_eyes_xs : Nat → Int) (t_eyes_ys : Nat → Int) (t_eyes_zs : Nat → Int) (t_sightEyes : Nat → Int) (t_sightSeen : Nat → Int) (v1 : Int) (k_39 : Int → Int → Option (Int)) (k_28 : Int → Int → Option (Int)) : Nat → Int → Int → Option (Int)
  | 0, _, _ => none
  | F + 1, v2, v3 => if t_steps_many ≤ v3 then (k_39 v2 v3) else ((m_X1_fitsSights t_sightMany t_steps_many t_steps_xs t_steps_ys t_steps_zs t_eyes_many t_eyes_xs t_eyes_ys t_eyes_zs t_sightEyes t_sightSeen v3).bind (fun y1 => if y1 = 0 then (m_X1_fitting_33 t_sightMany t_steps_many t_steps_xs t_steps_ys t_steps_zs t_eyes_many t_eyes_xs t_eyes_ys t_eyes_zs t_sightEyes t_sightSeen v1 v2 v3 (m_X1_fitting_4 t_sightMany t_steps_many t_steps_xs t_steps_ys t_steps_zs t_eyes_many t_eyes_xs t_eyes_ys t_eyes_zs t_sightEyes t_sightSeen v1 k_39 k_28 F) k_39 k_28) else (if v2 = v1 then (some (v3)) else (chk (inI (v2 + 1)) (m_X1_fitting_33 t_sightMany t_steps_many t_steps_xs t_steps_ys t_steps_zs t_eyes_many t_eyes_xs t_eyes_ys t_eyes_zs t_sightEyes t_sightSeen v1 (v2 + 1) v3 (m_X1_fitting_4 t_sightMany t_steps_many t_steps_xs t_steps_ys t_steps_zs t_eyes_many t_eyes_xs t_eyes_ys t_eyes_zs t_sightEyes t_sightSeen v1 k_39 k_28 F) k_39 k_28)))))

set_option maxRecDepth 10000 in
theorem g_X1_fitting_4 {l : Launch} {E : EE} {b0 n : Nat} {h : AH} {a_t : Nat} {t_sightMany t_steps_many t_eyes_many v1 : Int} {t_steps_xs t_steps_ys t_steps_zs t_eyes_xs t_eyes_ys t_eyes_zs t_sightEyes t_sightSeen : Nat → Int} {r : Int} {k_39 : Int → Int → Option (Int)} {k_28 : Int → Int → Option (Int)} (ao : AO b0 n [a_t, (a_t + 1), (a_t + 2), (a_t + 3), (a_t + 4), (a_t + 9), (a_t + 10), (a_t + 11), (a_t + 12), (a_t + 22), (a_t + 23)]) (ok_t_sightMany : inI t_sightMany) (ok_t_steps_many : inI t_steps_many) (ok_t_steps_xs : okA t_steps_xs) (ok_t_steps_ys : okA t_steps_ys) (ok_t_steps_zs : okA t_steps_zs) (ok_t_eyes_many : inI t_eyes_many) (ok_t_eyes_xs : okA t_eyes_xs) (ok_t_eyes_ys : okA t_eyes_ys) (ok_t_eyes_zs : okA t_eyes_zs) (ok_t_sightEyes : okA t_sightEyes) (ok_t_sightSeen : okZ t_sightSeen) (ok_v1 : inI v1) (hk_39 : ∀ (v2_ : Int) (v3_ : Int), inI v2_ → inI v3_ → k_39 v2_ v3_ = some r → G l E b0 M_X1_fitting (fun _ => True) (ZM E b0 (some (vI r)) (ov [a_t, (a_t + 1), (a_t + 2), (a_t + 3), (a_t + 4), (a_t + 9), (a_t + 10), (a_t + 11), (a_t + 12), (a_t + 22), (a_t + 23)] [.inr (1, fsX1 a_t t_sightMany), .inr (8, fsX8 (a_t + 1) t_steps_many), IA E 16 t_steps_xs, IA E 16 t_steps_ys, IA E 16 t_steps_zs, .inr (8, fsX8 (a_t + 9) t_eyes_many), IA E 16 t_eyes_xs, IA E 16 t_eyes_ys, IA E 16 t_eyes_zs, IA E 20 t_sightEyes, ZA E 20 t_sightSeen] h) n (inI r) 0 0) 0 0 n (ov [a_t, (a_t + 1), (a_t + 2), (a_t + 3), (a_t + 4), (a_t + 9), (a_t + 10), (a_t + 11), (a_t + 12), (a_t + 22), (a_t + 23)] [.inr (1, fsX1 a_t t_sightMany), .inr (8, fsX8 (a_t + 1) t_steps_many), IA E 16 t_steps_xs, IA E 16 t_steps_ys, IA E 16 t_steps_zs, .inr (8, fsX8 (a_t + 9) t_eyes_many), IA E 16 t_eyes_xs, IA E 16 t_eyes_ys, IA E 16 t_eyes_zs, IA E 20 t_sightEyes, ZA E 20 t_sightSeen] h) 39 [none, some (vI v1), some (vI v2_), none] []) (hk_28 : ∀ (v2_ : Int) (v3_ : Int), inI v2_ → inI v3_ → k_28 v2_ v3_ = some r → G l E b0 M_X1_fitting (fun _ => True) (ZM E b0 (some (vI r)) (ov [a_t, (a_t + 1), (a_t + 2), (a_t + 3), (a_t + 4), (a_t + 9), (a_t + 10), (a_t + 11), (a_t + 12), (a_t + 22), (a_t + 23)] [.inr (1, fsX1 a_t t_sightMany), .inr (8, fsX8 (a_t + 1) t_steps_many), IA E 16 t_steps_xs, IA E 16 t_steps_ys, IA E 16 t_steps_zs, .inr (8, fsX8 (a_t + 9) t_eyes_many), IA E 16 t_eyes_xs, IA E 16 t_eyes_ys, IA E 16 t_eyes_zs, IA E 20 t_sightEyes, ZA E 20 t_sightSeen] h) n (inI r) 0 0) 0 0 n (ov [a_t, (a_t + 1), (a_t + 2), (a_t + 3), (a_t + 4), (a_t + 9), (a_t + 10), (a_t + 11), (a_t + 12), (a_t + 22), (a_t + 23)] [.inr (1, fsX1 a_t t_sightMany), .inr (8, fsX8 (a_t + 1) t_steps_many), IA E 16 t_steps_xs, IA E 16 t_steps_ys, IA E 16 t_steps_zs, .inr (8, fsX8 (a_t + 9) t_eyes_many), IA E 16 t_eyes_xs, IA E 16 t_eyes_ys, IA E 16 t_eyes_zs, IA E 20 t_sightEyes, ZA E 20 t_sightSeen] h) 28 [none, none, none, some (vI v3_)] []) :
    ∀ (F : Nat) (v2 : Int) (v3 : Int), inI v2 → inI v3 → m_X1_fitting_4 t_sightMany t_steps_many t_steps_xs t_steps_ys t_steps_zs t_eyes_many t_eyes_xs t_eyes_ys t_eyes_zs t_sightEyes t_sightSeen v1 k_39 k_28 F v2 v3 = some r → G l E b0 M_X1_fitting (fun _ => True) (ZM E b0 (some (vI r)) (ov [a_t, (a_t + 1), (a_t + 2), (a_t + 3), (a_t + 4), (a_t + 9), (a_t + 10), (a_t + 11), (a_t + 12), (a_t + 22), (a_t + 23)] [.inr (1, fsX1 a_t t_sightMany), .inr (8, fsX8 (a_t + 1) t_steps_many), IA E 16 t_steps_xs, IA E 16 t_steps_ys, IA E 16 t_steps_zs, .inr (8, fsX8 (a_t + 9) t_eyes_many), IA E 16 t_eyes_xs, IA E 16 t_eyes_ys, IA E 16 t_eyes_zs, IA E 20 t_sightEyes, ZA E 20 t_sightSeen] h) n (inI r) 0 0) 0 0 n (ov [a_t, (a_t + 1), (a_t + 2), (a_t + 3), (a_t + 4), (a_t + 9), (a_t + 10), (a_t + 11), (a_t + 12), (a_t + 22), (a_t + 23)] [.inr (1, fsX1 a_t t_sightMany), .inr (8, fsX8 (a_t + 1) t_steps_many), IA E 16 t_steps_xs, IA E 16 t_steps_ys, IA E 16 t_steps_zs, .inr (8, fsX8 (a_t + 9) t_eyes_many), IA E 16 t_eyes_xs, IA E 16 t_eyes_ys, IA E 16 t_eyes_zs, IA E 20 t_sightEyes, ZA E 20 t_sightSeen] h) 4 [some (.ref a_t), some (vI v1), some (vI v2), some (vI v3)] [] := by
  intro F
  induction F with
  | zero =>
    intro v2 v3 ok_v2 ok_v3 hs
    rw [m_X1_fitting_4] at hs
    cases hs
  | succ F ih =>
    intro v2 v3 ok_v2 ok_v3 hs
    rw [m_X1_fitting_4] at hs
    refine g_iload_n e_X1_fitting_4 rfl ?_
    refine g_aload_n e_X1_fitting_5 rfl ?_
    refine g_get 0 0 ao rfl rfl fsX1_g0 fl_X1_14 e_X1_fitting_6 ?_
    refine g_get 1 3 ao rfl rfl fsX8_g3 fl_X1_61 e_X1_fitting_9 ?_
    refine g_icmp_ge e_X1_fitting_12 ok_v3 ok_t_steps_many hs (fun c12 hs => ?_) (fun c12 hs => ?_)
    · exact g_mask [false, true, true, false] (hk_39 _ _ ok_v2 ok_v3 hs)
    · refine g_aload_n e_X1_fitting_15 rfl ?_
      refine g_iload_n e_X1_fitting_16 rfl ?_
      obtain ⟨y1, hy1, hs⟩ := bind_elim hs
      refine g_callVr [vI v3] cv_X1_64 ⟨rfl, rfl, Nat.le_of_ble_eq_true rfl, Nat.le_of_ble_eq_true rfl⟩ (ct_X1_fitsSights (AO_call [0, 1, 2, 3, 4, 5, 6, 7, 8, 9, 10] ao (by decide) rfl) (FA_call [0, 1, 2, 3, 4, 5, 6, 7, 8, 9, 10] ao.1 rfl rfl) ok_t_sightMany ok_t_steps_many ok_t_steps_xs ok_t_steps_ys ok_t_steps_zs ok_t_eyes_many ok_t_eyes_xs ok_t_eyes_ys ok_t_eyes_zs ok_t_sightEyes ok_t_sightSeen ok_v3 hy1) e_X1_fitting_17 (ao.2 0 _ rfl) (ov_get 0 ao.1 rfl rfl) rfl rfl rfl (Nat.le_of_ble_eq_true rfl) ⟨Nat.le_refl _, Nat.le_refl _⟩ (fun Py1 => ?_)
      refine g_if_eq e_X1_fitting_20 (inZ_I Py1) hs (fun c20 hs => ?_) (fun c20 hs => ?_)
      · exact g_X1_fitting_33 ao ok_t_sightMany ok_t_steps_many ok_t_steps_xs ok_t_steps_ys ok_t_steps_zs ok_t_eyes_many ok_t_eyes_xs ok_t_eyes_ys ok_t_eyes_zs ok_t_sightEyes ok_t_sightSeen ok_v1 ok_v2 ok_v3 ih hk_39 hk_28 hs
      · refine g_iload_n e_X1_fitting_23 rfl ?_
        refine g_iload_n e_X1_fitting_24 rfl ?_
        refine g_icmp_ne e_X1_fitting_25 ok_v2 ok_v1 hs (fun c25 hs => ?_) (fun c25 hs => ?_)
        · refine g_iload_n e_X1_fitting_28 rfl ?_
          obtain rfl := Option.some.inj hs
          exact g_iret rfl ok_v3 e_X1_fitting_29
        · refine g_iinc e_X1_fitting_30 rfl st1_2 rfl ?_
          obtain ⟨hc3, hs⟩ := chk_elim hs
          exact g_X1_fitting_33 ao ok_t_sightMany ok_t_steps_many ok_t_steps_xs ok_t_steps_ys ok_t_steps_zs ok_t_eyes_many ok_t_eyes_xs ok_t_eyes_ys ok_t_eyes_zs ok_t_sightEyes ok_t_sightSeen ok_v1 hc3 ok_v3 ih hk_39 hk_28 hs

noncomputable def m_X1_fitting_39 (v1 : Int) (v2 : Int) : Option (Int) :=
  if v1 = (-1) then (some (v2)) else (some ((-1)))

set_option maxRecDepth 10000 in
theorem g_X1_fitting_39 {l : Launch} {E : EE} {b0 n : Nat} {h : AH} {a_t : Nat} {t_sightMany t_steps_many t_eyes_many v1 v2 : Int} {t_steps_xs t_steps_ys t_steps_zs t_eyes_xs t_eyes_ys t_eyes_zs t_sightEyes t_sightSeen : Nat → Int} {r : Int} (ao : AO b0 n [a_t, (a_t + 1), (a_t + 2), (a_t + 3), (a_t + 4), (a_t + 9), (a_t + 10), (a_t + 11), (a_t + 12), (a_t + 22), (a_t + 23)]) (ok_t_sightMany : inI t_sightMany) (ok_t_steps_many : inI t_steps_many) (ok_t_steps_xs : okA t_steps_xs) (ok_t_steps_ys : okA t_steps_ys) (ok_t_steps_zs : okA t_steps_zs) (ok_t_eyes_many : inI t_eyes_many) (ok_t_eyes_xs : okA t_eyes_xs) (ok_t_eyes_ys : okA t_eyes_ys) (ok_t_eyes_zs : okA t_eyes_zs) (ok_t_sightEyes : okA t_sightEyes) (ok_t_sightSeen : okZ t_sightSeen) (ok_v1 : inI v1) (ok_v2 : inI v2) (hs : m_X1_fitting_39 v1 v2 = some r) : G l E b0 M_X1_fitting (fun _ => True) (ZM E b0 (some (vI r)) (ov [a_t, (a_t + 1), (a_t + 2), (a_t + 3), (a_t + 4), (a_t + 9), (a_t + 10), (a_t + 11), (a_t + 12), (a_t + 22), (a_t + 23)] [.inr (1, fsX1 a_t t_sightMany), .inr (8, fsX8 (a_t + 1) t_steps_many), IA E 16 t_steps_xs, IA E 16 t_steps_ys, IA E 16 t_steps_zs, .inr (8, fsX8 (a_t + 9) t_eyes_many), IA E 16 t_eyes_xs, IA E 16 t_eyes_ys, IA E 16 t_eyes_zs, IA E 20 t_sightEyes, ZA E 20 t_sightSeen] h) n (inI r) 0 0) 0 0 n (ov [a_t, (a_t + 1), (a_t + 2), (a_t + 3), (a_t + 4), (a_t + 9), (a_t + 10), (a_t + 11), (a_t + 12), (a_t + 22), (a_t + 23)] [.inr (1, fsX1 a_t t_sightMany), .inr (8, fsX8 (a_t + 1) t_steps_many), IA E 16 t_steps_xs, IA E 16 t_steps_ys, IA E 16 t_steps_zs, .inr (8, fsX8 (a_t + 9) t_eyes_many), IA E 16 t_eyes_xs, IA E 16 t_eyes_ys, IA E 16 t_eyes_zs, IA E 20 t_sightEyes, ZA E 20 t_sightSeen] h) 39 [none, some (vI v1), some (vI v2), none] [] := by
  rw [m_X1_fitting_39] at hs
  refine g_iload_n e_X1_fitting_39 rfl ?_
  refine g_iconst e_X1_fitting_40 ?_
  refine g_icmp_ne e_X1_fitting_41 ok_v1 (by decide : inI (-1)) hs (fun c41 hs => ?_) (fun c41 hs => ?_)
  · refine g_iload_n e_X1_fitting_44 rfl ?_
    refine g_goto e_X1_fitting_45 ?_
    obtain rfl := Option.some.inj hs
    exact g_iret rfl ok_v2 e_X1_fitting_49
  · refine g_iconst e_X1_fitting_48 ?_
    obtain rfl := Option.some.inj hs
    exact g_iret rfl (by decide : inI (-1)) e_X1_fitting_49

noncomputable def m_X1_fitting_28 (v3 : Int) : Option (Int) :=
  some (v3)

set_option maxRecDepth 10000 in
theorem g_X1_fitting_28 {l : Launch} {E : EE} {b0 n : Nat} {h : AH} {a_t : Nat} {t_sightMany t_steps_many t_eyes_many v3 : Int} {t_steps_xs t_steps_ys t_steps_zs t_eyes_xs t_eyes_ys t_eyes_zs t_sightEyes t_sightSeen : Nat → Int} {r : Int} (ao : AO b0 n [a_t, (a_t + 1), (a_t + 2), (a_t + 3), (a_t + 4), (a_t + 9), (a_t + 10), (a_t + 11), (a_t + 12), (a_t + 22), (a_t + 23)]) (ok_t_sightMany : inI t_sightMany) (ok_t_steps_many : inI t_steps_many) (ok_t_steps_xs : okA t_steps_xs) (ok_t_steps_ys : okA t_steps_ys) (ok_t_steps_zs : okA t_steps_zs) (ok_t_eyes_many : inI t_eyes_many) (ok_t_eyes_xs : okA t_eyes_xs) (ok_t_eyes_ys : okA t_eyes_ys) (ok_t_eyes_zs : okA t_eyes_zs) (ok_t_sightEyes : okA t_sightEyes) (ok_t_sightSeen : okZ t_sightSeen) (ok_v3 : inI v3) (hs : m_X1_fitting_28 v3 = some r) : G l E b0 M_X1_fitting (fun _ => True) (ZM E b0 (some (vI r)) (ov [a_t, (a_t + 1), (a_t + 2), (a_t + 3), (a_t + 4), (a_t + 9), (a_t + 10), (a_t + 11), (a_t + 12), (a_t + 22), (a_t + 23)] [.inr (1, fsX1 a_t t_sightMany), .inr (8, fsX8 (a_t + 1) t_steps_many), IA E 16 t_steps_xs, IA E 16 t_steps_ys, IA E 16 t_steps_zs, .inr (8, fsX8 (a_t + 9) t_eyes_many), IA E 16 t_eyes_xs, IA E 16 t_eyes_ys, IA E 16 t_eyes_zs, IA E 20 t_sightEyes, ZA E 20 t_sightSeen] h) n (inI r) 0 0) 0 0 n (ov [a_t, (a_t + 1), (a_t + 2), (a_t + 3), (a_t + 4), (a_t + 9), (a_t + 10), (a_t + 11), (a_t + 12), (a_t + 22), (a_t + 23)] [.inr (1, fsX1 a_t t_sightMany), .inr (8, fsX8 (a_t + 1) t_steps_many), IA E 16 t_steps_xs, IA E 16 t_steps_ys, IA E 16 t_steps_zs, .inr (8, fsX8 (a_t + 9) t_eyes_many), IA E 16 t_eyes_xs, IA E 16 t_eyes_ys, IA E 16 t_eyes_zs, IA E 20 t_sightEyes, ZA E 20 t_sightSeen] h) 28 [none, none, none, some (vI v3)] [] := by
  rw [m_X1_fitting_28] at hs
  refine g_iload_n e_X1_fitting_28 rfl ?_
  obtain rfl := Option.some.inj hs
  exact g_iret rfl ok_v3 e_X1_fitting_29

noncomputable def m_X1_fitting_0 (t_sightMany : Int) (t_steps_many : Int) (t_steps_xs : Nat → Int) (t_steps_ys : Nat → Int) (t_steps_zs : Nat → Int) (t_eyes_many : Int) (t_eyes_xs : Nat → Int) (t_eyes_ys : Nat → Int) (t_eyes_zs : Nat → Int) (t_sightEyes : Nat → Int) (t_sightSeen : Nat → Int) (v1 : Int) : Option (Int) :=
  m_X1_fitting_4 t_sightMany t_steps_many t_steps_xs t_steps_ys t_steps_zs t_eyes_many t_eyes_xs t_eyes_ys t_eyes_zs t_sightEyes t_sightSeen v1 (fun v2' v3' => m_X1_fitting_39 v1 v2') (fun v2' v3' => m_X1_fitting_28 v3') FU 0 0

set_option maxRecDepth 10000 in
theorem g_X1_fitting_0 {l : Launch} {E : EE} {b0 n : Nat} {h : AH} {a_t : Nat} {t_sightMany t_steps_many t_eyes_many v1 : Int} {t_steps_xs t_steps_ys t_steps_zs t_eyes_xs t_eyes_ys t_eyes_zs t_sightEyes t_sightSeen : Nat → Int} {r : Int} (ao : AO b0 n [a_t, (a_t + 1), (a_t + 2), (a_t + 3), (a_t + 4), (a_t + 9), (a_t + 10), (a_t + 11), (a_t + 12), (a_t + 22), (a_t + 23)]) (ok_t_sightMany : inI t_sightMany) (ok_t_steps_many : inI t_steps_many) (ok_t_steps_xs : okA t_steps_xs) (ok_t_steps_ys : okA t_steps_ys) (ok_t_steps_zs : okA t_steps_zs) (ok_t_eyes_many : inI t_eyes_many) (ok_t_eyes_xs : okA t_eyes_xs) (ok_t_eyes_ys : okA t_eyes_ys) (ok_t_eyes_zs : okA t_eyes_zs) (ok_t_sightEyes : okA t_sightEyes) (ok_t_sightSeen : okZ t_sightSeen) (ok_v1 : inI v1) (hs : m_X1_fitting_0 t_sightMany t_steps_many t_steps_xs t_steps_ys t_steps_zs t_eyes_many t_eyes_xs t_eyes_ys t_eyes_zs t_sightEyes t_sightSeen v1 = some r) : G l E b0 M_X1_fitting (fun _ => True) (ZM E b0 (some (vI r)) (ov [a_t, (a_t + 1), (a_t + 2), (a_t + 3), (a_t + 4), (a_t + 9), (a_t + 10), (a_t + 11), (a_t + 12), (a_t + 22), (a_t + 23)] [.inr (1, fsX1 a_t t_sightMany), .inr (8, fsX8 (a_t + 1) t_steps_many), IA E 16 t_steps_xs, IA E 16 t_steps_ys, IA E 16 t_steps_zs, .inr (8, fsX8 (a_t + 9) t_eyes_many), IA E 16 t_eyes_xs, IA E 16 t_eyes_ys, IA E 16 t_eyes_zs, IA E 20 t_sightEyes, ZA E 20 t_sightSeen] h) n (inI r) 0 0) 0 0 n (ov [a_t, (a_t + 1), (a_t + 2), (a_t + 3), (a_t + 4), (a_t + 9), (a_t + 10), (a_t + 11), (a_t + 12), (a_t + 22), (a_t + 23)] [.inr (1, fsX1 a_t t_sightMany), .inr (8, fsX8 (a_t + 1) t_steps_many), IA E 16 t_steps_xs, IA E 16 t_steps_ys, IA E 16 t_steps_zs, .inr (8, fsX8 (a_t + 9) t_eyes_many), IA E 16 t_eyes_xs, IA E 16 t_eyes_ys, IA E 16 t_eyes_zs, IA E 20 t_sightEyes, ZA E 20 t_sightSeen] h) 0 [some (.ref a_t), some (vI v1), none, none] [] := by
  rw [m_X1_fitting_0] at hs
  refine g_iconst e_X1_fitting_0 ?_
  refine g_istore_n e_X1_fitting_1 st1_2 rfl ?_
  refine g_iconst e_X1_fitting_2 ?_
  refine g_istore_n e_X1_fitting_3 st1_3 rfl ?_
  exact g_X1_fitting_4 ao ok_t_sightMany ok_t_steps_many ok_t_steps_xs ok_t_steps_ys ok_t_steps_zs ok_t_eyes_many ok_t_eyes_xs ok_t_eyes_ys ok_t_eyes_zs ok_t_sightEyes ok_t_sightSeen ok_v1 (hk_39 := by
      intro v2' v3' ok_v2' ok_v3' hs
      exact g_X1_fitting_39 ao ok_t_sightMany ok_t_steps_many ok_t_steps_xs ok_t_steps_ys ok_t_steps_zs ok_t_eyes_many ok_t_eyes_xs ok_t_eyes_ys ok_t_eyes_zs ok_t_sightEyes ok_t_sightSeen ok_v1 ok_v2' hs) (hk_28 := by
      intro v2' v3' ok_v2' ok_v3' hs
      exact g_X1_fitting_28 ao ok_t_sightMany ok_t_steps_many ok_t_steps_xs ok_t_steps_ys ok_t_steps_zs ok_t_eyes_many ok_t_eyes_xs ok_t_eyes_ys ok_t_eyes_zs ok_t_sightEyes ok_t_sightSeen ok_v3' hs) FU _ _ (by decide : inI 0) (by decide : inI 0) hs

noncomputable def m_X1_fitting (t_sightMany : Int) (t_steps_many : Int) (t_steps_xs : Nat → Int) (t_steps_ys : Nat → Int) (t_steps_zs : Nat → Int) (t_eyes_many : Int) (t_eyes_xs : Nat → Int) (t_eyes_ys : Nat → Int) (t_eyes_zs : Nat → Int) (t_sightEyes : Nat → Int) (t_sightSeen : Nat → Int) (v1 : Int) : Option (Int) := m_X1_fitting_0 t_sightMany t_steps_many t_steps_xs t_steps_ys t_steps_zs t_eyes_many t_eyes_xs t_eyes_ys t_eyes_zs t_sightEyes t_sightSeen v1

set_option maxRecDepth 10000 in
theorem ct_X1_fitting {l : Launch} {E : EE} {b0 n : Nat} {h : AH} {a_t : Nat} {t_sightMany t_steps_many t_eyes_many : Int} {t_steps_xs t_steps_ys t_steps_zs t_eyes_xs t_eyes_ys t_eyes_zs t_sightEyes t_sightSeen : Nat → Int} {v1 : Int} (ao : AO b0 n [a_t, (a_t + 1), (a_t + 2), (a_t + 3), (a_t + 4), (a_t + 9), (a_t + 10), (a_t + 11), (a_t + 12), (a_t + 22), (a_t + 23)]) (hf : FA h [a_t, (a_t + 1), (a_t + 2), (a_t + 3), (a_t + 4), (a_t + 9), (a_t + 10), (a_t + 11), (a_t + 12), (a_t + 22), (a_t + 23)] [.inr (1, fsX1 a_t t_sightMany), .inr (8, fsX8 (a_t + 1) t_steps_many), IA E 16 t_steps_xs, IA E 16 t_steps_ys, IA E 16 t_steps_zs, .inr (8, fsX8 (a_t + 9) t_eyes_many), IA E 16 t_eyes_xs, IA E 16 t_eyes_ys, IA E 16 t_eyes_zs, IA E 20 t_sightEyes, ZA E 20 t_sightSeen]) (ok_t_sightMany : inI t_sightMany) (ok_t_steps_many : inI t_steps_many) (ok_t_steps_xs : okA t_steps_xs) (ok_t_steps_ys : okA t_steps_ys) (ok_t_steps_zs : okA t_steps_zs) (ok_t_eyes_many : inI t_eyes_many) (ok_t_eyes_xs : okA t_eyes_xs) (ok_t_eyes_ys : okA t_eyes_ys) (ok_t_eyes_zs : okA t_eyes_zs) (ok_t_sightEyes : okA t_sightEyes) (ok_t_sightSeen : okZ t_sightSeen) (ok_v1 : inI v1) {r : Int} (hm : m_X1_fitting t_sightMany t_steps_many t_steps_xs t_steps_ys t_steps_zs t_eyes_many t_eyes_xs t_eyes_ys t_eyes_zs t_sightEyes t_sightSeen v1 = some r) : Ct l E b0 M_X1_fitting 0 0 [.ref a_t, vI v1] h n (some (vI r)) h n (inI r) := by
  rw [m_X1_fitting] at hm
  have hg : G l E b0 M_X1_fitting (fun _ => True) (ZM E b0 (some (vI r)) (ov [a_t, (a_t + 1), (a_t + 2), (a_t + 3), (a_t + 4), (a_t + 9), (a_t + 10), (a_t + 11), (a_t + 12), (a_t + 22), (a_t + 23)] [.inr (1, fsX1 a_t t_sightMany), .inr (8, fsX8 (a_t + 1) t_steps_many), IA E 16 t_steps_xs, IA E 16 t_steps_ys, IA E 16 t_steps_zs, .inr (8, fsX8 (a_t + 9) t_eyes_many), IA E 16 t_eyes_xs, IA E 16 t_eyes_ys, IA E 16 t_eyes_zs, IA E 20 t_sightEyes, ZA E 20 t_sightSeen] h) n (inI r) 0 0) 0 0 n (ov [a_t, (a_t + 1), (a_t + 2), (a_t + 3), (a_t + 4), (a_t + 9), (a_t + 10), (a_t + 11), (a_t + 12), (a_t + 22), (a_t + 23)] [.inr (1, fsX1 a_t t_sightMany), .inr (8, fsX8 (a_t + 1) t_steps_many), IA E 16 t_steps_xs, IA E 16 t_steps_ys, IA E 16 t_steps_zs, .inr (8, fsX8 (a_t + 9) t_eyes_many), IA E 16 t_eyes_xs, IA E 16 t_eyes_ys, IA E 16 t_eyes_zs, IA E 20 t_sightEyes, ZA E 20 t_sightSeen] h) 0 [some (.ref a_t), some (vI v1), none, none] [] := by
    have hs := hm
    exact g_X1_fitting_0 ao ok_t_sightMany ok_t_steps_many ok_t_steps_xs ok_t_steps_ys ok_t_steps_zs ok_t_eyes_many ok_t_eyes_xs ok_t_eyes_ys ok_t_eyes_zs ok_t_sightEyes ok_t_sightSeen ok_v1 hs
  rw [FA_id hf] at hg
  exact Ct_of [some (.ref a_t), some (vI v1), none, none] ⟨by decide +kernel, rfl⟩ rfl (Nat.le_of_ble_eq_true rfl) hg

/-! ===== X1_fittingSeenBy ===== -/
theorem e_X1_fittingSeenBy_0 : DC cX1_fittingSeenBy 0 (.iconst 0) 1 1 := ⟨by decide +kernel, rfl⟩
theorem e_X1_fittingSeenBy_1 : DC cX1_fittingSeenBy 1 (.istore_n 2) 1 2 := ⟨by decide +kernel, rfl⟩
theorem e_X1_fittingSeenBy_2 : DC cX1_fittingSeenBy 2 (.iconst 0) 1 3 := ⟨by decide +kernel, rfl⟩
theorem e_X1_fittingSeenBy_3 : DC cX1_fittingSeenBy 3 (.istore_n 3) 1 4 := ⟨by decide +kernel, rfl⟩
theorem e_X1_fittingSeenBy_4 : DC cX1_fittingSeenBy 4 (.iload_n 3) 1 5 := ⟨by decide +kernel, rfl⟩
theorem e_X1_fittingSeenBy_5 : DC cX1_fittingSeenBy 5 (.aload_n 0) 1 6 := ⟨by decide +kernel, rfl⟩
theorem e_X1_fittingSeenBy_6 : DC cX1_fittingSeenBy 6 (.getfield 14) 3 9 := ⟨by decide +kernel, rfl⟩
theorem e_X1_fittingSeenBy_9 : DC cX1_fittingSeenBy 9 (.getfield 61) 3 12 := ⟨by decide +kernel, rfl⟩
theorem e_X1_fittingSeenBy_12 : DB cX1_fittingSeenBy 12 (.if_icmp .ge 29) (29) 3 15 41 := ⟨by decide +kernel, rfl, rfl⟩
theorem e_X1_fittingSeenBy_15 : DC cX1_fittingSeenBy 15 (.aload_n 0) 1 16 := ⟨by decide +kernel, rfl⟩
theorem e_X1_fittingSeenBy_16 : DC cX1_fittingSeenBy 16 (.iload_n 3) 1 17 := ⟨by decide +kernel, rfl⟩
theorem e_X1_fittingSeenBy_17 : DC cX1_fittingSeenBy 17 (.invokevirtual 64) 3 20 := ⟨by decide +kernel, rfl⟩
theorem e_X1_fittingSeenBy_20 : DB cX1_fittingSeenBy 20 (.ifCond .eq 15) (15) 3 23 35 := ⟨by decide +kernel, rfl, rfl⟩
theorem e_X1_fittingSeenBy_23 : DC cX1_fittingSeenBy 23 (.aload_n 0) 1 24 := ⟨by decide +kernel, rfl⟩
theorem e_X1_fittingSeenBy_24 : DC cX1_fittingSeenBy 24 (.iload_n 3) 1 25 := ⟨by decide +kernel, rfl⟩
theorem e_X1_fittingSeenBy_25 : DC cX1_fittingSeenBy 25 (.iload_n 1) 1 26 := ⟨by decide +kernel, rfl⟩
theorem e_X1_fittingSeenBy_26 : DC cX1_fittingSeenBy 26 (.invokevirtual 57) 3 29 := ⟨by decide +kernel, rfl⟩
theorem e_X1_fittingSeenBy_29 : DB cX1_fittingSeenBy 29 (.ifCond .eq 6) (6) 3 32 35 := ⟨by decide +kernel, rfl, rfl⟩
theorem e_X1_fittingSeenBy_32 : DC cX1_fittingSeenBy 32 (.iinc 2 1) 3 35 := ⟨by decide +kernel, rfl⟩
theorem e_X1_fittingSeenBy_35 : DC cX1_fittingSeenBy 35 (.iinc 3 1) 3 38 := ⟨by decide +kernel, rfl⟩
theorem e_X1_fittingSeenBy_38 : DB cX1_fittingSeenBy 38 (.goto (-34)) (-34) 3 41 4 := ⟨by decide +kernel, rfl, rfl⟩
theorem e_X1_fittingSeenBy_41 : DC cX1_fittingSeenBy 41 (.iload_n 2) 1 42 := ⟨by decide +kernel, rfl⟩
theorem e_X1_fittingSeenBy_42 : DC cX1_fittingSeenBy 42 (.ireturn) 1 43 := ⟨by decide +kernel, rfl⟩
noncomputable def m_X1_fittingSeenBy_35 (t_sightMany : Int) (t_steps_many : Int) (t_steps_xs : Nat → Int) (t_steps_ys : Nat → Int) (t_steps_zs : Nat → Int) (t_eyes_many : Int) (t_eyes_xs : Nat → Int) (t_eyes_ys : Nat → Int) (t_eyes_zs : Nat → Int) (t_sightEyes : Nat → Int) (t_sightSeen : Nat → Int) (v1 : Int) (v2 : Int) (v3 : Int) (ag : Int → Int → Option (Int)) (k_41 : Int → Int → Option (Int)) : Option (Int) :=
  chk (inI (v3 + 1)) (ag v2 (v3 + 1))

set_option maxRecDepth 10000 in
theorem g_X1_fittingSeenBy_35 {l : Launch} {E : EE} {b0 n : Nat} {h : AH} {a_t : Nat} {t_sightMany t_steps_many t_eyes_many v1 v2 v3 : Int} {t_steps_xs t_steps_ys t_steps_zs t_eyes_xs t_eyes_ys t_eyes_zs t_sightEyes t_sightSeen : Nat → Int} {r : Int} {ag : Int → Int → Option (Int)} {k_41 : Int → Int → Option (Int)} (ao : AO b0 n [a_t, (a_t + 1), (a_t + 2), (a_t + 3), (a_t + 4), (a_t + 9), (a_t + 10), (a_t + 11), (a_t + 12), (a_t + 22), (a_t + 23)]) (ok_t_sightMany : inI t_sightMany) (ok_t_steps_many : inI t_steps_many) (ok_t_steps_xs : okA t_steps_xs) (ok_t_steps_ys : okA t_steps_ys) (ok_t_steps_zs : okA t_steps_zs) (ok_t_eyes_many : inI t_eyes_many) (ok_t_eyes_xs : okA t_eyes_xs) (ok_t_eyes_ys : okA t_eyes_ys) (ok_t_eyes_zs : okA t_eyes_zs) (ok_t_sightEyes : okA t_sightEyes) (ok_t_sightSeen : okZ t_sightSeen) (ok_v1 : inI v1) (ok_v2 : inI v2) (ok_v3 : inI v3) (hag : ∀ (v2_ : Int) (v3_ : Int), inI v2_ → inI v3_ → ag v2_ v3_ = some r → G l E b0 M_X1_fittingSeenBy (fun _ => True) (ZM E b0 (some (vI r)) (ov [a_t, (a_t + 1), (a_t + 2), (a_t + 3), (a_t + 4), (a_t + 9), (a_t + 10), (a_t + 11), (a_t + 12), (a_t + 22), (a_t + 23)] [.inr (1, fsX1 a_t t_sightMany), .inr (8, fsX8 (a_t + 1) t_steps_many), IA E 16 t_steps_xs, IA E 16 t_steps_ys, IA E 16 t_steps_zs, .inr (8, fsX8 (a_t + 9) t_eyes_many), IA E 16 t_eyes_xs, IA E 16 t_eyes_ys, IA E 16 t_eyes_zs, IA E 20 t_sightEyes, ZA E 20 t_sightSeen] h) n (inI r) 0 0) 0 0 n (ov [a_t, (a_t + 1), (a_t + 2), (a_t + 3), (a_t + 4), (a_t + 9), (a_t + 10), (a_t + 11), (a_t + 12), (a_t + 22), (a_t + 23)] [.inr (1, fsX1 a_t t_sightMany), .inr (8, fsX8 (a_t + 1) t_steps_many), IA E 16 t_steps_xs, IA E 16 t_steps_ys, IA E 16 t_steps_zs, .inr (8, fsX8 (a_t + 9) t_eyes_many), IA E 16 t_eyes_xs, IA E 16 t_eyes_ys, IA E 16 t_eyes_zs, IA E 20 t_sightEyes, ZA E 20 t_sightSeen] h) 4 [some (.ref a_t), some (vI v1), some (vI v2_), some (vI v3_)] []) (hk_41 : ∀ (v2_ : Int) (v3_ : Int), inI v2_ → inI v3_ → k_41 v2_ v3_ = some r → G l E b0 M_X1_fittingSeenBy (fun _ => True) (ZM E b0 (some (vI r)) (ov [a_t, (a_t + 1), (a_t + 2), (a_t + 3), (a_t + 4), (a_t + 9), (a_t + 10), (a_t + 11), (a_t + 12), (a_t + 22), (a_t + 23)] [.inr (1, fsX1 a_t t_sightMany), .inr (8, fsX8 (a_t + 1) t_steps_many), IA E 16 t_steps_xs, IA E 16 t_steps_ys, IA E 16 t_steps_zs, .inr (8, fsX8 (a_t + 9) t_eyes_many), IA E 16 t_eyes_xs, IA E 16 t_eyes_ys, IA E 16 t_eyes_zs, IA E 20 t_sightEyes, ZA E 20 t_sightSeen] h) n (inI r) 0 0) 0 0 n (ov [a_t, (a_t + 1), (a_t + 2), (a_t + 3), (a_t + 4), (a_t + 9), (a_t + 10), (a_t + 11), (a_t + 12), (a_t + 22), (a_t + 23)] [.inr (1, fsX1 a_t t_sightMany), .inr (8, fsX8 (a_t + 1) t_steps_many), IA E 16 t_steps_xs, IA E 16 t_steps_ys, IA E 16 t_steps_zs, .inr (8, fsX8 (a_t + 9) t_eyes_many), IA E 16 t_eyes_xs, IA E 16 t_eyes_ys, IA E 16 t_eyes_zs, IA E 20 t_sightEyes, ZA E 20 t_sightSeen] h) 41 [none, none, some (vI v2_), none] []) (hs : m_X1_fittingSeenBy_35 t_sightMany t_steps_many t_steps_xs t_steps_ys t_steps_zs t_eyes_many t_eyes_xs t_eyes_ys t_eyes_zs t_sightEyes t_sightSeen v1 v2 v3 ag k_41 = some r) : G l E b0 M_X1_fittingSeenBy (fun _ => True) (ZM E b0 (some (vI r)) (ov [a_t, (a_t + 1), (a_t + 2), (a_t + 3), (a_t + 4), (a_t + 9), (a_t + 10), (a_t + 11), (a_t + 12), (a_t + 22), (a_t + 23)] [.inr (1, fsX1 a_t t_sightMany), .inr (8, fsX8 (a_t + 1) t_steps_many), IA E 16 t_steps_xs, IA E 16 t_steps_ys, IA E 16 t_steps_zs, .inr (8, fsX8 (a_t + 9) t_eyes_many), IA E 16 t_eyes_xs, IA E 16 t_eyes_ys, IA E 16 t_eyes_zs, IA E 20 t_sightEyes, ZA E 20 t_sightSeen] h) n (inI r) 0 0) 0 0 n (ov [a_t, (a_t + 1), (a_t + 2), (a_t + 3), (a_t + 4), (a_t + 9), (a_t + 10), (a_t + 11), (a_t + 12), (a_t + 22), (a_t + 23)] [.inr (1, fsX1 a_t t_sightMany), .inr (8, fsX8 (a_t + 1) t_steps_many), IA E 16 t_steps_xs, IA E 16 t_steps_ys, IA E 16 t_steps_zs, .inr (8, fsX8 (a_t + 9) t_eyes_many), IA E 16 t_eyes_xs, IA E 16 t_eyes_ys, IA E 16 t_eyes_zs, IA E 20 t_sightEyes, ZA E 20 t_sightSeen] h) 35 [some (.ref a_t), some (vI v1), some (vI v2), some (vI v3)] [] := by
  rw [m_X1_fittingSeenBy_35] at hs
  refine g_iinc e_X1_fittingSeenBy_35 rfl st1_3 rfl ?_
  refine g_goto e_X1_fittingSeenBy_38 ?_
  obtain ⟨hc2, hs⟩ := chk_elim hs
  exact hag _ _ ok_v2 hc2 hs

noncomputable def m_X1_fittingSeenBy_4 (t_sightMany : Int) (t_steps_many : Int) (t_steps_xs : Nat → Int) (t_steps_ys : Nat → Int) (t_steps_zs : Nat → Int) (t_eyes_many : Int) (t_eyes_xs : Nat → Int) (t_eyes_ys : Nat → Int) (t_eyes_zs : Nat → Int) (t_sightEyes : Nat → Int) (t_sightSeen : Nat → Int) (v1 : Int) (k_41 : Int → Int → Option (Int)) : Nat → Int → Int → Option (Int)
  | 0, _, _ => none
  | F + 1, v2, v3 => if t_steps_many ≤ v3 then (some (v2)) else ((m_X1_fitsSights t_sightMany t_steps_many t_steps_xs t_steps_ys t_steps_zs t_eyes_many t_eyes_xs t_eyes_ys t_eyes_zs t_sightEyes t_sightSeen v3).bind (fun y1 => if y1 = 0 then (m_X1_fittingSeenBy_35 t_sightMany t_steps_many t_steps_xs t_steps_ys t_steps_zs t_eyes_many t_eyes_xs t_eyes_ys t_eyes_zs t_sightEyes t_sightSeen v1 v2 v3 (m_X1_fittingSeenBy_4 t_sightMany t_steps_many t_steps_xs t_steps_ys t_steps_zs t_eyes_many t_eyes_xs t_eyes_ys t_eyes_zs t_sightEyes t_sightSeen v1 k_41 F) k_41) else ((m_X1_isSeenBy t_steps_many t_steps_xs t_steps_ys t_steps_zs t_eyes_many t_eyes_xs t_eyes_ys t_eyes_zs v3 v1).bind (fun y3 => if y3 = 0 then (m_X1_fittingSeenBy_35 t_sightMany t_steps_many t_steps_xs t_steps_ys t_steps_zs t_eyes_many t_eyes_xs t_eyes_ys t_eyes_zs t_sightEyes t_sightSeen v1 v2 v3 (m_X1_fittingSeenBy_4 t_sightMany t_steps_many t_steps_xs t_steps_ys t_steps_zs t_eyes_many t_eyes_xs t_eyes_ys t_eyes_zs t_sightEyes t_sightSeen v1 k_41 F) k_41) else (chk (inI (v2 + 1)) (m_X1_fittingSeenBy_35 t_sightMany t_steps_many t_steps_xs t_steps_ys t_steps_zs t_eyes_many t_eyes_xs t_eyes_ys t_eyes_zs t_sightEyes t_sightSeen v1 (v2 + 1) v3 (m_X1_fittingSeenBy_4 t_sightMany t_steps_many t_steps_xs t_steps_ys t_steps_zs t_eyes_many t_eyes_xs t_eyes_ys t_eyes_zs t_sightEyes t_sightSeen v1 k_41 F) k_41))))))

set_option maxRecDepth 10000 in
theorem g_X1_fittingSeenBy_4 {l : Launch} {E : EE} {b0 n : Nat} {h : AH} {a_t : Nat} {t_sightMany t_steps_many t_eyes_many v1 : Int} {t_steps_xs t_steps_ys t_steps_zs t_eyes_xs t_eyes_ys t_eyes_zs t_sightEyes t_sightSeen : Nat → Int} {r : Int} {k_41 : Int → Int → Option (Int)} (ao : AO b0 n [a_t, (a_t + 1), (a_t + 2), (a_t + 3), (a_t + 4), (a_t + 9), (a_t + 10), (a_t + 11), (a_t + 12), (a_t + 22), (a_t + 23)]) (ok_t_sightMany : inI t_sightMany) (ok_t_steps_many : inI t_steps_many) (ok_t_steps_xs : okA t_steps_xs) (ok_t_steps_ys : okA t_steps_ys) (ok_t_steps_zs : okA t_steps_zs) (ok_t_eyes_many : inI t_eyes_many) (ok_t_eyes_xs : okA t_eyes_xs) (ok_t_eyes_ys : okA t_eyes_ys) (ok_t_eyes_zs : okA t_eyes_zs) (ok_t_sightEyes : okA t_sightEyes) (ok_t_sightSeen : okZ t_sightSeen) (ok_v1 : inI v1) (hk_41 : ∀ (v2_ : Int) (v3_ : Int), inI v2_ → inI v3_ → k_41 v2_ v3_ = some r → G l E b0 M_X1_fittingSeenBy (fun _ => True) (ZM E b0 (some (vI r)) (ov [a_t, (a_t + 1), (a_t + 2), (a_t + 3), (a_t + 4), (a_t + 9), (a_t + 10), (a_t + 11), (a_t + 12), (a_t + 22), (a_t + 23)] [.inr (1, fsX1 a_t t_sightMany), .inr (8, fsX8 (a_t + 1) t_steps_many), IA E 16 t_steps_xs, IA E 16 t_steps_ys, IA E 16 t_steps_zs, .inr (8, fsX8 (a_t + 9) t_eyes_many), IA E 16 t_eyes_xs, IA E 16 t_eyes_ys, IA E 16 t_eyes_zs, IA E 20 t_sightEyes, ZA E 20 t_sightSeen] h) n (inI r) 0 0) 0 0 n (ov [a_t, (a_t + 1), (a_t + 2), (a_t + 3), (a_t + 4), (a_t + 9), (a_t + 10), (a_t + 11), (a_t + 12), (a_t + 22), (a_t + 23)] [.inr (1, fsX1 a_t t_sightMany), .inr (8, fsX8 (a_t + 1) t_steps_many), IA E 16 t_steps_xs, IA E 16 t_steps_ys, IA E 16 t_steps_zs, .inr (8, fsX8 (a_t + 9) t_eyes_many), IA E 16 t_eyes_xs, IA E 16 t_eyes_ys, IA E 16 t_eyes_zs, IA E 20 t_sightEyes, ZA E 20 t_sightSeen] h) 41 [none, none, some (vI v2_), none] []) :
    ∀ (F : Nat) (v2 : Int) (v3 : Int), inI v2 → inI v3 → m_X1_fittingSeenBy_4 t_sightMany t_steps_many t_steps_xs t_steps_ys t_steps_zs t_eyes_many t_eyes_xs t_eyes_ys t_eyes_zs t_sightEyes t_sightSeen v1 k_41 F v2 v3 = some r → G l E b0 M_X1_fittingSeenBy (fun _ => True) (ZM E b0 (some (vI r)) (ov [a_t, (a_t + 1), (a_t + 2), (a_t + 3), (a_t + 4), (a_t + 9), (a_t + 10), (a_t + 11), (a_t + 12), (a_t + 22), (a_t + 23)] [.inr (1, fsX1 a_t t_sightMany), .inr (8, fsX8 (a_t + 1) t_steps_many), IA E 16 t_steps_xs, IA E 16 t_steps_ys, IA E 16 t_steps_zs, .inr (8, fsX8 (a_t + 9) t_eyes_many), IA E 16 t_eyes_xs, IA E 16 t_eyes_ys, IA E 16 t_eyes_zs, IA E 20 t_sightEyes, ZA E 20 t_sightSeen] h) n (inI r) 0 0) 0 0 n (ov [a_t, (a_t + 1), (a_t + 2), (a_t + 3), (a_t + 4), (a_t + 9), (a_t + 10), (a_t + 11), (a_t + 12), (a_t + 22), (a_t + 23)] [.inr (1, fsX1 a_t t_sightMany), .inr (8, fsX8 (a_t + 1) t_steps_many), IA E 16 t_steps_xs, IA E 16 t_steps_ys, IA E 16 t_steps_zs, .inr (8, fsX8 (a_t + 9) t_eyes_many), IA E 16 t_eyes_xs, IA E 16 t_eyes_ys, IA E 16 t_eyes_zs, IA E 20 t_sightEyes, ZA E 20 t_sightSeen] h) 4 [some (.ref a_t), some (vI v1), some (vI v2), some (vI v3)] [] := by
  intro F
  induction F with
  | zero =>
    intro v2 v3 ok_v2 ok_v3 hs
    rw [m_X1_fittingSeenBy_4] at hs
    cases hs
  | succ F ih =>
    intro v2 v3 ok_v2 ok_v3 hs
    rw [m_X1_fittingSeenBy_4] at hs
    refine g_iload_n e_X1_fittingSeenBy_4 rfl ?_
    refine g_aload_n e_X1_fittingSeenBy_5 rfl ?_
    refine g_get 0 0 ao rfl rfl fsX1_g0 fl_X1_14 e_X1_fittingSeenBy_6 ?_
    refine g_get 1 3 ao rfl rfl fsX8_g3 fl_X1_61 e_X1_fittingSeenBy_9 ?_
    refine g_icmp_ge e_X1_fittingSeenBy_12 ok_v3 ok_t_steps_many hs (fun c12 hs => ?_) (fun c12 hs => ?_)
    · refine g_iload_n e_X1_fittingSeenBy_41 rfl ?_
      obtain rfl := Option.some.inj hs
      exact g_iret rfl ok_v2 e_X1_fittingSeenBy_42
    · refine g_aload_n e_X1_fittingSeenBy_15 rfl ?_
      refine g_iload_n e_X1_fittingSeenBy_16 rfl ?_
      obtain ⟨y1, hy1, hs⟩ := bind_elim hs
      refine g_callVr [vI v3] cv_X1_64 ⟨rfl, rfl, Nat.le_of_ble_eq_true rfl, Nat.le_of_ble_eq_true rfl⟩ (ct_X1_fitsSights (AO_call [0, 1, 2, 3, 4, 5, 6, 7, 8, 9, 10] ao (by decide) rfl) (FA_call [0, 1, 2, 3, 4, 5, 6, 7, 8, 9, 10] ao.1 rfl rfl) ok_t_sightMany ok_t_steps_many ok_t_steps_xs ok_t_steps_ys ok_t_steps_zs ok_t_eyes_many ok_t_eyes_xs ok_t_eyes_ys ok_t_eyes_zs ok_t_sightEyes ok_t_sightSeen ok_v3 hy1) e_X1_fittingSeenBy_17 (ao.2 0 _ rfl) (ov_get 0 ao.1 rfl rfl) rfl rfl rfl (Nat.le_of_ble_eq_true rfl) ⟨Nat.le_refl _, Nat.le_refl _⟩ (fun Py1 => ?_)
      refine g_if_eq e_X1_fittingSeenBy_20 (inZ_I Py1) hs (fun c20 hs => ?_) (fun c20 hs => ?_)
      · exact g_X1_fittingSeenBy_35 ao ok_t_sightMany ok_t_steps_many ok_t_steps_xs ok_t_steps_ys ok_t_steps_zs ok_t_eyes_many ok_t_eyes_xs ok_t_eyes_ys ok_t_eyes_zs ok_t_sightEyes ok_t_sightSeen ok_v1 ok_v2 ok_v3 ih hk_41 hs
      · refine g_aload_n e_X1_fittingSeenBy_23 rfl ?_
        refine g_iload_n e_X1_fittingSeenBy_24 rfl ?_
        refine g_iload_n e_X1_fittingSeenBy_25 rfl ?_
        obtain ⟨y3, hy3, hs⟩ := bind_elim hs
        refine g_callVr [vI v3, vI v1] cv_X1_57 ⟨rfl, rfl, Nat.le_of_ble_eq_true rfl, Nat.le_of_ble_eq_true rfl⟩ (ct_X1_isSeenBy (AO_call [0, 1, 2, 3, 4, 5, 6, 7, 8] ao (by decide) rfl) (FA_call [0, 1, 2, 3, 4, 5, 6, 7, 8] ao.1 rfl rfl) ok_t_steps_many ok_t_steps_xs ok_t_steps_ys ok_t_steps_zs ok_t_eyes_many ok_t_eyes_xs ok_t_eyes_ys ok_t_eyes_zs ok_v3 ok_v1 hy3) e_X1_fittingSeenBy_26 (ao.2 0 _ rfl) (ov_get 0 ao.1 rfl rfl) rfl rfl rfl (Nat.le_of_ble_eq_true rfl) ⟨Nat.le_refl _, Nat.le_refl _⟩ (fun Py3 => ?_)
        refine g_if_eq e_X1_fittingSeenBy_29 (inZ_I Py3) hs (fun c29 hs => ?_) (fun c29 hs => ?_)
        · exact g_X1_fittingSeenBy_35 ao ok_t_sightMany ok_t_steps_many ok_t_steps_xs ok_t_steps_ys ok_t_steps_zs ok_t_eyes_many ok_t_eyes_xs ok_t_eyes_ys ok_t_eyes_zs ok_t_sightEyes ok_t_sightSeen ok_v1 ok_v2 ok_v3 ih hk_41 hs
        · refine g_iinc e_X1_fittingSeenBy_32 rfl st1_2 rfl ?_
          obtain ⟨hc4, hs⟩ := chk_elim hs
          exact g_X1_fittingSeenBy_35 ao ok_t_sightMany ok_t_steps_many ok_t_steps_xs ok_t_steps_ys ok_t_steps_zs ok_t_eyes_many ok_t_eyes_xs ok_t_eyes_ys ok_t_eyes_zs ok_t_sightEyes ok_t_sightSeen ok_v1 hc4 ok_v3 ih hk_41 hs

noncomputable def m_X1_fittingSeenBy_41 (v2 : Int) : Option (Int) :=
  some (v2)

set_option maxRecDepth 10000 in
theorem g_X1_fittingSeenBy_41 {l : Launch} {E : EE} {b0 n : Nat} {h : AH} {a_t : Nat} {t_sightMany t_steps_many t_eyes_many v2 : Int} {t_steps_xs t_steps_ys t_steps_zs t_eyes_xs t_eyes_ys t_eyes_zs t_sightEyes t_sightSeen : Nat → Int} {r : Int} (ao : AO b0 n [a_t, (a_t + 1), (a_t + 2), (a_t + 3), (a_t + 4), (a_t + 9), (a_t + 10), (a_t + 11), (a_t + 12), (a_t + 22), (a_t + 23)]) (ok_t_sightMany : inI t_sightMany) (ok_t_steps_many : inI t_steps_many) (ok_t_steps_xs : okA t_steps_xs) (ok_t_steps_ys : okA t_steps_ys) (ok_t_steps_zs : okA t_steps_zs) (ok_t_eyes_many : inI t_eyes_many) (ok_t_eyes_xs : okA t_eyes_xs) (ok_t_eyes_ys : okA t_eyes_ys) (ok_t_eyes_zs : okA t_eyes_zs) (ok_t_sightEyes : okA t_sightEyes) (ok_t_sightSeen : okZ t_sightSeen) (ok_v2 : inI v2) (hs : m_X1_fittingSeenBy_41 v2 = some r) : G l E b0 M_X1_fittingSeenBy (fun _ => True) (ZM E b0 (some (vI r)) (ov [a_t, (a_t + 1), (a_t + 2), (a_t + 3), (a_t + 4), (a_t + 9), (a_t + 10), (a_t + 11), (a_t + 12), (a_t + 22), (a_t + 23)] [.inr (1, fsX1 a_t t_sightMany), .inr (8, fsX8 (a_t + 1) t_steps_many), IA E 16 t_steps_xs, IA E 16 t_steps_ys, IA E 16 t_steps_zs, .inr (8, fsX8 (a_t + 9) t_eyes_many), IA E 16 t_eyes_xs, IA E 16 t_eyes_ys, IA E 16 t_eyes_zs, IA E 20 t_sightEyes, ZA E 20 t_sightSeen] h) n (inI r) 0 0) 0 0 n (ov [a_t, (a_t + 1), (a_t + 2), (a_t + 3), (a_t + 4), (a_t + 9), (a_t + 10), (a_t + 11), (a_t + 12), (a_t + 22), (a_t + 23)] [.inr (1, fsX1 a_t t_sightMany), .inr (8, fsX8 (a_t + 1) t_steps_many), IA E 16 t_steps_xs, IA E 16 t_steps_ys, IA E 16 t_steps_zs, .inr (8, fsX8 (a_t + 9) t_eyes_many), IA E 16 t_eyes_xs, IA E 16 t_eyes_ys, IA E 16 t_eyes_zs, IA E 20 t_sightEyes, ZA E 20 t_sightSeen] h) 41 [none, none, some (vI v2), none] [] := by
  rw [m_X1_fittingSeenBy_41] at hs
  refine g_iload_n e_X1_fittingSeenBy_41 rfl ?_
  obtain rfl := Option.some.inj hs
  exact g_iret rfl ok_v2 e_X1_fittingSeenBy_42

noncomputable def m_X1_fittingSeenBy_0 (t_sightMany : Int) (t_steps_many : Int) (t_steps_xs : Nat → Int) (t_steps_ys : Nat → Int) (t_steps_zs : Nat → Int) (t_eyes_many : Int) (t_eyes_xs : Nat → Int) (t_eyes_ys : Nat → Int) (t_eyes_zs : Nat → Int) (t_sightEyes : Nat → Int) (t_sightSeen : Nat → Int) (v1 : Int) : Option (Int) :=
  m_X1_fittingSeenBy_4 t_sightMany t_steps_many t_steps_xs t_steps_ys t_steps_zs t_eyes_many t_eyes_xs t_eyes_ys t_eyes_zs t_sightEyes t_sightSeen v1 (fun v2' v3' => m_X1_fittingSeenBy_41 v2') FU 0 0

set_option maxRecDepth 10000 in
theorem g_X1_fittingSeenBy_0 {l : Launch} {E : EE} {b0 n : Nat} {h : AH} {a_t : Nat} {t_sightMany t_steps_many t_eyes_many v1 : Int} {t_steps_xs t_steps_ys t_steps_zs t_eyes_xs t_eyes_ys t_eyes_zs t_sightEyes t_sightSeen : Nat → Int} {r : Int} (ao : AO b0 n [a_t, (a_t + 1), (a_t + 2), (a_t + 3), (a_t + 4), (a_t + 9), (a_t + 10), (a_t + 11), (a_t + 12), (a_t + 22), (a_t + 23)]) (ok_t_sightMany : inI t_sightMany) (ok_t_steps_many : inI t_steps_many) (ok_t_steps_xs : okA t_steps_xs) (ok_t_steps_ys : okA t_steps_ys) (ok_t_steps_zs : okA t_steps_zs) (ok_t_eyes_many : inI t_eyes_many) (ok_t_eyes_xs : okA t_eyes_xs) (ok_t_eyes_ys : okA t_eyes_ys) (ok_t_eyes_zs : okA t_eyes_zs) (ok_t_sightEyes : okA t_sightEyes) (ok_t_sightSeen : okZ t_sightSeen) (ok_v1 : inI v1) (hs : m_X1_fittingSeenBy_0 t_sightMany t_steps_many t_steps_xs t_steps_ys t_steps_zs t_eyes_many t_eyes_xs t_eyes_ys t_eyes_zs t_sightEyes t_sightSeen v1 = some r) : G l E b0 M_X1_fittingSeenBy (fun _ => True) (ZM E b0 (some (vI r)) (ov [a_t, (a_t + 1), (a_t + 2), (a_t + 3), (a_t + 4), (a_t + 9), (a_t + 10), (a_t + 11), (a_t + 12), (a_t + 22), (a_t + 23)] [.inr (1, fsX1 a_t t_sightMany), .inr (8, fsX8 (a_t + 1) t_steps_many), IA E 16 t_steps_xs, IA E 16 t_steps_ys, IA E 16 t_steps_zs, .inr (8, fsX8 (a_t + 9) t_eyes_many), IA E 16 t_eyes_xs, IA E 16 t_eyes_ys, IA E 16 t_eyes_zs, IA E 20 t_sightEyes, ZA E 20 t_sightSeen] h) n (inI r) 0 0) 0 0 n (ov [a_t, (a_t + 1), (a_t + 2), (a_t + 3), (a_t + 4), (a_t + 9), (a_t + 10), (a_t + 11), (a_t + 12), (a_t + 22), (a_t + 23)] [.inr (1, fsX1 a_t t_sightMany), .inr (8, fsX8 (a_t + 1) t_steps_many), IA E 16 t_steps_xs, IA E 16 t_steps_ys, IA E 16 t_steps_zs, .inr (8, fsX8 (a_t + 9) t_eyes_many), IA E 16 t_eyes_xs, IA E 16 t_eyes_ys, IA E 16 t_eyes_zs, IA E 20 t_sightEyes, ZA E 20 t_sightSeen] h) 0 [some (.ref a_t), some (vI v1), none, none] [] := by
  rw [m_X1_fittingSeenBy_0] at hs
  refine g_iconst e_X1_fittingSeenBy_0 ?_
  refine g_istore_n e_X1_fittingSeenBy_1 st1_2 rfl ?_
  refine g_iconst e_X1_fittingSeenBy_2 ?_
  refine g_istore_n e_X1_fittingSeenBy_3 st1_3 rfl ?_
  exact g_X1_fittingSeenBy_4 ao ok_t_sightMany ok_t_steps_many ok_t_steps_xs ok_t_steps_ys ok_t_steps_zs ok_t_eyes_many ok_t_eyes_xs ok_t_eyes_ys ok_t_eyes_zs ok_t_sightEyes ok_t_sightSeen ok_v1 (hk_41 := by
      intro v2' v3' ok_v2' ok_v3' hs
      exact g_X1_fittingSeenBy_41 ao ok_t_sightMany ok_t_steps_many ok_t_steps_xs ok_t_steps_ys ok_t_steps_zs ok_t_eyes_many ok_t_eyes_xs ok_t_eyes_ys ok_t_eyes_zs ok_t_sightEyes ok_t_sightSeen ok_v2' hs) FU _ _ (by decide : inI 0) (by decide : inI 0) hs

noncomputable def m_X1_fittingSeenBy (t_sightMany : Int) (t_steps_many : Int) (t_steps_xs : Nat → Int) (t_steps_ys : Nat → Int) (t_steps_zs : Nat → Int) (t_eyes_many : Int) (t_eyes_xs : Nat → Int) (t_eyes_ys : Nat → Int) (t_eyes_zs : Nat → Int) (t_sightEyes : Nat → Int) (t_sightSeen : Nat → Int) (v1 : Int) : Option (Int) := m_X1_fittingSeenBy_0 t_sightMany t_steps_many t_steps_xs t_steps_ys t_steps_zs t_eyes_many t_eyes_xs t_eyes_ys t_eyes_zs t_sightEyes t_sightSeen v1

set_option maxRecDepth 10000 in
theorem ct_X1_fittingSeenBy {l : Launch} {E : EE} {b0 n : Nat} {h : AH} {a_t : Nat} {t_sightMany t_steps_many t_eyes_many : Int} {t_steps_xs t_steps_ys t_steps_zs t_eyes_xs t_eyes_ys t_eyes_zs t_sightEyes t_sightSeen : Nat → Int} {v1 : Int} (ao : AO b0 n [a_t, (a_t + 1), (a_t + 2), (a_t + 3), (a_t + 4), (a_t + 9), (a_t + 10), (a_t + 11), (a_t + 12), (a_t + 22), (a_t + 23)]) (hf : FA h [a_t, (a_t + 1), (a_t + 2), (a_t + 3), (a_t + 4), (a_t + 9), (a_t + 10), (a_t + 11), (a_t + 12), (a_t + 22), (a_t + 23)] [.inr (1, fsX1 a_t t_sightMany), .inr (8, fsX8 (a_t + 1) t_steps_many), IA E 16 t_steps_xs, IA E 16 t_steps_ys, IA E 16 t_steps_zs, .inr (8, fsX8 (a_t + 9) t_eyes_many), IA E 16 t_eyes_xs, IA E 16 t_eyes_ys, IA E 16 t_eyes_zs, IA E 20 t_sightEyes, ZA E 20 t_sightSeen]) (ok_t_sightMany : inI t_sightMany) (ok_t_steps_many : inI t_steps_many) (ok_t_steps_xs : okA t_steps_xs) (ok_t_steps_ys : okA t_steps_ys) (ok_t_steps_zs : okA t_steps_zs) (ok_t_eyes_many : inI t_eyes_many) (ok_t_eyes_xs : okA t_eyes_xs) (ok_t_eyes_ys : okA t_eyes_ys) (ok_t_eyes_zs : okA t_eyes_zs) (ok_t_sightEyes : okA t_sightEyes) (ok_t_sightSeen : okZ t_sightSeen) (ok_v1 : inI v1) {r : Int} (hm : m_X1_fittingSeenBy t_sightMany t_steps_many t_steps_xs t_steps_ys t_steps_zs t_eyes_many t_eyes_xs t_eyes_ys t_eyes_zs t_sightEyes t_sightSeen v1 = some r) : Ct l E b0 M_X1_fittingSeenBy 0 0 [.ref a_t, vI v1] h n (some (vI r)) h n (inI r) := by
  rw [m_X1_fittingSeenBy] at hm
  have hg : G l E b0 M_X1_fittingSeenBy (fun _ => True) (ZM E b0 (some (vI r)) (ov [a_t, (a_t + 1), (a_t + 2), (a_t + 3), (a_t + 4), (a_t + 9), (a_t + 10), (a_t + 11), (a_t + 12), (a_t + 22), (a_t + 23)] [.inr (1, fsX1 a_t t_sightMany), .inr (8, fsX8 (a_t + 1) t_steps_many), IA E 16 t_steps_xs, IA E 16 t_steps_ys, IA E 16 t_steps_zs, .inr (8, fsX8 (a_t + 9) t_eyes_many), IA E 16 t_eyes_xs, IA E 16 t_eyes_ys, IA E 16 t_eyes_zs, IA E 20 t_sightEyes, ZA E 20 t_sightSeen] h) n (inI r) 0 0) 0 0 n (ov [a_t, (a_t + 1), (a_t + 2), (a_t + 3), (a_t + 4), (a_t + 9), (a_t + 10), (a_t + 11), (a_t + 12), (a_t + 22), (a_t + 23)] [.inr (1, fsX1 a_t t_sightMany), .inr (8, fsX8 (a_t + 1) t_steps_many), IA E 16 t_steps_xs, IA E 16 t_steps_ys, IA E 16 t_steps_zs, .inr (8, fsX8 (a_t + 9) t_eyes_many), IA E 16 t_eyes_xs, IA E 16 t_eyes_ys, IA E 16 t_eyes_zs, IA E 20 t_sightEyes, ZA E 20 t_sightSeen] h) 0 [some (.ref a_t), some (vI v1), none, none] [] := by
    have hs := hm
    exact g_X1_fittingSeenBy_0 ao ok_t_sightMany ok_t_steps_many ok_t_steps_xs ok_t_steps_ys ok_t_steps_zs ok_t_eyes_many ok_t_eyes_xs ok_t_eyes_ys ok_t_eyes_zs ok_t_sightEyes ok_t_sightSeen ok_v1 hs
  rw [FA_id hf] at hg
  exact Ct_of [some (.ref a_t), some (vI v1), none, none] ⟨by decide +kernel, rfl⟩ rfl (Nat.le_of_ble_eq_true rfl) hg

/-! ===== X1_drop ===== -/
theorem e_X1_drop_0 : DC cX1_drop 0 (.aload_n 0) 1 1 := ⟨by decide +kernel, rfl⟩
theorem e_X1_drop_1 : DC cX1_drop 1 (.getfield 14) 3 4 := ⟨by decide +kernel, rfl⟩
theorem e_X1_drop_4 : DC cX1_drop 4 (.invokevirtual 41) 3 7 := ⟨by decide +kernel, rfl⟩
theorem e_X1_drop_7 : DC cX1_drop 7 (.aload_n 0) 1 8 := ⟨by decide +kernel, rfl⟩
theorem e_X1_drop_8 : DC cX1_drop 8 (.getfield 20) 3 11 := ⟨by decide +kernel, rfl⟩
theorem e_X1_drop_11 : DC cX1_drop 11 (.invokevirtual 41) 3 14 := ⟨by decide +kernel, rfl⟩
theorem e_X1_drop_14 : DC cX1_drop 14 (.aload_n 0) 1 15 := ⟨by decide +kernel, rfl⟩
theorem e_X1_drop_15 : DC cX1_drop 15 (.getfield 23) 3 18 := ⟨by decide +kernel, rfl⟩
theorem e_X1_drop_18 : DC cX1_drop 18 (.invokevirtual 41) 3 21 := ⟨by decide +kernel, rfl⟩
theorem e_X1_drop_21 : DC cX1_drop 21 (.aload_n 0) 1 22 := ⟨by decide +kernel, rfl⟩
theorem e_X1_drop_22 : DC cX1_drop 22 (.getfield 29) 3 25 := ⟨by decide +kernel, rfl⟩
theorem e_X1_drop_25 : DC cX1_drop 25 (.invokevirtual 44) 3 28 := ⟨by decide +kernel, rfl⟩
theorem e_X1_drop_28 : DC cX1_drop 28 (.aload_n 0) 1 29 := ⟨by decide +kernel, rfl⟩
theorem e_X1_drop_29 : DC cX1_drop 29 (.iconst 0) 1 30 := ⟨by decide +kernel, rfl⟩
theorem e_X1_drop_30 : DC cX1_drop 30 (.putfield 45) 3 33 := ⟨by decide +kernel, rfl⟩
theorem e_X1_drop_33 : DC cX1_drop 33 (.return_) 1 34 := ⟨by decide +kernel, rfl⟩
noncomputable def m_X1_drop_0 (t_sightMany : Int) (t_steps_many : Int) (t_planes_many : Int) (t_eyes_many : Int) (t_ground_speckMany : Int) (t_ground_sourceMany : Int) (t_ground_baseTold : Int) (t_ground_baseLow : Int) (t_ground_baseHigh : Int) (t_ground_reach : Int) (t_ground_pushes : Nat → Int) (t_ground_pushTold : Nat → Int) (t_ground_speckTold : Nat → Int) (t_ground_sourceTold : Nat → Int) : Option (Int × Int × Int × Int × Int × Int × Int × Int × Int × Int × (Nat → Int) × (Nat → Int) × (Nat → Int) × (Nat → Int)) :=
  (m_X8_drop t_steps_many).bind (fun y1 => (m_X8_drop t_planes_many).bind (fun y2 => (m_X8_drop t_eyes_many).bind (fun y3 => (m_X3_drop t_ground_speckMany t_ground_sourceMany t_ground_baseTold t_ground_baseLow t_ground_baseHigh t_ground_reach t_ground_pushes t_ground_pushTold t_ground_speckTold t_ground_sourceTold).bind (fun y4 => some (0, y1, y2, y3, y4.1, y4.2.1, y4.2.2.1, y4.2.2.2.1, y4.2.2.2.2.1, y4.2.2.2.2.2.1, y4.2.2.2.2.2.2.1, y4.2.2.2.2.2.2.2.1, y4.2.2.2.2.2.2.2.2.1, y4.2.2.2.2.2.2.2.2.2)))))

set_option maxRecDepth 10000 in
theorem g_X1_drop_0 {l : Launch} {E : EE} {b0 n : Nat} {h : AH} {a_t : Nat} {t_sightMany t_steps_many t_planes_many t_eyes_many t_ground_speckMany t_ground_sourceMany t_ground_baseTold t_ground_baseLow t_ground_baseHigh t_ground_reach : Int} {t_ground_pushes t_ground_pushTold t_ground_speckTold t_ground_sourceTold : Nat → Int} {r : Int × Int × Int × Int × Int × Int × Int × Int × Int × Int × (Nat → Int) × (Nat → Int) × (Nat → Int) × (Nat → Int)} (ao : AO b0 n [a_t, (a_t + 1), (a_t + 5), (a_t + 9), (a_t + 13), (a_t + 14), (a_t + 15), (a_t + 18), (a_t + 20)]) (ok_t_sightMany : inI t_sightMany) (ok_t_steps_many : inI t_steps_many) (ok_t_planes_many : inI t_planes_many) (ok_t_eyes_many : inI t_eyes_many) (ok_t_ground_speckMany : inI t_ground_speckMany) (ok_t_ground_sourceMany : inI t_ground_sourceMany) (ok_t_ground_baseTold : inZ t_ground_baseTold) (ok_t_ground_baseLow : inI t_ground_baseLow) (ok_t_ground_baseHigh : inI t_ground_baseHigh) (ok_t_ground_reach : inI t_ground_reach) (ok_t_ground_pushes : okA t_ground_pushes) (ok_t_ground_pushTold : okZ t_ground_pushTold) (ok_t_ground_speckTold : okZ t_ground_speckTold) (ok_t_ground_sourceTold : okZ t_ground_sourceTold) (hs : m_X1_drop_0 t_sightMany t_steps_many t_planes_many t_eyes_many t_ground_speckMany t_ground_sourceMany t_ground_baseTold t_ground_baseLow t_ground_baseHigh t_ground_reach t_ground_pushes t_ground_pushTold t_ground_speckTold t_ground_sourceTold = some r) : G l E b0 M_X1_drop (fun _ => True) (ZM E b0 (none) (ov [a_t, (a_t + 1), (a_t + 5), (a_t + 9), (a_t + 13), (a_t + 14), (a_t + 15), (a_t + 18), (a_t + 20)] [.inr (1, fsX1 a_t r.1), .inr (8, fsX8 (a_t + 1) r.2.1), .inr (8, fsX8 (a_t + 5) r.2.2.1), .inr (8, fsX8 (a_t + 9) r.2.2.2.1), .inr (3, fsX3 (a_t + 13) r.2.2.2.2.1 r.2.2.2.2.2.1 r.2.2.2.2.2.2.1 r.2.2.2.2.2.2.2.1 r.2.2.2.2.2.2.2.2.1 r.2.2.2.2.2.2.2.2.2.1), IA E 21 r.2.2.2.2.2.2.2.2.2.2.1, ZA E 21 r.2.2.2.2.2.2.2.2.2.2.2.1, ZA E 100 r.2.2.2.2.2.2.2.2.2.2.2.2.1, ZA E 100 r.2.2.2.2.2.2.2.2.2.2.2.2.2] h) n (inI r.1 ∧ inI r.2.1 ∧ inI r.2.2.1 ∧ inI r.2.2.2.1 ∧ inI r.2.2.2.2.1 ∧ inI r.2.2.2.2.2.1 ∧ inZ r.2.2.2.2.2.2.1 ∧ inI r.2.2.2.2.2.2.2.1 ∧ inI r.2.2.2.2.2.2.2.2.1 ∧ inI r.2.2.2.2.2.2.2.2.2.1 ∧ okA r.2.2.2.2.2.2.2.2.2.2.1 ∧ okZ r.2.2.2.2.2.2.2.2.2.2.2.1 ∧ okZ r.2.2.2.2.2.2.2.2.2.2.2.2.1 ∧ okZ r.2.2.2.2.2.2.2.2.2.2.2.2.2) 0 0) 0 0 n (ov [a_t, (a_t + 1), (a_t + 5), (a_t + 9), (a_t + 13), (a_t + 14), (a_t + 15), (a_t + 18), (a_t + 20)] [.inr (1, fsX1 a_t t_sightMany), .inr (8, fsX8 (a_t + 1) t_steps_many), .inr (8, fsX8 (a_t + 5) t_planes_many), .inr (8, fsX8 (a_t + 9) t_eyes_many), .inr (3, fsX3 (a_t + 13) t_ground_speckMany t_ground_sourceMany t_ground_baseTold t_ground_baseLow t_ground_baseHigh t_ground_reach), IA E 21 t_ground_pushes, ZA E 21 t_ground_pushTold, ZA E 100 t_ground_speckTold, ZA E 100 t_ground_sourceTold] h) 0 [some (.ref a_t)] [] := by
  rw [m_X1_drop_0] at hs
  refine g_aload_n e_X1_drop_0 rfl ?_
  refine g_get 0 0 ao rfl rfl fsX1_g0 fl_X1_14 e_X1_drop_1 ?_
  obtain ⟨y1, hy1, hs⟩ := bind_elim hs
  refine g_callVv [] cv_X1_41 ⟨rfl, rfl, Nat.le_of_ble_eq_true rfl, Nat.le_of_ble_eq_true rfl⟩ (Ct_heap (ct_X8_drop (AO_call [1] ao (by decide) rfl) (FA_call [1] ao.1 rfl rfl) ok_t_steps_many hy1) (ov_call (esn := [.inr (1, fsX1 a_t t_sightMany), .inr (8, fsX8 (a_t + 1) y1), .inr (8, fsX8 (a_t + 5) t_planes_many), .inr (8, fsX8 (a_t + 9) t_eyes_many), .inr (3, fsX3 (a_t + 13) t_ground_speckMany t_ground_sourceMany t_ground_baseTold t_ground_baseLow t_ground_baseHigh t_ground_reach), IA E 21 t_ground_pushes, ZA E 21 t_ground_pushTold, ZA E 100 t_ground_speckTold, ZA E 100 t_ground_sourceTold]) [1] ao.1 rfl rfl rfl rfl)) e_X1_drop_4 (ao.2 1 _ rfl) (ov_get 1 ao.1 rfl rfl) rfl rfl rfl (Nat.le_of_ble_eq_true rfl) ⟨Nat.le_refl _, Nat.le_refl _⟩ (fun Py1 => ?_)
  refine g_aload_n e_X1_drop_7 rfl ?_
  refine g_get 0 1 ao rfl rfl fsX1_g1 fl_X1_20 e_X1_drop_8 ?_
  obtain ⟨y2, hy2, hs⟩ := bind_elim hs
  refine g_callVv [] cv_X1_41 ⟨rfl, rfl, Nat.le_of_ble_eq_true rfl, Nat.le_of_ble_eq_true rfl⟩ (Ct_heap (ct_X8_drop (AO_call [2] ao (by decide) rfl) (FA_call [2] ao.1 rfl rfl) ok_t_planes_many hy2) (ov_call (esn := [.inr (1, fsX1 a_t t_sightMany), .inr (8, fsX8 (a_t + 1) y1), .inr (8, fsX8 (a_t + 5) y2), .inr (8, fsX8 (a_t + 9) t_eyes_many), .inr (3, fsX3 (a_t + 13) t_ground_speckMany t_ground_sourceMany t_ground_baseTold t_ground_baseLow t_ground_baseHigh t_ground_reach), IA E 21 t_ground_pushes, ZA E 21 t_ground_pushTold, ZA E 100 t_ground_speckTold, ZA E 100 t_ground_sourceTold]) [2] ao.1 rfl rfl rfl rfl)) e_X1_drop_11 (ao.2 2 _ rfl) (ov_get 2 ao.1 rfl rfl) rfl rfl rfl (Nat.le_of_ble_eq_true rfl) ⟨Nat.le_refl _, Nat.le_refl _⟩ (fun Py2 => ?_)
  refine g_aload_n e_X1_drop_14 rfl ?_
  refine g_get 0 2 ao rfl rfl fsX1_g2 fl_X1_23 e_X1_drop_15 ?_
  obtain ⟨y3, hy3, hs⟩ := bind_elim hs
  refine g_callVv [] cv_X1_41 ⟨rfl, rfl, Nat.le_of_ble_eq_true rfl, Nat.le_of_ble_eq_true rfl⟩ (Ct_heap (ct_X8_drop (AO_call [3] ao (by decide) rfl) (FA_call [3] ao.1 rfl rfl) ok_t_eyes_many hy3) (ov_call (esn := [.inr (1, fsX1 a_t t_sightMany), .inr (8, fsX8 (a_t + 1) y1), .inr (8, fsX8 (a_t + 5) y2), .inr (8, fsX8 (a_t + 9) y3), .inr (3, fsX3 (a_t + 13) t_ground_speckMany t_ground_sourceMany t_ground_baseTold t_ground_baseLow t_ground_baseHigh t_ground_reach), IA E 21 t_ground_pushes, ZA E 21 t_ground_pushTold, ZA E 100 t_ground_speckTold, ZA E 100 t_ground_sourceTold]) [3] ao.1 rfl rfl rfl rfl)) e_X1_drop_18 (ao.2 3 _ rfl) (ov_get 3 ao.1 rfl rfl) rfl rfl rfl (Nat.le_of_ble_eq_true rfl) ⟨Nat.le_refl _, Nat.le_refl _⟩ (fun Py3 => ?_)
  refine g_aload_n e_X1_drop_21 rfl ?_
  refine g_get 0 3 ao rfl rfl fsX1_g3 fl_X1_29 e_X1_drop_22 ?_
  obtain ⟨y4, hy4, hs⟩ := bind_elim hs
  refine g_callVv [] cv_X1_44 ⟨rfl, rfl, Nat.le_of_ble_eq_true rfl, Nat.le_of_ble_eq_true rfl⟩ (Ct_heap (ct_X3_drop (AO_call [4, 5, 6, 7, 8] ao (by decide) rfl) (FA_call [4, 5, 6, 7, 8] ao.1 rfl rfl) ok_t_ground_speckMany ok_t_ground_sourceMany ok_t_ground_baseTold ok_t_ground_baseLow ok_t_ground_baseHigh ok_t_ground_reach ok_t_ground_pushes ok_t_ground_pushTold ok_t_ground_speckTold ok_t_ground_sourceTold hy4) (ov_call (esn := [.inr (1, fsX1 a_t t_sightMany), .inr (8, fsX8 (a_t + 1) y1), .inr (8, fsX8 (a_t + 5) y2), .inr (8, fsX8 (a_t + 9) y3), .inr (3, fsX3 (a_t + 13) y4.1 y4.2.1 y4.2.2.1 y4.2.2.2.1 y4.2.2.2.2.1 y4.2.2.2.2.2.1), IA E 21 y4.2.2.2.2.2.2.1, ZA E 21 y4.2.2.2.2.2.2.2.1, ZA E 100 y4.2.2.2.2.2.2.2.2.1, ZA E 100 y4.2.2.2.2.2.2.2.2.2]) [4, 5, 6, 7, 8] ao.1 rfl rfl rfl rfl)) e_X1_drop_25 (ao.2 4 _ rfl) (ov_get 4 ao.1 rfl rfl) rfl rfl rfl (Nat.le_of_ble_eq_true rfl) ⟨Nat.le_refl _, Nat.le_refl _⟩ (fun Py4 => ?_)
  refine g_aload_n e_X1_drop_28 rfl ?_
  refine g_iconst e_X1_drop_29 ?_
  refine g_put 0 6 ao rfl rfl fsX1_k6 fsX1_s6 ls_0 fw_X1_45 (fun h => by cases h) ⟨rfl, rfl⟩ e_X1_drop_30 ?_
  obtain rfl := Option.some.inj hs
  exact g_vret rfl ⟨(by decide : inI 0), Py1, Py2, Py3, Py4.1, Py4.2.1, Py4.2.2.1, Py4.2.2.2.1, Py4.2.2.2.2.1, Py4.2.2.2.2.2.1, Py4.2.2.2.2.2.2.1, Py4.2.2.2.2.2.2.2.1, Py4.2.2.2.2.2.2.2.2.1, Py4.2.2.2.2.2.2.2.2.2⟩ e_X1_drop_33

noncomputable def m_X1_drop (t_sightMany : Int) (t_steps_many : Int) (t_planes_many : Int) (t_eyes_many : Int) (t_ground_speckMany : Int) (t_ground_sourceMany : Int) (t_ground_baseTold : Int) (t_ground_baseLow : Int) (t_ground_baseHigh : Int) (t_ground_reach : Int) (t_ground_pushes : Nat → Int) (t_ground_pushTold : Nat → Int) (t_ground_speckTold : Nat → Int) (t_ground_sourceTold : Nat → Int) : Option (Int × Int × Int × Int × Int × Int × Int × Int × Int × Int × (Nat → Int) × (Nat → Int) × (Nat → Int) × (Nat → Int)) := m_X1_drop_0 t_sightMany t_steps_many t_planes_many t_eyes_many t_ground_speckMany t_ground_sourceMany t_ground_baseTold t_ground_baseLow t_ground_baseHigh t_ground_reach t_ground_pushes t_ground_pushTold t_ground_speckTold t_ground_sourceTold

set_option maxRecDepth 10000 in
theorem ct_X1_drop {l : Launch} {E : EE} {b0 n : Nat} {h : AH} {a_t : Nat} {t_sightMany t_steps_many t_planes_many t_eyes_many t_ground_speckMany t_ground_sourceMany t_ground_baseTold t_ground_baseLow t_ground_baseHigh t_ground_reach : Int} {t_ground_pushes t_ground_pushTold t_ground_speckTold t_ground_sourceTold : Nat → Int} (ao : AO b0 n [a_t, (a_t + 1), (a_t + 5), (a_t + 9), (a_t + 13), (a_t + 14), (a_t + 15), (a_t + 18), (a_t + 20)]) (hf : FA h [a_t, (a_t + 1), (a_t + 5), (a_t + 9), (a_t + 13), (a_t + 14), (a_t + 15), (a_t + 18), (a_t + 20)] [.inr (1, fsX1 a_t t_sightMany), .inr (8, fsX8 (a_t + 1) t_steps_many), .inr (8, fsX8 (a_t + 5) t_planes_many), .inr (8, fsX8 (a_t + 9) t_eyes_many), .inr (3, fsX3 (a_t + 13) t_ground_speckMany t_ground_sourceMany t_ground_baseTold t_ground_baseLow t_ground_baseHigh t_ground_reach), IA E 21 t_ground_pushes, ZA E 21 t_ground_pushTold, ZA E 100 t_ground_speckTold, ZA E 100 t_ground_sourceTold]) (ok_t_sightMany : inI t_sightMany) (ok_t_steps_many : inI t_steps_many) (ok_t_planes_many : inI t_planes_many) (ok_t_eyes_many : inI t_eyes_many) (ok_t_ground_speckMany : inI t_ground_speckMany) (ok_t_ground_sourceMany : inI t_ground_sourceMany) (ok_t_ground_baseTold : inZ t_ground_baseTold) (ok_t_ground_baseLow : inI t_ground_baseLow) (ok_t_ground_baseHigh : inI t_ground_baseHigh) (ok_t_ground_reach : inI t_ground_reach) (ok_t_ground_pushes : okA t_ground_pushes) (ok_t_ground_pushTold : okZ t_ground_pushTold) (ok_t_ground_speckTold : okZ t_ground_speckTold) (ok_t_ground_sourceTold : okZ t_ground_sourceTold) {r : Int × Int × Int × Int × Int × Int × Int × Int × Int × Int × (Nat → Int) × (Nat → Int) × (Nat → Int) × (Nat → Int)} (hm : m_X1_drop t_sightMany t_steps_many t_planes_many t_eyes_many t_ground_speckMany t_ground_sourceMany t_ground_baseTold t_ground_baseLow t_ground_baseHigh t_ground_reach t_ground_pushes t_ground_pushTold t_ground_speckTold t_ground_sourceTold = some r) : Ct l E b0 M_X1_drop 0 0 [.ref a_t] h n (none) (ov [a_t, (a_t + 1), (a_t + 5), (a_t + 9), (a_t + 13), (a_t + 14), (a_t + 15), (a_t + 18), (a_t + 20)] [.inr (1, fsX1 a_t r.1), .inr (8, fsX8 (a_t + 1) r.2.1), .inr (8, fsX8 (a_t + 5) r.2.2.1), .inr (8, fsX8 (a_t + 9) r.2.2.2.1), .inr (3, fsX3 (a_t + 13) r.2.2.2.2.1 r.2.2.2.2.2.1 r.2.2.2.2.2.2.1 r.2.2.2.2.2.2.2.1 r.2.2.2.2.2.2.2.2.1 r.2.2.2.2.2.2.2.2.2.1), IA E 21 r.2.2.2.2.2.2.2.2.2.2.1, ZA E 21 r.2.2.2.2.2.2.2.2.2.2.2.1, ZA E 100 r.2.2.2.2.2.2.2.2.2.2.2.2.1, ZA E 100 r.2.2.2.2.2.2.2.2.2.2.2.2.2] h) n (inI r.1 ∧ inI r.2.1 ∧ inI r.2.2.1 ∧ inI r.2.2.2.1 ∧ inI r.2.2.2.2.1 ∧ inI r.2.2.2.2.2.1 ∧ inZ r.2.2.2.2.2.2.1 ∧ inI r.2.2.2.2.2.2.2.1 ∧ inI r.2.2.2.2.2.2.2.2.1 ∧ inI r.2.2.2.2.2.2.2.2.2.1 ∧ okA r.2.2.2.2.2.2.2.2.2.2.1 ∧ okZ r.2.2.2.2.2.2.2.2.2.2.2.1 ∧ okZ r.2.2.2.2.2.2.2.2.2.2.2.2.1 ∧ okZ r.2.2.2.2.2.2.2.2.2.2.2.2.2) := by
  rw [m_X1_drop] at hm
  have hg : G l E b0 M_X1_drop (fun _ => True) (ZM E b0 (none) (ov [a_t, (a_t + 1), (a_t + 5), (a_t + 9), (a_t + 13), (a_t + 14), (a_t + 15), (a_t + 18), (a_t + 20)] [.inr (1, fsX1 a_t r.1), .inr (8, fsX8 (a_t + 1) r.2.1), .inr (8, fsX8 (a_t + 5) r.2.2.1), .inr (8, fsX8 (a_t + 9) r.2.2.2.1), .inr (3, fsX3 (a_t + 13) r.2.2.2.2.1 r.2.2.2.2.2.1 r.2.2.2.2.2.2.1 r.2.2.2.2.2.2.2.1 r.2.2.2.2.2.2.2.2.1 r.2.2.2.2.2.2.2.2.2.1), IA E 21 r.2.2.2.2.2.2.2.2.2.2.1, ZA E 21 r.2.2.2.2.2.2.2.2.2.2.2.1, ZA E 100 r.2.2.2.2.2.2.2.2.2.2.2.2.1, ZA E 100 r.2.2.2.2.2.2.2.2.2.2.2.2.2] h) n (inI r.1 ∧ inI r.2.1 ∧ inI r.2.2.1 ∧ inI r.2.2.2.1 ∧ inI r.2.2.2.2.1 ∧ inI r.2.2.2.2.2.1 ∧ inZ r.2.2.2.2.2.2.1 ∧ inI r.2.2.2.2.2.2.2.1 ∧ inI r.2.2.2.2.2.2.2.2.1 ∧ inI r.2.2.2.2.2.2.2.2.2.1 ∧ okA r.2.2.2.2.2.2.2.2.2.2.1 ∧ okZ r.2.2.2.2.2.2.2.2.2.2.2.1 ∧ okZ r.2.2.2.2.2.2.2.2.2.2.2.2.1 ∧ okZ r.2.2.2.2.2.2.2.2.2.2.2.2.2) 0 0) 0 0 n (ov [a_t, (a_t + 1), (a_t + 5), (a_t + 9), (a_t + 13), (a_t + 14), (a_t + 15), (a_t + 18), (a_t + 20)] [.inr (1, fsX1 a_t t_sightMany), .inr (8, fsX8 (a_t + 1) t_steps_many), .inr (8, fsX8 (a_t + 5) t_planes_many), .inr (8, fsX8 (a_t + 9) t_eyes_many), .inr (3, fsX3 (a_t + 13) t_ground_speckMany t_ground_sourceMany t_ground_baseTold t_ground_baseLow t_ground_baseHigh t_ground_reach), IA E 21 t_ground_pushes, ZA E 21 t_ground_pushTold, ZA E 100 t_ground_speckTold, ZA E 100 t_ground_sourceTold] h) 0 [some (.ref a_t)] [] := by
    have hs := hm
    exact g_X1_drop_0 ao ok_t_sightMany ok_t_steps_many ok_t_planes_many ok_t_eyes_many ok_t_ground_speckMany ok_t_ground_sourceMany ok_t_ground_baseTold ok_t_ground_baseLow ok_t_ground_baseHigh ok_t_ground_reach ok_t_ground_pushes ok_t_ground_pushTold ok_t_ground_speckTold ok_t_ground_sourceTold hs
  rw [FA_id hf] at hg
  exact Ct_of [some (.ref a_t)] ⟨by decide +kernel, rfl⟩ rfl (Nat.le_of_ble_eq_true rfl) hg

/-! ===== X1_bestEye ===== -/
theorem e_X1_bestEye_0 : DC cX1_bestEye 0 (.aload_n 0) 1 1 := ⟨by decide +kernel, rfl⟩
theorem e_X1_bestEye_1 : DC cX1_bestEye 1 (.iconst (-1)) 1 2 := ⟨by decide +kernel, rfl⟩
theorem e_X1_bestEye_2 : DC cX1_bestEye 2 (.invokevirtual 67) 3 5 := ⟨by decide +kernel, rfl⟩
theorem e_X1_bestEye_5 : DC cX1_bestEye 5 (.istore_n 1) 1 6 := ⟨by decide +kernel, rfl⟩
theorem e_X1_bestEye_6 : DC cX1_bestEye 6 (.iconst (-1)) 1 7 := ⟨by decide +kernel, rfl⟩
theorem e_X1_bestEye_7 : DC cX1_bestEye 7 (.istore_n 2) 1 8 := ⟨by decide +kernel, rfl⟩
theorem e_X1_bestEye_8 : DC cX1_bestEye 8 (.iload_n 1) 1 9 := ⟨by decide +kernel, rfl⟩
theorem e_X1_bestEye_9 : DC cX1_bestEye 9 (.istore_n 3) 1 10 := ⟨by decide +kernel, rfl⟩
theorem e_X1_bestEye_10 : DC cX1_bestEye 10 (.iconst 0) 1 11 := ⟨by decide +kernel, rfl⟩
theorem e_X1_bestEye_11 : DC cX1_bestEye 11 (.istore 4) 2 13 := ⟨by decide +kernel, rfl⟩
theorem e_X1_bestEye_13 : DC cX1_bestEye 13 (.iload 4) 2 15 := ⟨by decide +kernel, rfl⟩
theorem e_X1_bestEye_15 : DC cX1_bestEye 15 (.aload_n 0) 1 16 := ⟨by decide +kernel, rfl⟩
theorem e_X1_bestEye_16 : DC cX1_bestEye 16 (.getfield 23) 3 19 := ⟨by decide +kernel, rfl⟩
theorem e_X1_bestEye_19 : DC cX1_bestEye 19 (.getfield 61) 3 22 := ⟨by decide +kernel, rfl⟩
theorem e_X1_bestEye_22 : DB cX1_bestEye 22 (.if_icmp .ge 40) (40) 3 25 62 := ⟨by decide +kernel, rfl, rfl⟩
theorem e_X1_bestEye_25 : DC cX1_bestEye 25 (.aload_n 0) 1 26 := ⟨by decide +kernel, rfl⟩
theorem e_X1_bestEye_26 : DC cX1_bestEye 26 (.iload 4) 2 28 := ⟨by decide +kernel, rfl⟩
theorem e_X1_bestEye_28 : DC cX1_bestEye 28 (.invokevirtual 71) 3 31 := ⟨by decide +kernel, rfl⟩
theorem e_X1_bestEye_31 : DC cX1_bestEye 31 (.istore 5) 2 33 := ⟨by decide +kernel, rfl⟩
theorem e_X1_bestEye_33 : DC cX1_bestEye 33 (.iload 5) 2 35 := ⟨by decide +kernel, rfl⟩
theorem e_X1_bestEye_35 : DC cX1_bestEye 35 (.iload_n 1) 1 36 := ⟨by decide +kernel, rfl⟩
theorem e_X1_bestEye_36 : DC cX1_bestEye 36 (.iload 5) 2 38 := ⟨by decide +kernel, rfl⟩
theorem e_X1_bestEye_38 : DC cX1_bestEye 38 (.isub) 1 39 := ⟨by decide +kernel, rfl⟩
theorem e_X1_bestEye_39 : DC cX1_bestEye 39 (.invokestatic 74) 3 42 := ⟨by decide +kernel, rfl⟩
theorem e_X1_bestEye_42 : DC cX1_bestEye 42 (.istore 6) 2 44 := ⟨by decide +kernel, rfl⟩
theorem e_X1_bestEye_44 : DC cX1_bestEye 44 (.iload 6) 2 46 := ⟨by decide +kernel, rfl⟩
theorem e_X1_bestEye_46 : DC cX1_bestEye 46 (.iload_n 3) 1 47 := ⟨by decide +kernel, rfl⟩
theorem e_X1_bestEye_47 : DB cX1_bestEye 47 (.if_icmp .ge 9) (9) 3 50 56 := ⟨by decide +kernel, rfl, rfl⟩
theorem e_X1_bestEye_50 : DC cX1_bestEye 50 (.iload 6) 2 52 := ⟨by decide +kernel, rfl⟩
theorem e_X1_bestEye_52 : DC cX1_bestEye 52 (.istore_n 3) 1 53 := ⟨by decide +kernel, rfl⟩
theorem e_X1_bestEye_53 : DC cX1_bestEye 53 (.iload 4) 2 55 := ⟨by decide +kernel, rfl⟩
theorem e_X1_bestEye_55 : DC cX1_bestEye 55 (.istore_n 2) 1 56 := ⟨by decide +kernel, rfl⟩
theorem e_X1_bestEye_56 : DC cX1_bestEye 56 (.iinc 4 1) 3 59 := ⟨by decide +kernel, rfl⟩
theorem e_X1_bestEye_59 : DB cX1_bestEye 59 (.goto (-46)) (-46) 3 62 13 := ⟨by decide +kernel, rfl, rfl⟩
theorem e_X1_bestEye_62 : DC cX1_bestEye 62 (.iload_n 2) 1 63 := ⟨by decide +kernel, rfl⟩
theorem e_X1_bestEye_63 : DC cX1_bestEye 63 (.ireturn) 1 64 := ⟨by decide +kernel, rfl⟩
noncomputable def m_X1_bestEye_56 (t_sightMany : Int) (t_steps_many : Int) (t_steps_xs : Nat → Int) (t_steps_ys : Nat → Int) (t_steps_zs : Nat → Int) (t_eyes_many : Int) (t_eyes_xs : Nat → Int) (t_eyes_ys : Nat → Int) (t_eyes_zs : Nat → Int) (t_sightEyes : Nat → Int) (t_sightSeen : Nat → Int) (v1 : Int) (v2 : Int) (v3 : Int) (v4 : Int) (ag : Int → Int → Int → Option (Int)) (k_62 : Int → Int → Int → Option (Int)) : Option (Int) :=
  chk (inI (v4 + 1)) (ag v2 v3 (v4 + 1))

set_option maxRecDepth 10000 in
theorem g_X1_bestEye_56 {l : Launch} {E : EE} {b0 n : Nat} {h : AH} {a_t : Nat} {t_sightMany t_steps_many t_eyes_many v1 v2 v3 v4 : Int} {t_steps_xs t_steps_ys t_steps_zs t_eyes_xs t_eyes_ys t_eyes_zs t_sightEyes t_sightSeen : Nat → Int} {r : Int} {ag : Int → Int → Int → Option (Int)} {k_62 : Int → Int → Int → Option (Int)} (ao : AO b0 n [a_t, (a_t + 1), (a_t + 2), (a_t + 3), (a_t + 4), (a_t + 9), (a_t + 10), (a_t + 11), (a_t + 12), (a_t + 22), (a_t + 23)]) (ok_t_sightMany : inI t_sightMany) (ok_t_steps_many : inI t_steps_many) (ok_t_steps_xs : okA t_steps_xs) (ok_t_steps_ys : okA t_steps_ys) (ok_t_steps_zs : okA t_steps_zs) (ok_t_eyes_many : inI t_eyes_many) (ok_t_eyes_xs : okA t_eyes_xs) (ok_t_eyes_ys : okA t_eyes_ys) (ok_t_eyes_zs : okA t_eyes_zs) (ok_t_sightEyes : okA t_sightEyes) (ok_t_sightSeen : okZ t_sightSeen) (ok_v1 : inI v1) (ok_v2 : inI v2) (ok_v3 : inI v3) (ok_v4 : inI v4) (hag : ∀ (v2_ : Int) (v3_ : Int) (v4_ : Int), inI v2_ → inI v3_ → inI v4_ → ag v2_ v3_ v4_ = some r → G l E b0 M_X1_bestEye (fun _ => True) (ZM E b0 (some (vI r)) (ov [a_t, (a_t + 1), (a_t + 2), (a_t + 3), (a_t + 4), (a_t + 9), (a_t + 10), (a_t + 11), (a_t + 12), (a_t + 22), (a_t + 23)] [.inr (1, fsX1 a_t t_sightMany), .inr (8, fsX8 (a_t + 1) t_steps_many), IA E 16 t_steps_xs, IA E 16 t_steps_ys, IA E 16 t_steps_zs, .inr (8, fsX8 (a_t + 9) t_eyes_many), IA E 16 t_eyes_xs, IA E 16 t_eyes_ys, IA E 16 t_eyes_zs, IA E 20 t_sightEyes, ZA E 20 t_sightSeen] h) n (inI r) 0 0) 0 0 n (ov [a_t, (a_t + 1), (a_t + 2), (a_t + 3), (a_t + 4), (a_t + 9), (a_t + 10), (a_t + 11), (a_t + 12), (a_t + 22), (a_t + 23)] [.inr (1, fsX1 a_t t_sightMany), .inr (8, fsX8 (a_t + 1) t_steps_many), IA E 16 t_steps_xs, IA E 16 t_steps_ys, IA E 16 t_steps_zs, .inr (8, fsX8 (a_t + 9) t_eyes_many), IA E 16 t_eyes_xs, IA E 16 t_eyes_ys, IA E 16 t_eyes_zs, IA E 20 t_sightEyes, ZA E 20 t_sightSeen] h) 13 [some (.ref a_t), some (vI v1), some (vI v2_), some (vI v3_), some (vI v4_), none, none] []) (hk_62 : ∀ (v2_ : Int) (v3_ : Int) (v4_ : Int), inI v2_ → inI v3_ → inI v4_ → k_62 v2_ v3_ v4_ = some r → G l E b0 M_X1_bestEye (fun _ => True) (ZM E b0 (some (vI r)) (ov [a_t, (a_t + 1), (a_t + 2), (a_t + 3), (a_t + 4), (a_t + 9), (a_t + 10), (a_t + 11), (a_t + 12), (a_t + 22), (a_t + 23)] [.inr (1, fsX1 a_t t_sightMany), .inr (8, fsX8 (a_t + 1) t_steps_many), IA E 16 t_steps_xs, IA E 16 t_steps_ys, IA E 16 t_steps_zs, .inr (8, fsX8 (a_t + 9) t_eyes_many), IA E 16 t_eyes_xs, IA E 16 t_eyes_ys, IA E 16 t_eyes_zs, IA E 20 t_sightEyes, ZA E 20 t_sightSeen] h) n (inI r) 0 0) 0 0 n (ov [a_t, (a_t + 1), (a_t + 2), (a_t + 3), (a_t + 4), (a_t + 9), (a_t + 10), (a_t + 11), (a_t + 12), (a_t + 22), (a_t + 23)] [.inr (1, fsX1 a_t t_sightMany), .inr (8, fsX8 (a_t + 1) t_steps_many), IA E 16 t_steps_xs, IA E 16 t_steps_ys, IA E 16 t_steps_zs, .inr (8, fsX8 (a_t + 9) t_eyes_many), IA E 16 t_eyes_xs, IA E 16 t_eyes_ys, IA E 16 t_eyes_zs, IA E 20 t_sightEyes, ZA E 20 t_sightSeen] h) 62 [none, none, some (vI v2_), none, none, none, none] []) (hs : m_X1_bestEye_56 t_sightMany t_steps_many t_steps_xs t_steps_ys t_steps_zs t_eyes_many t_eyes_xs t_eyes_ys t_eyes_zs t_sightEyes t_sightSeen v1 v2 v3 v4 ag k_62 = some r) : G l E b0 M_X1_bestEye (fun _ => True) (ZM E b0 (some (vI r)) (ov [a_t, (a_t + 1), (a_t + 2), (a_t + 3), (a_t + 4), (a_t + 9), (a_t + 10), (a_t + 11), (a_t + 12), (a_t + 22), (a_t + 23)] [.inr (1, fsX1 a_t t_sightMany), .inr (8, fsX8 (a_t + 1) t_steps_many), IA E 16 t_steps_xs, IA E 16 t_steps_ys, IA E 16 t_steps_zs, .inr (8, fsX8 (a_t + 9) t_eyes_many), IA E 16 t_eyes_xs, IA E 16 t_eyes_ys, IA E 16 t_eyes_zs, IA E 20 t_sightEyes, ZA E 20 t_sightSeen] h) n (inI r) 0 0) 0 0 n (ov [a_t, (a_t + 1), (a_t + 2), (a_t + 3), (a_t + 4), (a_t + 9), (a_t + 10), (a_t + 11), (a_t + 12), (a_t + 22), (a_t + 23)] [.inr (1, fsX1 a_t t_sightMany), .inr (8, fsX8 (a_t + 1) t_steps_many), IA E 16 t_steps_xs, IA E 16 t_steps_ys, IA E 16 t_steps_zs, .inr (8, fsX8 (a_t + 9) t_eyes_many), IA E 16 t_eyes_xs, IA E 16 t_eyes_ys, IA E 16 t_eyes_zs, IA E 20 t_sightEyes, ZA E 20 t_sightSeen] h) 56 [some (.ref a_t), some (vI v1), some (vI v2), some (vI v3), some (vI v4), none, none] [] := by
  rw [m_X1_bestEye_56] at hs
  refine g_iinc e_X1_bestEye_56 rfl st1_4 rfl ?_
  refine g_goto e_X1_bestEye_59 ?_
  obtain ⟨hc4, hs⟩ := chk_elim hs
  exact hag _ _ _ ok_v2 ok_v3 hc4 hs

noncomputable def m_X1_bestEye_13 (t_sightMany : Int) (t_steps_many : Int) (t_steps_xs : Nat → Int) (t_steps_ys : Nat → Int) (t_steps_zs : Nat → Int) (t_eyes_many : Int) (t_eyes_xs : Nat → Int) (t_eyes_ys : Nat → Int) (t_eyes_zs : Nat → Int) (t_sightEyes : Nat → Int) (t_sightSeen : Nat → Int) (v1 : Int) (k_62 : Int → Int → Int → Option (Int)) : Nat → Int → Int → Int → Option (Int)
  | 0, _, _, _ => none
  | F + 1, v2, v3, v4 => if t_eyes_many ≤ v4 then (some (v2)) else ((m_X1_fittingSeenBy t_sightMany t_steps_many t_steps_xs t_steps_ys t_steps_zs t_eyes_many t_eyes_xs t_eyes_ys t_eyes_zs t_sightEyes t_sightSeen v4).bind (fun y2 => chk (inI (v1 - y2)) (if v3 ≤ (if y2 < (v1 - y2) then v1 - y2 else y2) then (m_X1_bestEye_56 t_sightMany t_steps_many t_steps_xs t_steps_ys t_steps_zs t_eyes_many t_eyes_xs t_eyes_ys t_eyes_zs t_sightEyes t_sightSeen v1 v2 v3 v4 (m_X1_bestEye_13 t_sightMany t_steps_many t_steps_xs t_steps_ys t_steps_zs t_eyes_many t_eyes_xs t_eyes_ys t_eyes_zs t_sightEyes t_sightSeen v1 k_62 F) k_62) else (m_X1_bestEye_56 t_sightMany t_steps_many t_steps_xs t_steps_ys t_steps_zs t_eyes_many t_eyes_xs t_eyes_ys t_eyes_zs t_sightEyes t_sightSeen v1 v4 (if y2 < (v1 - y2) then v1 - y2 else y2) v4 (m_X1_bestEye_13 t_sightMany t_steps_many t_steps_xs t_steps_ys t_steps_zs t_eyes_many t_eyes_xs t_eyes_ys t_eyes_zs t_sightEyes t_sightSeen v1 k_62 F) k_62))))

set_option maxRecDepth 10000 in
theorem g_X1_bestEye_13 {l : Launch} {E : EE} {b0 n : Nat} {h : AH} {a_t : Nat} {t_sightMany t_steps_many t_eyes_many v1 : Int} {t_steps_xs t_steps_ys t_steps_zs t_eyes_xs t_eyes_ys t_eyes_zs t_sightEyes t_sightSeen : Nat → Int} {r : Int} {k_62 : Int → Int → Int → Option (Int)} (ao : AO b0 n [a_t, (a_t + 1), (a_t + 2), (a_t + 3), (a_t + 4), (a_t + 9), (a_t + 10), (a_t + 11), (a_t + 12), (a_t + 22), (a_t + 23)]) (ok_t_sightMany : inI t_sightMany) (ok_t_steps_many : inI t_steps_many) (ok_t_steps_xs : okA t_steps_xs) (ok_t_steps_ys : okA t_steps_ys) (ok_t_steps_zs : okA t_steps_zs) (ok_t_eyes_many : inI t_eyes_many) (ok_t_eyes_xs : okA t_eyes_xs) (ok_t_eyes_ys : okA t_eyes_ys) (ok_t_eyes_zs : okA t_eyes_zs) (ok_t_sightEyes : okA t_sightEyes) (ok_t_sightSeen : okZ t_sightSeen) (ok_v1 : inI v1) (hk_62 : ∀ (v2_ : Int) (v3_ : Int) (v4_ : Int), inI v2_ → inI v3_ → inI v4_ → k_62 v2_ v3_ v4_ = some r → G l E b0 M_X1_bestEye (fun _ => True) (ZM E b0 (some (vI r)) (ov [a_t, (a_t + 1), (a_t + 2), (a_t + 3), (a_t + 4), (a_t + 9), (a_t + 10), (a_t + 11), (a_t + 12), (a_t + 22), (a_t + 23)] [.inr (1, fsX1 a_t t_sightMany), .inr (8, fsX8 (a_t + 1) t_steps_many), IA E 16 t_steps_xs, IA E 16 t_steps_ys, IA E 16 t_steps_zs, .inr (8, fsX8 (a_t + 9) t_eyes_many), IA E 16 t_eyes_xs, IA E 16 t_eyes_ys, IA E 16 t_eyes_zs, IA E 20 t_sightEyes, ZA E 20 t_sightSeen] h) n (inI r) 0 0) 0 0 n (ov [a_t, (a_t + 1), (a_t + 2), (a_t + 3), (a_t + 4), (a_t + 9), (a_t + 10), (a_t + 11), (a_t + 12), (a_t + 22), (a_t + 23)] [.inr (1, fsX1 a_t t_sightMany), .inr (8, fsX8 (a_t + 1) t_steps_many), IA E 16 t_steps_xs, IA E 16 t_steps_ys, IA E 16 t_steps_zs, .inr (8, fsX8 (a_t + 9) t_eyes_many), IA E 16 t_eyes_xs, IA E 16 t_eyes_ys, IA E 16 t_eyes_zs, IA E 20 t_sightEyes, ZA E 20 t_sightSeen] h) 62 [none, none, some (vI v2_), none, none, none, none] []) :
    ∀ (F : Nat) (v2 : Int) (v3 : Int) (v4 : Int), inI v2 → inI v3 → inI v4 → m_X1_bestEye_13 t_sightMany t_steps_many t_steps_xs t_steps_ys t_steps_zs t_eyes_many t_eyes_xs t_eyes_ys t_eyes_zs t_sightEyes t_sightSeen v1 k_62 F v2 v3 v4 = some r → G l E b0 M_X1_bestEye (fun _ => True) (ZM E b0 (some (vI r)) (ov [a_t, (a_t + 1), (a_t + 2), (a_t + 3), (a_t + 4), (a_t + 9), (a_t + 10), (a_t + 11), (a_t + 12), (a_t + 22), (a_t + 23)] [.inr (1, fsX1 a_t t_sightMany), .inr (8, fsX8 (a_t + 1) t_steps_many), IA E 16 t_steps_xs, IA E 16 t_steps_ys, IA E 16 t_steps_zs, .inr (8, fsX8 (a_t + 9) t_eyes_many), IA E 16 t_eyes_xs, IA E 16 t_eyes_ys, IA E 16 t_eyes_zs, IA E 20 t_sightEyes, ZA E 20 t_sightSeen] h) n (inI r) 0 0) 0 0 n (ov [a_t, (a_t + 1), (a_t + 2), (a_t + 3), (a_t + 4), (a_t + 9), (a_t + 10), (a_t + 11), (a_t + 12), (a_t + 22), (a_t + 23)] [.inr (1, fsX1 a_t t_sightMany), .inr (8, fsX8 (a_t + 1) t_steps_many), IA E 16 t_steps_xs, IA E 16 t_steps_ys, IA E 16 t_steps_zs, .inr (8, fsX8 (a_t + 9) t_eyes_many), IA E 16 t_eyes_xs, IA E 16 t_eyes_ys, IA E 16 t_eyes_zs, IA E 20 t_sightEyes, ZA E 20 t_sightSeen] h) 13 [some (.ref a_t), some (vI v1), some (vI v2), some (vI v3), some (vI v4), none, none] [] := by
  intro F
  induction F with
  | zero =>
    intro v2 v3 v4 ok_v2 ok_v3 ok_v4 hs
    rw [m_X1_bestEye_13] at hs
    cases hs
  | succ F ih =>
    intro v2 v3 v4 ok_v2 ok_v3 ok_v4 hs
    rw [m_X1_bestEye_13] at hs
    refine g_iload e_X1_bestEye_13 rfl ?_
    refine g_aload_n e_X1_bestEye_15 rfl ?_
    refine g_get 0 2 ao rfl rfl fsX1_g2 fl_X1_23 e_X1_bestEye_16 ?_
    refine g_get 5 3 ao rfl rfl fsX8_g3 fl_X1_61 e_X1_bestEye_19 ?_
    refine g_icmp_ge e_X1_bestEye_22 ok_v4 ok_t_eyes_many hs (fun c22 hs => ?_) (fun c22 hs => ?_)
    · refine g_iload_n e_X1_bestEye_62 rfl ?_
      obtain rfl := Option.some.inj hs
      exact g_iret rfl ok_v2 e_X1_bestEye_63
    · refine g_aload_n e_X1_bestEye_25 rfl ?_
      refine g_iload e_X1_bestEye_26 rfl ?_
      obtain ⟨y2, hy2, hs⟩ := bind_elim hs
      refine g_callVr [vI v4] cv_X1_71 ⟨rfl, rfl, Nat.le_of_ble_eq_true rfl, Nat.le_of_ble_eq_true rfl⟩ (ct_X1_fittingSeenBy (AO_call [0, 1, 2, 3, 4, 5, 6, 7, 8, 9, 10] ao (by decide) rfl) (FA_call [0, 1, 2, 3, 4, 5, 6, 7, 8, 9, 10] ao.1 rfl rfl) ok_t_sightMany ok_t_steps_many ok_t_steps_xs ok_t_steps_ys ok_t_steps_zs ok_t_eyes_many ok_t_eyes_xs ok_t_eyes_ys ok_t_eyes_zs ok_t_sightEyes ok_t_sightSeen ok_v4 hy2) e_X1_bestEye_28 (ao.2 0 _ rfl) (ov_get 0 ao.1 rfl rfl) rfl rfl rfl (Nat.le_of_ble_eq_true rfl) ⟨Nat.le_refl _, Nat.le_refl _⟩ (fun Py2 => ?_)
      refine g_istore e_X1_bestEye_31 st1_5 rfl ?_
      refine g_iload e_X1_bestEye_33 rfl ?_
      refine g_iload_n e_X1_bestEye_35 rfl ?_
      refine g_iload e_X1_bestEye_36 rfl ?_
      refine g_isub e_X1_bestEye_38 ?_
      obtain ⟨hc3, hs⟩ := chk_elim hs
      refine g_max jm_X1_74 e_X1_bestEye_39 ⟨Nat.le_of_ble_eq_true rfl, Nat.le_of_ble_eq_true rfl, Nat.le_of_ble_eq_true rfl⟩ (Nat.le_of_ble_eq_true rfl) Py2 hc3 ?_
      refine g_istore e_X1_bestEye_42 st1_6 rfl ?_
      refine g_iload e_X1_bestEye_44 rfl ?_
      refine g_iload_n e_X1_bestEye_46 rfl ?_
      refine g_icmp_ge e_X1_bestEye_47 (ite_I hc3 Py2) ok_v3 hs (fun c47 hs => ?_) (fun c47 hs => ?_)
      · exact g_mask [true, true, true, true, true, false, false] (g_X1_bestEye_56 ao ok_t_sightMany ok_t_steps_many ok_t_steps_xs ok_t_steps_ys ok_t_steps_zs ok_t_eyes_many ok_t_eyes_xs ok_t_eyes_ys ok_t_eyes_zs ok_t_sightEyes ok_t_sightSeen ok_v1 ok_v2 ok_v3 ok_v4 ih hk_62 hs)
      · refine g_iload e_X1_bestEye_50 rfl ?_
        refine g_istore_n e_X1_bestEye_52 st1_3 rfl ?_
        refine g_iload e_X1_bestEye_53 rfl ?_
        refine g_istore_n e_X1_bestEye_55 st1_2 rfl ?_
        exact g_mask [true, true, true, true, true, false, false] (g_X1_bestEye_56 ao ok_t_sightMany ok_t_steps_many ok_t_steps_xs ok_t_steps_ys ok_t_steps_zs ok_t_eyes_many ok_t_eyes_xs ok_t_eyes_ys ok_t_eyes_zs ok_t_sightEyes ok_t_sightSeen ok_v1 ok_v4 (ite_I hc3 Py2) ok_v4 ih hk_62 hs)

noncomputable def m_X1_bestEye_62 (v2 : Int) : Option (Int) :=
  some (v2)

set_option maxRecDepth 10000 in
theorem g_X1_bestEye_62 {l : Launch} {E : EE} {b0 n : Nat} {h : AH} {a_t : Nat} {t_sightMany t_steps_many t_eyes_many v2 : Int} {t_steps_xs t_steps_ys t_steps_zs t_eyes_xs t_eyes_ys t_eyes_zs t_sightEyes t_sightSeen : Nat → Int} {r : Int} (ao : AO b0 n [a_t, (a_t + 1), (a_t + 2), (a_t + 3), (a_t + 4), (a_t + 9), (a_t + 10), (a_t + 11), (a_t + 12), (a_t + 22), (a_t + 23)]) (ok_t_sightMany : inI t_sightMany) (ok_t_steps_many : inI t_steps_many) (ok_t_steps_xs : okA t_steps_xs) (ok_t_steps_ys : okA t_steps_ys) (ok_t_steps_zs : okA t_steps_zs) (ok_t_eyes_many : inI t_eyes_many) (ok_t_eyes_xs : okA t_eyes_xs) (ok_t_eyes_ys : okA t_eyes_ys) (ok_t_eyes_zs : okA t_eyes_zs) (ok_t_sightEyes : okA t_sightEyes) (ok_t_sightSeen : okZ t_sightSeen) (ok_v2 : inI v2) (hs : m_X1_bestEye_62 v2 = some r) : G l E b0 M_X1_bestEye (fun _ => True) (ZM E b0 (some (vI r)) (ov [a_t, (a_t + 1), (a_t + 2), (a_t + 3), (a_t + 4), (a_t + 9), (a_t + 10), (a_t + 11), (a_t + 12), (a_t + 22), (a_t + 23)] [.inr (1, fsX1 a_t t_sightMany), .inr (8, fsX8 (a_t + 1) t_steps_many), IA E 16 t_steps_xs, IA E 16 t_steps_ys, IA E 16 t_steps_zs, .inr (8, fsX8 (a_t + 9) t_eyes_many), IA E 16 t_eyes_xs, IA E 16 t_eyes_ys, IA E 16 t_eyes_zs, IA E 20 t_sightEyes, ZA E 20 t_sightSeen] h) n (inI r) 0 0) 0 0 n (ov [a_t, (a_t + 1), (a_t + 2), (a_t + 3), (a_t + 4), (a_t + 9), (a_t + 10), (a_t + 11), (a_t + 12), (a_t + 22), (a_t + 23)] [.inr (1, fsX1 a_t t_sightMany), .inr (8, fsX8 (a_t + 1) t_steps_many), IA E 16 t_steps_xs, IA E 16 t_steps_ys, IA E 16 t_steps_zs, .inr (8, fsX8 (a_t + 9) t_eyes_many), IA E 16 t_eyes_xs, IA E 16 t_eyes_ys, IA E 16 t_eyes_zs, IA E 20 t_sightEyes, ZA E 20 t_sightSeen] h) 62 [none, none, some (vI v2), none, none, none, none] [] := by
  rw [m_X1_bestEye_62] at hs
  refine g_iload_n e_X1_bestEye_62 rfl ?_
  obtain rfl := Option.some.inj hs
  exact g_iret rfl ok_v2 e_X1_bestEye_63

noncomputable def m_X1_bestEye_0 (t_sightMany : Int) (t_steps_many : Int) (t_steps_xs : Nat → Int) (t_steps_ys : Nat → Int) (t_steps_zs : Nat → Int) (t_eyes_many : Int) (t_eyes_xs : Nat → Int) (t_eyes_ys : Nat → Int) (t_eyes_zs : Nat → Int) (t_sightEyes : Nat → Int) (t_sightSeen : Nat → Int) : Option (Int) :=
  (m_X1_fitting t_sightMany t_steps_many t_steps_xs t_steps_ys t_steps_zs t_eyes_many t_eyes_xs t_eyes_ys t_eyes_zs t_sightEyes t_sightSeen (-1)).bind (fun y1 => m_X1_bestEye_13 t_sightMany t_steps_many t_steps_xs t_steps_ys t_steps_zs t_eyes_many t_eyes_xs t_eyes_ys t_eyes_zs t_sightEyes t_sightSeen y1 (fun v2' v3' v4' => m_X1_bestEye_62 v2') FU (-1) y1 0)

set_option maxRecDepth 10000 in
theorem g_X1_bestEye_0 {l : Launch} {E : EE} {b0 n : Nat} {h : AH} {a_t : Nat} {t_sightMany t_steps_many t_eyes_many : Int} {t_steps_xs t_steps_ys t_steps_zs t_eyes_xs t_eyes_ys t_eyes_zs t_sightEyes t_sightSeen : Nat → Int} {r : Int} (ao : AO b0 n [a_t, (a_t + 1), (a_t + 2), (a_t + 3), (a_t + 4), (a_t + 9), (a_t + 10), (a_t + 11), (a_t + 12), (a_t + 22), (a_t + 23)]) (ok_t_sightMany : inI t_sightMany) (ok_t_steps_many : inI t_steps_many) (ok_t_steps_xs : okA t_steps_xs) (ok_t_steps_ys : okA t_steps_ys) (ok_t_steps_zs : okA t_steps_zs) (ok_t_eyes_many : inI t_eyes_many) (ok_t_eyes_xs : okA t_eyes_xs) (ok_t_eyes_ys : okA t_eyes_ys) (ok_t_eyes_zs : okA t_eyes_zs) (ok_t_sightEyes : okA t_sightEyes) (ok_t_sightSeen : okZ t_sightSeen) (hs : m_X1_bestEye_0 t_sightMany t_steps_many t_steps_xs t_steps_ys t_steps_zs t_eyes_many t_eyes_xs t_eyes_ys t_eyes_zs t_sightEyes t_sightSeen = some r) : G l E b0 M_X1_bestEye (fun _ => True) (ZM E b0 (some (vI r)) (ov [a_t, (a_t + 1), (a_t + 2), (a_t + 3), (a_t + 4), (a_t + 9), (a_t + 10), (a_t + 11), (a_t + 12), (a_t + 22), (a_t + 23)] [.inr (1, fsX1 a_t t_sightMany), .inr (8, fsX8 (a_t + 1) t_steps_many), IA E 16 t_steps_xs, IA E 16 t_steps_ys, IA E 16 t_steps_zs, .inr (8, fsX8 (a_t + 9) t_eyes_many), IA E 16 t_eyes_xs, IA E 16 t_eyes_ys, IA E 16 t_eyes_zs, IA E 20 t_sightEyes, ZA E 20 t_sightSeen] h) n (inI r) 0 0) 0 0 n (ov [a_t, (a_t + 1), (a_t + 2), (a_t + 3), (a_t + 4), (a_t + 9), (a_t + 10), (a_t + 11), (a_t + 12), (a_t + 22), (a_t + 23)] [.inr (1, fsX1 a_t t_sightMany), .inr (8, fsX8 (a_t + 1) t_steps_many), IA E 16 t_steps_xs, IA E 16 t_steps_ys, IA E 16 t_steps_zs, .inr (8, fsX8 (a_t + 9) t_eyes_many), IA E 16 t_eyes_xs, IA E 16 t_eyes_ys, IA E 16 t_eyes_zs, IA E 20 t_sightEyes, ZA E 20 t_sightSeen] h) 0 [some (.ref a_t), none, none, none, none, none, none] [] := by
  rw [m_X1_bestEye_0] at hs
  refine g_aload_n e_X1_bestEye_0 rfl ?_
  refine g_iconst e_X1_bestEye_1 ?_
  obtain ⟨y1, hy1, hs⟩ := bind_elim hs
  refine g_callVr [vI (-1)] cv_X1_67 ⟨rfl, rfl, Nat.le_of_ble_eq_true rfl, Nat.le_of_ble_eq_true rfl⟩ (ct_X1_fitting (AO_call [0, 1, 2, 3, 4, 5, 6, 7, 8, 9, 10] ao (by decide) rfl) (FA_call [0, 1, 2, 3, 4, 5, 6, 7, 8, 9, 10] ao.1 rfl rfl) ok_t_sightMany ok_t_steps_many ok_t_steps_xs ok_t_steps_ys ok_t_steps_zs ok_t_eyes_many ok_t_eyes_xs ok_t_eyes_ys ok_t_eyes_zs ok_t_sightEyes ok_t_sightSeen (by decide : inI (-1)) hy1) e_X1_bestEye_2 (ao.2 0 _ rfl) (ov_get 0 ao.1 rfl rfl) rfl rfl rfl (Nat.le_of_ble_eq_true rfl) ⟨Nat.le_refl _, Nat.le_refl _⟩ (fun Py1 => ?_)
  refine g_istore_n e_X1_bestEye_5 st1_1 rfl ?_
  refine g_iconst e_X1_bestEye_6 ?_
  refine g_istore_n e_X1_bestEye_7 st1_2 rfl ?_
  refine g_iload_n e_X1_bestEye_8 rfl ?_
  refine g_istore_n e_X1_bestEye_9 st1_3 rfl ?_
  refine g_iconst e_X1_bestEye_10 ?_
  refine g_istore e_X1_bestEye_11 st1_4 rfl ?_
  exact g_X1_bestEye_13 ao ok_t_sightMany ok_t_steps_many ok_t_steps_xs ok_t_steps_ys ok_t_steps_zs ok_t_eyes_many ok_t_eyes_xs ok_t_eyes_ys ok_t_eyes_zs ok_t_sightEyes ok_t_sightSeen Py1 (hk_62 := by
      intro v2' v3' v4' ok_v2' ok_v3' ok_v4' hs
      exact g_X1_bestEye_62 ao ok_t_sightMany ok_t_steps_many ok_t_steps_xs ok_t_steps_ys ok_t_steps_zs ok_t_eyes_many ok_t_eyes_xs ok_t_eyes_ys ok_t_eyes_zs ok_t_sightEyes ok_t_sightSeen ok_v2' hs) FU _ _ _ (by decide : inI (-1)) Py1 (by decide : inI 0) hs

noncomputable def m_X1_bestEye (t_sightMany : Int) (t_steps_many : Int) (t_steps_xs : Nat → Int) (t_steps_ys : Nat → Int) (t_steps_zs : Nat → Int) (t_eyes_many : Int) (t_eyes_xs : Nat → Int) (t_eyes_ys : Nat → Int) (t_eyes_zs : Nat → Int) (t_sightEyes : Nat → Int) (t_sightSeen : Nat → Int) : Option (Int) := m_X1_bestEye_0 t_sightMany t_steps_many t_steps_xs t_steps_ys t_steps_zs t_eyes_many t_eyes_xs t_eyes_ys t_eyes_zs t_sightEyes t_sightSeen

set_option maxRecDepth 10000 in
theorem ct_X1_bestEye {l : Launch} {E : EE} {b0 n : Nat} {h : AH} {a_t : Nat} {t_sightMany t_steps_many t_eyes_many : Int} {t_steps_xs t_steps_ys t_steps_zs t_eyes_xs t_eyes_ys t_eyes_zs t_sightEyes t_sightSeen : Nat → Int} (ao : AO b0 n [a_t, (a_t + 1), (a_t + 2), (a_t + 3), (a_t + 4), (a_t + 9), (a_t + 10), (a_t + 11), (a_t + 12), (a_t + 22), (a_t + 23)]) (hf : FA h [a_t, (a_t + 1), (a_t + 2), (a_t + 3), (a_t + 4), (a_t + 9), (a_t + 10), (a_t + 11), (a_t + 12), (a_t + 22), (a_t + 23)] [.inr (1, fsX1 a_t t_sightMany), .inr (8, fsX8 (a_t + 1) t_steps_many), IA E 16 t_steps_xs, IA E 16 t_steps_ys, IA E 16 t_steps_zs, .inr (8, fsX8 (a_t + 9) t_eyes_many), IA E 16 t_eyes_xs, IA E 16 t_eyes_ys, IA E 16 t_eyes_zs, IA E 20 t_sightEyes, ZA E 20 t_sightSeen]) (ok_t_sightMany : inI t_sightMany) (ok_t_steps_many : inI t_steps_many) (ok_t_steps_xs : okA t_steps_xs) (ok_t_steps_ys : okA t_steps_ys) (ok_t_steps_zs : okA t_steps_zs) (ok_t_eyes_many : inI t_eyes_many) (ok_t_eyes_xs : okA t_eyes_xs) (ok_t_eyes_ys : okA t_eyes_ys) (ok_t_eyes_zs : okA t_eyes_zs) (ok_t_sightEyes : okA t_sightEyes) (ok_t_sightSeen : okZ t_sightSeen) {r : Int} (hm : m_X1_bestEye t_sightMany t_steps_many t_steps_xs t_steps_ys t_steps_zs t_eyes_many t_eyes_xs t_eyes_ys t_eyes_zs t_sightEyes t_sightSeen = some r) : Ct l E b0 M_X1_bestEye 0 0 [.ref a_t] h n (some (vI r)) h n (inI r) := by
  rw [m_X1_bestEye] at hm
  have hg : G l E b0 M_X1_bestEye (fun _ => True) (ZM E b0 (some (vI r)) (ov [a_t, (a_t + 1), (a_t + 2), (a_t + 3), (a_t + 4), (a_t + 9), (a_t + 10), (a_t + 11), (a_t + 12), (a_t + 22), (a_t + 23)] [.inr (1, fsX1 a_t t_sightMany), .inr (8, fsX8 (a_t + 1) t_steps_many), IA E 16 t_steps_xs, IA E 16 t_steps_ys, IA E 16 t_steps_zs, .inr (8, fsX8 (a_t + 9) t_eyes_many), IA E 16 t_eyes_xs, IA E 16 t_eyes_ys, IA E 16 t_eyes_zs, IA E 20 t_sightEyes, ZA E 20 t_sightSeen] h) n (inI r) 0 0) 0 0 n (ov [a_t, (a_t + 1), (a_t + 2), (a_t + 3), (a_t + 4), (a_t + 9), (a_t + 10), (a_t + 11), (a_t + 12), (a_t + 22), (a_t + 23)] [.inr (1, fsX1 a_t t_sightMany), .inr (8, fsX8 (a_t + 1) t_steps_many), IA E 16 t_steps_xs, IA E 16 t_steps_ys, IA E 16 t_steps_zs, .inr (8, fsX8 (a_t + 9) t_eyes_many), IA E 16 t_eyes_xs, IA E 16 t_eyes_ys, IA E 16 t_eyes_zs, IA E 20 t_sightEyes, ZA E 20 t_sightSeen] h) 0 [some (.ref a_t), none, none, none, none, none, none] [] := by
    have hs := hm
    exact g_X1_bestEye_0 ao ok_t_sightMany ok_t_steps_many ok_t_steps_xs ok_t_steps_ys ok_t_steps_zs ok_t_eyes_many ok_t_eyes_xs ok_t_eyes_ys ok_t_eyes_zs ok_t_sightEyes ok_t_sightSeen hs
  rw [FA_id hf] at hg
  exact Ct_of [some (.ref a_t), none, none, none, none, none, none] ⟨by decide +kernel, rfl⟩ rfl (Nat.le_of_ble_eq_true rfl) hg


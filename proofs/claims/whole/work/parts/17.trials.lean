def M_X7_tellPulls : MB := (yX7_tellPulls, cX7_tellPulls, 6, none, ({ frames := 5, cells := 0, slots := 0, locals := 93 } : Room), RX7)
def M_X7_waysToPull : MB := (yX7_waysToPull, cX7_waysToPull, 4, (some .int), ({ frames := 1, cells := 0, slots := 0, locals := 40 } : Room), RX7)
def M_X7_reaches : MB := (yX7_reaches, cX7_reaches, 2, (some .boolean), ({ frames := 1, cells := 0, slots := 0, locals := 40 } : Room), RX7)
def M_X7_sumOfTried : MB := (yX7_sumOfTried, cX7_sumOfTried, 4, (some .int), ({ frames := 5, cells := 0, slots := 0, locals := 93 } : Room), RX7)
def M_X7_nextTried : MB := (yX7_nextTried, cX7_nextTried, 3, (some .int), ({ frames := 1, cells := 0, slots := 0, locals := 40 } : Room), RX7)
def M_X7_tellDistances : MB := (yX7_tellDistances, cX7_tellDistances, 6, none, ({ frames := 5, cells := 0, slots := 0, locals := 93 } : Room), RX7)
def M_X7_pushOf : MB := (yX7_pushOf, cX7_pushOf, 3, (some .int), ({ frames := 1, cells := 0, slots := 0, locals := 40 } : Room), RX7)
def M_X7_pullFound : MB := (yX7_pullFound, cX7_pullFound, 2, (some .int), ({ frames := 2, cells := 0, slots := 0, locals := 62 } : Room), RX7)
def M_X7_pushFound : MB := (yX7_pushFound, cX7_pushFound, 4, (some .int), ({ frames := 2, cells := 0, slots := 0, locals := 62 } : Room), RX7)
theorem cb_X7_pushOf : CB M_X7_pushOf 2 := ⟨GW_of 1186 (by decide +kernel) (by decide +kernel), GW_of 92 (by decide +kernel) (by decide +kernel), by decide +kernel, by decide +kernel, by decide +kernel⟩
theorem jm_X7_53 : Cond.methodLink RX7 53 Lib.Math.min.name ∈ GW ∧ Cond.static Lib.Math.min.name ∈ GW ∧ Cond.initialized "java/lang/Math" ∈ GW ∧ Cond.code Lib.Math.min.name Lib.Math.min.code 2 (some .int) ∈ GW := ⟨GW_of 1123 (by decide +kernel) (by decide +kernel), GW_of 1124 (by decide +kernel) (by decide +kernel), GW_of 88 (by decide +kernel) (by decide +kernel), GW_of 1125 (by decide +kernel) (by decide +kernel)⟩
theorem jm_X7_59 : Cond.methodLink RX7 59 Lib.Math.max.name ∈ GW ∧ Cond.static Lib.Math.max.name ∈ GW ∧ Cond.initialized "java/lang/Math" ∈ GW ∧ Cond.code Lib.Math.max.name Lib.Math.max.code 2 (some .int) ∈ GW := ⟨GW_of 1126 (by decide +kernel) (by decide +kernel), GW_of 147 (by decide +kernel) (by decide +kernel), GW_of 88 (by decide +kernel) (by decide +kernel), GW_of 148 (by decide +kernel) (by decide +kernel)⟩
theorem jm_X7_103 : Cond.methodLink RX7 103 Lib.Math.abs.name ∈ GW ∧ Cond.static Lib.Math.abs.name ∈ GW ∧ Cond.initialized "java/lang/Math" ∈ GW ∧ Cond.code Lib.Math.abs.name Lib.Math.abs.code 1 (some .int) ∈ GW := ⟨GW_of 1145 (by decide +kernel) (by decide +kernel), GW_of 1146 (by decide +kernel) (by decide +kernel), GW_of 88 (by decide +kernel) (by decide +kernel), GW_of 1147 (by decide +kernel) (by decide +kernel)⟩
theorem fl_X7_24 : FL RX7 24 7 2 := ⟨RX7, TX7, 12, rfl, by decide, rfl, Or.inl (GW_of 377 (by decide +kernel) (by decide +kernel))⟩
theorem fw_X7_62 : FW RX7 62 7 5 false .int := ⟨RX7, TX7, 12, rfl, by decide, rfl, rfl, by decide +kernel, Or.inl (GW_of 380 (by decide +kernel) (by decide +kernel)), fun h => by cases h⟩
theorem fl_X7_62 : FL RX7 62 7 5 := ⟨RX7, TX7, 12, rfl, by decide, rfl, Or.inl (GW_of 380 (by decide +kernel) (by decide +kernel))⟩
theorem fl_X7_28 : FL RX7 28 7 3 := ⟨RX7, TX7, 12, rfl, by decide, rfl, Or.inl (GW_of 378 (by decide +kernel) (by decide +kernel))⟩
theorem fl_X7_34 : FL RX7 34 7 7 := ⟨RX7, TX7, 12, rfl, by decide, rfl, Or.inl (GW_of 382 (by decide +kernel) (by decide +kernel))⟩
theorem fw_X7_110 : FW RX7 110 7 9 false .int := ⟨RX7, TX7, 12, rfl, by decide, rfl, rfl, by decide +kernel, Or.inl (GW_of 384 (by decide +kernel) (by decide +kernel)), fun h => by cases h⟩
theorem fw_X7_113 : FW RX7 113 7 10 false .int := ⟨RX7, TX7, 12, rfl, by decide, rfl, rfl, by decide +kernel, Or.inl (GW_of 385 (by decide +kernel) (by decide +kernel)), fun h => by cases h⟩
theorem fl_X7_110 : FL RX7 110 7 9 := ⟨RX7, TX7, 12, rfl, by decide, rfl, Or.inl (GW_of 384 (by decide +kernel) (by decide +kernel))⟩
theorem fl_X7_113 : FL RX7 113 7 10 := ⟨RX7, TX7, 12, rfl, by decide, rfl, Or.inl (GW_of 385 (by decide +kernel) (by decide +kernel))⟩
theorem fl_X7_70 : FL RX7 70 7 6 := ⟨RX7, TX7, 12, rfl, by decide, rfl, Or.inl (GW_of 381 (by decide +kernel) (by decide +kernel))⟩
theorem fl_X7_31 : FL RX7 31 7 4 := ⟨RX7, TX7, 12, rfl, by decide, rfl, Or.inl (GW_of 379 (by decide +kernel) (by decide +kernel))⟩
theorem fl_X7_119 : FL RX7 119 7 11 := ⟨RX7, TX7, 12, rfl, by decide, rfl, Or.inl (GW_of 386 (by decide +kernel) (by decide +kernel))⟩
theorem fl_X7_37 : FL RX7 37 7 8 := ⟨RX7, TX7, 12, rfl, by decide, rfl, Or.inl (GW_of 383 (by decide +kernel) (by decide +kernel))⟩
theorem cs_X7_106 : CS RX7 106 M_X10_within 3 := ⟨cb_X10_within, Or.inr (List.mem_of_getElem? (i := 17) (by decide +kernel)), GW_of 563 (by decide +kernel) (by decide +kernel)⟩
theorem cv_X7_122 : CV RX7 122 M_X7_pushOf 2 := ⟨cb_X7_pushOf, Or.inl (GW_of 1183 (by decide +kernel) (by decide +kernel)), GW_of 1185 (by decide +kernel) (by decide +kernel), GW_of 30 (by decide +kernel) (by decide +kernel)⟩
/-! ===== X7_tellPulls ===== -/
theorem e_X7_tellPulls_0 : DC cX7_tellPulls 0 (.aload_n 0) 1 1 := ⟨by decide +kernel, rfl⟩
theorem e_X7_tellPulls_1 : DC cX7_tellPulls 1 (.getfield 24) 3 4 := ⟨by decide +kernel, rfl⟩
theorem e_X7_tellPulls_4 : DC cX7_tellPulls 4 (.iconst 0) 1 5 := ⟨by decide +kernel, rfl⟩
theorem e_X7_tellPulls_5 : DC cX7_tellPulls 5 (.iload_n 2) 1 6 := ⟨by decide +kernel, rfl⟩
theorem e_X7_tellPulls_6 : DC cX7_tellPulls 6 (.iastore) 1 7 := ⟨by decide +kernel, rfl⟩
theorem e_X7_tellPulls_7 : DC cX7_tellPulls 7 (.aload_n 0) 1 8 := ⟨by decide +kernel, rfl⟩
theorem e_X7_tellPulls_8 : DC cX7_tellPulls 8 (.getfield 24) 3 11 := ⟨by decide +kernel, rfl⟩
theorem e_X7_tellPulls_11 : DC cX7_tellPulls 11 (.iconst 1) 1 12 := ⟨by decide +kernel, rfl⟩
theorem e_X7_tellPulls_12 : DC cX7_tellPulls 12 (.iload_n 3) 1 13 := ⟨by decide +kernel, rfl⟩
theorem e_X7_tellPulls_13 : DC cX7_tellPulls 13 (.iastore) 1 14 := ⟨by decide +kernel, rfl⟩
theorem e_X7_tellPulls_14 : DC cX7_tellPulls 14 (.aload_n 0) 1 15 := ⟨by decide +kernel, rfl⟩
theorem e_X7_tellPulls_15 : DC cX7_tellPulls 15 (.getfield 24) 3 18 := ⟨by decide +kernel, rfl⟩
theorem e_X7_tellPulls_18 : DC cX7_tellPulls 18 (.iconst 2) 1 19 := ⟨by decide +kernel, rfl⟩
theorem e_X7_tellPulls_19 : DC cX7_tellPulls 19 (.iload 4) 2 21 := ⟨by decide +kernel, rfl⟩
theorem e_X7_tellPulls_21 : DC cX7_tellPulls 21 (.iastore) 1 22 := ⟨by decide +kernel, rfl⟩
theorem e_X7_tellPulls_22 : DC cX7_tellPulls 22 (.aload_n 0) 1 23 := ⟨by decide +kernel, rfl⟩
theorem e_X7_tellPulls_23 : DC cX7_tellPulls 23 (.getfield 24) 3 26 := ⟨by decide +kernel, rfl⟩
theorem e_X7_tellPulls_26 : DC cX7_tellPulls 26 (.iconst 3) 1 27 := ⟨by decide +kernel, rfl⟩
theorem e_X7_tellPulls_27 : DC cX7_tellPulls 27 (.iload 5) 2 29 := ⟨by decide +kernel, rfl⟩
theorem e_X7_tellPulls_29 : DC cX7_tellPulls 29 (.iastore) 1 30 := ⟨by decide +kernel, rfl⟩
theorem e_X7_tellPulls_30 : DC cX7_tellPulls 30 (.aload_n 0) 1 31 := ⟨by decide +kernel, rfl⟩
theorem e_X7_tellPulls_31 : DC cX7_tellPulls 31 (.iconst 1) 1 32 := ⟨by decide +kernel, rfl⟩
theorem e_X7_tellPulls_32 : DC cX7_tellPulls 32 (.iload_n 1) 1 33 := ⟨by decide +kernel, rfl⟩
theorem e_X7_tellPulls_33 : DC cX7_tellPulls 33 (.iconst 4) 1 34 := ⟨by decide +kernel, rfl⟩
theorem e_X7_tellPulls_34 : DC cX7_tellPulls 34 (.invokestatic 53) 3 37 := ⟨by decide +kernel, rfl⟩
theorem e_X7_tellPulls_37 : DC cX7_tellPulls 37 (.invokestatic 59) 3 40 := ⟨by decide +kernel, rfl⟩
theorem e_X7_tellPulls_40 : DC cX7_tellPulls 40 (.putfield 62) 3 43 := ⟨by decide +kernel, rfl⟩
theorem e_X7_tellPulls_43 : DC cX7_tellPulls 43 (.return_) 1 44 := ⟨by decide +kernel, rfl⟩
noncomputable def m_X7_tellPulls_0 (t_pullMany : Int) (t_pulls : Nat → Int) (v1 : Int) (v2 : Int) (v3 : Int) (v4 : Int) (v5 : Int) : Option (Int × (Nat → Int)) :=
  chk (inB 0 4) (chk (inB 1 4) (chk (inB 2 4) (chk (inB 3 4) (some (if 1 < (if 4 < v1 then 4 else v1) then if 4 < v1 then 4 else v1 else 1, up (up (up (up t_pulls (Int.toNat 0) v2) (Int.toNat 1) v3) (Int.toNat 2) v4) (Int.toNat 3) v5)))))

set_option maxRecDepth 10000 in
theorem g_X7_tellPulls_0 {l : Launch} {E : EE} {b0 n : Nat} {h : AH} {a_t : Nat} {t_pullMany t_bestMany t_distanceMany t_pushStep t_foundMany v1 v2 v3 v4 v5 : Int} {t_pulls : Nat → Int} {r : Int × (Nat → Int)} (ao : AO b0 n [a_t, (a_t + 11)]) (ok_t_pullMany : inI t_pullMany) (ok_t_pulls : okA t_pulls) (ok_v1 : inI v1) (ok_v2 : inI v2) (ok_v3 : inI v3) (ok_v4 : inI v4) (ok_v5 : inI v5) (hs : m_X7_tellPulls_0 t_pullMany t_pulls v1 v2 v3 v4 v5 = some r) : G l E b0 M_X7_tellPulls (fun _ => True) (ZM E b0 (none) (ov [a_t, (a_t + 11)] [.inr (7, fsX7 a_t r.1 t_bestMany t_distanceMany t_pushStep t_foundMany), IA E 4 r.2] h) n (inI r.1 ∧ okA r.2) 0 0) 0 0 n (ov [a_t, (a_t + 11)] [.inr (7, fsX7 a_t t_pullMany t_bestMany t_distanceMany t_pushStep t_foundMany), IA E 4 t_pulls] h) 0 [some (.ref a_t), some (vI v1), some (vI v2), some (vI v3), some (vI v4), some (vI v5)] [] := by
  rw [m_X7_tellPulls_0] at hs
  refine g_aload_n e_X7_tellPulls_0 rfl ?_
  refine g_get 0 2 ao rfl rfl fsX7_g2 fl_X7_24 e_X7_tellPulls_1 ?_
  refine g_iconst e_X7_tellPulls_4 ?_
  refine g_iload_n e_X7_tellPulls_5 rfl ?_
  refine g_iast 1 ao rfl rfl ls_1 (Nat.le_of_ble_eq_true rfl) e_X7_tellPulls_6 hs (fun hi1 hs => ?_)
  refine g_aload_n e_X7_tellPulls_7 rfl ?_
  refine g_get 0 2 ao rfl rfl fsX7_g2 fl_X7_24 e_X7_tellPulls_8 ?_
  refine g_iconst e_X7_tellPulls_11 ?_
  refine g_iload_n e_X7_tellPulls_12 rfl ?_
  refine g_iast 1 ao rfl rfl ls_1 (Nat.le_of_ble_eq_true rfl) e_X7_tellPulls_13 hs (fun hi2 hs => ?_)
  refine g_aload_n e_X7_tellPulls_14 rfl ?_
  refine g_get 0 2 ao rfl rfl fsX7_g2 fl_X7_24 e_X7_tellPulls_15 ?_
  refine g_iconst e_X7_tellPulls_18 ?_
  refine g_iload e_X7_tellPulls_19 rfl ?_
  refine g_iast 1 ao rfl rfl ls_1 (Nat.le_of_ble_eq_true rfl) e_X7_tellPulls_21 hs (fun hi3 hs => ?_)
  refine g_aload_n e_X7_tellPulls_22 rfl ?_
  refine g_get 0 2 ao rfl rfl fsX7_g2 fl_X7_24 e_X7_tellPulls_23 ?_
  refine g_iconst e_X7_tellPulls_26 ?_
  refine g_iload e_X7_tellPulls_27 rfl ?_
  refine g_iast 1 ao rfl rfl ls_1 (Nat.le_of_ble_eq_true rfl) e_X7_tellPulls_29 hs (fun hi4 hs => ?_)
  refine g_aload_n e_X7_tellPulls_30 rfl ?_
  refine g_iconst e_X7_tellPulls_31 ?_
  refine g_iload_n e_X7_tellPulls_32 rfl ?_
  refine g_iconst e_X7_tellPulls_33 ?_
  refine g_min jm_X7_53 e_X7_tellPulls_34 ⟨Nat.le_of_ble_eq_true rfl, Nat.le_of_ble_eq_true rfl, Nat.le_of_ble_eq_true rfl⟩ (Nat.le_of_ble_eq_true rfl) ok_v1 (by decide : inI 4) ?_
  refine g_max jm_X7_59 e_X7_tellPulls_37 ⟨Nat.le_of_ble_eq_true rfl, Nat.le_of_ble_eq_true rfl, Nat.le_of_ble_eq_true rfl⟩ (Nat.le_of_ble_eq_true rfl) (by decide : inI 1) (ite_I (by decide : inI 4) ok_v1) ?_
  refine g_put 0 5 ao rfl rfl fsX7_k5 fsX7_s5 ls_0 fw_X7_62 (fun h => by cases h) ⟨rfl, rfl⟩ e_X7_tellPulls_40 ?_
  obtain rfl := Option.some.inj hs
  exact g_vret rfl ⟨(ite_I (ite_I (by decide : inI 4) ok_v1) (by decide : inI 1)), (okA_up (okA_up (okA_up (okA_up ok_t_pulls ok_v2) ok_v3) ok_v4) ok_v5)⟩ e_X7_tellPulls_43

noncomputable def m_X7_tellPulls (t_pullMany : Int) (t_pulls : Nat → Int) (v1 : Int) (v2 : Int) (v3 : Int) (v4 : Int) (v5 : Int) : Option (Int × (Nat → Int)) := m_X7_tellPulls_0 t_pullMany t_pulls v1 v2 v3 v4 v5

set_option maxRecDepth 10000 in
theorem ct_X7_tellPulls {l : Launch} {E : EE} {b0 n : Nat} {h : AH} {a_t : Nat} {t_pullMany t_bestMany t_distanceMany t_pushStep t_foundMany : Int} {t_pulls : Nat → Int} {v1 v2 v3 v4 v5 : Int} (ao : AO b0 n [a_t, (a_t + 11)]) (hf : FA h [a_t, (a_t + 11)] [.inr (7, fsX7 a_t t_pullMany t_bestMany t_distanceMany t_pushStep t_foundMany), IA E 4 t_pulls]) (ok_t_pullMany : inI t_pullMany) (ok_t_pulls : okA t_pulls) (ok_v1 : inI v1) (ok_v2 : inI v2) (ok_v3 : inI v3) (ok_v4 : inI v4) (ok_v5 : inI v5) {r : Int × (Nat → Int)} (hm : m_X7_tellPulls t_pullMany t_pulls v1 v2 v3 v4 v5 = some r) : Ct l E b0 M_X7_tellPulls 0 0 [.ref a_t, vI v1, vI v2, vI v3, vI v4, vI v5] h n (none) (ov [a_t, (a_t + 11)] [.inr (7, fsX7 a_t r.1 t_bestMany t_distanceMany t_pushStep t_foundMany), IA E 4 r.2] h) n (inI r.1 ∧ okA r.2) := by
  rw [m_X7_tellPulls] at hm
  have hg : G l E b0 M_X7_tellPulls (fun _ => True) (ZM E b0 (none) (ov [a_t, (a_t + 11)] [.inr (7, fsX7 a_t r.1 t_bestMany t_distanceMany t_pushStep t_foundMany), IA E 4 r.2] h) n (inI r.1 ∧ okA r.2) 0 0) 0 0 n (ov [a_t, (a_t + 11)] [.inr (7, fsX7 a_t t_pullMany t_bestMany t_distanceMany t_pushStep t_foundMany), IA E 4 t_pulls] h) 0 [some (.ref a_t), some (vI v1), some (vI v2), some (vI v3), some (vI v4), some (vI v5)] [] := by
    have hs := hm
    exact g_X7_tellPulls_0 ao ok_t_pullMany ok_t_pulls ok_v1 ok_v2 ok_v3 ok_v4 ok_v5 hs
  rw [FA_id hf] at hg
  exact Ct_of [some (.ref a_t), some (vI v1), some (vI v2), some (vI v3), some (vI v4), some (vI v5)] ⟨by decide +kernel, rfl⟩ rfl (Nat.le_of_ble_eq_true rfl) hg

/-! ===== X7_waysToPull ===== -/
theorem e_X7_waysToPull_0 : DC cX7_waysToPull 0 (.iconst 1) 1 1 := ⟨by decide +kernel, rfl⟩
theorem e_X7_waysToPull_1 : DC cX7_waysToPull 1 (.istore_n 2) 1 2 := ⟨by decide +kernel, rfl⟩
theorem e_X7_waysToPull_2 : DC cX7_waysToPull 2 (.iconst 0) 1 3 := ⟨by decide +kernel, rfl⟩
theorem e_X7_waysToPull_3 : DC cX7_waysToPull 3 (.istore_n 3) 1 4 := ⟨by decide +kernel, rfl⟩
theorem e_X7_waysToPull_4 : DC cX7_waysToPull 4 (.iload_n 3) 1 5 := ⟨by decide +kernel, rfl⟩
theorem e_X7_waysToPull_5 : DC cX7_waysToPull 5 (.iload_n 1) 1 6 := ⟨by decide +kernel, rfl⟩
theorem e_X7_waysToPull_6 : DB cX7_waysToPull 6 (.if_icmp .ge 16) (16) 3 9 22 := ⟨by decide +kernel, rfl, rfl⟩
theorem e_X7_waysToPull_9 : DC cX7_waysToPull 9 (.iload_n 2) 1 10 := ⟨by decide +kernel, rfl⟩
theorem e_X7_waysToPull_10 : DC cX7_waysToPull 10 (.aload_n 0) 1 11 := ⟨by decide +kernel, rfl⟩
theorem e_X7_waysToPull_11 : DC cX7_waysToPull 11 (.getfield 62) 3 14 := ⟨by decide +kernel, rfl⟩
theorem e_X7_waysToPull_14 : DC cX7_waysToPull 14 (.imul) 1 15 := ⟨by decide +kernel, rfl⟩
theorem e_X7_waysToPull_15 : DC cX7_waysToPull 15 (.istore_n 2) 1 16 := ⟨by decide +kernel, rfl⟩
theorem e_X7_waysToPull_16 : DC cX7_waysToPull 16 (.iinc 3 1) 3 19 := ⟨by decide +kernel, rfl⟩
theorem e_X7_waysToPull_19 : DB cX7_waysToPull 19 (.goto (-15)) (-15) 3 22 4 := ⟨by decide +kernel, rfl, rfl⟩
theorem e_X7_waysToPull_22 : DC cX7_waysToPull 22 (.iload_n 2) 1 23 := ⟨by decide +kernel, rfl⟩
theorem e_X7_waysToPull_23 : DC cX7_waysToPull 23 (.ireturn) 1 24 := ⟨by decide +kernel, rfl⟩
noncomputable def m_X7_waysToPull_4 (t_pullMany : Int) (v1 : Int) (k_22 : Int → Int → Option (Int)) : Nat → Int → Int → Option (Int)
  | 0, _, _ => none
  | F + 1, v2, v3 => if v1 ≤ v3 then (some (v2)) else (chk (inI (v2 * t_pullMany)) (chk (inI (v3 + 1)) (m_X7_waysToPull_4 t_pullMany v1 k_22 F (v2 * t_pullMany) (v3 + 1))))

set_option maxRecDepth 10000 in
theorem g_X7_waysToPull_4 {l : Launch} {E : EE} {b0 n : Nat} {h : AH} {a_t : Nat} {t_pullMany t_bestMany t_distanceMany t_pushStep t_foundMany v1 : Int} {r : Int} {k_22 : Int → Int → Option (Int)} (ao : AO b0 n [a_t]) (ok_t_pullMany : inI t_pullMany) (ok_v1 : inI v1) (hk_22 : ∀ (v2_ : Int) (v3_ : Int), inI v2_ → inI v3_ → k_22 v2_ v3_ = some r → G l E b0 M_X7_waysToPull (fun _ => True) (ZM E b0 (some (vI r)) (ov [a_t] [.inr (7, fsX7 a_t t_pullMany t_bestMany t_distanceMany t_pushStep t_foundMany)] h) n (inI r) 0 0) 0 0 n (ov [a_t] [.inr (7, fsX7 a_t t_pullMany t_bestMany t_distanceMany t_pushStep t_foundMany)] h) 22 [none, none, some (vI v2_), none] []) :
    ∀ (F : Nat) (v2 : Int) (v3 : Int), inI v2 → inI v3 → m_X7_waysToPull_4 t_pullMany v1 k_22 F v2 v3 = some r → G l E b0 M_X7_waysToPull (fun _ => True) (ZM E b0 (some (vI r)) (ov [a_t] [.inr (7, fsX7 a_t t_pullMany t_bestMany t_distanceMany t_pushStep t_foundMany)] h) n (inI r) 0 0) 0 0 n (ov [a_t] [.inr (7, fsX7 a_t t_pullMany t_bestMany t_distanceMany t_pushStep t_foundMany)] h) 4 [some (.ref a_t), some (vI v1), some (vI v2), some (vI v3)] [] := by
  intro F
  induction F with
  | zero =>
    intro v2 v3 ok_v2 ok_v3 hs
    rw [m_X7_waysToPull_4] at hs
    cases hs
  | succ F ih =>
    intro v2 v3 ok_v2 ok_v3 hs
    rw [m_X7_waysToPull_4] at hs
    refine g_iload_n e_X7_waysToPull_4 rfl ?_
    refine g_iload_n e_X7_waysToPull_5 rfl ?_
    refine g_icmp_ge e_X7_waysToPull_6 ok_v3 ok_v1 hs (fun c6 hs => ?_) (fun c6 hs => ?_)
    · refine g_iload_n e_X7_waysToPull_22 rfl ?_
      obtain rfl := Option.some.inj hs
      exact g_iret rfl ok_v2 e_X7_waysToPull_23
    · refine g_iload_n e_X7_waysToPull_9 rfl ?_
      refine g_aload_n e_X7_waysToPull_10 rfl ?_
      refine g_get 0 5 ao rfl rfl fsX7_g5 fl_X7_62 e_X7_waysToPull_11 ?_
      refine g_imul e_X7_waysToPull_14 ?_
      refine g_istore_n e_X7_waysToPull_15 st1_2 rfl ?_
      refine g_iinc e_X7_waysToPull_16 rfl st1_3 rfl ?_
      refine g_goto e_X7_waysToPull_19 ?_
      obtain ⟨hc1, hs⟩ := chk_elim hs
      obtain ⟨hc2, hs⟩ := chk_elim hs
      exact ih _ _ hc1 hc2 hs

noncomputable def m_X7_waysToPull_22 (v2 : Int) : Option (Int) :=
  some (v2)

set_option maxRecDepth 10000 in
theorem g_X7_waysToPull_22 {l : Launch} {E : EE} {b0 n : Nat} {h : AH} {a_t : Nat} {t_pullMany t_bestMany t_distanceMany t_pushStep t_foundMany v2 : Int} {r : Int} (ao : AO b0 n [a_t]) (ok_t_pullMany : inI t_pullMany) (ok_v2 : inI v2) (hs : m_X7_waysToPull_22 v2 = some r) : G l E b0 M_X7_waysToPull (fun _ => True) (ZM E b0 (some (vI r)) (ov [a_t] [.inr (7, fsX7 a_t t_pullMany t_bestMany t_distanceMany t_pushStep t_foundMany)] h) n (inI r) 0 0) 0 0 n (ov [a_t] [.inr (7, fsX7 a_t t_pullMany t_bestMany t_distanceMany t_pushStep t_foundMany)] h) 22 [none, none, some (vI v2), none] [] := by
  rw [m_X7_waysToPull_22] at hs
  refine g_iload_n e_X7_waysToPull_22 rfl ?_
  obtain rfl := Option.some.inj hs
  exact g_iret rfl ok_v2 e_X7_waysToPull_23

noncomputable def m_X7_waysToPull_0 (t_pullMany : Int) (v1 : Int) : Option (Int) :=
  m_X7_waysToPull_4 t_pullMany v1 (fun v2' v3' => m_X7_waysToPull_22 v2') FU 1 0

set_option maxRecDepth 10000 in
theorem g_X7_waysToPull_0 {l : Launch} {E : EE} {b0 n : Nat} {h : AH} {a_t : Nat} {t_pullMany t_bestMany t_distanceMany t_pushStep t_foundMany v1 : Int} {r : Int} (ao : AO b0 n [a_t]) (ok_t_pullMany : inI t_pullMany) (ok_v1 : inI v1) (hs : m_X7_waysToPull_0 t_pullMany v1 = some r) : G l E b0 M_X7_waysToPull (fun _ => True) (ZM E b0 (some (vI r)) (ov [a_t] [.inr (7, fsX7 a_t t_pullMany t_bestMany t_distanceMany t_pushStep t_foundMany)] h) n (inI r) 0 0) 0 0 n (ov [a_t] [.inr (7, fsX7 a_t t_pullMany t_bestMany t_distanceMany t_pushStep t_foundMany)] h) 0 [some (.ref a_t), some (vI v1), none, none] [] := by
  rw [m_X7_waysToPull_0] at hs
  refine g_iconst e_X7_waysToPull_0 ?_
  refine g_istore_n e_X7_waysToPull_1 st1_2 rfl ?_
  refine g_iconst e_X7_waysToPull_2 ?_
  refine g_istore_n e_X7_waysToPull_3 st1_3 rfl ?_
  exact g_X7_waysToPull_4 ao ok_t_pullMany ok_v1 (hk_22 := by
      intro v2' v3' ok_v2' ok_v3' hs
      exact g_X7_waysToPull_22 ao ok_t_pullMany ok_v2' hs) FU _ _ (by decide : inI 1) (by decide : inI 0) hs

noncomputable def m_X7_waysToPull (t_pullMany : Int) (v1 : Int) : Option (Int) := m_X7_waysToPull_0 t_pullMany v1

set_option maxRecDepth 10000 in
theorem ct_X7_waysToPull {l : Launch} {E : EE} {b0 n : Nat} {h : AH} {a_t : Nat} {t_pullMany t_bestMany t_distanceMany t_pushStep t_foundMany : Int} {v1 : Int} (ao : AO b0 n [a_t]) (hf : FA h [a_t] [.inr (7, fsX7 a_t t_pullMany t_bestMany t_distanceMany t_pushStep t_foundMany)]) (ok_t_pullMany : inI t_pullMany) (ok_v1 : inI v1) {r : Int} (hm : m_X7_waysToPull t_pullMany v1 = some r) : Ct l E b0 M_X7_waysToPull 0 0 [.ref a_t, vI v1] h n (some (vI r)) h n (inI r) := by
  rw [m_X7_waysToPull] at hm
  have hg : G l E b0 M_X7_waysToPull (fun _ => True) (ZM E b0 (some (vI r)) (ov [a_t] [.inr (7, fsX7 a_t t_pullMany t_bestMany t_distanceMany t_pushStep t_foundMany)] h) n (inI r) 0 0) 0 0 n (ov [a_t] [.inr (7, fsX7 a_t t_pullMany t_bestMany t_distanceMany t_pushStep t_foundMany)] h) 0 [some (.ref a_t), some (vI v1), none, none] [] := by
    have hs := hm
    exact g_X7_waysToPull_0 ao ok_t_pullMany ok_v1 hs
  rw [FA_id hf] at hg
  exact Ct_of [some (.ref a_t), some (vI v1), none, none] ⟨by decide +kernel, rfl⟩ rfl (Nat.le_of_ble_eq_true rfl) hg

/-! ===== X7_reaches ===== -/
theorem e_X7_reaches_0 : DC cX7_reaches 0 (.iload_n 1) 1 1 := ⟨by decide +kernel, rfl⟩
theorem e_X7_reaches_1 : DB cX7_reaches 1 (.ifCond .le 16) (16) 3 4 17 := ⟨by decide +kernel, rfl, rfl⟩
theorem e_X7_reaches_4 : DC cX7_reaches 4 (.iload_n 0) 1 5 := ⟨by decide +kernel, rfl⟩
theorem e_X7_reaches_5 : DC cX7_reaches 5 (.iload_n 1) 1 6 := ⟨by decide +kernel, rfl⟩
theorem e_X7_reaches_6 : DB cX7_reaches 6 (.if_icmp .lt 7) (7) 3 9 13 := ⟨by decide +kernel, rfl, rfl⟩
theorem e_X7_reaches_9 : DC cX7_reaches 9 (.iconst 1) 1 10 := ⟨by decide +kernel, rfl⟩
theorem e_X7_reaches_10 : DB cX7_reaches 10 (.goto 17) (17) 3 13 27 := ⟨by decide +kernel, rfl, rfl⟩
theorem e_X7_reaches_13 : DC cX7_reaches 13 (.iconst 0) 1 14 := ⟨by decide +kernel, rfl⟩
theorem e_X7_reaches_14 : DB cX7_reaches 14 (.goto 13) (13) 3 17 27 := ⟨by decide +kernel, rfl, rfl⟩
theorem e_X7_reaches_17 : DC cX7_reaches 17 (.iload_n 0) 1 18 := ⟨by decide +kernel, rfl⟩
theorem e_X7_reaches_18 : DC cX7_reaches 18 (.iload_n 1) 1 19 := ⟨by decide +kernel, rfl⟩
theorem e_X7_reaches_19 : DB cX7_reaches 19 (.if_icmp .gt 7) (7) 3 22 26 := ⟨by decide +kernel, rfl, rfl⟩
theorem e_X7_reaches_22 : DC cX7_reaches 22 (.iconst 1) 1 23 := ⟨by decide +kernel, rfl⟩
theorem e_X7_reaches_23 : DB cX7_reaches 23 (.goto 4) (4) 3 26 27 := ⟨by decide +kernel, rfl, rfl⟩
theorem e_X7_reaches_26 : DC cX7_reaches 26 (.iconst 0) 1 27 := ⟨by decide +kernel, rfl⟩
theorem e_X7_reaches_27 : DC cX7_reaches 27 (.ireturn) 1 28 := ⟨by decide +kernel, rfl⟩
noncomputable def m_X7_reaches_0 (v0 : Int) (v1 : Int) : Option (Int) :=
  if v1 ≤ 0 then (if v1 < v0 then (some (0)) else (some (1))) else (if v0 < v1 then (some (0)) else (some (1)))

set_option maxRecDepth 10000 in
theorem g_X7_reaches_0 {l : Launch} {E : EE} {b0 n : Nat} {h : AH} {v0 v1 : Int} {r : Int} (ao : AO b0 n []) (ok_v0 : inI v0) (ok_v1 : inI v1) (hs : m_X7_reaches_0 v0 v1 = some r) : G l E b0 M_X7_reaches (fun _ => True) (ZM E b0 (some (vI r)) (ov [] [] h) n (inZ r) 0 0) 0 0 n (ov [] [] h) 0 [some (vI v0), some (vI v1)] [] := by
  rw [m_X7_reaches_0] at hs
  refine g_iload_n e_X7_reaches_0 rfl ?_
  refine g_if_le e_X7_reaches_1 ok_v1 hs (fun c1 hs => ?_) (fun c1 hs => ?_)
  · refine g_iload_n e_X7_reaches_17 rfl ?_
    refine g_iload_n e_X7_reaches_18 rfl ?_
    refine g_icmp_gt e_X7_reaches_19 ok_v0 ok_v1 hs (fun c19 hs => ?_) (fun c19 hs => ?_)
    · refine g_iconst e_X7_reaches_26 ?_
      obtain rfl := Option.some.inj hs
      exact g_zret rfl (by decide : inZ 0) (by decide : inZ 0) e_X7_reaches_27
    · refine g_iconst e_X7_reaches_22 ?_
      refine g_goto e_X7_reaches_23 ?_
      obtain rfl := Option.some.inj hs
      exact g_zret rfl (by decide : inZ 1) (by decide : inZ 1) e_X7_reaches_27
  · refine g_iload_n e_X7_reaches_4 rfl ?_
    refine g_iload_n e_X7_reaches_5 rfl ?_
    refine g_icmp_lt e_X7_reaches_6 ok_v0 ok_v1 hs (fun c6 hs => ?_) (fun c6 hs => ?_)
    · refine g_iconst e_X7_reaches_13 ?_
      refine g_goto e_X7_reaches_14 ?_
      obtain rfl := Option.some.inj hs
      exact g_zret rfl (by decide : inZ 0) (by decide : inZ 0) e_X7_reaches_27
    · refine g_iconst e_X7_reaches_9 ?_
      refine g_goto e_X7_reaches_10 ?_
      obtain rfl := Option.some.inj hs
      exact g_zret rfl (by decide : inZ 1) (by decide : inZ 1) e_X7_reaches_27

noncomputable def m_X7_reaches (v0 : Int) (v1 : Int) : Option (Int) := m_X7_reaches_0 v0 v1

set_option maxRecDepth 10000 in
theorem ct_X7_reaches {l : Launch} {E : EE} {b0 n : Nat} {h : AH} {v0 v1 : Int} (ao : AO b0 n []) (hf : FA h [] []) (ok_v0 : inI v0) (ok_v1 : inI v1) {r : Int} (hm : m_X7_reaches v0 v1 = some r) : Ct l E b0 M_X7_reaches 0 0 [vI v0, vI v1] h n (some (vI r)) h n (inZ r) := by
  rw [m_X7_reaches] at hm
  have hg : G l E b0 M_X7_reaches (fun _ => True) (ZM E b0 (some (vI r)) (ov [] [] h) n (inZ r) 0 0) 0 0 n (ov [] [] h) 0 [some (vI v0), some (vI v1)] [] := by
    have hs := hm
    exact g_X7_reaches_0 ao ok_v0 ok_v1 hs
  rw [FA_id hf] at hg
  exact Ct_of [some (vI v0), some (vI v1)] ⟨by decide +kernel, rfl⟩ rfl (Nat.le_of_ble_eq_true rfl) hg

/-! ===== X7_sumOfTried ===== -/
theorem e_X7_sumOfTried_0 : DC cX7_sumOfTried 0 (.iconst 0) 1 1 := ⟨by decide +kernel, rfl⟩
theorem e_X7_sumOfTried_1 : DC cX7_sumOfTried 1 (.istore_n 2) 1 2 := ⟨by decide +kernel, rfl⟩
theorem e_X7_sumOfTried_2 : DC cX7_sumOfTried 2 (.iconst 0) 1 3 := ⟨by decide +kernel, rfl⟩
theorem e_X7_sumOfTried_3 : DC cX7_sumOfTried 3 (.istore_n 3) 1 4 := ⟨by decide +kernel, rfl⟩
theorem e_X7_sumOfTried_4 : DC cX7_sumOfTried 4 (.iload_n 3) 1 5 := ⟨by decide +kernel, rfl⟩
theorem e_X7_sumOfTried_5 : DC cX7_sumOfTried 5 (.iload_n 1) 1 6 := ⟨by decide +kernel, rfl⟩
theorem e_X7_sumOfTried_6 : DB cX7_sumOfTried 6 (.if_icmp .ge 26) (26) 3 9 32 := ⟨by decide +kernel, rfl, rfl⟩
theorem e_X7_sumOfTried_9 : DC cX7_sumOfTried 9 (.iload_n 2) 1 10 := ⟨by decide +kernel, rfl⟩
theorem e_X7_sumOfTried_10 : DC cX7_sumOfTried 10 (.aload_n 0) 1 11 := ⟨by decide +kernel, rfl⟩
theorem e_X7_sumOfTried_11 : DC cX7_sumOfTried 11 (.getfield 24) 3 14 := ⟨by decide +kernel, rfl⟩
theorem e_X7_sumOfTried_14 : DC cX7_sumOfTried 14 (.aload_n 0) 1 15 := ⟨by decide +kernel, rfl⟩
theorem e_X7_sumOfTried_15 : DC cX7_sumOfTried 15 (.getfield 28) 3 18 := ⟨by decide +kernel, rfl⟩
theorem e_X7_sumOfTried_18 : DC cX7_sumOfTried 18 (.iload_n 3) 1 19 := ⟨by decide +kernel, rfl⟩
theorem e_X7_sumOfTried_19 : DC cX7_sumOfTried 19 (.iaload) 1 20 := ⟨by decide +kernel, rfl⟩
theorem e_X7_sumOfTried_20 : DC cX7_sumOfTried 20 (.iaload) 1 21 := ⟨by decide +kernel, rfl⟩
theorem e_X7_sumOfTried_21 : DC cX7_sumOfTried 21 (.invokestatic 103) 3 24 := ⟨by decide +kernel, rfl⟩
theorem e_X7_sumOfTried_24 : DC cX7_sumOfTried 24 (.iadd) 1 25 := ⟨by decide +kernel, rfl⟩
theorem e_X7_sumOfTried_25 : DC cX7_sumOfTried 25 (.istore_n 2) 1 26 := ⟨by decide +kernel, rfl⟩
theorem e_X7_sumOfTried_26 : DC cX7_sumOfTried 26 (.iinc 3 1) 3 29 := ⟨by decide +kernel, rfl⟩
theorem e_X7_sumOfTried_29 : DB cX7_sumOfTried 29 (.goto (-25)) (-25) 3 32 4 := ⟨by decide +kernel, rfl, rfl⟩
theorem e_X7_sumOfTried_32 : DC cX7_sumOfTried 32 (.iload_n 2) 1 33 := ⟨by decide +kernel, rfl⟩
theorem e_X7_sumOfTried_33 : DC cX7_sumOfTried 33 (.ireturn) 1 34 := ⟨by decide +kernel, rfl⟩
noncomputable def m_X7_sumOfTried_4 (t_pulls : Nat → Int) (t_tried : Nat → Int) (v1 : Int) (k_32 : Int → Int → Option (Int)) : Nat → Int → Int → Option (Int)
  | 0, _, _ => none
  | F + 1, v2, v3 => if v1 ≤ v3 then (some (v2)) else (chk (inB v3 5) (chk (inB (t_tried (Int.toNat v3)) 4) (chk (inI (v2 + (if 0 ≤ (t_pulls (Int.toNat (t_tried (Int.toNat v3)))) then t_pulls (Int.toNat (t_tried (Int.toNat v3))) else 0 - (t_pulls (Int.toNat (t_tried (Int.toNat v3))))))) (chk (inI (v3 + 1)) (m_X7_sumOfTried_4 t_pulls t_tried v1 k_32 F (v2 + (if 0 ≤ (t_pulls (Int.toNat (t_tried (Int.toNat v3)))) then t_pulls (Int.toNat (t_tried (Int.toNat v3))) else 0 - (t_pulls (Int.toNat (t_tried (Int.toNat v3)))))) (v3 + 1))))))

set_option maxRecDepth 10000 in
theorem g_X7_sumOfTried_4 {l : Launch} {E : EE} {b0 n : Nat} {h : AH} {a_t : Nat} {t_pullMany t_bestMany t_distanceMany t_pushStep t_foundMany v1 : Int} {t_pulls t_tried : Nat → Int} {r : Int} {k_32 : Int → Int → Option (Int)} (ao : AO b0 n [a_t, (a_t + 11), (a_t + 12)]) (ok_t_pulls : okA t_pulls) (ok_t_tried : okA t_tried) (ok_v1 : inI v1) (hk_32 : ∀ (v2_ : Int) (v3_ : Int), inI v2_ → inI v3_ → k_32 v2_ v3_ = some r → G l E b0 M_X7_sumOfTried (fun _ => True) (ZM E b0 (some (vI r)) (ov [a_t, (a_t + 11), (a_t + 12)] [.inr (7, fsX7 a_t t_pullMany t_bestMany t_distanceMany t_pushStep t_foundMany), IA E 4 t_pulls, IA E 5 t_tried] h) n (inI r) 0 0) 0 0 n (ov [a_t, (a_t + 11), (a_t + 12)] [.inr (7, fsX7 a_t t_pullMany t_bestMany t_distanceMany t_pushStep t_foundMany), IA E 4 t_pulls, IA E 5 t_tried] h) 32 [none, none, some (vI v2_), none] []) :
    ∀ (F : Nat) (v2 : Int) (v3 : Int), inI v2 → inI v3 → m_X7_sumOfTried_4 t_pulls t_tried v1 k_32 F v2 v3 = some r → G l E b0 M_X7_sumOfTried (fun _ => True) (ZM E b0 (some (vI r)) (ov [a_t, (a_t + 11), (a_t + 12)] [.inr (7, fsX7 a_t t_pullMany t_bestMany t_distanceMany t_pushStep t_foundMany), IA E 4 t_pulls, IA E 5 t_tried] h) n (inI r) 0 0) 0 0 n (ov [a_t, (a_t + 11), (a_t + 12)] [.inr (7, fsX7 a_t t_pullMany t_bestMany t_distanceMany t_pushStep t_foundMany), IA E 4 t_pulls, IA E 5 t_tried] h) 4 [some (.ref a_t), some (vI v1), some (vI v2), some (vI v3)] [] := by
  intro F
  induction F with
  | zero =>
    intro v2 v3 ok_v2 ok_v3 hs
    rw [m_X7_sumOfTried_4] at hs
    cases hs
  | succ F ih =>
    intro v2 v3 ok_v2 ok_v3 hs
    rw [m_X7_sumOfTried_4] at hs
    refine g_iload_n e_X7_sumOfTried_4 rfl ?_
    refine g_iload_n e_X7_sumOfTried_5 rfl ?_
    refine g_icmp_ge e_X7_sumOfTried_6 ok_v3 ok_v1 hs (fun c6 hs => ?_) (fun c6 hs => ?_)
    · refine g_iload_n e_X7_sumOfTried_32 rfl ?_
      obtain rfl := Option.some.inj hs
      exact g_iret rfl ok_v2 e_X7_sumOfTried_33
    · refine g_iload_n e_X7_sumOfTried_9 rfl ?_
      refine g_aload_n e_X7_sumOfTried_10 rfl ?_
      refine g_get 0 2 ao rfl rfl fsX7_g2 fl_X7_24 e_X7_sumOfTried_11 ?_
      refine g_aload_n e_X7_sumOfTried_14 rfl ?_
      refine g_get 0 3 ao rfl rfl fsX7_g3 fl_X7_28 e_X7_sumOfTried_15 ?_
      refine g_iload_n e_X7_sumOfTried_18 rfl ?_
      refine g_iald 2 ao rfl rfl (Nat.le_of_ble_eq_true rfl) e_X7_sumOfTried_19 hs (fun hi1 hs => ?_)
      refine g_iald 1 ao rfl rfl (Nat.le_of_ble_eq_true rfl) e_X7_sumOfTried_20 hs (fun hi2 hs => ?_)
      refine g_abs jm_X7_103 e_X7_sumOfTried_21 ⟨Nat.le_of_ble_eq_true rfl, Nat.le_of_ble_eq_true rfl, Nat.le_of_ble_eq_true rfl⟩ (Nat.le_of_ble_eq_true rfl) (ok_t_pulls _) ?_
      refine g_iadd e_X7_sumOfTried_24 ?_
      refine g_istore_n e_X7_sumOfTried_25 st1_2 rfl ?_
      refine g_iinc e_X7_sumOfTried_26 rfl st1_3 rfl ?_
      refine g_goto e_X7_sumOfTried_29 ?_
      obtain ⟨hc3, hs⟩ := chk_elim hs
      obtain ⟨hc4, hs⟩ := chk_elim hs
      exact ih _ _ hc3 hc4 hs

noncomputable def m_X7_sumOfTried_32 (v2 : Int) : Option (Int) :=
  some (v2)

set_option maxRecDepth 10000 in
theorem g_X7_sumOfTried_32 {l : Launch} {E : EE} {b0 n : Nat} {h : AH} {a_t : Nat} {t_pullMany t_bestMany t_distanceMany t_pushStep t_foundMany v2 : Int} {t_pulls t_tried : Nat → Int} {r : Int} (ao : AO b0 n [a_t, (a_t + 11), (a_t + 12)]) (ok_t_pulls : okA t_pulls) (ok_t_tried : okA t_tried) (ok_v2 : inI v2) (hs : m_X7_sumOfTried_32 v2 = some r) : G l E b0 M_X7_sumOfTried (fun _ => True) (ZM E b0 (some (vI r)) (ov [a_t, (a_t + 11), (a_t + 12)] [.inr (7, fsX7 a_t t_pullMany t_bestMany t_distanceMany t_pushStep t_foundMany), IA E 4 t_pulls, IA E 5 t_tried] h) n (inI r) 0 0) 0 0 n (ov [a_t, (a_t + 11), (a_t + 12)] [.inr (7, fsX7 a_t t_pullMany t_bestMany t_distanceMany t_pushStep t_foundMany), IA E 4 t_pulls, IA E 5 t_tried] h) 32 [none, none, some (vI v2), none] [] := by
  rw [m_X7_sumOfTried_32] at hs
  refine g_iload_n e_X7_sumOfTried_32 rfl ?_
  obtain rfl := Option.some.inj hs
  exact g_iret rfl ok_v2 e_X7_sumOfTried_33

noncomputable def m_X7_sumOfTried_0 (t_pulls : Nat → Int) (t_tried : Nat → Int) (v1 : Int) : Option (Int) :=
  m_X7_sumOfTried_4 t_pulls t_tried v1 (fun v2' v3' => m_X7_sumOfTried_32 v2') FU 0 0

set_option maxRecDepth 10000 in
theorem g_X7_sumOfTried_0 {l : Launch} {E : EE} {b0 n : Nat} {h : AH} {a_t : Nat} {t_pullMany t_bestMany t_distanceMany t_pushStep t_foundMany v1 : Int} {t_pulls t_tried : Nat → Int} {r : Int} (ao : AO b0 n [a_t, (a_t + 11), (a_t + 12)]) (ok_t_pulls : okA t_pulls) (ok_t_tried : okA t_tried) (ok_v1 : inI v1) (hs : m_X7_sumOfTried_0 t_pulls t_tried v1 = some r) : G l E b0 M_X7_sumOfTried (fun _ => True) (ZM E b0 (some (vI r)) (ov [a_t, (a_t + 11), (a_t + 12)] [.inr (7, fsX7 a_t t_pullMany t_bestMany t_distanceMany t_pushStep t_foundMany), IA E 4 t_pulls, IA E 5 t_tried] h) n (inI r) 0 0) 0 0 n (ov [a_t, (a_t + 11), (a_t + 12)] [.inr (7, fsX7 a_t t_pullMany t_bestMany t_distanceMany t_pushStep t_foundMany), IA E 4 t_pulls, IA E 5 t_tried] h) 0 [some (.ref a_t), some (vI v1), none, none] [] := by
  rw [m_X7_sumOfTried_0] at hs
  refine g_iconst e_X7_sumOfTried_0 ?_
  refine g_istore_n e_X7_sumOfTried_1 st1_2 rfl ?_
  refine g_iconst e_X7_sumOfTried_2 ?_
  refine g_istore_n e_X7_sumOfTried_3 st1_3 rfl ?_
  exact g_X7_sumOfTried_4 ao ok_t_pulls ok_t_tried ok_v1 (hk_32 := by
      intro v2' v3' ok_v2' ok_v3' hs
      exact g_X7_sumOfTried_32 ao ok_t_pulls ok_t_tried ok_v2' hs) FU _ _ (by decide : inI 0) (by decide : inI 0) hs

noncomputable def m_X7_sumOfTried (t_pulls : Nat → Int) (t_tried : Nat → Int) (v1 : Int) : Option (Int) := m_X7_sumOfTried_0 t_pulls t_tried v1

set_option maxRecDepth 10000 in
theorem ct_X7_sumOfTried {l : Launch} {E : EE} {b0 n : Nat} {h : AH} {a_t : Nat} {t_pullMany t_bestMany t_distanceMany t_pushStep t_foundMany : Int} {t_pulls t_tried : Nat → Int} {v1 : Int} (ao : AO b0 n [a_t, (a_t + 11), (a_t + 12)]) (hf : FA h [a_t, (a_t + 11), (a_t + 12)] [.inr (7, fsX7 a_t t_pullMany t_bestMany t_distanceMany t_pushStep t_foundMany), IA E 4 t_pulls, IA E 5 t_tried]) (ok_t_pulls : okA t_pulls) (ok_t_tried : okA t_tried) (ok_v1 : inI v1) {r : Int} (hm : m_X7_sumOfTried t_pulls t_tried v1 = some r) : Ct l E b0 M_X7_sumOfTried 0 0 [.ref a_t, vI v1] h n (some (vI r)) h n (inI r) := by
  rw [m_X7_sumOfTried] at hm
  have hg : G l E b0 M_X7_sumOfTried (fun _ => True) (ZM E b0 (some (vI r)) (ov [a_t, (a_t + 11), (a_t + 12)] [.inr (7, fsX7 a_t t_pullMany t_bestMany t_distanceMany t_pushStep t_foundMany), IA E 4 t_pulls, IA E 5 t_tried] h) n (inI r) 0 0) 0 0 n (ov [a_t, (a_t + 11), (a_t + 12)] [.inr (7, fsX7 a_t t_pullMany t_bestMany t_distanceMany t_pushStep t_foundMany), IA E 4 t_pulls, IA E 5 t_tried] h) 0 [some (.ref a_t), some (vI v1), none, none] [] := by
    have hs := hm
    exact g_X7_sumOfTried_0 ao ok_t_pulls ok_t_tried ok_v1 hs
  rw [FA_id hf] at hg
  exact Ct_of [some (.ref a_t), some (vI v1), none, none] ⟨by decide +kernel, rfl⟩ rfl (Nat.le_of_ble_eq_true rfl) hg

/-! ===== X7_nextTried ===== -/
theorem e_X7_nextTried_0 : DC cX7_nextTried 0 (.iload_n 1) 1 1 := ⟨by decide +kernel, rfl⟩
theorem e_X7_nextTried_1 : DC cX7_nextTried 1 (.iconst 1) 1 2 := ⟨by decide +kernel, rfl⟩
theorem e_X7_nextTried_2 : DC cX7_nextTried 2 (.isub) 1 3 := ⟨by decide +kernel, rfl⟩
theorem e_X7_nextTried_3 : DC cX7_nextTried 3 (.istore_n 2) 1 4 := ⟨by decide +kernel, rfl⟩
theorem e_X7_nextTried_4 : DC cX7_nextTried 4 (.iload_n 2) 1 5 := ⟨by decide +kernel, rfl⟩
theorem e_X7_nextTried_5 : DB cX7_nextTried 5 (.ifCond .lt 43) (43) 3 8 48 := ⟨by decide +kernel, rfl, rfl⟩
theorem e_X7_nextTried_8 : DC cX7_nextTried 8 (.aload_n 0) 1 9 := ⟨by decide +kernel, rfl⟩
theorem e_X7_nextTried_9 : DC cX7_nextTried 9 (.getfield 28) 3 12 := ⟨by decide +kernel, rfl⟩
theorem e_X7_nextTried_12 : DC cX7_nextTried 12 (.iload_n 2) 1 13 := ⟨by decide +kernel, rfl⟩
theorem e_X7_nextTried_13 : DC cX7_nextTried 13 (.iaload) 1 14 := ⟨by decide +kernel, rfl⟩
theorem e_X7_nextTried_14 : DC cX7_nextTried 14 (.iconst 1) 1 15 := ⟨by decide +kernel, rfl⟩
theorem e_X7_nextTried_15 : DC cX7_nextTried 15 (.iadd) 1 16 := ⟨by decide +kernel, rfl⟩
theorem e_X7_nextTried_16 : DC cX7_nextTried 16 (.aload_n 0) 1 17 := ⟨by decide +kernel, rfl⟩
theorem e_X7_nextTried_17 : DC cX7_nextTried 17 (.getfield 62) 3 20 := ⟨by decide +kernel, rfl⟩
theorem e_X7_nextTried_20 : DB cX7_nextTried 20 (.if_icmp .ge 15) (15) 3 23 35 := ⟨by decide +kernel, rfl, rfl⟩
theorem e_X7_nextTried_23 : DC cX7_nextTried 23 (.aload_n 0) 1 24 := ⟨by decide +kernel, rfl⟩
theorem e_X7_nextTried_24 : DC cX7_nextTried 24 (.getfield 28) 3 27 := ⟨by decide +kernel, rfl⟩
theorem e_X7_nextTried_27 : DC cX7_nextTried 27 (.iload_n 2) 1 28 := ⟨by decide +kernel, rfl⟩
theorem e_X7_nextTried_28 : DC cX7_nextTried 28 (.dup2) 1 29 := ⟨by decide +kernel, rfl⟩
theorem e_X7_nextTried_29 : DC cX7_nextTried 29 (.iaload) 1 30 := ⟨by decide +kernel, rfl⟩
theorem e_X7_nextTried_30 : DC cX7_nextTried 30 (.iconst 1) 1 31 := ⟨by decide +kernel, rfl⟩
theorem e_X7_nextTried_31 : DC cX7_nextTried 31 (.iadd) 1 32 := ⟨by decide +kernel, rfl⟩
theorem e_X7_nextTried_32 : DC cX7_nextTried 32 (.iastore) 1 33 := ⟨by decide +kernel, rfl⟩
theorem e_X7_nextTried_33 : DC cX7_nextTried 33 (.iload_n 2) 1 34 := ⟨by decide +kernel, rfl⟩
theorem e_X7_nextTried_34 : DC cX7_nextTried 34 (.ireturn) 1 35 := ⟨by decide +kernel, rfl⟩
theorem e_X7_nextTried_35 : DC cX7_nextTried 35 (.aload_n 0) 1 36 := ⟨by decide +kernel, rfl⟩
theorem e_X7_nextTried_36 : DC cX7_nextTried 36 (.getfield 28) 3 39 := ⟨by decide +kernel, rfl⟩
theorem e_X7_nextTried_39 : DC cX7_nextTried 39 (.iload_n 2) 1 40 := ⟨by decide +kernel, rfl⟩
theorem e_X7_nextTried_40 : DC cX7_nextTried 40 (.iconst 0) 1 41 := ⟨by decide +kernel, rfl⟩
theorem e_X7_nextTried_41 : DC cX7_nextTried 41 (.iastore) 1 42 := ⟨by decide +kernel, rfl⟩
theorem e_X7_nextTried_42 : DC cX7_nextTried 42 (.iinc 2 (-1)) 3 45 := ⟨by decide +kernel, rfl⟩
theorem e_X7_nextTried_45 : DB cX7_nextTried 45 (.goto (-41)) (-41) 3 48 4 := ⟨by decide +kernel, rfl, rfl⟩
theorem e_X7_nextTried_48 : DC cX7_nextTried 48 (.iconst 0) 1 49 := ⟨by decide +kernel, rfl⟩
theorem e_X7_nextTried_49 : DC cX7_nextTried 49 (.ireturn) 1 50 := ⟨by decide +kernel, rfl⟩
noncomputable def m_X7_nextTried_4 (t_pullMany : Int) (k_48 : (Nat → Int) → Int → Option (Int × (Nat → Int))) (k_23 : (Nat → Int) → Int → Option (Int × (Nat → Int))) : Nat → (Nat → Int) → Int → Option (Int × (Nat → Int))
  | 0, _, _ => none
  | F + 1, t_tried, v2 => if v2 < 0 then (some (0, t_tried)) else (chk (inB v2 5) (chk (inI ((t_tried (Int.toNat v2)) + 1)) (if t_pullMany ≤ ((t_tried (Int.toNat v2)) + 1) then (chk (inB v2 5) (chk (inI (v2 + (-1))) (m_X7_nextTried_4 t_pullMany k_48 k_23 F (up t_tried (Int.toNat v2) 0) (v2 + (-1))))) else (k_23 t_tried v2))))

set_option maxRecDepth 10000 in
theorem g_X7_nextTried_4 {l : Launch} {E : EE} {b0 n : Nat} {h : AH} {a_t : Nat} {t_pullMany t_bestMany t_distanceMany t_pushStep t_foundMany : Int} {r : Int × (Nat → Int)} {k_48 : (Nat → Int) → Int → Option (Int × (Nat → Int))} {k_23 : (Nat → Int) → Int → Option (Int × (Nat → Int))} (ao : AO b0 n [a_t, (a_t + 12)]) (ok_t_pullMany : inI t_pullMany) (hk_48 : ∀ (t_tried_ : Nat → Int) (v2_ : Int), okA t_tried_ → inI v2_ → k_48 t_tried_ v2_ = some r → G l E b0 M_X7_nextTried (fun _ => True) (ZM E b0 (some (vI r.1)) (ov [a_t, (a_t + 12)] [.inr (7, fsX7 a_t t_pullMany t_bestMany t_distanceMany t_pushStep t_foundMany), IA E 5 r.2] h) n (inI r.1 ∧ okA r.2) 0 0) 0 0 n (ov [a_t, (a_t + 12)] [.inr (7, fsX7 a_t t_pullMany t_bestMany t_distanceMany t_pushStep t_foundMany), IA E 5 t_tried_] h) 48 [none, none, none] []) (hk_23 : ∀ (t_tried_ : Nat → Int) (v2_ : Int), okA t_tried_ → inI v2_ → k_23 t_tried_ v2_ = some r → G l E b0 M_X7_nextTried (fun _ => True) (ZM E b0 (some (vI r.1)) (ov [a_t, (a_t + 12)] [.inr (7, fsX7 a_t t_pullMany t_bestMany t_distanceMany t_pushStep t_foundMany), IA E 5 r.2] h) n (inI r.1 ∧ okA r.2) 0 0) 0 0 n (ov [a_t, (a_t + 12)] [.inr (7, fsX7 a_t t_pullMany t_bestMany t_distanceMany t_pushStep t_foundMany), IA E 5 t_tried_] h) 23 [some (.ref a_t), none, some (vI v2_)] []) :
    ∀ (F : Nat) (t_tried : Nat → Int) (v2 : Int), okA t_tried → inI v2 → m_X7_nextTried_4 t_pullMany k_48 k_23 F t_tried v2 = some r → G l E b0 M_X7_nextTried (fun _ => True) (ZM E b0 (some (vI r.1)) (ov [a_t, (a_t + 12)] [.inr (7, fsX7 a_t t_pullMany t_bestMany t_distanceMany t_pushStep t_foundMany), IA E 5 r.2] h) n (inI r.1 ∧ okA r.2) 0 0) 0 0 n (ov [a_t, (a_t + 12)] [.inr (7, fsX7 a_t t_pullMany t_bestMany t_distanceMany t_pushStep t_foundMany), IA E 5 t_tried] h) 4 [some (.ref a_t), none, some (vI v2)] [] := by
  intro F
  induction F with
  | zero =>
    intro t_tried v2 ok_t_tried ok_v2 hs
    rw [m_X7_nextTried_4] at hs
    cases hs
  | succ F ih =>
    intro t_tried v2 ok_t_tried ok_v2 hs
    rw [m_X7_nextTried_4] at hs
    refine g_iload_n e_X7_nextTried_4 rfl ?_
    refine g_if_lt e_X7_nextTried_5 ok_v2 hs (fun c5 hs => ?_) (fun c5 hs => ?_)
    · refine g_iconst e_X7_nextTried_48 ?_
      obtain rfl := Option.some.inj hs
      exact g_iret rfl ⟨(by decide : inI 0), ok_t_tried⟩ e_X7_nextTried_49
    · refine g_aload_n e_X7_nextTried_8 rfl ?_
      refine g_get 0 3 ao rfl rfl fsX7_g3 fl_X7_28 e_X7_nextTried_9 ?_
      refine g_iload_n e_X7_nextTried_12 rfl ?_
      refine g_iald 1 ao rfl rfl (Nat.le_of_ble_eq_true rfl) e_X7_nextTried_13 hs (fun hi1 hs => ?_)
      refine g_iconst e_X7_nextTried_14 ?_
      refine g_iadd e_X7_nextTried_15 ?_
      refine g_aload_n e_X7_nextTried_16 rfl ?_
      refine g_get 0 5 ao rfl rfl fsX7_g5 fl_X7_62 e_X7_nextTried_17 ?_
      obtain ⟨hc2, hs⟩ := chk_elim hs
      refine g_icmp_ge e_X7_nextTried_20 hc2 ok_t_pullMany hs (fun c20 hs => ?_) (fun c20 hs => ?_)
      · refine g_aload_n e_X7_nextTried_35 rfl ?_
        refine g_get 0 3 ao rfl rfl fsX7_g3 fl_X7_28 e_X7_nextTried_36 ?_
        refine g_iload_n e_X7_nextTried_39 rfl ?_
        refine g_iconst e_X7_nextTried_40 ?_
        refine g_iast 1 ao rfl rfl ls_1 (Nat.le_of_ble_eq_true rfl) e_X7_nextTried_41 hs (fun hi3 hs => ?_)
        refine g_iinc e_X7_nextTried_42 rfl st1_2 rfl ?_
        refine g_goto e_X7_nextTried_45 ?_
        obtain ⟨hc4, hs⟩ := chk_elim hs
        exact ih _ _ (okA_up ok_t_tried (by decide : inI 0)) hc4 hs
      · exact hk_23 _ _ ok_t_tried ok_v2 hs

noncomputable def m_X7_nextTried_48 (t_tried : Nat → Int) : Option (Int × (Nat → Int)) :=
  some (0, t_tried)

set_option maxRecDepth 10000 in
theorem g_X7_nextTried_48 {l : Launch} {E : EE} {b0 n : Nat} {h : AH} {a_t : Nat} {t_pullMany t_bestMany t_distanceMany t_pushStep t_foundMany : Int} {t_tried : Nat → Int} {r : Int × (Nat → Int)} (ao : AO b0 n [a_t, (a_t + 12)]) (ok_t_pullMany : inI t_pullMany) (ok_t_tried : okA t_tried) (hs : m_X7_nextTried_48 t_tried = some r) : G l E b0 M_X7_nextTried (fun _ => True) (ZM E b0 (some (vI r.1)) (ov [a_t, (a_t + 12)] [.inr (7, fsX7 a_t t_pullMany t_bestMany t_distanceMany t_pushStep t_foundMany), IA E 5 r.2] h) n (inI r.1 ∧ okA r.2) 0 0) 0 0 n (ov [a_t, (a_t + 12)] [.inr (7, fsX7 a_t t_pullMany t_bestMany t_distanceMany t_pushStep t_foundMany), IA E 5 t_tried] h) 48 [none, none, none] [] := by
  rw [m_X7_nextTried_48] at hs
  refine g_iconst e_X7_nextTried_48 ?_
  obtain rfl := Option.some.inj hs
  exact g_iret rfl ⟨(by decide : inI 0), ok_t_tried⟩ e_X7_nextTried_49

noncomputable def m_X7_nextTried_23 (t_tried : Nat → Int) (v2 : Int) : Option (Int × (Nat → Int)) :=
  chk (inB v2 5) (chk (inI ((t_tried (Int.toNat v2)) + 1)) (chk (inB v2 5) (some (v2, up t_tried (Int.toNat v2) ((t_tried (Int.toNat v2)) + 1)))))

set_option maxRecDepth 10000 in
theorem g_X7_nextTried_23 {l : Launch} {E : EE} {b0 n : Nat} {h : AH} {a_t : Nat} {t_pullMany t_bestMany t_distanceMany t_pushStep t_foundMany v2 : Int} {t_tried : Nat → Int} {r : Int × (Nat → Int)} (ao : AO b0 n [a_t, (a_t + 12)]) (ok_t_pullMany : inI t_pullMany) (ok_t_tried : okA t_tried) (ok_v2 : inI v2) (hs : m_X7_nextTried_23 t_tried v2 = some r) : G l E b0 M_X7_nextTried (fun _ => True) (ZM E b0 (some (vI r.1)) (ov [a_t, (a_t + 12)] [.inr (7, fsX7 a_t t_pullMany t_bestMany t_distanceMany t_pushStep t_foundMany), IA E 5 r.2] h) n (inI r.1 ∧ okA r.2) 0 0) 0 0 n (ov [a_t, (a_t + 12)] [.inr (7, fsX7 a_t t_pullMany t_bestMany t_distanceMany t_pushStep t_foundMany), IA E 5 t_tried] h) 23 [some (.ref a_t), none, some (vI v2)] [] := by
  rw [m_X7_nextTried_23] at hs
  refine g_aload_n e_X7_nextTried_23 rfl ?_
  refine g_get 0 3 ao rfl rfl fsX7_g3 fl_X7_28 e_X7_nextTried_24 ?_
  refine g_iload_n e_X7_nextTried_27 rfl ?_
  refine g_dup2 e_X7_nextTried_28 rfl rfl ?_
  refine g_iald 1 ao rfl rfl (Nat.le_of_ble_eq_true rfl) e_X7_nextTried_29 hs (fun hi6 hs => ?_)
  refine g_iconst e_X7_nextTried_30 ?_
  refine g_iadd e_X7_nextTried_31 ?_
  obtain ⟨hc7, hs⟩ := chk_elim hs
  refine g_iast 1 ao rfl rfl ls_1 (Nat.le_of_ble_eq_true rfl) e_X7_nextTried_32 hs (fun hi8 hs => ?_)
  refine g_iload_n e_X7_nextTried_33 rfl ?_
  obtain rfl := Option.some.inj hs
  exact g_iret rfl ⟨ok_v2, (okA_up ok_t_tried hc7)⟩ e_X7_nextTried_34

noncomputable def m_X7_nextTried_0 (t_pullMany : Int) (t_tried : Nat → Int) (v1 : Int) : Option (Int × (Nat → Int)) :=
  chk (inI (v1 - 1)) (m_X7_nextTried_4 t_pullMany (fun t_tried' v2' => m_X7_nextTried_48 t_tried') (fun t_tried' v2' => m_X7_nextTried_23 t_tried' v2') FU t_tried (v1 - 1))

set_option maxRecDepth 10000 in
theorem g_X7_nextTried_0 {l : Launch} {E : EE} {b0 n : Nat} {h : AH} {a_t : Nat} {t_pullMany t_bestMany t_distanceMany t_pushStep t_foundMany v1 : Int} {t_tried : Nat → Int} {r : Int × (Nat → Int)} (ao : AO b0 n [a_t, (a_t + 12)]) (ok_t_pullMany : inI t_pullMany) (ok_t_tried : okA t_tried) (ok_v1 : inI v1) (hs : m_X7_nextTried_0 t_pullMany t_tried v1 = some r) : G l E b0 M_X7_nextTried (fun _ => True) (ZM E b0 (some (vI r.1)) (ov [a_t, (a_t + 12)] [.inr (7, fsX7 a_t t_pullMany t_bestMany t_distanceMany t_pushStep t_foundMany), IA E 5 r.2] h) n (inI r.1 ∧ okA r.2) 0 0) 0 0 n (ov [a_t, (a_t + 12)] [.inr (7, fsX7 a_t t_pullMany t_bestMany t_distanceMany t_pushStep t_foundMany), IA E 5 t_tried] h) 0 [some (.ref a_t), some (vI v1), none] [] := by
  rw [m_X7_nextTried_0] at hs
  refine g_iload_n e_X7_nextTried_0 rfl ?_
  refine g_iconst e_X7_nextTried_1 ?_
  refine g_isub e_X7_nextTried_2 ?_
  refine g_istore_n e_X7_nextTried_3 st1_2 rfl ?_
  obtain ⟨hc5, hs⟩ := chk_elim hs
  exact g_mask [true, false, true] (g_X7_nextTried_4 ao ok_t_pullMany (hk_48 := by
      intro t_tried' v2' ok_t_tried' ok_v2' hs
      exact g_X7_nextTried_48 ao ok_t_pullMany ok_t_tried' hs) (hk_23 := by
      intro t_tried' v2' ok_t_tried' ok_v2' hs
      exact g_X7_nextTried_23 ao ok_t_pullMany ok_t_tried' ok_v2' hs) FU _ _ ok_t_tried hc5 hs)

noncomputable def m_X7_nextTried (t_pullMany : Int) (t_tried : Nat → Int) (v1 : Int) : Option (Int × (Nat → Int)) := m_X7_nextTried_0 t_pullMany t_tried v1

set_option maxRecDepth 10000 in
theorem ct_X7_nextTried {l : Launch} {E : EE} {b0 n : Nat} {h : AH} {a_t : Nat} {t_pullMany t_bestMany t_distanceMany t_pushStep t_foundMany : Int} {t_tried : Nat → Int} {v1 : Int} (ao : AO b0 n [a_t, (a_t + 12)]) (hf : FA h [a_t, (a_t + 12)] [.inr (7, fsX7 a_t t_pullMany t_bestMany t_distanceMany t_pushStep t_foundMany), IA E 5 t_tried]) (ok_t_pullMany : inI t_pullMany) (ok_t_tried : okA t_tried) (ok_v1 : inI v1) {r : Int × (Nat → Int)} (hm : m_X7_nextTried t_pullMany t_tried v1 = some r) : Ct l E b0 M_X7_nextTried 0 0 [.ref a_t, vI v1] h n (some (vI r.1)) (ov [a_t, (a_t + 12)] [.inr (7, fsX7 a_t t_pullMany t_bestMany t_distanceMany t_pushStep t_foundMany), IA E 5 r.2] h) n (inI r.1 ∧ okA r.2) := by
  rw [m_X7_nextTried] at hm
  have hg : G l E b0 M_X7_nextTried (fun _ => True) (ZM E b0 (some (vI r.1)) (ov [a_t, (a_t + 12)] [.inr (7, fsX7 a_t t_pullMany t_bestMany t_distanceMany t_pushStep t_foundMany), IA E 5 r.2] h) n (inI r.1 ∧ okA r.2) 0 0) 0 0 n (ov [a_t, (a_t + 12)] [.inr (7, fsX7 a_t t_pullMany t_bestMany t_distanceMany t_pushStep t_foundMany), IA E 5 t_tried] h) 0 [some (.ref a_t), some (vI v1), none] [] := by
    have hs := hm
    exact g_X7_nextTried_0 ao ok_t_pullMany ok_t_tried ok_v1 hs
  rw [FA_id hf] at hg
  exact Ct_of [some (.ref a_t), some (vI v1), none] ⟨by decide +kernel, rfl⟩ rfl (Nat.le_of_ble_eq_true rfl) hg

/-! ===== X7_tellDistances ===== -/
theorem e_X7_tellDistances_0 : DC cX7_tellDistances 0 (.aload_n 0) 1 1 := ⟨by decide +kernel, rfl⟩
theorem e_X7_tellDistances_1 : DC cX7_tellDistances 1 (.getfield 34) 3 4 := ⟨by decide +kernel, rfl⟩
theorem e_X7_tellDistances_4 : DC cX7_tellDistances 4 (.iconst 0) 1 5 := ⟨by decide +kernel, rfl⟩
theorem e_X7_tellDistances_5 : DC cX7_tellDistances 5 (.iload_n 2) 1 6 := ⟨by decide +kernel, rfl⟩
theorem e_X7_tellDistances_6 : DC cX7_tellDistances 6 (.iastore) 1 7 := ⟨by decide +kernel, rfl⟩
theorem e_X7_tellDistances_7 : DC cX7_tellDistances 7 (.aload_n 0) 1 8 := ⟨by decide +kernel, rfl⟩
theorem e_X7_tellDistances_8 : DC cX7_tellDistances 8 (.getfield 34) 3 11 := ⟨by decide +kernel, rfl⟩
theorem e_X7_tellDistances_11 : DC cX7_tellDistances 11 (.iconst 1) 1 12 := ⟨by decide +kernel, rfl⟩
theorem e_X7_tellDistances_12 : DC cX7_tellDistances 12 (.iload_n 3) 1 13 := ⟨by decide +kernel, rfl⟩
theorem e_X7_tellDistances_13 : DC cX7_tellDistances 13 (.iastore) 1 14 := ⟨by decide +kernel, rfl⟩
theorem e_X7_tellDistances_14 : DC cX7_tellDistances 14 (.aload_n 0) 1 15 := ⟨by decide +kernel, rfl⟩
theorem e_X7_tellDistances_15 : DC cX7_tellDistances 15 (.getfield 34) 3 18 := ⟨by decide +kernel, rfl⟩
theorem e_X7_tellDistances_18 : DC cX7_tellDistances 18 (.iconst 2) 1 19 := ⟨by decide +kernel, rfl⟩
theorem e_X7_tellDistances_19 : DC cX7_tellDistances 19 (.iload 4) 2 21 := ⟨by decide +kernel, rfl⟩
theorem e_X7_tellDistances_21 : DC cX7_tellDistances 21 (.iastore) 1 22 := ⟨by decide +kernel, rfl⟩
theorem e_X7_tellDistances_22 : DC cX7_tellDistances 22 (.aload_n 0) 1 23 := ⟨by decide +kernel, rfl⟩
theorem e_X7_tellDistances_23 : DC cX7_tellDistances 23 (.iconst 1) 1 24 := ⟨by decide +kernel, rfl⟩
theorem e_X7_tellDistances_24 : DC cX7_tellDistances 24 (.iload_n 1) 1 25 := ⟨by decide +kernel, rfl⟩
theorem e_X7_tellDistances_25 : DC cX7_tellDistances 25 (.iconst 3) 1 26 := ⟨by decide +kernel, rfl⟩
theorem e_X7_tellDistances_26 : DC cX7_tellDistances 26 (.invokestatic 53) 3 29 := ⟨by decide +kernel, rfl⟩
theorem e_X7_tellDistances_29 : DC cX7_tellDistances 29 (.invokestatic 59) 3 32 := ⟨by decide +kernel, rfl⟩
theorem e_X7_tellDistances_32 : DC cX7_tellDistances 32 (.putfield 110) 3 35 := ⟨by decide +kernel, rfl⟩
theorem e_X7_tellDistances_35 : DC cX7_tellDistances 35 (.aload_n 0) 1 36 := ⟨by decide +kernel, rfl⟩
theorem e_X7_tellDistances_36 : DC cX7_tellDistances 36 (.iload 5) 2 38 := ⟨by decide +kernel, rfl⟩
theorem e_X7_tellDistances_38 : DC cX7_tellDistances 38 (.putfield 113) 3 41 := ⟨by decide +kernel, rfl⟩
theorem e_X7_tellDistances_41 : DC cX7_tellDistances 41 (.return_) 1 42 := ⟨by decide +kernel, rfl⟩
noncomputable def m_X7_tellDistances_0 (t_distanceMany : Int) (t_pushStep : Int) (t_distances : Nat → Int) (v1 : Int) (v2 : Int) (v3 : Int) (v4 : Int) (v5 : Int) : Option (Int × Int × (Nat → Int)) :=
  chk (inB 0 3) (chk (inB 1 3) (chk (inB 2 3) (some (if 1 < (if 3 < v1 then 3 else v1) then if 3 < v1 then 3 else v1 else 1, v5, up (up (up t_distances (Int.toNat 0) v2) (Int.toNat 1) v3) (Int.toNat 2) v4))))

set_option maxRecDepth 10000 in
theorem g_X7_tellDistances_0 {l : Launch} {E : EE} {b0 n : Nat} {h : AH} {a_t : Nat} {t_pullMany t_bestMany t_distanceMany t_pushStep t_foundMany v1 v2 v3 v4 v5 : Int} {t_distances : Nat → Int} {r : Int × Int × (Nat → Int)} (ao : AO b0 n [a_t, (a_t + 14)]) (ok_t_distanceMany : inI t_distanceMany) (ok_t_pushStep : inI t_pushStep) (ok_t_distances : okA t_distances) (ok_v1 : inI v1) (ok_v2 : inI v2) (ok_v3 : inI v3) (ok_v4 : inI v4) (ok_v5 : inI v5) (hs : m_X7_tellDistances_0 t_distanceMany t_pushStep t_distances v1 v2 v3 v4 v5 = some r) : G l E b0 M_X7_tellDistances (fun _ => True) (ZM E b0 (none) (ov [a_t, (a_t + 14)] [.inr (7, fsX7 a_t t_pullMany t_bestMany r.1 r.2.1 t_foundMany), IA E 3 r.2.2] h) n (inI r.1 ∧ inI r.2.1 ∧ okA r.2.2) 0 0) 0 0 n (ov [a_t, (a_t + 14)] [.inr (7, fsX7 a_t t_pullMany t_bestMany t_distanceMany t_pushStep t_foundMany), IA E 3 t_distances] h) 0 [some (.ref a_t), some (vI v1), some (vI v2), some (vI v3), some (vI v4), some (vI v5)] [] := by
  rw [m_X7_tellDistances_0] at hs
  refine g_aload_n e_X7_tellDistances_0 rfl ?_
  refine g_get 0 7 ao rfl rfl fsX7_g7 fl_X7_34 e_X7_tellDistances_1 ?_
  refine g_iconst e_X7_tellDistances_4 ?_
  refine g_iload_n e_X7_tellDistances_5 rfl ?_
  refine g_iast 1 ao rfl rfl ls_1 (Nat.le_of_ble_eq_true rfl) e_X7_tellDistances_6 hs (fun hi1 hs => ?_)
  refine g_aload_n e_X7_tellDistances_7 rfl ?_
  refine g_get 0 7 ao rfl rfl fsX7_g7 fl_X7_34 e_X7_tellDistances_8 ?_
  refine g_iconst e_X7_tellDistances_11 ?_
  refine g_iload_n e_X7_tellDistances_12 rfl ?_
  refine g_iast 1 ao rfl rfl ls_1 (Nat.le_of_ble_eq_true rfl) e_X7_tellDistances_13 hs (fun hi2 hs => ?_)
  refine g_aload_n e_X7_tellDistances_14 rfl ?_
  refine g_get 0 7 ao rfl rfl fsX7_g7 fl_X7_34 e_X7_tellDistances_15 ?_
  refine g_iconst e_X7_tellDistances_18 ?_
  refine g_iload e_X7_tellDistances_19 rfl ?_
  refine g_iast 1 ao rfl rfl ls_1 (Nat.le_of_ble_eq_true rfl) e_X7_tellDistances_21 hs (fun hi3 hs => ?_)
  refine g_aload_n e_X7_tellDistances_22 rfl ?_
  refine g_iconst e_X7_tellDistances_23 ?_
  refine g_iload_n e_X7_tellDistances_24 rfl ?_
  refine g_iconst e_X7_tellDistances_25 ?_
  refine g_min jm_X7_53 e_X7_tellDistances_26 ⟨Nat.le_of_ble_eq_true rfl, Nat.le_of_ble_eq_true rfl, Nat.le_of_ble_eq_true rfl⟩ (Nat.le_of_ble_eq_true rfl) ok_v1 (by decide : inI 3) ?_
  refine g_max jm_X7_59 e_X7_tellDistances_29 ⟨Nat.le_of_ble_eq_true rfl, Nat.le_of_ble_eq_true rfl, Nat.le_of_ble_eq_true rfl⟩ (Nat.le_of_ble_eq_true rfl) (by decide : inI 1) (ite_I (by decide : inI 3) ok_v1) ?_
  refine g_put 0 9 ao rfl rfl fsX7_k9 fsX7_s9 ls_0 fw_X7_110 (fun h => by cases h) ⟨rfl, rfl⟩ e_X7_tellDistances_32 ?_
  refine g_aload_n e_X7_tellDistances_35 rfl ?_
  refine g_iload e_X7_tellDistances_36 rfl ?_
  refine g_put 0 10 ao rfl rfl fsX7_k10 fsX7_s10 ls_0 fw_X7_113 (fun h => by cases h) ⟨rfl, rfl⟩ e_X7_tellDistances_38 ?_
  obtain rfl := Option.some.inj hs
  exact g_vret rfl ⟨(ite_I (ite_I (by decide : inI 3) ok_v1) (by decide : inI 1)), ok_v5, (okA_up (okA_up (okA_up ok_t_distances ok_v2) ok_v3) ok_v4)⟩ e_X7_tellDistances_41

noncomputable def m_X7_tellDistances (t_distanceMany : Int) (t_pushStep : Int) (t_distances : Nat → Int) (v1 : Int) (v2 : Int) (v3 : Int) (v4 : Int) (v5 : Int) : Option (Int × Int × (Nat → Int)) := m_X7_tellDistances_0 t_distanceMany t_pushStep t_distances v1 v2 v3 v4 v5

set_option maxRecDepth 10000 in
theorem ct_X7_tellDistances {l : Launch} {E : EE} {b0 n : Nat} {h : AH} {a_t : Nat} {t_pullMany t_bestMany t_distanceMany t_pushStep t_foundMany : Int} {t_distances : Nat → Int} {v1 v2 v3 v4 v5 : Int} (ao : AO b0 n [a_t, (a_t + 14)]) (hf : FA h [a_t, (a_t + 14)] [.inr (7, fsX7 a_t t_pullMany t_bestMany t_distanceMany t_pushStep t_foundMany), IA E 3 t_distances]) (ok_t_distanceMany : inI t_distanceMany) (ok_t_pushStep : inI t_pushStep) (ok_t_distances : okA t_distances) (ok_v1 : inI v1) (ok_v2 : inI v2) (ok_v3 : inI v3) (ok_v4 : inI v4) (ok_v5 : inI v5) {r : Int × Int × (Nat → Int)} (hm : m_X7_tellDistances t_distanceMany t_pushStep t_distances v1 v2 v3 v4 v5 = some r) : Ct l E b0 M_X7_tellDistances 0 0 [.ref a_t, vI v1, vI v2, vI v3, vI v4, vI v5] h n (none) (ov [a_t, (a_t + 14)] [.inr (7, fsX7 a_t t_pullMany t_bestMany r.1 r.2.1 t_foundMany), IA E 3 r.2.2] h) n (inI r.1 ∧ inI r.2.1 ∧ okA r.2.2) := by
  rw [m_X7_tellDistances] at hm
  have hg : G l E b0 M_X7_tellDistances (fun _ => True) (ZM E b0 (none) (ov [a_t, (a_t + 14)] [.inr (7, fsX7 a_t t_pullMany t_bestMany r.1 r.2.1 t_foundMany), IA E 3 r.2.2] h) n (inI r.1 ∧ inI r.2.1 ∧ okA r.2.2) 0 0) 0 0 n (ov [a_t, (a_t + 14)] [.inr (7, fsX7 a_t t_pullMany t_bestMany t_distanceMany t_pushStep t_foundMany), IA E 3 t_distances] h) 0 [some (.ref a_t), some (vI v1), some (vI v2), some (vI v3), some (vI v4), some (vI v5)] [] := by
    have hs := hm
    exact g_X7_tellDistances_0 ao ok_t_distanceMany ok_t_pushStep ok_t_distances ok_v1 ok_v2 ok_v3 ok_v4 ok_v5 hs
  rw [FA_id hf] at hg
  exact Ct_of [some (.ref a_t), some (vI v1), some (vI v2), some (vI v3), some (vI v4), some (vI v5)] ⟨by decide +kernel, rfl⟩ rfl (Nat.le_of_ble_eq_true rfl) hg

/-! ===== X7_pushOf ===== -/
theorem e_X7_pushOf_0 : DC cX7_pushOf 0 (.iload_n 1) 1 1 := ⟨by decide +kernel, rfl⟩
theorem e_X7_pushOf_1 : DC cX7_pushOf 1 (.iconst 3) 1 2 := ⟨by decide +kernel, rfl⟩
theorem e_X7_pushOf_2 : DC cX7_pushOf 2 (.aload_n 0) 1 3 := ⟨by decide +kernel, rfl⟩
theorem e_X7_pushOf_3 : DC cX7_pushOf 3 (.getfield 110) 3 6 := ⟨by decide +kernel, rfl⟩
theorem e_X7_pushOf_6 : DC cX7_pushOf 6 (.iconst 1) 1 7 := ⟨by decide +kernel, rfl⟩
theorem e_X7_pushOf_7 : DC cX7_pushOf 7 (.isub) 1 8 := ⟨by decide +kernel, rfl⟩
theorem e_X7_pushOf_8 : DC cX7_pushOf 8 (.iload_n 2) 1 9 := ⟨by decide +kernel, rfl⟩
theorem e_X7_pushOf_9 : DC cX7_pushOf 9 (.isub) 1 10 := ⟨by decide +kernel, rfl⟩
theorem e_X7_pushOf_10 : DC cX7_pushOf 10 (.imul) 1 11 := ⟨by decide +kernel, rfl⟩
theorem e_X7_pushOf_11 : DC cX7_pushOf 11 (.ishr) 1 12 := ⟨by decide +kernel, rfl⟩
theorem e_X7_pushOf_12 : DC cX7_pushOf 12 (.bipush 7) 2 14 := ⟨by decide +kernel, rfl⟩
theorem e_X7_pushOf_14 : DC cX7_pushOf 14 (.iand) 1 15 := ⟨by decide +kernel, rfl⟩
theorem e_X7_pushOf_15 : DC cX7_pushOf 15 (.aload_n 0) 1 16 := ⟨by decide +kernel, rfl⟩
theorem e_X7_pushOf_16 : DC cX7_pushOf 16 (.getfield 113) 3 19 := ⟨by decide +kernel, rfl⟩
theorem e_X7_pushOf_19 : DC cX7_pushOf 19 (.imul) 1 20 := ⟨by decide +kernel, rfl⟩
theorem e_X7_pushOf_20 : DC cX7_pushOf 20 (.ireturn) 1 21 := ⟨by decide +kernel, rfl⟩
noncomputable def m_X7_pushOf_0 (t_distanceMany : Int) (t_pushStep : Int) (v1 : Int) (v2 : Int) : Option (Int) :=
  chk (inI ((bAnd (bShr v1 (3 * ((t_distanceMany - 1) - v2))) 7) * t_pushStep)) (some ((bAnd (bShr v1 (3 * ((t_distanceMany - 1) - v2))) 7) * t_pushStep))

set_option maxRecDepth 10000 in
theorem g_X7_pushOf_0 {l : Launch} {E : EE} {b0 n : Nat} {h : AH} {a_t : Nat} {t_pullMany t_bestMany t_distanceMany t_pushStep t_foundMany v1 v2 : Int} {r : Int} (ao : AO b0 n [a_t]) (ok_t_distanceMany : inI t_distanceMany) (ok_t_pushStep : inI t_pushStep) (ok_v1 : inI v1) (ok_v2 : inI v2) (hs : m_X7_pushOf_0 t_distanceMany t_pushStep v1 v2 = some r) : G l E b0 M_X7_pushOf (fun _ => True) (ZM E b0 (some (vI r)) (ov [a_t] [.inr (7, fsX7 a_t t_pullMany t_bestMany t_distanceMany t_pushStep t_foundMany)] h) n (inI r) 0 0) 0 0 n (ov [a_t] [.inr (7, fsX7 a_t t_pullMany t_bestMany t_distanceMany t_pushStep t_foundMany)] h) 0 [some (.ref a_t), some (vI v1), some (vI v2)] [] := by
  rw [m_X7_pushOf_0] at hs
  refine g_iload_n e_X7_pushOf_0 rfl ?_
  refine g_iconst e_X7_pushOf_1 ?_
  refine g_aload_n e_X7_pushOf_2 rfl ?_
  refine g_get 0 9 ao rfl rfl fsX7_g9 fl_X7_110 e_X7_pushOf_3 ?_
  refine g_iconst e_X7_pushOf_6 ?_
  refine g_isub e_X7_pushOf_7 ?_
  refine g_iload_n e_X7_pushOf_8 rfl ?_
  refine g_isub e_X7_pushOf_9 ?_
  refine g_imul e_X7_pushOf_10 ?_
  refine g_ishr e_X7_pushOf_11 ?_
  refine g_bipush e_X7_pushOf_12 bp_7 ?_
  refine g_iand e_X7_pushOf_14 ?_
  refine g_aload_n e_X7_pushOf_15 rfl ?_
  refine g_get 0 10 ao rfl rfl fsX7_g10 fl_X7_113 e_X7_pushOf_16 ?_
  refine g_imul e_X7_pushOf_19 ?_
  obtain ⟨hc1, hs⟩ := chk_elim hs
  obtain rfl := Option.some.inj hs
  exact g_iret rfl hc1 e_X7_pushOf_20

noncomputable def m_X7_pushOf (t_distanceMany : Int) (t_pushStep : Int) (v1 : Int) (v2 : Int) : Option (Int) := m_X7_pushOf_0 t_distanceMany t_pushStep v1 v2

set_option maxRecDepth 10000 in
theorem ct_X7_pushOf {l : Launch} {E : EE} {b0 n : Nat} {h : AH} {a_t : Nat} {t_pullMany t_bestMany t_distanceMany t_pushStep t_foundMany : Int} {v1 v2 : Int} (ao : AO b0 n [a_t]) (hf : FA h [a_t] [.inr (7, fsX7 a_t t_pullMany t_bestMany t_distanceMany t_pushStep t_foundMany)]) (ok_t_distanceMany : inI t_distanceMany) (ok_t_pushStep : inI t_pushStep) (ok_v1 : inI v1) (ok_v2 : inI v2) {r : Int} (hm : m_X7_pushOf t_distanceMany t_pushStep v1 v2 = some r) : Ct l E b0 M_X7_pushOf 0 0 [.ref a_t, vI v1, vI v2] h n (some (vI r)) h n (inI r) := by
  rw [m_X7_pushOf] at hm
  have hg : G l E b0 M_X7_pushOf (fun _ => True) (ZM E b0 (some (vI r)) (ov [a_t] [.inr (7, fsX7 a_t t_pullMany t_bestMany t_distanceMany t_pushStep t_foundMany)] h) n (inI r) 0 0) 0 0 n (ov [a_t] [.inr (7, fsX7 a_t t_pullMany t_bestMany t_distanceMany t_pushStep t_foundMany)] h) 0 [some (.ref a_t), some (vI v1), some (vI v2)] [] := by
    have hs := hm
    exact g_X7_pushOf_0 ao ok_t_distanceMany ok_t_pushStep ok_v1 ok_v2 hs
  rw [FA_id hf] at hg
  exact Ct_of [some (.ref a_t), some (vI v1), some (vI v2)] ⟨by decide +kernel, rfl⟩ rfl (Nat.le_of_ble_eq_true rfl) hg

/-! ===== X7_pullFound ===== -/
theorem e_X7_pullFound_0 : DC cX7_pullFound 0 (.iload_n 1) 1 1 := ⟨by decide +kernel, rfl⟩
theorem e_X7_pullFound_1 : DC cX7_pullFound 1 (.iconst 0) 1 2 := ⟨by decide +kernel, rfl⟩
theorem e_X7_pullFound_2 : DC cX7_pullFound 2 (.aload_n 0) 1 3 := ⟨by decide +kernel, rfl⟩
theorem e_X7_pullFound_3 : DC cX7_pullFound 3 (.getfield 70) 3 6 := ⟨by decide +kernel, rfl⟩
theorem e_X7_pullFound_6 : DC cX7_pullFound 6 (.iconst 1) 1 7 := ⟨by decide +kernel, rfl⟩
theorem e_X7_pullFound_7 : DC cX7_pullFound 7 (.isub) 1 8 := ⟨by decide +kernel, rfl⟩
theorem e_X7_pullFound_8 : DC cX7_pullFound 8 (.invokestatic 106) 3 11 := ⟨by decide +kernel, rfl⟩
theorem e_X7_pullFound_11 : DB cX7_pullFound 11 (.ifCond .eq 12) (12) 3 14 23 := ⟨by decide +kernel, rfl, rfl⟩
theorem e_X7_pullFound_14 : DC cX7_pullFound 14 (.aload_n 0) 1 15 := ⟨by decide +kernel, rfl⟩
theorem e_X7_pullFound_15 : DC cX7_pullFound 15 (.getfield 31) 3 18 := ⟨by decide +kernel, rfl⟩
theorem e_X7_pullFound_18 : DC cX7_pullFound 18 (.iload_n 1) 1 19 := ⟨by decide +kernel, rfl⟩
theorem e_X7_pullFound_19 : DC cX7_pullFound 19 (.iaload) 1 20 := ⟨by decide +kernel, rfl⟩
theorem e_X7_pullFound_20 : DB cX7_pullFound 20 (.goto 4) (4) 3 23 24 := ⟨by decide +kernel, rfl, rfl⟩
theorem e_X7_pullFound_23 : DC cX7_pullFound 23 (.iconst (-1)) 1 24 := ⟨by decide +kernel, rfl⟩
theorem e_X7_pullFound_24 : DC cX7_pullFound 24 (.ireturn) 1 25 := ⟨by decide +kernel, rfl⟩
noncomputable def m_X7_pullFound_0 (t_bestMany : Int) (t_best : Nat → Int) (v1 : Int) : Option (Int) :=
  chk (inI (t_bestMany - 1)) ((m_X10_within v1 0 (t_bestMany - 1)).bind (fun y2 => if y2 = 0 then (some ((-1))) else (chk (inB v1 5) (some (t_best (Int.toNat v1))))))

set_option maxRecDepth 10000 in
theorem g_X7_pullFound_0 {l : Launch} {E : EE} {b0 n : Nat} {h : AH} {a_t : Nat} {t_pullMany t_bestMany t_distanceMany t_pushStep t_foundMany v1 : Int} {t_best : Nat → Int} {r : Int} (ao : AO b0 n [a_t, (a_t + 13)]) (ok_t_bestMany : inI t_bestMany) (ok_t_best : okA t_best) (ok_v1 : inI v1) (hs : m_X7_pullFound_0 t_bestMany t_best v1 = some r) : G l E b0 M_X7_pullFound (fun _ => True) (ZM E b0 (some (vI r)) (ov [a_t, (a_t + 13)] [.inr (7, fsX7 a_t t_pullMany t_bestMany t_distanceMany t_pushStep t_foundMany), IA E 5 t_best] h) n (inI r) 0 0) 0 0 n (ov [a_t, (a_t + 13)] [.inr (7, fsX7 a_t t_pullMany t_bestMany t_distanceMany t_pushStep t_foundMany), IA E 5 t_best] h) 0 [some (.ref a_t), some (vI v1)] [] := by
  rw [m_X7_pullFound_0] at hs
  refine g_iload_n e_X7_pullFound_0 rfl ?_
  refine g_iconst e_X7_pullFound_1 ?_
  refine g_aload_n e_X7_pullFound_2 rfl ?_
  refine g_get 0 6 ao rfl rfl fsX7_g6 fl_X7_70 e_X7_pullFound_3 ?_
  refine g_iconst e_X7_pullFound_6 ?_
  refine g_isub e_X7_pullFound_7 ?_
  obtain ⟨hc1, hs⟩ := chk_elim hs
  obtain ⟨y2, hy2, hs⟩ := bind_elim hs
  refine g_callSr [vI v1, vI 0, vI (t_bestMany - 1)] cs_X7_106 ⟨rfl, rfl, Nat.le_of_ble_eq_true rfl, Nat.le_of_ble_eq_true rfl⟩ (ct_X10_within ⟨List.nodup_nil, fun i a h => by simp at h⟩ (fun i a e h => by simp at h) ok_v1 (by decide : inI 0) hc1 hy2) e_X7_pullFound_8 rfl rfl (Nat.le_of_ble_eq_true rfl) ⟨Nat.le_refl _, Nat.le_refl _⟩ (fun Py2 => ?_)
  refine g_if_eq e_X7_pullFound_11 (inZ_I Py2) hs (fun c11 hs => ?_) (fun c11 hs => ?_)
  · refine g_iconst e_X7_pullFound_23 ?_
    obtain rfl := Option.some.inj hs
    exact g_iret rfl (by decide : inI (-1)) e_X7_pullFound_24
  · refine g_aload_n e_X7_pullFound_14 rfl ?_
    refine g_get 0 4 ao rfl rfl fsX7_g4 fl_X7_31 e_X7_pullFound_15 ?_
    refine g_iload_n e_X7_pullFound_18 rfl ?_
    refine g_iald 1 ao rfl rfl (Nat.le_of_ble_eq_true rfl) e_X7_pullFound_19 hs (fun hi3 hs => ?_)
    refine g_goto e_X7_pullFound_20 ?_
    obtain rfl := Option.some.inj hs
    exact g_iret rfl (ok_t_best _) e_X7_pullFound_24

noncomputable def m_X7_pullFound (t_bestMany : Int) (t_best : Nat → Int) (v1 : Int) : Option (Int) := m_X7_pullFound_0 t_bestMany t_best v1

set_option maxRecDepth 10000 in
theorem ct_X7_pullFound {l : Launch} {E : EE} {b0 n : Nat} {h : AH} {a_t : Nat} {t_pullMany t_bestMany t_distanceMany t_pushStep t_foundMany : Int} {t_best : Nat → Int} {v1 : Int} (ao : AO b0 n [a_t, (a_t + 13)]) (hf : FA h [a_t, (a_t + 13)] [.inr (7, fsX7 a_t t_pullMany t_bestMany t_distanceMany t_pushStep t_foundMany), IA E 5 t_best]) (ok_t_bestMany : inI t_bestMany) (ok_t_best : okA t_best) (ok_v1 : inI v1) {r : Int} (hm : m_X7_pullFound t_bestMany t_best v1 = some r) : Ct l E b0 M_X7_pullFound 0 0 [.ref a_t, vI v1] h n (some (vI r)) h n (inI r) := by
  rw [m_X7_pullFound] at hm
  have hg : G l E b0 M_X7_pullFound (fun _ => True) (ZM E b0 (some (vI r)) (ov [a_t, (a_t + 13)] [.inr (7, fsX7 a_t t_pullMany t_bestMany t_distanceMany t_pushStep t_foundMany), IA E 5 t_best] h) n (inI r) 0 0) 0 0 n (ov [a_t, (a_t + 13)] [.inr (7, fsX7 a_t t_pullMany t_bestMany t_distanceMany t_pushStep t_foundMany), IA E 5 t_best] h) 0 [some (.ref a_t), some (vI v1)] [] := by
    have hs := hm
    exact g_X7_pullFound_0 ao ok_t_bestMany ok_t_best ok_v1 hs
  rw [FA_id hf] at hg
  exact Ct_of [some (.ref a_t), some (vI v1)] ⟨by decide +kernel, rfl⟩ rfl (Nat.le_of_ble_eq_true rfl) hg

/-! ===== X7_pushFound ===== -/
theorem e_X7_pushFound_0 : DC cX7_pushFound 0 (.iload_n 1) 1 1 := ⟨by decide +kernel, rfl⟩
theorem e_X7_pushFound_1 : DC cX7_pushFound 1 (.iconst 0) 1 2 := ⟨by decide +kernel, rfl⟩
theorem e_X7_pushFound_2 : DC cX7_pushFound 2 (.aload_n 0) 1 3 := ⟨by decide +kernel, rfl⟩
theorem e_X7_pushFound_3 : DC cX7_pushFound 3 (.getfield 119) 3 6 := ⟨by decide +kernel, rfl⟩
theorem e_X7_pushFound_6 : DC cX7_pushFound 6 (.iconst 1) 1 7 := ⟨by decide +kernel, rfl⟩
theorem e_X7_pushFound_7 : DC cX7_pushFound 7 (.isub) 1 8 := ⟨by decide +kernel, rfl⟩
theorem e_X7_pushFound_8 : DC cX7_pushFound 8 (.invokestatic 106) 3 11 := ⟨by decide +kernel, rfl⟩
theorem e_X7_pushFound_11 : DB cX7_pushFound 11 (.ifCond .eq 21) (21) 3 14 32 := ⟨by decide +kernel, rfl, rfl⟩
theorem e_X7_pushFound_14 : DC cX7_pushFound 14 (.iload_n 2) 1 15 := ⟨by decide +kernel, rfl⟩
theorem e_X7_pushFound_15 : DC cX7_pushFound 15 (.iconst 0) 1 16 := ⟨by decide +kernel, rfl⟩
theorem e_X7_pushFound_16 : DC cX7_pushFound 16 (.aload_n 0) 1 17 := ⟨by decide +kernel, rfl⟩
theorem e_X7_pushFound_17 : DC cX7_pushFound 17 (.getfield 110) 3 20 := ⟨by decide +kernel, rfl⟩
theorem e_X7_pushFound_20 : DC cX7_pushFound 20 (.iconst 1) 1 21 := ⟨by decide +kernel, rfl⟩
theorem e_X7_pushFound_21 : DC cX7_pushFound 21 (.isub) 1 22 := ⟨by decide +kernel, rfl⟩
theorem e_X7_pushFound_22 : DC cX7_pushFound 22 (.invokestatic 106) 3 25 := ⟨by decide +kernel, rfl⟩
theorem e_X7_pushFound_25 : DB cX7_pushFound 25 (.ifCond .eq 7) (7) 3 28 32 := ⟨by decide +kernel, rfl, rfl⟩
theorem e_X7_pushFound_28 : DC cX7_pushFound 28 (.iconst 1) 1 29 := ⟨by decide +kernel, rfl⟩
theorem e_X7_pushFound_29 : DB cX7_pushFound 29 (.goto 4) (4) 3 32 33 := ⟨by decide +kernel, rfl, rfl⟩
theorem e_X7_pushFound_32 : DC cX7_pushFound 32 (.iconst 0) 1 33 := ⟨by decide +kernel, rfl⟩
theorem e_X7_pushFound_33 : DC cX7_pushFound 33 (.istore_n 3) 1 34 := ⟨by decide +kernel, rfl⟩
theorem e_X7_pushFound_34 : DC cX7_pushFound 34 (.iload_n 3) 1 35 := ⟨by decide +kernel, rfl⟩
theorem e_X7_pushFound_35 : DB cX7_pushFound 35 (.ifCond .eq 17) (17) 3 38 52 := ⟨by decide +kernel, rfl, rfl⟩
theorem e_X7_pushFound_38 : DC cX7_pushFound 38 (.aload_n 0) 1 39 := ⟨by decide +kernel, rfl⟩
theorem e_X7_pushFound_39 : DC cX7_pushFound 39 (.aload_n 0) 1 40 := ⟨by decide +kernel, rfl⟩
theorem e_X7_pushFound_40 : DC cX7_pushFound 40 (.getfield 37) 3 43 := ⟨by decide +kernel, rfl⟩
theorem e_X7_pushFound_43 : DC cX7_pushFound 43 (.iload_n 1) 1 44 := ⟨by decide +kernel, rfl⟩
theorem e_X7_pushFound_44 : DC cX7_pushFound 44 (.iaload) 1 45 := ⟨by decide +kernel, rfl⟩
theorem e_X7_pushFound_45 : DC cX7_pushFound 45 (.iload_n 2) 1 46 := ⟨by decide +kernel, rfl⟩
theorem e_X7_pushFound_46 : DC cX7_pushFound 46 (.invokevirtual 122) 3 49 := ⟨by decide +kernel, rfl⟩
theorem e_X7_pushFound_49 : DB cX7_pushFound 49 (.goto 4) (4) 3 52 53 := ⟨by decide +kernel, rfl, rfl⟩
theorem e_X7_pushFound_52 : DC cX7_pushFound 52 (.iconst (-1)) 1 53 := ⟨by decide +kernel, rfl⟩
theorem e_X7_pushFound_53 : DC cX7_pushFound 53 (.ireturn) 1 54 := ⟨by decide +kernel, rfl⟩
noncomputable def m_X7_pushFound_33 (t_distanceMany : Int) (t_pushStep : Int) (t_found : Nat → Int) (v1 : Int) (v2 : Int) (s0 : Int) : Option (Int) :=
  if s0 = 0 then (some ((-1))) else (chk (inB v1 512) ((m_X7_pushOf t_distanceMany t_pushStep (t_found (Int.toNat v1)) v2).bind (fun y4 => some (y4))))

set_option maxRecDepth 10000 in
theorem g_X7_pushFound_33 {l : Launch} {E : EE} {b0 n : Nat} {h : AH} {a_t : Nat} {t_pullMany t_bestMany t_distanceMany t_pushStep t_foundMany v1 v2 s0 : Int} {t_found : Nat → Int} {r : Int} (ao : AO b0 n [a_t, (a_t + 15)]) (ok_t_distanceMany : inI t_distanceMany) (ok_t_pushStep : inI t_pushStep) (ok_t_foundMany : inI t_foundMany) (ok_t_found : okA t_found) (ok_v1 : inI v1) (ok_v2 : inI v2) (ok_s0 : inZ s0) (hs : m_X7_pushFound_33 t_distanceMany t_pushStep t_found v1 v2 s0 = some r) : G l E b0 M_X7_pushFound (fun _ => True) (ZM E b0 (some (vI r)) (ov [a_t, (a_t + 15)] [.inr (7, fsX7 a_t t_pullMany t_bestMany t_distanceMany t_pushStep t_foundMany), IA E 512 t_found] h) n (inI r) 0 0) 0 0 n (ov [a_t, (a_t + 15)] [.inr (7, fsX7 a_t t_pullMany t_bestMany t_distanceMany t_pushStep t_foundMany), IA E 512 t_found] h) 33 [some (.ref a_t), some (vI v1), some (vI v2), none] [vI s0] := by
  rw [m_X7_pushFound_33] at hs
  refine g_istore_n e_X7_pushFound_33 st1_3 rfl ?_
  refine g_iload_n e_X7_pushFound_34 rfl ?_
  refine g_if_eq e_X7_pushFound_35 (inZ_I ok_s0) hs (fun c35 hs => ?_) (fun c35 hs => ?_)
  · refine g_iconst e_X7_pushFound_52 ?_
    obtain rfl := Option.some.inj hs
    exact g_iret rfl (by decide : inI (-1)) e_X7_pushFound_53
  · refine g_aload_n e_X7_pushFound_38 rfl ?_
    refine g_aload_n e_X7_pushFound_39 rfl ?_
    refine g_get 0 8 ao rfl rfl fsX7_g8 fl_X7_37 e_X7_pushFound_40 ?_
    refine g_iload_n e_X7_pushFound_43 rfl ?_
    refine g_iald 1 ao rfl rfl (Nat.le_of_ble_eq_true rfl) e_X7_pushFound_44 hs (fun hi3 hs => ?_)
    refine g_iload_n e_X7_pushFound_45 rfl ?_
    obtain ⟨y4, hy4, hs⟩ := bind_elim hs
    refine g_callVr [vI (t_found (Int.toNat v1)), vI v2] cv_X7_122 ⟨rfl, rfl, Nat.le_of_ble_eq_true rfl, Nat.le_of_ble_eq_true rfl⟩ (ct_X7_pushOf (AO_call [0] ao (by decide) rfl) (FA_call [0] ao.1 rfl rfl) ok_t_distanceMany ok_t_pushStep (ok_t_found _) ok_v2 hy4) e_X7_pushFound_46 (ao.2 0 _ rfl) (ov_get 0 ao.1 rfl rfl) rfl rfl rfl (Nat.le_of_ble_eq_true rfl) ⟨Nat.le_refl _, Nat.le_refl _⟩ (fun Py4 => ?_)
    refine g_goto e_X7_pushFound_49 ?_
    obtain rfl := Option.some.inj hs
    exact g_iret rfl Py4 e_X7_pushFound_53

noncomputable def m_X7_pushFound_32 (t_distanceMany : Int) (t_pushStep : Int) (t_found : Nat → Int) (v1 : Int) (v2 : Int) : Option (Int) :=
  m_X7_pushFound_33 t_distanceMany t_pushStep t_found v1 v2 0

set_option maxRecDepth 10000 in
theorem g_X7_pushFound_32 {l : Launch} {E : EE} {b0 n : Nat} {h : AH} {a_t : Nat} {t_pullMany t_bestMany t_distanceMany t_pushStep t_foundMany v1 v2 : Int} {t_found : Nat → Int} {r : Int} (ao : AO b0 n [a_t, (a_t + 15)]) (ok_t_distanceMany : inI t_distanceMany) (ok_t_pushStep : inI t_pushStep) (ok_t_foundMany : inI t_foundMany) (ok_t_found : okA t_found) (ok_v1 : inI v1) (ok_v2 : inI v2) (hs : m_X7_pushFound_32 t_distanceMany t_pushStep t_found v1 v2 = some r) : G l E b0 M_X7_pushFound (fun _ => True) (ZM E b0 (some (vI r)) (ov [a_t, (a_t + 15)] [.inr (7, fsX7 a_t t_pullMany t_bestMany t_distanceMany t_pushStep t_foundMany), IA E 512 t_found] h) n (inI r) 0 0) 0 0 n (ov [a_t, (a_t + 15)] [.inr (7, fsX7 a_t t_pullMany t_bestMany t_distanceMany t_pushStep t_foundMany), IA E 512 t_found] h) 32 [some (.ref a_t), some (vI v1), some (vI v2), none] [] := by
  rw [m_X7_pushFound_32] at hs
  refine g_iconst e_X7_pushFound_32 ?_
  exact g_X7_pushFound_33 ao ok_t_distanceMany ok_t_pushStep ok_t_foundMany ok_t_found ok_v1 ok_v2 (by decide : inZ 0) hs

noncomputable def m_X7_pushFound_0 (t_distanceMany : Int) (t_pushStep : Int) (t_foundMany : Int) (t_found : Nat → Int) (v1 : Int) (v2 : Int) : Option (Int) :=
  chk (inI (t_foundMany - 1)) ((m_X10_within v1 0 (t_foundMany - 1)).bind (fun y2 => if y2 = 0 then (m_X7_pushFound_32 t_distanceMany t_pushStep t_found v1 v2) else (chk (inI (t_distanceMany - 1)) ((m_X10_within v2 0 (t_distanceMany - 1)).bind (fun y6 => if y6 = 0 then (m_X7_pushFound_32 t_distanceMany t_pushStep t_found v1 v2) else (m_X7_pushFound_33 t_distanceMany t_pushStep t_found v1 v2 1))))))

set_option maxRecDepth 10000 in
theorem g_X7_pushFound_0 {l : Launch} {E : EE} {b0 n : Nat} {h : AH} {a_t : Nat} {t_pullMany t_bestMany t_distanceMany t_pushStep t_foundMany v1 v2 : Int} {t_found : Nat → Int} {r : Int} (ao : AO b0 n [a_t, (a_t + 15)]) (ok_t_distanceMany : inI t_distanceMany) (ok_t_pushStep : inI t_pushStep) (ok_t_foundMany : inI t_foundMany) (ok_t_found : okA t_found) (ok_v1 : inI v1) (ok_v2 : inI v2) (hs : m_X7_pushFound_0 t_distanceMany t_pushStep t_foundMany t_found v1 v2 = some r) : G l E b0 M_X7_pushFound (fun _ => True) (ZM E b0 (some (vI r)) (ov [a_t, (a_t + 15)] [.inr (7, fsX7 a_t t_pullMany t_bestMany t_distanceMany t_pushStep t_foundMany), IA E 512 t_found] h) n (inI r) 0 0) 0 0 n (ov [a_t, (a_t + 15)] [.inr (7, fsX7 a_t t_pullMany t_bestMany t_distanceMany t_pushStep t_foundMany), IA E 512 t_found] h) 0 [some (.ref a_t), some (vI v1), some (vI v2), none] [] := by
  rw [m_X7_pushFound_0] at hs
  refine g_iload_n e_X7_pushFound_0 rfl ?_
  refine g_iconst e_X7_pushFound_1 ?_
  refine g_aload_n e_X7_pushFound_2 rfl ?_
  refine g_get 0 11 ao rfl rfl fsX7_g11 fl_X7_119 e_X7_pushFound_3 ?_
  refine g_iconst e_X7_pushFound_6 ?_
  refine g_isub e_X7_pushFound_7 ?_
  obtain ⟨hc1, hs⟩ := chk_elim hs
  obtain ⟨y2, hy2, hs⟩ := bind_elim hs
  refine g_callSr [vI v1, vI 0, vI (t_foundMany - 1)] cs_X7_106 ⟨rfl, rfl, Nat.le_of_ble_eq_true rfl, Nat.le_of_ble_eq_true rfl⟩ (ct_X10_within ⟨List.nodup_nil, fun i a h => by simp at h⟩ (fun i a e h => by simp at h) ok_v1 (by decide : inI 0) hc1 hy2) e_X7_pushFound_8 rfl rfl (Nat.le_of_ble_eq_true rfl) ⟨Nat.le_refl _, Nat.le_refl _⟩ (fun Py2 => ?_)
  refine g_if_eq e_X7_pushFound_11 (inZ_I Py2) hs (fun c11 hs => ?_) (fun c11 hs => ?_)
  · exact g_X7_pushFound_32 ao ok_t_distanceMany ok_t_pushStep ok_t_foundMany ok_t_found ok_v1 ok_v2 hs
  · refine g_iload_n e_X7_pushFound_14 rfl ?_
    refine g_iconst e_X7_pushFound_15 ?_
    refine g_aload_n e_X7_pushFound_16 rfl ?_
    refine g_get 0 9 ao rfl rfl fsX7_g9 fl_X7_110 e_X7_pushFound_17 ?_
    refine g_iconst e_X7_pushFound_20 ?_
    refine g_isub e_X7_pushFound_21 ?_
    obtain ⟨hc5, hs⟩ := chk_elim hs
    obtain ⟨y6, hy6, hs⟩ := bind_elim hs
    refine g_callSr [vI v2, vI 0, vI (t_distanceMany - 1)] cs_X7_106 ⟨rfl, rfl, Nat.le_of_ble_eq_true rfl, Nat.le_of_ble_eq_true rfl⟩ (ct_X10_within ⟨List.nodup_nil, fun i a h => by simp at h⟩ (fun i a e h => by simp at h) ok_v2 (by decide : inI 0) hc5 hy6) e_X7_pushFound_22 rfl rfl (Nat.le_of_ble_eq_true rfl) ⟨Nat.le_refl _, Nat.le_refl _⟩ (fun Py6 => ?_)
    refine g_if_eq e_X7_pushFound_25 (inZ_I Py6) hs (fun c25 hs => ?_) (fun c25 hs => ?_)
    · exact g_X7_pushFound_32 ao ok_t_distanceMany ok_t_pushStep ok_t_foundMany ok_t_found ok_v1 ok_v2 hs
    · refine g_iconst e_X7_pushFound_28 ?_
      refine g_goto e_X7_pushFound_29 ?_
      exact g_X7_pushFound_33 ao ok_t_distanceMany ok_t_pushStep ok_t_foundMany ok_t_found ok_v1 ok_v2 (by decide : inZ 1) hs

noncomputable def m_X7_pushFound (t_distanceMany : Int) (t_pushStep : Int) (t_foundMany : Int) (t_found : Nat → Int) (v1 : Int) (v2 : Int) : Option (Int) := m_X7_pushFound_0 t_distanceMany t_pushStep t_foundMany t_found v1 v2

set_option maxRecDepth 10000 in
theorem ct_X7_pushFound {l : Launch} {E : EE} {b0 n : Nat} {h : AH} {a_t : Nat} {t_pullMany t_bestMany t_distanceMany t_pushStep t_foundMany : Int} {t_found : Nat → Int} {v1 v2 : Int} (ao : AO b0 n [a_t, (a_t + 15)]) (hf : FA h [a_t, (a_t + 15)] [.inr (7, fsX7 a_t t_pullMany t_bestMany t_distanceMany t_pushStep t_foundMany), IA E 512 t_found]) (ok_t_distanceMany : inI t_distanceMany) (ok_t_pushStep : inI t_pushStep) (ok_t_foundMany : inI t_foundMany) (ok_t_found : okA t_found) (ok_v1 : inI v1) (ok_v2 : inI v2) {r : Int} (hm : m_X7_pushFound t_distanceMany t_pushStep t_foundMany t_found v1 v2 = some r) : Ct l E b0 M_X7_pushFound 0 0 [.ref a_t, vI v1, vI v2] h n (some (vI r)) h n (inI r) := by
  rw [m_X7_pushFound] at hm
  have hg : G l E b0 M_X7_pushFound (fun _ => True) (ZM E b0 (some (vI r)) (ov [a_t, (a_t + 15)] [.inr (7, fsX7 a_t t_pullMany t_bestMany t_distanceMany t_pushStep t_foundMany), IA E 512 t_found] h) n (inI r) 0 0) 0 0 n (ov [a_t, (a_t + 15)] [.inr (7, fsX7 a_t t_pullMany t_bestMany t_distanceMany t_pushStep t_foundMany), IA E 512 t_found] h) 0 [some (.ref a_t), some (vI v1), some (vI v2), none] [] := by
    have hs := hm
    exact g_X7_pushFound_0 ao ok_t_distanceMany ok_t_pushStep ok_t_foundMany ok_t_found ok_v1 ok_v2 hs
  rw [FA_id hf] at hg
  exact Ct_of [some (.ref a_t), some (vI v1), some (vI v2), none] ⟨by decide +kernel, rfl⟩ rfl (Nat.le_of_ble_eq_true rfl) hg


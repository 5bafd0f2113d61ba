def M_X2_has : MB := (yX2_has, cX2_has, 2, (some .boolean), ({ frames := 2, cells := 0, slots := 0, locals := 62 } : Room), RX2)
def M_X2_newSystem : MB := (yX2_newSystem, cX2_newSystem, 5, (some .int), ({ frames := 3, cells := 0, slots := 0, locals := 83 } : Room), RX2)
def M_X2_tellHardening : MB := (yX2_tellHardening, cX2_tellHardening, 3, (some .boolean), ({ frames := 2, cells := 0, slots := 0, locals := 62 } : Room), RX2)
def M_X2_curvePoint : MB := (yX2_curvePoint, cX2_curvePoint, 2, (some .long), ({ frames := 2, cells := 0, slots := 0, locals := 62 } : Room), RX2)
def M_X2_forceOn : MB := (yX2_forceOn, cX2_forceOn, 4, (some .int), ({ frames := 4, cells := 0, slots := 0, locals := 120 } : Room), RX2)
theorem cb_X4_forceOf : CB M_X4_forceOf 1 := ⟨GW_of 1312 (by decide +kernel) (by decide +kernel), GW_of 89 (by decide +kernel) (by decide +kernel), by decide +kernel, by decide +kernel, by decide +kernel⟩
theorem k_X2_152 : Cond.constantLong RX2 152 (Int64.ofInt (-1000000000000000)) ∈ GW := GW_of 1354 (by decide +kernel) (by decide +kernel)
theorem fl_X2_41 : FL RX2 41 2 6 := ⟨RX2, TX2, 12, rfl, by decide, rfl, Or.inl (GW_of 428 (by decide +kernel) (by decide +kernel))⟩
theorem fl_X2_49 : FL RX2 49 1 1 := ⟨RX1, TX1, 7, rfl, by decide, rfl, Or.inr (List.mem_of_getElem? (i := 37) (by decide +kernel))⟩
theorem fl_X2_22 : FL RX2 22 2 1 := ⟨RX2, TX2, 12, rfl, by decide, rfl, Or.inl (GW_of 423 (by decide +kernel) (by decide +kernel))⟩
theorem fl_X2_60 : FL RX2 60 1 0 := ⟨RX1, TX1, 7, rfl, by decide, rfl, Or.inr (List.mem_of_getElem? (i := 33) (by decide +kernel))⟩
theorem fl_X2_26 : FL RX2 26 2 2 := ⟨RX2, TX2, 12, rfl, by decide, rfl, Or.inl (GW_of 424 (by decide +kernel) (by decide +kernel))⟩
theorem fw_X2_41 : FW RX2 41 2 6 false .int := ⟨RX2, TX2, 12, rfl, by decide, rfl, rfl, by decide +kernel, Or.inl (GW_of 428 (by decide +kernel) (by decide +kernel)), fun h => by cases h⟩
theorem fw_X2_61 : FW RX2 61 2 7 false .int := ⟨RX2, TX2, 12, rfl, by decide, rfl, rfl, by decide +kernel, Or.inl (GW_of 430 (by decide +kernel) (by decide +kernel)), fun h => by cases h⟩
theorem fw_X2_64 : FW RX2 64 2 8 false .int := ⟨RX2, TX2, 12, rfl, by decide, rfl, rfl, by decide +kernel, Or.inl (GW_of 431 (by decide +kernel) (by decide +kernel)), fun h => by cases h⟩
theorem fl_X2_138 : FL RX2 138 2 9 := ⟨RX2, TX2, 12, rfl, by decide, rfl, Or.inl (GW_of 432 (by decide +kernel) (by decide +kernel))⟩
theorem fl_X2_37 : FL RX2 37 2 5 := ⟨RX2, TX2, 12, rfl, by decide, rfl, Or.inl (GW_of 427 (by decide +kernel) (by decide +kernel))⟩
theorem cs_X2_45 : CS RX2 45 M_X10_within 3 := ⟨cb_X10_within, Or.inr (List.mem_of_getElem? (i := 18) (by decide +kernel)), GW_of 563 (by decide +kernel) (by decide +kernel)⟩
theorem cv_X2_52 : CV RX2 52 M_X8_partOf 2 := ⟨cb_X8_partOf, Or.inl (GW_of 1259 (by decide +kernel) (by decide +kernel)), GW_of 777 (by decide +kernel) (by decide +kernel), GW_of 778 (by decide +kernel) (by decide +kernel)⟩
theorem cv_X2_56 : CV RX2 56 M_X8_append 3 := ⟨cb_X8_append, Or.inl (GW_of 1260 (by decide +kernel) (by decide +kernel)), GW_of 697 (by decide +kernel) (by decide +kernel), GW_of 698 (by decide +kernel) (by decide +kernel)⟩
theorem cv_X2_105 : CV RX2 105 M_X4_shareOn 4 := ⟨cb_X4_shareOn, Or.inl (GW_of 1308 (by decide +kernel) (by decide +kernel)), GW_of 951 (by decide +kernel) (by decide +kernel), GW_of 952 (by decide +kernel) (by decide +kernel)⟩
theorem cv_X2_111 : CV RX2 111 M_X4_forceOf 1 := ⟨cb_X4_forceOf, Or.inl (GW_of 1309 (by decide +kernel) (by decide +kernel)), GW_of 1310 (by decide +kernel) (by decide +kernel), GW_of 1311 (by decide +kernel) (by decide +kernel)⟩
/-! ===== X2_has ===== -/
theorem e_X2_has_0 : DC cX2_has 0 (.iload_n 1) 1 1 := ⟨by decide +kernel, rfl⟩
theorem e_X2_has_1 : DC cX2_has 1 (.iconst 0) 1 2 := ⟨by decide +kernel, rfl⟩
theorem e_X2_has_2 : DC cX2_has 2 (.aload_n 0) 1 3 := ⟨by decide +kernel, rfl⟩
theorem e_X2_has_3 : DC cX2_has 3 (.getfield 41) 3 6 := ⟨by decide +kernel, rfl⟩
theorem e_X2_has_6 : DC cX2_has 6 (.iconst 1) 1 7 := ⟨by decide +kernel, rfl⟩
theorem e_X2_has_7 : DC cX2_has 7 (.isub) 1 8 := ⟨by decide +kernel, rfl⟩
theorem e_X2_has_8 : DC cX2_has 8 (.invokestatic 45) 3 11 := ⟨by decide +kernel, rfl⟩
theorem e_X2_has_11 : DC cX2_has 11 (.ireturn) 1 12 := ⟨by decide +kernel, rfl⟩
noncomputable def m_X2_has_0 (t_many : Int) (v1 : Int) : Option (Int) :=
  chk (inI (t_many - 1)) ((m_X10_within v1 0 (t_many - 1)).bind (fun y2 => some (y2)))

set_option maxRecDepth 10000 in
theorem g_X2_has_0 {l : Launch} {E : EE} {b0 n : Nat} {h : AH} {a_t : Nat} {t_many t_ownPart t_crossPart t_pointMany t_wallFirst t_wallSize v1 : Int} {r : Int} (ao : AO b0 n [a_t]) (ok_t_many : inI t_many) (ok_v1 : inI v1) (hs : m_X2_has_0 t_many v1 = some r) : G l E b0 M_X2_has (fun _ => True) (ZM E b0 (some (vI r)) (ov [a_t] [.inr (2, fsX2 a_t t_many t_ownPart t_crossPart t_pointMany t_wallFirst t_wallSize)] h) n (inZ r) 0 0) 0 0 n (ov [a_t] [.inr (2, fsX2 a_t t_many t_ownPart t_crossPart t_pointMany t_wallFirst t_wallSize)] h) 0 [some (.ref a_t), some (vI v1)] [] := by
  rw [m_X2_has_0] at hs
  refine g_iload_n e_X2_has_0 rfl ?_
  refine g_iconst e_X2_has_1 ?_
  refine g_aload_n e_X2_has_2 rfl ?_
  refine g_get 0 6 ao rfl rfl fsX2_g6 fl_X2_41 e_X2_has_3 ?_
  refine g_iconst e_X2_has_6 ?_
  refine g_isub e_X2_has_7 ?_
  obtain ⟨hc1, hs⟩ := chk_elim hs
  obtain ⟨y2, hy2, hs⟩ := bind_elim hs
  refine g_callSr [vI v1, vI 0, vI (t_many - 1)] cs_X2_45 ⟨rfl, rfl, Nat.le_of_ble_eq_true rfl, Nat.le_of_ble_eq_true rfl⟩ (ct_X10_within ⟨List.nodup_nil, fun i a h => by simp at h⟩ (fun i a e h => by simp at h) ok_v1 (by decide : inI 0) hc1 hy2) e_X2_has_8 rfl rfl (Nat.le_of_ble_eq_true rfl) ⟨Nat.le_refl _, Nat.le_refl _⟩ (fun Py2 => ?_)
  obtain rfl := Option.some.inj hs
  exact g_zret rfl Py2 Py2 e_X2_has_11

noncomputable def m_X2_has (t_many : Int) (v1 : Int) : Option (Int) := m_X2_has_0 t_many v1

set_option maxRecDepth 10000 in
theorem ct_X2_has {l : Launch} {E : EE} {b0 n : Nat} {h : AH} {a_t : Nat} {t_many t_ownPart t_crossPart t_pointMany t_wallFirst t_wallSize : Int} {v1 : Int} (ao : AO b0 n [a_t]) (hf : FA h [a_t] [.inr (2, fsX2 a_t t_many t_ownPart t_crossPart t_pointMany t_wallFirst t_wallSize)]) (ok_t_many : inI t_many) (ok_v1 : inI v1) {r : Int} (hm : m_X2_has t_many v1 = some r) : Ct l E b0 M_X2_has 0 0 [.ref a_t, vI v1] h n (some (vI r)) h n (inZ r) := by
  rw [m_X2_has] at hm
  have hg : G l E b0 M_X2_has (fun _ => True) (ZM E b0 (some (vI r)) (ov [a_t] [.inr (2, fsX2 a_t t_many t_ownPart t_crossPart t_pointMany t_wallFirst t_wallSize)] h) n (inZ r) 0 0) 0 0 n (ov [a_t] [.inr (2, fsX2 a_t t_many t_ownPart t_crossPart t_pointMany t_wallFirst t_wallSize)] h) 0 [some (.ref a_t), some (vI v1)] [] := by
    have hs := hm
    exact g_X2_has_0 ao ok_t_many ok_v1 hs
  rw [FA_id hf] at hg
  exact Ct_of [some (.ref a_t), some (vI v1)] ⟨by decide +kernel, rfl⟩ rfl (Nat.le_of_ble_eq_true rfl) hg

/-! ===== X2_newSystem ===== -/
theorem e_X2_newSystem_0 : DC cX2_newSystem 0 (.aload_n 0) 1 1 := ⟨by decide +kernel, rfl⟩
theorem e_X2_newSystem_1 : DC cX2_newSystem 1 (.getfield 41) 3 4 := ⟨by decide +kernel, rfl⟩
theorem e_X2_newSystem_4 : DC cX2_newSystem 4 (.bipush 8) 2 6 := ⟨by decide +kernel, rfl⟩
theorem e_X2_newSystem_6 : DB cX2_newSystem 6 (.if_icmp .lt 5) (5) 3 9 11 := ⟨by decide +kernel, rfl, rfl⟩
theorem e_X2_newSystem_9 : DC cX2_newSystem 9 (.iconst (-1)) 1 10 := ⟨by decide +kernel, rfl⟩
theorem e_X2_newSystem_10 : DC cX2_newSystem 10 (.ireturn) 1 11 := ⟨by decide +kernel, rfl⟩
theorem e_X2_newSystem_11 : DC cX2_newSystem 11 (.aload_n 1) 1 12 := ⟨by decide +kernel, rfl⟩
theorem e_X2_newSystem_12 : DC cX2_newSystem 12 (.getfield 49) 3 15 := ⟨by decide +kernel, rfl⟩
theorem e_X2_newSystem_15 : DC cX2_newSystem 15 (.astore 4) 2 17 := ⟨by decide +kernel, rfl⟩
theorem e_X2_newSystem_17 : DC cX2_newSystem 17 (.aload_n 0) 1 18 := ⟨by decide +kernel, rfl⟩
theorem e_X2_newSystem_18 : DC cX2_newSystem 18 (.getfield 22) 3 21 := ⟨by decide +kernel, rfl⟩
theorem e_X2_newSystem_21 : DC cX2_newSystem 21 (.aload 4) 2 23 := ⟨by decide +kernel, rfl⟩
theorem e_X2_newSystem_23 : DC cX2_newSystem 23 (.iload_n 2) 1 24 := ⟨by decide +kernel, rfl⟩
theorem e_X2_newSystem_24 : DC cX2_newSystem 24 (.iconst 0) 1 25 := ⟨by decide +kernel, rfl⟩
theorem e_X2_newSystem_25 : DC cX2_newSystem 25 (.invokevirtual 52) 3 28 := ⟨by decide +kernel, rfl⟩
theorem e_X2_newSystem_28 : DC cX2_newSystem 28 (.aload 4) 2 30 := ⟨by decide +kernel, rfl⟩
theorem e_X2_newSystem_30 : DC cX2_newSystem 30 (.iload_n 2) 1 31 := ⟨by decide +kernel, rfl⟩
theorem e_X2_newSystem_31 : DC cX2_newSystem 31 (.iconst 1) 1 32 := ⟨by decide +kernel, rfl⟩
theorem e_X2_newSystem_32 : DC cX2_newSystem 32 (.invokevirtual 52) 3 35 := ⟨by decide +kernel, rfl⟩
theorem e_X2_newSystem_35 : DC cX2_newSystem 35 (.aload 4) 2 37 := ⟨by decide +kernel, rfl⟩
theorem e_X2_newSystem_37 : DC cX2_newSystem 37 (.iload_n 2) 1 38 := ⟨by decide +kernel, rfl⟩
theorem e_X2_newSystem_38 : DC cX2_newSystem 38 (.iconst 2) 1 39 := ⟨by decide +kernel, rfl⟩
theorem e_X2_newSystem_39 : DC cX2_newSystem 39 (.invokevirtual 52) 3 42 := ⟨by decide +kernel, rfl⟩
theorem e_X2_newSystem_42 : DC cX2_newSystem 42 (.invokevirtual 56) 3 45 := ⟨by decide +kernel, rfl⟩
theorem e_X2_newSystem_45 : DC cX2_newSystem 45 (.aload_n 1) 1 46 := ⟨by decide +kernel, rfl⟩
theorem e_X2_newSystem_46 : DC cX2_newSystem 46 (.getfield 60) 3 49 := ⟨by decide +kernel, rfl⟩
theorem e_X2_newSystem_49 : DC cX2_newSystem 49 (.astore 4) 2 51 := ⟨by decide +kernel, rfl⟩
theorem e_X2_newSystem_51 : DC cX2_newSystem 51 (.aload_n 0) 1 52 := ⟨by decide +kernel, rfl⟩
theorem e_X2_newSystem_52 : DC cX2_newSystem 52 (.getfield 26) 3 55 := ⟨by decide +kernel, rfl⟩
theorem e_X2_newSystem_55 : DC cX2_newSystem 55 (.aload 4) 2 57 := ⟨by decide +kernel, rfl⟩
theorem e_X2_newSystem_57 : DC cX2_newSystem 57 (.iload_n 3) 1 58 := ⟨by decide +kernel, rfl⟩
theorem e_X2_newSystem_58 : DC cX2_newSystem 58 (.iconst 0) 1 59 := ⟨by decide +kernel, rfl⟩
theorem e_X2_newSystem_59 : DC cX2_newSystem 59 (.invokevirtual 52) 3 62 := ⟨by decide +kernel, rfl⟩
theorem e_X2_newSystem_62 : DC cX2_newSystem 62 (.aload 4) 2 64 := ⟨by decide +kernel, rfl⟩
theorem e_X2_newSystem_64 : DC cX2_newSystem 64 (.iload_n 3) 1 65 := ⟨by decide +kernel, rfl⟩
theorem e_X2_newSystem_65 : DC cX2_newSystem 65 (.iconst 1) 1 66 := ⟨by decide +kernel, rfl⟩
theorem e_X2_newSystem_66 : DC cX2_newSystem 66 (.invokevirtual 52) 3 69 := ⟨by decide +kernel, rfl⟩
theorem e_X2_newSystem_69 : DC cX2_newSystem 69 (.aload 4) 2 71 := ⟨by decide +kernel, rfl⟩
theorem e_X2_newSystem_71 : DC cX2_newSystem 71 (.iload_n 3) 1 72 := ⟨by decide +kernel, rfl⟩
theorem e_X2_newSystem_72 : DC cX2_newSystem 72 (.iconst 2) 1 73 := ⟨by decide +kernel, rfl⟩
theorem e_X2_newSystem_73 : DC cX2_newSystem 73 (.invokevirtual 52) 3 76 := ⟨by decide +kernel, rfl⟩
theorem e_X2_newSystem_76 : DC cX2_newSystem 76 (.invokevirtual 56) 3 79 := ⟨by decide +kernel, rfl⟩
theorem e_X2_newSystem_79 : DC cX2_newSystem 79 (.aload_n 0) 1 80 := ⟨by decide +kernel, rfl⟩
theorem e_X2_newSystem_80 : DC cX2_newSystem 80 (.dup) 1 81 := ⟨by decide +kernel, rfl⟩
theorem e_X2_newSystem_81 : DC cX2_newSystem 81 (.getfield 41) 3 84 := ⟨by decide +kernel, rfl⟩
theorem e_X2_newSystem_84 : DC cX2_newSystem 84 (.iconst 1) 1 85 := ⟨by decide +kernel, rfl⟩
theorem e_X2_newSystem_85 : DC cX2_newSystem 85 (.iadd) 1 86 := ⟨by decide +kernel, rfl⟩
theorem e_X2_newSystem_86 : DC cX2_newSystem 86 (.putfield 41) 3 89 := ⟨by decide +kernel, rfl⟩
theorem e_X2_newSystem_89 : DC cX2_newSystem 89 (.aload_n 0) 1 90 := ⟨by decide +kernel, rfl⟩
theorem e_X2_newSystem_90 : DC cX2_newSystem 90 (.getfield 41) 3 93 := ⟨by decide +kernel, rfl⟩
theorem e_X2_newSystem_93 : DC cX2_newSystem 93 (.iconst 1) 1 94 := ⟨by decide +kernel, rfl⟩
theorem e_X2_newSystem_94 : DC cX2_newSystem 94 (.isub) 1 95 := ⟨by decide +kernel, rfl⟩
theorem e_X2_newSystem_95 : DC cX2_newSystem 95 (.ireturn) 1 96 := ⟨by decide +kernel, rfl⟩
noncomputable def m_X2_newSystem_0 (t_many : Int) (t_planes_many : Int) (t_planes_xs : Nat → Int) (t_planes_ys : Nat → Int) (t_planes_zs : Nat → Int) (t_steps_many : Int) (t_steps_xs : Nat → Int) (t_steps_ys : Nat → Int) (t_steps_zs : Nat → Int) (p1_steps_many : Int) (p1_steps_xs : Nat → Int) (p1_steps_ys : Nat → Int) (p1_steps_zs : Nat → Int) (p1_planes_many : Int) (p1_planes_xs : Nat → Int) (p1_planes_ys : Nat → Int) (p1_planes_zs : Nat → Int) (v2 : Int) (v3 : Int) : Option (Int × Int × Int × (Nat → Int) × (Nat → Int) × (Nat → Int) × Int × (Nat → Int) × (Nat → Int) × (Nat → Int)) :=
  if t_many < 8 then ((m_X8_partOf 16 p1_planes_many p1_planes_xs p1_planes_ys p1_planes_zs v2 0).bind (fun y1 => (m_X8_partOf 16 p1_planes_many p1_planes_xs p1_planes_ys p1_planes_zs v2 1).bind (fun y2 => (m_X8_partOf 16 p1_planes_many p1_planes_xs p1_planes_ys p1_planes_zs v2 2).bind (fun y3 => (m_X8_append 8 t_planes_many t_planes_xs t_planes_ys t_planes_zs y1 y2 y3).bind (fun y4 => (m_X8_partOf 16 p1_steps_many p1_steps_xs p1_steps_ys p1_steps_zs v3 0).bind (fun y5 => (m_X8_partOf 16 p1_steps_many p1_steps_xs p1_steps_ys p1_steps_zs v3 1).bind (fun y6 => (m_X8_partOf 16 p1_steps_many p1_steps_xs p1_steps_ys p1_steps_zs v3 2).bind (fun y7 => (m_X8_append 8 t_steps_many t_steps_xs t_steps_ys t_steps_zs y5 y6 y7).bind (fun y8 => chk (inI (t_many + 1)) (chk (inI ((t_many + 1) - 1)) (some ((t_many + 1) - 1, t_many + 1, y4.1, y4.2.1, y4.2.2.1, y4.2.2.2, y8.1, y8.2.1, y8.2.2.1, y8.2.2.2)))))))))))) else (some ((-1), t_many, t_planes_many, t_planes_xs, t_planes_ys, t_planes_zs, t_steps_many, t_steps_xs, t_steps_ys, t_steps_zs))

set_option maxRecDepth 10000 in
theorem g_X2_newSystem_0 {l : Launch} {E : EE} {b0 n : Nat} {h : AH} {a_t a_p1 : Nat} {t_many t_ownPart t_crossPart t_pointMany t_wallFirst t_wallSize t_planes_many t_steps_many p1_sightMany p1_steps_many p1_planes_many v2 v3 : Int} {t_planes_xs t_planes_ys t_planes_zs t_steps_xs t_steps_ys t_steps_zs p1_steps_xs p1_steps_ys p1_steps_zs p1_planes_xs p1_planes_ys p1_planes_zs : Nat → Int} {r : Int × Int × Int × (Nat → Int) × (Nat → Int) × (Nat → Int) × Int × (Nat → Int) × (Nat → Int) × (Nat → Int)} (ao : AO b0 n [a_t, (a_t + 2), (a_t + 3), (a_t + 4), (a_t + 5), (a_t + 6), (a_t + 7), (a_t + 8), (a_t + 9), a_p1, (a_p1 + 1), (a_p1 + 2), (a_p1 + 3), (a_p1 + 4), (a_p1 + 5), (a_p1 + 6), (a_p1 + 7), (a_p1 + 8)]) (ok_t_many : inI t_many) (ok_t_planes_many : inI t_planes_many) (ok_t_planes_xs : okA t_planes_xs) (ok_t_planes_ys : okA t_planes_ys) (ok_t_planes_zs : okA t_planes_zs) (ok_t_steps_many : inI t_steps_many) (ok_t_steps_xs : okA t_steps_xs) (ok_t_steps_ys : okA t_steps_ys) (ok_t_steps_zs : okA t_steps_zs) (ok_p1_steps_many : inI p1_steps_many) (ok_p1_steps_xs : okA p1_steps_xs) (ok_p1_steps_ys : okA p1_steps_ys) (ok_p1_steps_zs : okA p1_steps_zs) (ok_p1_planes_many : inI p1_planes_many) (ok_p1_planes_xs : okA p1_planes_xs) (ok_p1_planes_ys : okA p1_planes_ys) (ok_p1_planes_zs : okA p1_planes_zs) (ok_v2 : inI v2) (ok_v3 : inI v3) (hs : m_X2_newSystem_0 t_many t_planes_many t_planes_xs t_planes_ys t_planes_zs t_steps_many t_steps_xs t_steps_ys t_steps_zs p1_steps_many p1_steps_xs p1_steps_ys p1_steps_zs p1_planes_many p1_planes_xs p1_planes_ys p1_planes_zs v2 v3 = some r) : G l E b0 M_X2_newSystem (fun _ => True) (ZM E b0 (some (vI r.1)) (ov [a_t, (a_t + 2), (a_t + 3), (a_t + 4), (a_t + 5), (a_t + 6), (a_t + 7), (a_t + 8), (a_t + 9), a_p1, (a_p1 + 1), (a_p1 + 2), (a_p1 + 3), (a_p1 + 4), (a_p1 + 5), (a_p1 + 6), (a_p1 + 7), (a_p1 + 8)] [.inr (2, fsX2 a_t r.2.1 t_ownPart t_crossPart t_pointMany t_wallFirst t_wallSize), .inr (8, fsX8 (a_t + 2) r.2.2.1), IA E 8 r.2.2.2.1, IA E 8 r.2.2.2.2.1, IA E 8 r.2.2.2.2.2.1, .inr (8, fsX8 (a_t + 6) r.2.2.2.2.2.2.1), IA E 8 r.2.2.2.2.2.2.2.1, IA E 8 r.2.2.2.2.2.2.2.2.1, IA E 8 r.2.2.2.2.2.2.2.2.2, .inr (1, fsX1 a_p1 p1_sightMany), .inr (8, fsX8 (a_p1 + 1) p1_steps_many), IA E 16 p1_steps_xs, IA E 16 p1_steps_ys, IA E 16 p1_steps_zs, .inr (8, fsX8 (a_p1 + 5) p1_planes_many), IA E 16 p1_planes_xs, IA E 16 p1_planes_ys, IA E 16 p1_planes_zs] h) n (inI r.1 ∧ inI r.2.1 ∧ inI r.2.2.1 ∧ okA r.2.2.2.1 ∧ okA r.2.2.2.2.1 ∧ okA r.2.2.2.2.2.1 ∧ inI r.2.2.2.2.2.2.1 ∧ okA r.2.2.2.2.2.2.2.1 ∧ okA r.2.2.2.2.2.2.2.2.1 ∧ okA r.2.2.2.2.2.2.2.2.2) 0 0) 0 0 n (ov [a_t, (a_t + 2), (a_t + 3), (a_t + 4), (a_t + 5), (a_t + 6), (a_t + 7), (a_t + 8), (a_t + 9), a_p1, (a_p1 + 1), (a_p1 + 2), (a_p1 + 3), (a_p1 + 4), (a_p1 + 5), (a_p1 + 6), (a_p1 + 7), (a_p1 + 8)] [.inr (2, fsX2 a_t t_many t_ownPart t_crossPart t_pointMany t_wallFirst t_wallSize), .inr (8, fsX8 (a_t + 2) t_planes_many), IA E 8 t_planes_xs, IA E 8 t_planes_ys, IA E 8 t_planes_zs, .inr (8, fsX8 (a_t + 6) t_steps_many), IA E 8 t_steps_xs, IA E 8 t_steps_ys, IA E 8 t_steps_zs, .inr (1, fsX1 a_p1 p1_sightMany), .inr (8, fsX8 (a_p1 + 1) p1_steps_many), IA E 16 p1_steps_xs, IA E 16 p1_steps_ys, IA E 16 p1_steps_zs, .inr (8, fsX8 (a_p1 + 5) p1_planes_many), IA E 16 p1_planes_xs, IA E 16 p1_planes_ys, IA E 16 p1_planes_zs] h) 0 [some (.ref a_t), some (.ref a_p1), some (vI v2), some (vI v3), none] [] := by
  rw [m_X2_newSystem_0] at hs
  refine g_aload_n e_X2_newSystem_0 rfl ?_
  refine g_get 0 6 ao rfl rfl fsX2_g6 fl_X2_41 e_X2_newSystem_1 ?_
  refine g_bipush e_X2_newSystem_4 bp_8 ?_
  refine g_icmp_lt e_X2_newSystem_6 ok_t_many (by decide : inI 8) hs (fun c6 hs => ?_) (fun c6 hs => ?_)
  · refine g_aload_n e_X2_newSystem_11 rfl ?_
    refine g_get 9 1 ao rfl rfl fsX1_g1 fl_X2_49 e_X2_newSystem_12 ?_
    refine g_astore e_X2_newSystem_15 st1_4 rfl ?_
    refine g_aload_n e_X2_newSystem_17 rfl ?_
    refine g_get 0 1 ao rfl rfl fsX2_g1 fl_X2_22 e_X2_newSystem_18 ?_
    refine g_aload e_X2_newSystem_21 rfl ?_
    refine g_iload_n e_X2_newSystem_23 rfl ?_
    refine g_iconst e_X2_newSystem_24 ?_
    obtain ⟨y1, hy1, hs⟩ := bind_elim hs
    refine g_callVr [vI v2, vI 0] cv_X2_52 ⟨rfl, rfl, Nat.le_of_ble_eq_true rfl, Nat.le_of_ble_eq_true rfl⟩ (ct_X8_partOf (AO_call [14, 15, 16, 17] ao (by decide) rfl) (by omega) (FA_call [14, 15, 16, 17] ao.1 rfl rfl) ok_p1_planes_many ok_p1_planes_xs ok_p1_planes_ys ok_p1_planes_zs ok_v2 (by decide : inI 0) hy1) e_X2_newSystem_25 (ao.2 14 _ rfl) (ov_get 14 ao.1 rfl rfl) rfl rfl rfl (Nat.le_of_ble_eq_true rfl) ⟨Nat.le_refl _, Nat.le_refl _⟩ (fun Py1 => ?_)
    refine g_aload e_X2_newSystem_28 rfl ?_
    refine g_iload_n e_X2_newSystem_30 rfl ?_
    refine g_iconst e_X2_newSystem_31 ?_
    obtain ⟨y2, hy2, hs⟩ := bind_elim hs
    refine g_callVr [vI v2, vI 1] cv_X2_52 ⟨rfl, rfl, Nat.le_of_ble_eq_true rfl, Nat.le_of_ble_eq_true rfl⟩ (ct_X8_partOf (AO_call [14, 15, 16, 17] ao (by decide) rfl) (by omega) (FA_call [14, 15, 16, 17] ao.1 rfl rfl) ok_p1_planes_many ok_p1_planes_xs ok_p1_planes_ys ok_p1_planes_zs ok_v2 (by decide : inI 1) hy2) e_X2_newSystem_32 (ao.2 14 _ rfl) (ov_get 14 ao.1 rfl rfl) rfl rfl rfl (Nat.le_of_ble_eq_true rfl) ⟨Nat.le_refl _, Nat.le_refl _⟩ (fun Py2 => ?_)
    refine g_aload e_X2_newSystem_35 rfl ?_
    refine g_iload_n e_X2_newSystem_37 rfl ?_
    refine g_iconst e_X2_newSystem_38 ?_
    obtain ⟨y3, hy3, hs⟩ := bind_elim hs
    refine g_callVr [vI v2, vI 2] cv_X2_52 ⟨rfl, rfl, Nat.le_of_ble_eq_true rfl, Nat.le_of_ble_eq_true rfl⟩ (ct_X8_partOf (AO_call [14, 15, 16, 17] ao (by decide) rfl) (by omega) (FA_call [14, 15, 16, 17] ao.1 rfl rfl) ok_p1_planes_many ok_p1_planes_xs ok_p1_planes_ys ok_p1_planes_zs ok_v2 (by decide : inI 2) hy3) e_X2_newSystem_39 (ao.2 14 _ rfl) (ov_get 14 ao.1 rfl rfl) rfl rfl rfl (Nat.le_of_ble_eq_true rfl) ⟨Nat.le_refl _, Nat.le_refl _⟩ (fun Py3 => ?_)
    obtain ⟨y4, hy4, hs⟩ := bind_elim hs
    refine g_callVv [vI y1, vI y2, vI y3] cv_X2_56 ⟨rfl, rfl, Nat.le_of_ble_eq_true rfl, Nat.le_of_ble_eq_true rfl⟩ (Ct_heap (ct_X8_append (AO_call [1, 2, 3, 4] ao (by decide) rfl) (by omega) (FA_call [1, 2, 3, 4] ao.1 rfl rfl) ok_t_planes_many ok_t_planes_xs ok_t_planes_ys ok_t_planes_zs Py1 Py2 Py3 hy4) (ov_call (esn := [.inr (2, fsX2 a_t t_many t_ownPart t_crossPart t_pointMany t_wallFirst t_wallSize), .inr (8, fsX8 (a_t + 2) y4.1), IA E 8 y4.2.1, IA E 8 y4.2.2.1, IA E 8 y4.2.2.2, .inr (8, fsX8 (a_t + 6) t_steps_many), IA E 8 t_steps_xs, IA E 8 t_steps_ys, IA E 8 t_steps_zs, .inr (1, fsX1 a_p1 p1_sightMany), .inr (8, fsX8 (a_p1 + 1) p1_steps_many), IA E 16 p1_steps_xs, IA E 16 p1_steps_ys, IA E 16 p1_steps_zs, .inr (8, fsX8 (a_p1 + 5) p1_planes_many), IA E 16 p1_planes_xs, IA E 16 p1_planes_ys, IA E 16 p1_planes_zs]) [1, 2, 3, 4] ao.1 rfl rfl rfl rfl)) e_X2_newSystem_42 (ao.2 1 _ rfl) (ov_get 1 ao.1 rfl rfl) rfl rfl rfl (Nat.le_of_ble_eq_true rfl) ⟨Nat.le_refl _, Nat.le_refl _⟩ (fun Py4 => ?_)
    refine g_aload_n e_X2_newSystem_45 rfl ?_
    refine g_get 9 0 ao rfl rfl fsX1_g0 fl_X2_60 e_X2_newSystem_46 ?_
    refine g_astore e_X2_newSystem_49 st1_4 rfl ?_
    refine g_aload_n e_X2_newSystem_51 rfl ?_
    refine g_get 0 2 ao rfl rfl fsX2_g2 fl_X2_26 e_X2_newSystem_52 ?_
    refine g_aload e_X2_newSystem_55 rfl ?_
    refine g_iload_n e_X2_newSystem_57 rfl ?_
    refine g_iconst e_X2_newSystem_58 ?_
    obtain ⟨y5, hy5, hs⟩ := bind_elim hs
    refine g_callVr [vI v3, vI 0] cv_X2_52 ⟨rfl, rfl, Nat.le_of_ble_eq_true rfl, Nat.le_of_ble_eq_true rfl⟩ (ct_X8_partOf (AO_call [10, 11, 12, 13] ao (by decide) rfl) (by omega) (FA_call [10, 11, 12, 13] ao.1 rfl rfl) ok_p1_steps_many ok_p1_steps_xs ok_p1_steps_ys ok_p1_steps_zs ok_v3 (by decide : inI 0) hy5) e_X2_newSystem_59 (ao.2 10 _ rfl) (ov_get 10 ao.1 rfl rfl) rfl rfl rfl (Nat.le_of_ble_eq_true rfl) ⟨Nat.le_refl _, Nat.le_refl _⟩ (fun Py5 => ?_)
    refine g_aload e_X2_newSystem_62 rfl ?_
    refine g_iload_n e_X2_newSystem_64 rfl ?_
    refine g_iconst e_X2_newSystem_65 ?_
    obtain ⟨y6, hy6, hs⟩ := bind_elim hs
    refine g_callVr [vI v3, vI 1] cv_X2_52 ⟨rfl, rfl, Nat.le_of_ble_eq_true rfl, Nat.le_of_ble_eq_true rfl⟩ (ct_X8_partOf (AO_call [10, 11, 12, 13] ao (by decide) rfl) (by omega) (FA_call [10, 11, 12, 13] ao.1 rfl rfl) ok_p1_steps_many ok_p1_steps_xs ok_p1_steps_ys ok_p1_steps_zs ok_v3 (by decide : inI 1) hy6) e_X2_newSystem_66 (ao.2 10 _ rfl) (ov_get 10 ao.1 rfl rfl) rfl rfl rfl (Nat.le_of_ble_eq_true rfl) ⟨Nat.le_refl _, Nat.le_refl _⟩ (fun Py6 => ?_)
    refine g_aload e_X2_newSystem_69 rfl ?_
    refine g_iload_n e_X2_newSystem_71 rfl ?_
    refine g_iconst e_X2_newSystem_72 ?_
    obtain ⟨y7, hy7, hs⟩ := bind_elim hs
    refine g_callVr [vI v3, vI 2] cv_X2_52 ⟨rfl, rfl, Nat.le_of_ble_eq_true rfl, Nat.le_of_ble_eq_true rfl⟩ (ct_X8_partOf (AO_call [10, 11, 12, 13] ao (by decide) rfl) (by omega) (FA_call [10, 11, 12, 13] ao.1 rfl rfl) ok_p1_steps_many ok_p1_steps_xs ok_p1_steps_ys ok_p1_steps_zs ok_v3 (by decide : inI 2) hy7) e_X2_newSystem_73 (ao.2 10 _ rfl) (ov_get 10 ao.1 rfl rfl) rfl rfl rfl (Nat.le_of_ble_eq_true rfl) ⟨Nat.le_refl _, Nat.le_refl _⟩ (fun Py7 => ?_)
    obtain ⟨y8, hy8, hs⟩ := bind_elim hs
    refine g_callVv [vI y5, vI y6, vI y7] cv_X2_56 ⟨rfl, rfl, Nat.le_of_ble_eq_true rfl, Nat.le_of_ble_eq_true rfl⟩ (Ct_heap (ct_X8_append (AO_call [5, 6, 7, 8] ao (by decide) rfl) (by omega) (FA_call [5, 6, 7, 8] ao.1 rfl rfl) ok_t_steps_many ok_t_steps_xs ok_t_steps_ys ok_t_steps_zs Py5 Py6 Py7 hy8) (ov_call (esn := [.inr (2, fsX2 a_t t_many t_ownPart t_crossPart t_pointMany t_wallFirst t_wallSize), .inr (8, fsX8 (a_t + 2) y4.1), IA E 8 y4.2.1, IA E 8 y4.2.2.1, IA E 8 y4.2.2.2, .inr (8, fsX8 (a_t + 6) y8.1), IA E 8 y8.2.1, IA E 8 y8.2.2.1, IA E 8 y8.2.2.2, .inr (1, fsX1 a_p1 p1_sightMany), .inr (8, fsX8 (a_p1 + 1) p1_steps_many), IA E 16 p1_steps_xs, IA E 16 p1_steps_ys, IA E 16 p1_steps_zs, .inr (8, fsX8 (a_p1 + 5) p1_planes_many), IA E 16 p1_planes_xs, IA E 16 p1_planes_ys, IA E 16 p1_planes_zs]) [5, 6, 7, 8] ao.1 rfl rfl rfl rfl)) e_X2_newSystem_76 (ao.2 5 _ rfl) (ov_get 5 ao.1 rfl rfl) rfl rfl rfl (Nat.le_of_ble_eq_true rfl) ⟨Nat.le_refl _, Nat.le_refl _⟩ (fun Py8 => ?_)
    refine g_aload_n e_X2_newSystem_79 rfl ?_
    refine g_dup e_X2_newSystem_80 rfl ?_
    refine g_get 0 6 ao rfl rfl fsX2_g6 fl_X2_41 e_X2_newSystem_81 ?_
    refine g_iconst e_X2_newSystem_84 ?_
    refine g_iadd e_X2_newSystem_85 ?_
    obtain ⟨hc9, hs⟩ := chk_elim hs
    refine g_put 0 6 ao rfl rfl fsX2_k6 fsX2_s6 ls_0 fw_X2_41 (fun h => by cases h) ⟨rfl, rfl⟩ e_X2_newSystem_86 ?_
    refine g_aload_n e_X2_newSystem_89 rfl ?_
    refine g_get 0 6 ao rfl rfl fsX2_g6 fl_X2_41 e_X2_newSystem_90 ?_
    refine g_iconst e_X2_newSystem_93 ?_
    refine g_isub e_X2_newSystem_94 ?_
    obtain ⟨hc10, hs⟩ := chk_elim hs
    obtain rfl := Option.some.inj hs
    exact g_iret rfl ⟨hc10, hc9, Py4.1, Py4.2.1, Py4.2.2.1, Py4.2.2.2, Py8.1, Py8.2.1, Py8.2.2.1, Py8.2.2.2⟩ e_X2_newSystem_95
  · refine g_iconst e_X2_newSystem_9 ?_
    obtain rfl := Option.some.inj hs
    exact g_iret rfl ⟨(by decide : inI (-1)), ok_t_many, ok_t_planes_many, ok_t_planes_xs, ok_t_planes_ys, ok_t_planes_zs, ok_t_steps_many, ok_t_steps_xs, ok_t_steps_ys, ok_t_steps_zs⟩ e_X2_newSystem_10

noncomputable def m_X2_newSystem (t_many : Int) (t_planes_many : Int) (t_planes_xs : Nat → Int) (t_planes_ys : Nat → Int) (t_planes_zs : Nat → Int) (t_steps_many : Int) (t_steps_xs : Nat → Int) (t_steps_ys : Nat → Int) (t_steps_zs : Nat → Int) (p1_steps_many : Int) (p1_steps_xs : Nat → Int) (p1_steps_ys : Nat → Int) (p1_steps_zs : Nat → Int) (p1_planes_many : Int) (p1_planes_xs : Nat → Int) (p1_planes_ys : Nat → Int) (p1_planes_zs : Nat → Int) (v2 : Int) (v3 : Int) : Option (Int × Int × Int × (Nat → Int) × (Nat → Int) × (Nat → Int) × Int × (Nat → Int) × (Nat → Int) × (Nat → Int)) := m_X2_newSystem_0 t_many t_planes_many t_planes_xs t_planes_ys t_planes_zs t_steps_many t_steps_xs t_steps_ys t_steps_zs p1_steps_many p1_steps_xs p1_steps_ys p1_steps_zs p1_planes_many p1_planes_xs p1_planes_ys p1_planes_zs v2 v3

set_option maxRecDepth 10000 in
theorem ct_X2_newSystem {l : Launch} {E : EE} {b0 n : Nat} {h : AH} {a_t a_p1 : Nat} {t_many t_ownPart t_crossPart t_pointMany t_wallFirst t_wallSize t_planes_many t_steps_many p1_sightMany p1_steps_many p1_planes_many : Int} {t_planes_xs t_planes_ys t_planes_zs t_steps_xs t_steps_ys t_steps_zs p1_steps_xs p1_steps_ys p1_steps_zs p1_planes_xs p1_planes_ys p1_planes_zs : Nat → Int} {v2 v3 : Int} (ao : AO b0 n [a_t, (a_t + 2), (a_t + 3), (a_t + 4), (a_t + 5), (a_t + 6), (a_t + 7), (a_t + 8), (a_t + 9), a_p1, (a_p1 + 1), (a_p1 + 2), (a_p1 + 3), (a_p1 + 4), (a_p1 + 5), (a_p1 + 6), (a_p1 + 7), (a_p1 + 8)]) (hf : FA h [a_t, (a_t + 2), (a_t + 3), (a_t + 4), (a_t + 5), (a_t + 6), (a_t + 7), (a_t + 8), (a_t + 9), a_p1, (a_p1 + 1), (a_p1 + 2), (a_p1 + 3), (a_p1 + 4), (a_p1 + 5), (a_p1 + 6), (a_p1 + 7), (a_p1 + 8)] [.inr (2, fsX2 a_t t_many t_ownPart t_crossPart t_pointMany t_wallFirst t_wallSize), .inr (8, fsX8 (a_t + 2) t_planes_many), IA E 8 t_planes_xs, IA E 8 t_planes_ys, IA E 8 t_planes_zs, .inr (8, fsX8 (a_t + 6) t_steps_many), IA E 8 t_steps_xs, IA E 8 t_steps_ys, IA E 8 t_steps_zs, .inr (1, fsX1 a_p1 p1_sightMany), .inr (8, fsX8 (a_p1 + 1) p1_steps_many), IA E 16 p1_steps_xs, IA E 16 p1_steps_ys, IA E 16 p1_steps_zs, .inr (8, fsX8 (a_p1 + 5) p1_planes_many), IA E 16 p1_planes_xs, IA E 16 p1_planes_ys, IA E 16 p1_planes_zs]) (ok_t_many : inI t_many) (ok_t_planes_many : inI t_planes_many) (ok_t_planes_xs : okA t_planes_xs) (ok_t_planes_ys : okA t_planes_ys) (ok_t_planes_zs : okA t_planes_zs) (ok_t_steps_many : inI t_steps_many) (ok_t_steps_xs : okA t_steps_xs) (ok_t_steps_ys : okA t_steps_ys) (ok_t_steps_zs : okA t_steps_zs) (ok_p1_steps_many : inI p1_steps_many) (ok_p1_steps_xs : okA p1_steps_xs) (ok_p1_steps_ys : okA p1_steps_ys) (ok_p1_steps_zs : okA p1_steps_zs) (ok_p1_planes_many : inI p1_planes_many) (ok_p1_planes_xs : okA p1_planes_xs) (ok_p1_planes_ys : okA p1_planes_ys) (ok_p1_planes_zs : okA p1_planes_zs) (ok_v2 : inI v2) (ok_v3 : inI v3) {r : Int × Int × Int × (Nat → Int) × (Nat → Int) × (Nat → Int) × Int × (Nat → Int) × (Nat → Int) × (Nat → Int)} (hm : m_X2_newSystem t_many t_planes_many t_planes_xs t_planes_ys t_planes_zs t_steps_many t_steps_xs t_steps_ys t_steps_zs p1_steps_many p1_steps_xs p1_steps_ys p1_steps_zs p1_planes_many p1_planes_xs p1_planes_ys p1_planes_zs v2 v3 = some r) : Ct l E b0 M_X2_newSystem 0 0 [.ref a_t, .ref a_p1, vI v2, vI v3] h n (some (vI r.1)) (ov [a_t, (a_t + 2), (a_t + 3), (a_t + 4), (a_t + 5), (a_t + 6), (a_t + 7), (a_t + 8), (a_t + 9), a_p1, (a_p1 + 1), (a_p1 + 2), (a_p1 + 3), (a_p1 + 4), (a_p1 + 5), (a_p1 + 6), (a_p1 + 7), (a_p1 + 8)] [.inr (2, fsX2 a_t r.2.1 t_ownPart t_crossPart t_pointMany t_wallFirst t_wallSize), .inr (8, fsX8 (a_t + 2) r.2.2.1), IA E 8 r.2.2.2.1, IA E 8 r.2.2.2.2.1, IA E 8 r.2.2.2.2.2.1, .inr (8, fsX8 (a_t + 6) r.2.2.2.2.2.2.1), IA E 8 r.2.2.2.2.2.2.2.1, IA E 8 r.2.2.2.2.2.2.2.2.1, IA E 8 r.2.2.2.2.2.2.2.2.2, .inr (1, fsX1 a_p1 p1_sightMany), .inr (8, fsX8 (a_p1 + 1) p1_steps_many), IA E 16 p1_steps_xs, IA E 16 p1_steps_ys, IA E 16 p1_steps_zs, .inr (8, fsX8 (a_p1 + 5) p1_planes_many), IA E 16 p1_planes_xs, IA E 16 p1_planes_ys, IA E 16 p1_planes_zs] h) n (inI r.1 ∧ inI r.2.1 ∧ inI r.2.2.1 ∧ okA r.2.2.2.1 ∧ okA r.2.2.2.2.1 ∧ okA r.2.2.2.2.2.1 ∧ inI r.2.2.2.2.2.2.1 ∧ okA r.2.2.2.2.2.2.2.1 ∧ okA r.2.2.2.2.2.2.2.2.1 ∧ okA r.2.2.2.2.2.2.2.2.2) := by
  rw [m_X2_newSystem] at hm
  have hg : G l E b0 M_X2_newSystem (fun _ => True) (ZM E b0 (some (vI r.1)) (ov [a_t, (a_t + 2), (a_t + 3), (a_t + 4), (a_t + 5), (a_t + 6), (a_t + 7), (a_t + 8), (a_t + 9), a_p1, (a_p1 + 1), (a_p1 + 2), (a_p1 + 3), (a_p1 + 4), (a_p1 + 5), (a_p1 + 6), (a_p1 + 7), (a_p1 + 8)] [.inr (2, fsX2 a_t r.2.1 t_ownPart t_crossPart t_pointMany t_wallFirst t_wallSize), .inr (8, fsX8 (a_t + 2) r.2.2.1), IA E 8 r.2.2.2.1, IA E 8 r.2.2.2.2.1, IA E 8 r.2.2.2.2.2.1, .inr (8, fsX8 (a_t + 6) r.2.2.2.2.2.2.1), IA E 8 r.2.2.2.2.2.2.2.1, IA E 8 r.2.2.2.2.2.2.2.2.1, IA E 8 r.2.2.2.2.2.2.2.2.2, .inr (1, fsX1 a_p1 p1_sightMany), .inr (8, fsX8 (a_p1 + 1) p1_steps_many), IA E 16 p1_steps_xs, IA E 16 p1_steps_ys, IA E 16 p1_steps_zs, .inr (8, fsX8 (a_p1 + 5) p1_planes_many), IA E 16 p1_planes_xs, IA E 16 p1_planes_ys, IA E 16 p1_planes_zs] h) n (inI r.1 ∧ inI r.2.1 ∧ inI r.2.2.1 ∧ okA r.2.2.2.1 ∧ okA r.2.2.2.2.1 ∧ okA r.2.2.2.2.2.1 ∧ inI r.2.2.2.2.2.2.1 ∧ okA r.2.2.2.2.2.2.2.1 ∧ okA r.2.2.2.2.2.2.2.2.1 ∧ okA r.2.2.2.2.2.2.2.2.2) 0 0) 0 0 n (ov [a_t, (a_t + 2), (a_t + 3), (a_t + 4), (a_t + 5), (a_t + 6), (a_t + 7), (a_t + 8), (a_t + 9), a_p1, (a_p1 + 1), (a_p1 + 2), (a_p1 + 3), (a_p1 + 4), (a_p1 + 5), (a_p1 + 6), (a_p1 + 7), (a_p1 + 8)] [.inr (2, fsX2 a_t t_many t_ownPart t_crossPart t_pointMany t_wallFirst t_wallSize), .inr (8, fsX8 (a_t + 2) t_planes_many), IA E 8 t_planes_xs, IA E 8 t_planes_ys, IA E 8 t_planes_zs, .inr (8, fsX8 (a_t + 6) t_steps_many), IA E 8 t_steps_xs, IA E 8 t_steps_ys, IA E 8 t_steps_zs, .inr (1, fsX1 a_p1 p1_sightMany), .inr (8, fsX8 (a_p1 + 1) p1_steps_many), IA E 16 p1_steps_xs, IA E 16 p1_steps_ys, IA E 16 p1_steps_zs, .inr (8, fsX8 (a_p1 + 5) p1_planes_many), IA E 16 p1_planes_xs, IA E 16 p1_planes_ys, IA E 16 p1_planes_zs] h) 0 [some (.ref a_t), some (.ref a_p1), some (vI v2), some (vI v3), none] [] := by
    have hs := hm
    exact g_X2_newSystem_0 ao ok_t_many ok_t_planes_many ok_t_planes_xs ok_t_planes_ys ok_t_planes_zs ok_t_steps_many ok_t_steps_xs ok_t_steps_ys ok_t_steps_zs ok_p1_steps_many ok_p1_steps_xs ok_p1_steps_ys ok_p1_steps_zs ok_p1_planes_many ok_p1_planes_xs ok_p1_planes_ys ok_p1_planes_zs ok_v2 ok_v3 hs
  rw [FA_id hf] at hg
  exact Ct_of [some (.ref a_t), some (.ref a_p1), some (vI v2), some (vI v3), none] ⟨by decide +kernel, rfl⟩ rfl (Nat.le_of_ble_eq_true rfl) hg

/-! ===== X2_tellHardening ===== -/
theorem e_X2_tellHardening_0 : DC cX2_tellHardening 0 (.iload_n 1) 1 1 := ⟨by decide +kernel, rfl⟩
theorem e_X2_tellHardening_1 : DC cX2_tellHardening 1 (.iconst 0) 1 2 := ⟨by decide +kernel, rfl⟩
theorem e_X2_tellHardening_2 : DC cX2_tellHardening 2 (.sipush 999) 3 5 := ⟨by decide +kernel, rfl⟩
theorem e_X2_tellHardening_5 : DC cX2_tellHardening 5 (.invokestatic 45) 3 8 := ⟨by decide +kernel, rfl⟩
theorem e_X2_tellHardening_8 : DB cX2_tellHardening 8 (.ifCond .eq 14) (14) 3 11 22 := ⟨by decide +kernel, rfl, rfl⟩
theorem e_X2_tellHardening_11 : DC cX2_tellHardening 11 (.iload_n 2) 1 12 := ⟨by decide +kernel, rfl⟩
theorem e_X2_tellHardening_12 : DC cX2_tellHardening 12 (.iconst 0) 1 13 := ⟨by decide +kernel, rfl⟩
theorem e_X2_tellHardening_13 : DC cX2_tellHardening 13 (.sipush 999) 3 16 := ⟨by decide +kernel, rfl⟩
theorem e_X2_tellHardening_16 : DC cX2_tellHardening 16 (.invokestatic 45) 3 19 := ⟨by decide +kernel, rfl⟩
theorem e_X2_tellHardening_19 : DB cX2_tellHardening 19 (.ifCond .ne 5) (5) 3 22 24 := ⟨by decide +kernel, rfl, rfl⟩
theorem e_X2_tellHardening_22 : DC cX2_tellHardening 22 (.iconst 0) 1 23 := ⟨by decide +kernel, rfl⟩
theorem e_X2_tellHardening_23 : DC cX2_tellHardening 23 (.ireturn) 1 24 := ⟨by decide +kernel, rfl⟩
theorem e_X2_tellHardening_24 : DC cX2_tellHardening 24 (.aload_n 0) 1 25 := ⟨by decide +kernel, rfl⟩
theorem e_X2_tellHardening_25 : DC cX2_tellHardening 25 (.iload_n 1) 1 26 := ⟨by decide +kernel, rfl⟩
theorem e_X2_tellHardening_26 : DC cX2_tellHardening 26 (.putfield 61) 3 29 := ⟨by decide +kernel, rfl⟩
theorem e_X2_tellHardening_29 : DC cX2_tellHardening 29 (.aload_n 0) 1 30 := ⟨by decide +kernel, rfl⟩
theorem e_X2_tellHardening_30 : DC cX2_tellHardening 30 (.iload_n 2) 1 31 := ⟨by decide +kernel, rfl⟩
theorem e_X2_tellHardening_31 : DC cX2_tellHardening 31 (.putfield 64) 3 34 := ⟨by decide +kernel, rfl⟩
theorem e_X2_tellHardening_34 : DC cX2_tellHardening 34 (.iconst 1) 1 35 := ⟨by decide +kernel, rfl⟩
theorem e_X2_tellHardening_35 : DC cX2_tellHardening 35 (.ireturn) 1 36 := ⟨by decide +kernel, rfl⟩
noncomputable def m_X2_tellHardening_0 (t_ownPart : Int) (t_crossPart : Int) (v1 : Int) (v2 : Int) : Option (Int × Int × Int) :=
  (m_X10_within v1 0 999).bind (fun y1 => if y1 = 0 then (some (0, t_ownPart, t_crossPart)) else ((m_X10_within v2 0 999).bind (fun y2 => if y2 = 0 then (some (0, t_ownPart, t_crossPart)) else (some (1, v1, v2)))))

set_option maxRecDepth 10000 in
theorem g_X2_tellHardening_0 {l : Launch} {E : EE} {b0 n : Nat} {h : AH} {a_t : Nat} {t_many t_ownPart t_crossPart t_pointMany t_wallFirst t_wallSize v1 v2 : Int} {r : Int × Int × Int} (ao : AO b0 n [a_t]) (ok_t_ownPart : inI t_ownPart) (ok_t_crossPart : inI t_crossPart) (ok_v1 : inI v1) (ok_v2 : inI v2) (hs : m_X2_tellHardening_0 t_ownPart t_crossPart v1 v2 = some r) : G l E b0 M_X2_tellHardening (fun _ => True) (ZM E b0 (some (vI r.1)) (ov [a_t] [.inr (2, fsX2 a_t t_many r.2.1 r.2.2 t_pointMany t_wallFirst t_wallSize)] h) n (inZ r.1 ∧ inI r.2.1 ∧ inI r.2.2) 0 0) 0 0 n (ov [a_t] [.inr (2, fsX2 a_t t_many t_ownPart t_crossPart t_pointMany t_wallFirst t_wallSize)] h) 0 [some (.ref a_t), some (vI v1), some (vI v2)] [] := by
  rw [m_X2_tellHardening_0] at hs
  refine g_iload_n e_X2_tellHardening_0 rfl ?_
  refine g_iconst e_X2_tellHardening_1 ?_
  refine g_sipush e_X2_tellHardening_2 sp_999 ?_
  obtain ⟨y1, hy1, hs⟩ := bind_elim hs
  refine g_callSr [vI v1, vI 0, vI 999] cs_X2_45 ⟨rfl, rfl, Nat.le_of_ble_eq_true rfl, Nat.le_of_ble_eq_true rfl⟩ (ct_X10_within ⟨List.nodup_nil, fun i a h => by simp at h⟩ (fun i a e h => by simp at h) ok_v1 (by decide : inI 0) (by decide : inI 999) hy1) e_X2_tellHardening_5 rfl rfl (Nat.le_of_ble_eq_true rfl) ⟨Nat.le_refl _, Nat.le_refl _⟩ (fun Py1 => ?_)
  refine g_if_eq e_X2_tellHardening_8 (inZ_I Py1) hs (fun c8 hs => ?_) (fun c8 hs => ?_)
  · refine g_iconst e_X2_tellHardening_22 ?_
    obtain rfl := Option.some.inj hs
    exact g_zret rfl (by decide : inZ 0) ⟨(by decide : inZ 0), ok_t_ownPart, ok_t_crossPart⟩ e_X2_tellHardening_23
  · refine g_iload_n e_X2_tellHardening_11 rfl ?_
    refine g_iconst e_X2_tellHardening_12 ?_
    refine g_sipush e_X2_tellHardening_13 sp_999 ?_
    obtain ⟨y2, hy2, hs⟩ := bind_elim hs
    refine g_callSr [vI v2, vI 0, vI 999] cs_X2_45 ⟨rfl, rfl, Nat.le_of_ble_eq_true rfl, Nat.le_of_ble_eq_true rfl⟩ (ct_X10_within ⟨List.nodup_nil, fun i a h => by simp at h⟩ (fun i a e h => by simp at h) ok_v2 (by decide : inI 0) (by decide : inI 999) hy2) e_X2_tellHardening_16 rfl rfl (Nat.le_of_ble_eq_true rfl) ⟨Nat.le_refl _, Nat.le_refl _⟩ (fun Py2 => ?_)
    refine g_if_ne e_X2_tellHardening_19 (inZ_I Py2) hs (fun c19 hs => ?_) (fun c19 hs => ?_)
    · refine g_iconst e_X2_tellHardening_22 ?_
      obtain rfl := Option.some.inj hs
      exact g_zret rfl (by decide : inZ 0) ⟨(by decide : inZ 0), ok_t_ownPart, ok_t_crossPart⟩ e_X2_tellHardening_23
    · refine g_aload_n e_X2_tellHardening_24 rfl ?_
      refine g_iload_n e_X2_tellHardening_25 rfl ?_
      refine g_put 0 7 ao rfl rfl fsX2_k7 fsX2_s7 ls_0 fw_X2_61 (fun h => by cases h) ⟨rfl, rfl⟩ e_X2_tellHardening_26 ?_
      refine g_aload_n e_X2_tellHardening_29 rfl ?_
      refine g_iload_n e_X2_tellHardening_30 rfl ?_
      refine g_put 0 8 ao rfl rfl fsX2_k8 fsX2_s8 ls_0 fw_X2_64 (fun h => by cases h) ⟨rfl, rfl⟩ e_X2_tellHardening_31 ?_
      refine g_iconst e_X2_tellHardening_34 ?_
      obtain rfl := Option.some.inj hs
      exact g_zret rfl (by decide : inZ 1) ⟨(by decide : inZ 1), ok_v1, ok_v2⟩ e_X2_tellHardening_35

noncomputable def m_X2_tellHardening (t_ownPart : Int) (t_crossPart : Int) (v1 : Int) (v2 : Int) : Option (Int × Int × Int) := m_X2_tellHardening_0 t_ownPart t_crossPart v1 v2

set_option maxRecDepth 10000 in
theorem ct_X2_tellHardening {l : Launch} {E : EE} {b0 n : Nat} {h : AH} {a_t : Nat} {t_many t_ownPart t_crossPart t_pointMany t_wallFirst t_wallSize : Int} {v1 v2 : Int} (ao : AO b0 n [a_t]) (hf : FA h [a_t] [.inr (2, fsX2 a_t t_many t_ownPart t_crossPart t_pointMany t_wallFirst t_wallSize)]) (ok_t_ownPart : inI t_ownPart) (ok_t_crossPart : inI t_crossPart) (ok_v1 : inI v1) (ok_v2 : inI v2) {r : Int × Int × Int} (hm : m_X2_tellHardening t_ownPart t_crossPart v1 v2 = some r) : Ct l E b0 M_X2_tellHardening 0 0 [.ref a_t, vI v1, vI v2] h n (some (vI r.1)) (ov [a_t] [.inr (2, fsX2 a_t t_many r.2.1 r.2.2 t_pointMany t_wallFirst t_wallSize)] h) n (inZ r.1 ∧ inI r.2.1 ∧ inI r.2.2) := by
  rw [m_X2_tellHardening] at hm
  have hg : G l E b0 M_X2_tellHardening (fun _ => True) (ZM E b0 (some (vI r.1)) (ov [a_t] [.inr (2, fsX2 a_t t_many r.2.1 r.2.2 t_pointMany t_wallFirst t_wallSize)] h) n (inZ r.1 ∧ inI r.2.1 ∧ inI r.2.2) 0 0) 0 0 n (ov [a_t] [.inr (2, fsX2 a_t t_many t_ownPart t_crossPart t_pointMany t_wallFirst t_wallSize)] h) 0 [some (.ref a_t), some (vI v1), some (vI v2)] [] := by
    have hs := hm
    exact g_X2_tellHardening_0 ao ok_t_ownPart ok_t_crossPart ok_v1 ok_v2 hs
  rw [FA_id hf] at hg
  exact Ct_of [some (.ref a_t), some (vI v1), some (vI v2)] ⟨by decide +kernel, rfl⟩ rfl (Nat.le_of_ble_eq_true rfl) hg

/-! ===== X2_curvePoint ===== -/
theorem e_X2_curvePoint_0 : DC cX2_curvePoint 0 (.iload_n 1) 1 1 := ⟨by decide +kernel, rfl⟩
theorem e_X2_curvePoint_1 : DC cX2_curvePoint 1 (.iconst 0) 1 2 := ⟨by decide +kernel, rfl⟩
theorem e_X2_curvePoint_2 : DC cX2_curvePoint 2 (.aload_n 0) 1 3 := ⟨by decide +kernel, rfl⟩
theorem e_X2_curvePoint_3 : DC cX2_curvePoint 3 (.getfield 138) 3 6 := ⟨by decide +kernel, rfl⟩
theorem e_X2_curvePoint_6 : DC cX2_curvePoint 6 (.iconst 1) 1 7 := ⟨by decide +kernel, rfl⟩
theorem e_X2_curvePoint_7 : DC cX2_curvePoint 7 (.isub) 1 8 := ⟨by decide +kernel, rfl⟩
theorem e_X2_curvePoint_8 : DC cX2_curvePoint 8 (.invokestatic 45) 3 11 := ⟨by decide +kernel, rfl⟩
theorem e_X2_curvePoint_11 : DB cX2_curvePoint 11 (.ifCond .eq 12) (12) 3 14 23 := ⟨by decide +kernel, rfl, rfl⟩
theorem e_X2_curvePoint_14 : DC cX2_curvePoint 14 (.aload_n 0) 1 15 := ⟨by decide +kernel, rfl⟩
theorem e_X2_curvePoint_15 : DC cX2_curvePoint 15 (.getfield 37) 3 18 := ⟨by decide +kernel, rfl⟩
theorem e_X2_curvePoint_18 : DC cX2_curvePoint 18 (.iload_n 1) 1 19 := ⟨by decide +kernel, rfl⟩
theorem e_X2_curvePoint_19 : DC cX2_curvePoint 19 (.laload) 1 20 := ⟨by decide +kernel, rfl⟩
theorem e_X2_curvePoint_20 : DB cX2_curvePoint 20 (.goto 6) (6) 3 23 26 := ⟨by decide +kernel, rfl, rfl⟩
theorem e_X2_curvePoint_23 : DC cX2_curvePoint 23 (.ldc2_w 152) 3 26 := ⟨by decide +kernel, rfl⟩
theorem e_X2_curvePoint_26 : DC cX2_curvePoint 26 (.lreturn) 1 27 := ⟨by decide +kernel, rfl⟩
noncomputable def m_X2_curvePoint_0 (t_pointMany : Int) (t_points : Nat → Int) (v1 : Int) : Option (Int) :=
  chk (inI (t_pointMany - 1)) ((m_X10_within v1 0 (t_pointMany - 1)).bind (fun y2 => if y2 = 0 then (some ((-1000000000000000))) else (chk (inB v1 20) (some (t_points (Int.toNat v1))))))

set_option maxRecDepth 10000 in
theorem g_X2_curvePoint_0 {l : Launch} {E : EE} {b0 n : Nat} {h : AH} {a_t : Nat} {t_many t_ownPart t_crossPart t_pointMany t_wallFirst t_wallSize v1 : Int} {t_points : Nat → Int} {r : Int} (ao : AO b0 n [a_t, (a_t + 12)]) (ok_t_pointMany : inI t_pointMany) (ok_t_points : okJ t_points) (ok_v1 : inI v1) (hs : m_X2_curvePoint_0 t_pointMany t_points v1 = some r) : G l E b0 M_X2_curvePoint (fun _ => True) (ZM E b0 (some (vJ r)) (ov [a_t, (a_t + 12)] [.inr (2, fsX2 a_t t_many t_ownPart t_crossPart t_pointMany t_wallFirst t_wallSize), JA E 20 t_points] h) n (inJ r) 0 0) 0 0 n (ov [a_t, (a_t + 12)] [.inr (2, fsX2 a_t t_many t_ownPart t_crossPart t_pointMany t_wallFirst t_wallSize), JA E 20 t_points] h) 0 [some (.ref a_t), some (vI v1)] [] := by
  rw [m_X2_curvePoint_0] at hs
  refine g_iload_n e_X2_curvePoint_0 rfl ?_
  refine g_iconst e_X2_curvePoint_1 ?_
  refine g_aload_n e_X2_curvePoint_2 rfl ?_
  refine g_get 0 9 ao rfl rfl fsX2_g9 fl_X2_138 e_X2_curvePoint_3 ?_
  refine g_iconst e_X2_curvePoint_6 ?_
  refine g_isub e_X2_curvePoint_7 ?_
  obtain ⟨hc1, hs⟩ := chk_elim hs
  obtain ⟨y2, hy2, hs⟩ := bind_elim hs
  refine g_callSr [vI v1, vI 0, vI (t_pointMany - 1)] cs_X2_45 ⟨rfl, rfl, Nat.le_of_ble_eq_true rfl, Nat.le_of_ble_eq_true rfl⟩ (ct_X10_within ⟨List.nodup_nil, fun i a h => by simp at h⟩ (fun i a e h => by simp at h) ok_v1 (by decide : inI 0) hc1 hy2) e_X2_curvePoint_8 rfl rfl (Nat.le_of_ble_eq_true rfl) ⟨Nat.le_refl _, Nat.le_refl _⟩ (fun Py2 => ?_)
  refine g_if_eq e_X2_curvePoint_11 (inZ_I Py2) hs (fun c11 hs => ?_) (fun c11 hs => ?_)
  · refine g_ldc2 (a := -1000000000000000) e_X2_curvePoint_23 k_X2_152 ?_
    obtain rfl := Option.some.inj hs
    exact g_lret rfl (by decide : inJ (-1000000000000000)) e_X2_curvePoint_26
  · refine g_aload_n e_X2_curvePoint_14 rfl ?_
    refine g_get 0 5 ao rfl rfl fsX2_g5 fl_X2_37 e_X2_curvePoint_15 ?_
    refine g_iload_n e_X2_curvePoint_18 rfl ?_
    refine g_lald 1 ao rfl rfl (Nat.le_of_ble_eq_true rfl) e_X2_curvePoint_19 hs (fun hi3 hs => ?_)
    refine g_goto e_X2_curvePoint_20 ?_
    obtain rfl := Option.some.inj hs
    exact g_lret rfl (ok_t_points _) e_X2_curvePoint_26

noncomputable def m_X2_curvePoint (t_pointMany : Int) (t_points : Nat → Int) (v1 : Int) : Option (Int) := m_X2_curvePoint_0 t_pointMany t_points v1

set_option maxRecDepth 10000 in
theorem ct_X2_curvePoint {l : Launch} {E : EE} {b0 n : Nat} {h : AH} {a_t : Nat} {t_many t_ownPart t_crossPart t_pointMany t_wallFirst t_wallSize : Int} {t_points : Nat → Int} {v1 : Int} (ao : AO b0 n [a_t, (a_t + 12)]) (hf : FA h [a_t, (a_t + 12)] [.inr (2, fsX2 a_t t_many t_ownPart t_crossPart t_pointMany t_wallFirst t_wallSize), JA E 20 t_points]) (ok_t_pointMany : inI t_pointMany) (ok_t_points : okJ t_points) (ok_v1 : inI v1) {r : Int} (hm : m_X2_curvePoint t_pointMany t_points v1 = some r) : Ct l E b0 M_X2_curvePoint 0 0 [.ref a_t, vI v1] h n (some (vJ r)) h n (inJ r) := by
  rw [m_X2_curvePoint] at hm
  have hg : G l E b0 M_X2_curvePoint (fun _ => True) (ZM E b0 (some (vJ r)) (ov [a_t, (a_t + 12)] [.inr (2, fsX2 a_t t_many t_ownPart t_crossPart t_pointMany t_wallFirst t_wallSize), JA E 20 t_points] h) n (inJ r) 0 0) 0 0 n (ov [a_t, (a_t + 12)] [.inr (2, fsX2 a_t t_many t_ownPart t_crossPart t_pointMany t_wallFirst t_wallSize), JA E 20 t_points] h) 0 [some (.ref a_t), some (vI v1)] [] := by
    have hs := hm
    exact g_X2_curvePoint_0 ao ok_t_pointMany ok_t_points ok_v1 hs
  rw [FA_id hf] at hg
  exact Ct_of [some (.ref a_t), some (vI v1)] ⟨by decide +kernel, rfl⟩ rfl (Nat.le_of_ble_eq_true rfl) hg

/-! ===== X2_forceOn ===== -/
theorem e_X2_forceOn_0 : DC cX2_forceOn 0 (.aload_n 1) 1 1 := ⟨by decide +kernel, rfl⟩
theorem e_X2_forceOn_1 : DC cX2_forceOn 1 (.aload_n 0) 1 2 := ⟨by decide +kernel, rfl⟩
theorem e_X2_forceOn_2 : DC cX2_forceOn 2 (.getfield 22) 3 5 := ⟨by decide +kernel, rfl⟩
theorem e_X2_forceOn_5 : DC cX2_forceOn 5 (.iload_n 3) 1 6 := ⟨by decide +kernel, rfl⟩
theorem e_X2_forceOn_6 : DC cX2_forceOn 6 (.aload_n 0) 1 7 := ⟨by decide +kernel, rfl⟩
theorem e_X2_forceOn_7 : DC cX2_forceOn 7 (.getfield 26) 3 10 := ⟨by decide +kernel, rfl⟩
theorem e_X2_forceOn_10 : DC cX2_forceOn 10 (.iload_n 3) 1 11 := ⟨by decide +kernel, rfl⟩
theorem e_X2_forceOn_11 : DC cX2_forceOn 11 (.invokevirtual 105) 3 14 := ⟨by decide +kernel, rfl⟩
theorem e_X2_forceOn_14 : DB cX2_forceOn 14 (.ifCond .eq 11) (11) 3 17 25 := ⟨by decide +kernel, rfl, rfl⟩
theorem e_X2_forceOn_17 : DC cX2_forceOn 17 (.aload_n 1) 1 18 := ⟨by decide +kernel, rfl⟩
theorem e_X2_forceOn_18 : DC cX2_forceOn 18 (.iload_n 2) 1 19 := ⟨by decide +kernel, rfl⟩
theorem e_X2_forceOn_19 : DC cX2_forceOn 19 (.invokevirtual 111) 3 22 := ⟨by decide +kernel, rfl⟩
theorem e_X2_forceOn_22 : DB cX2_forceOn 22 (.goto 4) (4) 3 25 26 := ⟨by decide +kernel, rfl, rfl⟩
theorem e_X2_forceOn_25 : DC cX2_forceOn 25 (.iconst 0) 1 26 := ⟨by decide +kernel, rfl⟩
theorem e_X2_forceOn_26 : DC cX2_forceOn 26 (.ireturn) 1 27 := ⟨by decide +kernel, rfl⟩
noncomputable def m_X2_forceOn_0 (t_planes_many : Int) (t_planes_xs : Nat → Int) (t_planes_ys : Nat → Int) (t_planes_zs : Nat → Int) (t_steps_many : Int) (t_steps_xs : Nat → Int) (t_steps_ys : Nat → Int) (t_steps_zs : Nat → Int) (p1_x : Int) (p1_y : Int) (p1_z : Int) (p1_product : Int) (p1_above : Int) (p1_below : Int) (v2 : Int) (v3 : Int) : Option (Int × Int × Int × Int) :=
  (m_X4_shareOn 8 8 p1_x p1_y p1_z p1_product p1_above p1_below t_planes_many t_planes_xs t_planes_ys t_planes_zs t_steps_many t_steps_xs t_steps_ys t_steps_zs v3 v3).bind (fun y1 => if y1.1 = 0 then (some (0, y1.2.1, y1.2.2.1, y1.2.2.2)) else ((m_X4_forceOf y1.2.1 y1.2.2.1 y1.2.2.2 v2).bind (fun y2 => some (y2, y1.2.1, y1.2.2.1, y1.2.2.2))))

set_option maxRecDepth 10000 in
theorem g_X2_forceOn_0 {l : Launch} {E : EE} {b0 n : Nat} {h : AH} {a_t a_p1 : Nat} {t_many t_ownPart t_crossPart t_pointMany t_wallFirst t_wallSize t_planes_many t_steps_many p1_x p1_y p1_z p1_product p1_above p1_below v2 v3 : Int} {t_planes_xs t_planes_ys t_planes_zs t_steps_xs t_steps_ys t_steps_zs : Nat → Int} {r : Int × Int × Int × Int} (ao : AO b0 n [a_t, (a_t + 2), (a_t + 3), (a_t + 4), (a_t + 5), (a_t + 6), (a_t + 7), (a_t + 8), (a_t + 9), a_p1]) (ok_t_planes_many : inI t_planes_many) (ok_t_planes_xs : okA t_planes_xs) (ok_t_planes_ys : okA t_planes_ys) (ok_t_planes_zs : okA t_planes_zs) (ok_t_steps_many : inI t_steps_many) (ok_t_steps_xs : okA t_steps_xs) (ok_t_steps_ys : okA t_steps_ys) (ok_t_steps_zs : okA t_steps_zs) (ok_p1_x : inI p1_x) (ok_p1_y : inI p1_y) (ok_p1_z : inI p1_z) (ok_p1_product : inJ p1_product) (ok_p1_above : inJ p1_above) (ok_p1_below : inJ p1_below) (ok_v2 : inI v2) (ok_v3 : inI v3) (hs : m_X2_forceOn_0 t_planes_many t_planes_xs t_planes_ys t_planes_zs t_steps_many t_steps_xs t_steps_ys t_steps_zs p1_x p1_y p1_z p1_product p1_above p1_below v2 v3 = some r) : G l E b0 M_X2_forceOn (fun _ => True) (ZM E b0 (some (vI r.1)) (ov [a_t, (a_t + 2), (a_t + 3), (a_t + 4), (a_t + 5), (a_t + 6), (a_t + 7), (a_t + 8), (a_t + 9), a_p1] [.inr (2, fsX2 a_t t_many t_ownPart t_crossPart t_pointMany t_wallFirst t_wallSize), .inr (8, fsX8 (a_t + 2) t_planes_many), IA E 8 t_planes_xs, IA E 8 t_planes_ys, IA E 8 t_planes_zs, .inr (8, fsX8 (a_t + 6) t_steps_many), IA E 8 t_steps_xs, IA E 8 t_steps_ys, IA E 8 t_steps_zs, .inr (4, fsX4 a_p1 p1_x p1_y p1_z r.2.1 r.2.2.1 r.2.2.2)] h) n (inI r.1 ∧ inJ r.2.1 ∧ inJ r.2.2.1 ∧ inJ r.2.2.2) 0 0) 0 0 n (ov [a_t, (a_t + 2), (a_t + 3), (a_t + 4), (a_t + 5), (a_t + 6), (a_t + 7), (a_t + 8), (a_t + 9), a_p1] [.inr (2, fsX2 a_t t_many t_ownPart t_crossPart t_pointMany t_wallFirst t_wallSize), .inr (8, fsX8 (a_t + 2) t_planes_many), IA E 8 t_planes_xs, IA E 8 t_planes_ys, IA E 8 t_planes_zs, .inr (8, fsX8 (a_t + 6) t_steps_many), IA E 8 t_steps_xs, IA E 8 t_steps_ys, IA E 8 t_steps_zs, .inr (4, fsX4 a_p1 p1_x p1_y p1_z p1_product p1_above p1_below)] h) 0 [some (.ref a_t), some (.ref a_p1), some (vI v2), some (vI v3)] [] := by
  rw [m_X2_forceOn_0] at hs
  refine g_aload_n e_X2_forceOn_0 rfl ?_
  refine g_aload_n e_X2_forceOn_1 rfl ?_
  refine g_get 0 1 ao rfl rfl fsX2_g1 fl_X2_22 e_X2_forceOn_2 ?_
  refine g_iload_n e_X2_forceOn_5 rfl ?_
  refine g_aload_n e_X2_forceOn_6 rfl ?_
  refine g_get 0 2 ao rfl rfl fsX2_g2 fl_X2_26 e_X2_forceOn_7 ?_
  refine g_iload_n e_X2_forceOn_10 rfl ?_
  obtain ⟨y1, hy1, hs⟩ := bind_elim hs
  refine g_callVr [.ref (a_t + 2), vI v3, .ref (a_t + 6), vI v3] cv_X2_105 ⟨rfl, rfl, Nat.le_of_ble_eq_true rfl, Nat.le_of_ble_eq_true rfl⟩ (Ct_heap (ct_X4_shareOn (AO_call [9, 1, 2, 3, 4, 5, 6, 7, 8] ao (by decide) rfl) (by omega) (by omega) (FA_call [9, 1, 2, 3, 4, 5, 6, 7, 8] ao.1 rfl rfl) ok_p1_x ok_p1_y ok_p1_z ok_p1_product ok_p1_above ok_p1_below ok_t_planes_many ok_t_planes_xs ok_t_planes_ys ok_t_planes_zs ok_t_steps_many ok_t_steps_xs ok_t_steps_ys ok_t_steps_zs ok_v3 ok_v3 hy1) (ov_call (esn := [.inr (2, fsX2 a_t t_many t_ownPart t_crossPart t_pointMany t_wallFirst t_wallSize), .inr (8, fsX8 (a_t + 2) t_planes_many), IA E 8 t_planes_xs, IA E 8 t_planes_ys, IA E 8 t_planes_zs, .inr (8, fsX8 (a_t + 6) t_steps_many), IA E 8 t_steps_xs, IA E 8 t_steps_ys, IA E 8 t_steps_zs, .inr (4, fsX4 a_p1 p1_x p1_y p1_z y1.2.1 y1.2.2.1 y1.2.2.2)]) [9, 1, 2, 3, 4, 5, 6, 7, 8] ao.1 rfl rfl rfl rfl)) e_X2_forceOn_11 (ao.2 9 _ rfl) (ov_get 9 ao.1 rfl rfl) rfl rfl rfl (Nat.le_of_ble_eq_true rfl) ⟨Nat.le_refl _, Nat.le_refl _⟩ (fun Py1 => ?_)
  refine g_if_eq e_X2_forceOn_14 (inZ_I Py1.1) hs (fun c14 hs => ?_) (fun c14 hs => ?_)
  · refine g_iconst e_X2_forceOn_25 ?_
    obtain rfl := Option.some.inj hs
    exact g_iret rfl ⟨(by decide : inI 0), Py1.2.1, Py1.2.2.1, Py1.2.2.2⟩ e_X2_forceOn_26
  · refine g_aload_n e_X2_forceOn_17 rfl ?_
    refine g_iload_n e_X2_forceOn_18 rfl ?_
    obtain ⟨y2, hy2, hs⟩ := bind_elim hs
    refine g_callVr [vI v2] cv_X2_111 ⟨rfl, rfl, Nat.le_of_ble_eq_true rfl, Nat.le_of_ble_eq_true rfl⟩ (ct_X4_forceOf (AO_call [9] ao (by decide) rfl) (FA_call [9] ao.1 rfl rfl) Py1.2.1 Py1.2.2.1 Py1.2.2.2 ok_v2 hy2) e_X2_forceOn_19 (ao.2 9 _ rfl) (ov_get 9 ao.1 rfl rfl) rfl rfl rfl (Nat.le_of_ble_eq_true rfl) ⟨Nat.le_refl _, Nat.le_refl _⟩ (fun Py2 => ?_)
    refine g_goto e_X2_forceOn_22 ?_
    obtain rfl := Option.some.inj hs
    exact g_iret rfl ⟨Py2, Py1.2.1, Py1.2.2.1, Py1.2.2.2⟩ e_X2_forceOn_26

noncomputable def m_X2_forceOn (t_planes_many : Int) (t_planes_xs : Nat → Int) (t_planes_ys : Nat → Int) (t_planes_zs : Nat → Int) (t_steps_many : Int) (t_steps_xs : Nat → Int) (t_steps_ys : Nat → Int) (t_steps_zs : Nat → Int) (p1_x : Int) (p1_y : Int) (p1_z : Int) (p1_product : Int) (p1_above : Int) (p1_below : Int) (v2 : Int) (v3 : Int) : Option (Int × Int × Int × Int) := m_X2_forceOn_0 t_planes_many t_planes_xs t_planes_ys t_planes_zs t_steps_many t_steps_xs t_steps_ys t_steps_zs p1_x p1_y p1_z p1_product p1_above p1_below v2 v3

set_option maxRecDepth 10000 in
theorem ct_X2_forceOn {l : Launch} {E : EE} {b0 n : Nat} {h : AH} {a_t a_p1 : Nat} {t_many t_ownPart t_crossPart t_pointMany t_wallFirst t_wallSize t_planes_many t_steps_many p1_x p1_y p1_z p1_product p1_above p1_below : Int} {t_planes_xs t_planes_ys t_planes_zs t_steps_xs t_steps_ys t_steps_zs : Nat → Int} {v2 v3 : Int} (ao : AO b0 n [a_t, (a_t + 2), (a_t + 3), (a_t + 4), (a_t + 5), (a_t + 6), (a_t + 7), (a_t + 8), (a_t + 9), a_p1]) (hf : FA h [a_t, (a_t + 2), (a_t + 3), (a_t + 4), (a_t + 5), (a_t + 6), (a_t + 7), (a_t + 8), (a_t + 9), a_p1] [.inr (2, fsX2 a_t t_many t_ownPart t_crossPart t_pointMany t_wallFirst t_wallSize), .inr (8, fsX8 (a_t + 2) t_planes_many), IA E 8 t_planes_xs, IA E 8 t_planes_ys, IA E 8 t_planes_zs, .inr (8, fsX8 (a_t + 6) t_steps_many), IA E 8 t_steps_xs, IA E 8 t_steps_ys, IA E 8 t_steps_zs, .inr (4, fsX4 a_p1 p1_x p1_y p1_z p1_product p1_above p1_below)]) (ok_t_planes_many : inI t_planes_many) (ok_t_planes_xs : okA t_planes_xs) (ok_t_planes_ys : okA t_planes_ys) (ok_t_planes_zs : okA t_planes_zs) (ok_t_steps_many : inI t_steps_many) (ok_t_steps_xs : okA t_steps_xs) (ok_t_steps_ys : okA t_steps_ys) (ok_t_steps_zs : okA t_steps_zs) (ok_p1_x : inI p1_x) (ok_p1_y : inI p1_y) (ok_p1_z : inI p1_z) (ok_p1_product : inJ p1_product) (ok_p1_above : inJ p1_above) (ok_p1_below : inJ p1_below) (ok_v2 : inI v2) (ok_v3 : inI v3) {r : Int × Int × Int × Int} (hm : m_X2_forceOn t_planes_many t_planes_xs t_planes_ys t_planes_zs t_steps_many t_steps_xs t_steps_ys t_steps_zs p1_x p1_y p1_z p1_product p1_above p1_below v2 v3 = some r) : Ct l E b0 M_X2_forceOn 0 0 [.ref a_t, .ref a_p1, vI v2, vI v3] h n (some (vI r.1)) (ov [a_t, (a_t + 2), (a_t + 3), (a_t + 4), (a_t + 5), (a_t + 6), (a_t + 7), (a_t + 8), (a_t + 9), a_p1] [.inr (2, fsX2 a_t t_many t_ownPart t_crossPart t_pointMany t_wallFirst t_wallSize), .inr (8, fsX8 (a_t + 2) t_planes_many), IA E 8 t_planes_xs, IA E 8 t_planes_ys, IA E 8 t_planes_zs, .inr (8, fsX8 (a_t + 6) t_steps_many), IA E 8 t_steps_xs, IA E 8 t_steps_ys, IA E 8 t_steps_zs, .inr (4, fsX4 a_p1 p1_x p1_y p1_z r.2.1 r.2.2.1 r.2.2.2)] h) n (inI r.1 ∧ inJ r.2.1 ∧ inJ r.2.2.1 ∧ inJ r.2.2.2) := by
  rw [m_X2_forceOn] at hm
  have hg : G l E b0 M_X2_forceOn (fun _ => True) (ZM E b0 (some (vI r.1)) (ov [a_t, (a_t + 2), (a_t + 3), (a_t + 4), (a_t + 5), (a_t + 6), (a_t + 7), (a_t + 8), (a_t + 9), a_p1] [.inr (2, fsX2 a_t t_many t_ownPart t_crossPart t_pointMany t_wallFirst t_wallSize), .inr (8, fsX8 (a_t + 2) t_planes_many), IA E 8 t_planes_xs, IA E 8 t_planes_ys, IA E 8 t_planes_zs, .inr (8, fsX8 (a_t + 6) t_steps_many), IA E 8 t_steps_xs, IA E 8 t_steps_ys, IA E 8 t_steps_zs, .inr (4, fsX4 a_p1 p1_x p1_y p1_z r.2.1 r.2.2.1 r.2.2.2)] h) n (inI r.1 ∧ inJ r.2.1 ∧ inJ r.2.2.1 ∧ inJ r.2.2.2) 0 0) 0 0 n (ov [a_t, (a_t + 2), (a_t + 3), (a_t + 4), (a_t + 5), (a_t + 6), (a_t + 7), (a_t + 8), (a_t + 9), a_p1] [.inr (2, fsX2 a_t t_many t_ownPart t_crossPart t_pointMany t_wallFirst t_wallSize), .inr (8, fsX8 (a_t + 2) t_planes_many), IA E 8 t_planes_xs, IA E 8 t_planes_ys, IA E 8 t_planes_zs, .inr (8, fsX8 (a_t + 6) t_steps_many), IA E 8 t_steps_xs, IA E 8 t_steps_ys, IA E 8 t_steps_zs, .inr (4, fsX4 a_p1 p1_x p1_y p1_z p1_product p1_above p1_below)] h) 0 [some (.ref a_t), some (.ref a_p1), some (vI v2), some (vI v3)] [] := by
    have hs := hm
    exact g_X2_forceOn_0 ao ok_t_planes_many ok_t_planes_xs ok_t_planes_ys ok_t_planes_zs ok_t_steps_many ok_t_steps_xs ok_t_steps_ys ok_t_steps_zs ok_p1_x ok_p1_y ok_p1_z ok_p1_product ok_p1_above ok_p1_below ok_v2 ok_v3 hs
  rw [FA_id hf] at hg
  exact Ct_of [some (.ref a_t), some (.ref a_p1), some (vI v2), some (vI v3)] ⟨by decide +kernel, rfl⟩ rfl (Nat.le_of_ble_eq_true rfl) hg


theorem fl_X8_25 : FL RX8 25 8 3 := ⟨RX8, TX8, 4, rfl, by decide, rfl, Or.inl (GW_of 152 (by decide +kernel) (by decide +kernel))⟩
theorem fl_X8_13 : FL RX8 13 8 0 := ⟨RX8, TX8, 4, rfl, by decide, rfl, Or.inl (GW_of 149 (by decide +kernel) (by decide +kernel))⟩
theorem fl_X8_19 : FL RX8 19 8 1 := ⟨RX8, TX8, 4, rfl, by decide, rfl, Or.inl (GW_of 150 (by decide +kernel) (by decide +kernel))⟩
theorem fl_X8_22 : FL RX8 22 8 2 := ⟨RX8, TX8, 4, rfl, by decide, rfl, Or.inl (GW_of 151 (by decide +kernel) (by decide +kernel))⟩
theorem fw_X8_25 : FW RX8 25 8 3 false .int := ⟨RX8, TX8, 4, rfl, by decide, rfl, rfl, by decide +kernel, Or.inl (GW_of 152 (by decide +kernel) (by decide +kernel)), fun h => by cases h⟩
theorem fl_X6_9 : FL RX6 9 6 0 := ⟨RX6, TX6, 10, rfl, by decide, rfl, Or.inl (GW_of 246 (by decide +kernel) (by decide +kernel))⟩
theorem fl_X6_67 : FL RX6 67 3 13 := ⟨RX3, TX3, 14, rfl, by decide, rfl, Or.inr (List.mem_of_getElem? (i := 30) (by decide +kernel))⟩
theorem fl_X6_72 : FL RX6 72 3 0 := ⟨RX3, TX3, 14, rfl, by decide, rfl, Or.inr (List.mem_of_getElem? (i := 23) (by decide +kernel))⟩
def M_X8_has : MB := (yX8_has, cX8_has, 2, (some .boolean), ({ frames := 1, cells := 0, slots := 0, locals := 40 } : Room), RX8)
def M_X8_isFull : MB := (yX8_isFull, cX8_isFull, 1, (some .boolean), ({ frames := 1, cells := 0, slots := 0, locals := 40 } : Room), RX8)
def M_X8_append : MB := (yX8_append, cX8_append, 4, none, ({ frames := 2, cells := 0, slots := 0, locals := 60 } : Room), RX8)
def M_X8_partOf : MB := (yX8_partOf, cX8_partOf, 3, (some .int), ({ frames := 2, cells := 0, slots := 0, locals := 61 } : Room), RX8)
def M_X8_haveEitherWay : MB := (yX8_haveEitherWay, cX8_haveEitherWay, 5, (some .boolean), ({ frames := 1, cells := 0, slots := 0, locals := 40 } : Room), RX8)
def M_X10_within : MB := (yX10_within, cX10_within, 3, (some .boolean), ({ frames := 1, cells := 0, slots := 0, locals := 40 } : Room), RX10)
def M_X10_isPlace : MB := (yX10_isPlace, cX10_isPlace, 1, (some .boolean), ({ frames := 1, cells := 0, slots := 0, locals := 40 } : Room), RX10)
def M_X6_signAt : MB := (yX6_signAt, cX6_signAt, 2, (some .int), ({ frames := 1, cells := 0, slots := 0, locals := 40 } : Room), RX6)
def M_X6_isFree : MB := (yX6_isFree, cX6_isFree, 2, (some .boolean), ({ frames := 1, cells := 0, slots := 0, locals := 40 } : Room), RX6)
def M_X6_forceAt : MB := (yX6_forceAt, cX6_forceAt, 8, (some .int), ({ frames := 1, cells := 0, slots := 0, locals := 40 } : Room), RX6)
theorem cb_X8_isFull : CB M_X8_isFull 0 := ⟨GW_of 680 (by decide +kernel) (by decide +kernel), GW_of 87 (by decide +kernel) (by decide +kernel), by decide +kernel, by decide +kernel, by decide +kernel⟩
theorem cb_X8_has : CB M_X8_has 1 := ⟨GW_of 771 (by decide +kernel) (by decide +kernel), GW_of 87 (by decide +kernel) (by decide +kernel), by decide +kernel, by decide +kernel, by decide +kernel⟩
theorem cv_X8_29 : CV RX8 29 M_X8_isFull 0 := ⟨cb_X8_isFull, Or.inl (GW_of 700 (by decide +kernel) (by decide +kernel)), GW_of 678 (by decide +kernel) (by decide +kernel), GW_of 679 (by decide +kernel) (by decide +kernel)⟩
theorem cv_X8_33 : CV RX8 33 M_X8_has 1 := ⟨cb_X8_has, Or.inl (GW_of 780 (by decide +kernel) (by decide +kernel)), GW_of 769 (by decide +kernel) (by decide +kernel), GW_of 770 (by decide +kernel) (by decide +kernel)⟩
/-! ===== X8_has ===== -/
theorem e_X8_has_0 : DC cX8_has 0 (.iconst 0) 1 1 := ⟨by decide +kernel, rfl⟩
theorem e_X8_has_1 : DC cX8_has 1 (.iload_n 1) 1 2 := ⟨by decide +kernel, rfl⟩
theorem e_X8_has_2 : DB cX8_has 2 (.if_icmp .gt 15) (15) 3 5 17 := ⟨by decide +kernel, rfl, rfl⟩
theorem e_X8_has_5 : DC cX8_has 5 (.iload_n 1) 1 6 := ⟨by decide +kernel, rfl⟩
theorem e_X8_has_6 : DC cX8_has 6 (.aload_n 0) 1 7 := ⟨by decide +kernel, rfl⟩
theorem e_X8_has_7 : DC cX8_has 7 (.getfield 25) 3 10 := ⟨by decide +kernel, rfl⟩
theorem e_X8_has_10 : DB cX8_has 10 (.if_icmp .ge 7) (7) 3 13 17 := ⟨by decide +kernel, rfl, rfl⟩
theorem e_X8_has_13 : DC cX8_has 13 (.iconst 1) 1 14 := ⟨by decide +kernel, rfl⟩
theorem e_X8_has_14 : DB cX8_has 14 (.goto 4) (4) 3 17 18 := ⟨by decide +kernel, rfl, rfl⟩
theorem e_X8_has_17 : DC cX8_has 17 (.iconst 0) 1 18 := ⟨by decide +kernel, rfl⟩
theorem e_X8_has_18 : DC cX8_has 18 (.ireturn) 1 19 := ⟨by decide +kernel, rfl⟩
noncomputable def m_X8_has_0 (t_many : Int) (v1 : Int) : Option (Int) :=
  if v1 < 0 then (some (0)) else (if t_many ≤ v1 then (some (0)) else (some (1)))

set_option maxRecDepth 10000 in
theorem g_X8_has_0 {l : Launch} {E : EE} {b0 n : Nat} {h : AH} {a_t : Nat} {t_many v1 : Int} {r : Int} (ao : AO b0 n [a_t]) (ok_t_many : inI t_many) (ok_v1 : inI v1) (hs : m_X8_has_0 t_many v1 = some r) : G l E b0 M_X8_has (fun _ => True) (ZM E b0 (some (vI r)) (ov [a_t] [.inr (8, fsX8 a_t t_many)] h) n (inZ r) 0 0) 0 0 n (ov [a_t] [.inr (8, fsX8 a_t t_many)] h) 0 [some (.ref a_t), some (vI v1)] [] := by
  rw [m_X8_has_0] at hs
  refine g_iconst e_X8_has_0 ?_
  refine g_iload_n e_X8_has_1 rfl ?_
  refine g_icmp_gt e_X8_has_2 (by decide) ok_v1 hs (fun c2 hs => ?_) (fun c2 hs => ?_)
  · refine g_iconst e_X8_has_17 ?_
    obtain rfl := Option.some.inj hs
    exact g_zret rfl (by decide) (by decide) e_X8_has_18
  · refine g_iload_n e_X8_has_5 rfl ?_
    refine g_aload_n e_X8_has_6 rfl ?_
    refine g_get 0 3 ao rfl rfl fsX8_g3 fl_X8_25 e_X8_has_7 ?_
    refine g_icmp_ge e_X8_has_10 ok_v1 ok_t_many hs (fun c10 hs => ?_) (fun c10 hs => ?_)
    · refine g_iconst e_X8_has_17 ?_
      obtain rfl := Option.some.inj hs
      exact g_zret rfl (by decide) (by decide) e_X8_has_18
    · refine g_iconst e_X8_has_13 ?_
      refine g_goto e_X8_has_14 ?_
      obtain rfl := Option.some.inj hs
      exact g_zret rfl (by decide) (by decide) e_X8_has_18

noncomputable def m_X8_has (t_many : Int) (v1 : Int) : Option (Int) := m_X8_has_0 t_many v1

set_option maxRecDepth 10000 in
theorem ct_X8_has {l : Launch} {E : EE} {b0 n : Nat} {h : AH} {a_t : Nat} {t_many : Int} {v1 : Int} (ao : AO b0 n [a_t]) (hf : FA h [a_t] [.inr (8, fsX8 a_t t_many)]) (ok_t_many : inI t_many) (ok_v1 : inI v1) {r : Int} (hm : m_X8_has t_many v1 = some r) : Ct l E b0 M_X8_has 0 0 [.ref a_t, vI v1] h n (some (vI r)) h n (inZ r) := by
  rw [m_X8_has] at hm
  have hg : G l E b0 M_X8_has (fun _ => True) (ZM E b0 (some (vI r)) (ov [a_t] [.inr (8, fsX8 a_t t_many)] h) n (inZ r) 0 0) 0 0 n (ov [a_t] [.inr (8, fsX8 a_t t_many)] h) 0 [some (.ref a_t), some (vI v1)] [] := by
    have hs := hm
    exact g_X8_has_0 ao ok_t_many ok_v1 hs
  rw [FA_id hf] at hg
  exact Ct_of [some (.ref a_t), some (vI v1)] ⟨by decide +kernel, rfl⟩ rfl (Nat.le_of_ble_eq_true rfl) hg

/-! ===== X8_isFull ===== -/
theorem e_X8_isFull_0 : DC cX8_isFull 0 (.aload_n 0) 1 1 := ⟨by decide +kernel, rfl⟩
theorem e_X8_isFull_1 : DC cX8_isFull 1 (.getfield 25) 3 4 := ⟨by decide +kernel, rfl⟩
theorem e_X8_isFull_4 : DC cX8_isFull 4 (.aload_n 0) 1 5 := ⟨by decide +kernel, rfl⟩
theorem e_X8_isFull_5 : DC cX8_isFull 5 (.getfield 13) 3 8 := ⟨by decide +kernel, rfl⟩
theorem e_X8_isFull_8 : DC cX8_isFull 8 (.arraylength) 1 9 := ⟨by decide +kernel, rfl⟩
theorem e_X8_isFull_9 : DB cX8_isFull 9 (.if_icmp .lt 7) (7) 3 12 16 := ⟨by decide +kernel, rfl, rfl⟩
theorem e_X8_isFull_12 : DC cX8_isFull 12 (.iconst 1) 1 13 := ⟨by decide +kernel, rfl⟩
theorem e_X8_isFull_13 : DB cX8_isFull 13 (.goto 4) (4) 3 16 17 := ⟨by decide +kernel, rfl, rfl⟩
theorem e_X8_isFull_16 : DC cX8_isFull 16 (.iconst 0) 1 17 := ⟨by decide +kernel, rfl⟩
theorem e_X8_isFull_17 : DC cX8_isFull 17 (.ireturn) 1 18 := ⟨by decide +kernel, rfl⟩
noncomputable def m_X8_isFull_0 (N_t : Nat) (t_many : Int) : Option (Int) :=
  if t_many < ((N_t : Nat) : Int) then (some (0)) else (some (1))

set_option maxRecDepth 10000 in
theorem g_X8_isFull_0 {l : Launch} {E : EE} {b0 n : Nat} {h : AH} {a_t : Nat} {N_t : Nat} {t_many : Int} {t_xs : Nat → Int} {r : Int} (ao : AO b0 n [a_t, (a_t + 1)]) (hN_t : N_t ≤ 100000) (ok_t_many : inI t_many) (hs : m_X8_isFull_0 N_t t_many = some r) : G l E b0 M_X8_isFull (fun _ => True) (ZM E b0 (some (vI r)) (ov [a_t, (a_t + 1)] [.inr (8, fsX8 a_t t_many), IA E N_t t_xs] h) n (inZ r) 0 0) 0 0 n (ov [a_t, (a_t + 1)] [.inr (8, fsX8 a_t t_many), IA E N_t t_xs] h) 0 [some (.ref a_t)] [] := by
  rw [m_X8_isFull_0] at hs
  refine g_aload_n e_X8_isFull_0 rfl ?_
  refine g_get 0 3 ao rfl rfl fsX8_g3 fl_X8_25 e_X8_isFull_1 ?_
  refine g_aload_n e_X8_isFull_4 rfl ?_
  refine g_get 0 0 ao rfl rfl fsX8_g0 fl_X8_13 e_X8_isFull_5 ?_
  refine g_alen 1 ao rfl (Or.inl rfl) e_X8_isFull_8 ?_
  refine g_icmp_lt e_X8_isFull_9 ok_t_many (by constructor <;> omega) hs (fun c9 hs => ?_) (fun c9 hs => ?_)
  · refine g_iconst e_X8_isFull_16 ?_
    obtain rfl := Option.some.inj hs
    exact g_zret rfl (by decide) (by decide) e_X8_isFull_17
  · refine g_iconst e_X8_isFull_12 ?_
    refine g_goto e_X8_isFull_13 ?_
    obtain rfl := Option.some.inj hs
    exact g_zret rfl (by decide) (by decide) e_X8_isFull_17

noncomputable def m_X8_isFull (N_t : Nat) (t_many : Int) : Option (Int) := m_X8_isFull_0 N_t t_many

set_option maxRecDepth 10000 in
theorem ct_X8_isFull {l : Launch} {E : EE} {b0 n : Nat} {h : AH} {a_t : Nat} {N_t : Nat} {t_many : Int} {t_xs : Nat → Int} (ao : AO b0 n [a_t, (a_t + 1)]) (hN_t : N_t ≤ 100000) (hf : FA h [a_t, (a_t + 1)] [.inr (8, fsX8 a_t t_many), IA E N_t t_xs]) (ok_t_many : inI t_many) {r : Int} (hm : m_X8_isFull N_t t_many = some r) : Ct l E b0 M_X8_isFull 0 0 [.ref a_t] h n (some (vI r)) h n (inZ r) := by
  rw [m_X8_isFull] at hm
  have hg : G l E b0 M_X8_isFull (fun _ => True) (ZM E b0 (some (vI r)) (ov [a_t, (a_t + 1)] [.inr (8, fsX8 a_t t_many), IA E N_t t_xs] h) n (inZ r) 0 0) 0 0 n (ov [a_t, (a_t + 1)] [.inr (8, fsX8 a_t t_many), IA E N_t t_xs] h) 0 [some (.ref a_t)] [] := by
    have hs := hm
    exact g_X8_isFull_0 ao hN_t ok_t_many hs
  rw [FA_id hf] at hg
  exact Ct_of [some (.ref a_t)] ⟨by decide +kernel, rfl⟩ rfl (Nat.le_of_ble_eq_true rfl) hg

/-! ===== X8_append ===== -/
theorem e_X8_append_0 : DC cX8_append 0 (.aload_n 0) 1 1 := ⟨by decide +kernel, rfl⟩
theorem e_X8_append_1 : DC cX8_append 1 (.invokevirtual 29) 3 4 := ⟨by decide +kernel, rfl⟩
theorem e_X8_append_4 : DB cX8_append 4 (.ifCond .ne 43) (43) 3 7 47 := ⟨by decide +kernel, rfl, rfl⟩
theorem e_X8_append_7 : DC cX8_append 7 (.aload_n 0) 1 8 := ⟨by decide +kernel, rfl⟩
theorem e_X8_append_8 : DC cX8_append 8 (.getfield 13) 3 11 := ⟨by decide +kernel, rfl⟩
theorem e_X8_append_11 : DC cX8_append 11 (.aload_n 0) 1 12 := ⟨by decide +kernel, rfl⟩
theorem e_X8_append_12 : DC cX8_append 12 (.getfield 25) 3 15 := ⟨by decide +kernel, rfl⟩
theorem e_X8_append_15 : DC cX8_append 15 (.iload_n 1) 1 16 := ⟨by decide +kernel, rfl⟩
theorem e_X8_append_16 : DC cX8_append 16 (.iastore) 1 17 := ⟨by decide +kernel, rfl⟩
theorem e_X8_append_17 : DC cX8_append 17 (.aload_n 0) 1 18 := ⟨by decide +kernel, rfl⟩
theorem e_X8_append_18 : DC cX8_append 18 (.getfield 19) 3 21 := ⟨by decide +kernel, rfl⟩
theorem e_X8_append_21 : DC cX8_append 21 (.aload_n 0) 1 22 := ⟨by decide +kernel, rfl⟩
theorem e_X8_append_22 : DC cX8_append 22 (.getfield 25) 3 25 := ⟨by decide +kernel, rfl⟩
theorem e_X8_append_25 : DC cX8_append 25 (.iload_n 2) 1 26 := ⟨by decide +kernel, rfl⟩
theorem e_X8_append_26 : DC cX8_append 26 (.iastore) 1 27 := ⟨by decide +kernel, rfl⟩
theorem e_X8_append_27 : DC cX8_append 27 (.aload_n 0) 1 28 := ⟨by decide +kernel, rfl⟩
theorem e_X8_append_28 : DC cX8_append 28 (.getfield 22) 3 31 := ⟨by decide +kernel, rfl⟩
theorem e_X8_append_31 : DC cX8_append 31 (.aload_n 0) 1 32 := ⟨by decide +kernel, rfl⟩
theorem e_X8_append_32 : DC cX8_append 32 (.getfield 25) 3 35 := ⟨by decide +kernel, rfl⟩
theorem e_X8_append_35 : DC cX8_append 35 (.iload_n 3) 1 36 := ⟨by decide +kernel, rfl⟩
theorem e_X8_append_36 : DC cX8_append 36 (.iastore) 1 37 := ⟨by decide +kernel, rfl⟩
theorem e_X8_append_37 : DC cX8_append 37 (.aload_n 0) 1 38 := ⟨by decide +kernel, rfl⟩
theorem e_X8_append_38 : DC cX8_append 38 (.dup) 1 39 := ⟨by decide +kernel, rfl⟩
theorem e_X8_append_39 : DC cX8_append 39 (.getfield 25) 3 42 := ⟨by decide +kernel, rfl⟩
theorem e_X8_append_42 : DC cX8_append 42 (.iconst 1) 1 43 := ⟨by decide +kernel, rfl⟩
theorem e_X8_append_43 : DC cX8_append 43 (.iadd) 1 44 := ⟨by decide +kernel, rfl⟩
theorem e_X8_append_44 : DC cX8_append 44 (.putfield 25) 3 47 := ⟨by decide +kernel, rfl⟩
theorem e_X8_append_47 : DC cX8_append 47 (.return_) 1 48 := ⟨by decide +kernel, rfl⟩
noncomputable def m_X8_append_0 (N_t : Nat) (t_many : Int) (t_xs : Nat → Int) (t_ys : Nat → Int) (t_zs : Nat → Int) (v1 : Int) (v2 : Int) (v3 : Int) : Option (Int × (Nat → Int) × (Nat → Int) × (Nat → Int)) :=
  (m_X8_isFull N_t t_many).bind (fun y1 => if y1 = 0 then (chk (inB t_many N_t) (chk (inB t_many N_t) (chk (inB t_many N_t) (chk (inI (t_many + 1)) (some (t_many + 1, up t_xs (Int.toNat t_many) v1, up t_ys (Int.toNat t_many) v2, up t_zs (Int.toNat t_many) v3)))))) else (some (t_many, t_xs, t_ys, t_zs)))

set_option maxRecDepth 10000 in
theorem g_X8_append_0 {l : Launch} {E : EE} {b0 n : Nat} {h : AH} {a_t : Nat} {N_t : Nat} {t_many v1 v2 v3 : Int} {t_xs t_ys t_zs : Nat → Int} {r : Int × (Nat → Int) × (Nat → Int) × (Nat → Int)} (ao : AO b0 n [a_t, (a_t + 1), (a_t + 2), (a_t + 3)]) (hN_t : N_t ≤ 100000) (ok_t_many : inI t_many) (ok_t_xs : okA t_xs) (ok_t_ys : okA t_ys) (ok_t_zs : okA t_zs) (ok_v1 : inI v1) (ok_v2 : inI v2) (ok_v3 : inI v3) (hs : m_X8_append_0 N_t t_many t_xs t_ys t_zs v1 v2 v3 = some r) : G l E b0 M_X8_append (fun _ => True) (ZM E b0 (none) (ov [a_t, (a_t + 1), (a_t + 2), (a_t + 3)] [.inr (8, fsX8 a_t r.1), IA E N_t r.2.1, IA E N_t r.2.2.1, IA E N_t r.2.2.2] h) n (inI r.1 ∧ okA r.2.1 ∧ okA r.2.2.1 ∧ okA r.2.2.2) 0 0) 0 0 n (ov [a_t, (a_t + 1), (a_t + 2), (a_t + 3)] [.inr (8, fsX8 a_t t_many), IA E N_t t_xs, IA E N_t t_ys, IA E N_t t_zs] h) 0 [some (.ref a_t), some (vI v1), some (vI v2), some (vI v3)] [] := by
  rw [m_X8_append_0] at hs
  refine g_aload_n e_X8_append_0 rfl ?_
  obtain ⟨y1, hy1, hs⟩ := bind_elim hs
  refine g_callV [] cv_X8_29 ⟨rfl, rfl, Nat.le_of_ble_eq_true rfl, Nat.le_of_ble_eq_true rfl⟩ (ct_X8_isFull (AO_call [0, 1] ao (by decide) rfl) hN_t (FA_call [0, 1] ao.1 rfl rfl) ok_t_many hy1) e_X8_append_1 (ao.2 0 _ rfl) (ov_get 0 ao.1 rfl rfl) rfl rfl rfl (Nat.le_of_ble_eq_true rfl) ⟨Nat.le_refl _, Nat.le_refl _⟩ (fun Py1 => ?_)
  refine g_if_ne e_X8_append_4 (inZ_I Py1) hs (fun c4 hs => ?_) (fun c4 hs => ?_)
  · refine g_aload_n e_X8_append_7 rfl ?_
    refine g_get 0 0 ao rfl rfl fsX8_g0 fl_X8_13 e_X8_append_8 ?_
    refine g_aload_n e_X8_append_11 rfl ?_
    refine g_get 0 3 ao rfl rfl fsX8_g3 fl_X8_25 e_X8_append_12 ?_
    refine g_iload_n e_X8_append_15 rfl ?_
    refine g_iast 1 ao rfl rfl ls_1 (Nat.le_trans hN_t (Nat.le_of_ble_eq_true rfl)) e_X8_append_16 hs (fun hi2 hs => ?_)
    refine g_aload_n e_X8_append_17 rfl ?_
    refine g_get 0 1 ao rfl rfl fsX8_g1 fl_X8_19 e_X8_append_18 ?_
    refine g_aload_n e_X8_append_21 rfl ?_
    refine g_get 0 3 ao rfl rfl fsX8_g3 fl_X8_25 e_X8_append_22 ?_
    refine g_iload_n e_X8_append_25 rfl ?_
    refine g_iast 2 ao rfl rfl ls_2 (Nat.le_trans hN_t (Nat.le_of_ble_eq_true rfl)) e_X8_append_26 hs (fun hi3 hs => ?_)
    refine g_aload_n e_X8_append_27 rfl ?_
    refine g_get 0 2 ao rfl rfl fsX8_g2 fl_X8_22 e_X8_append_28 ?_
    refine g_aload_n e_X8_append_31 rfl ?_
    refine g_get 0 3 ao rfl rfl fsX8_g3 fl_X8_25 e_X8_append_32 ?_
    refine g_iload_n e_X8_append_35 rfl ?_
    refine g_iast 3 ao rfl rfl ls_3 (Nat.le_trans hN_t (Nat.le_of_ble_eq_true rfl)) e_X8_append_36 hs (fun hi4 hs => ?_)
    refine g_aload_n e_X8_append_37 rfl ?_
    refine g_dup e_X8_append_38 rfl ?_
    refine g_get 0 3 ao rfl rfl fsX8_g3 fl_X8_25 e_X8_append_39 ?_
    refine g_iconst e_X8_append_42 ?_
    refine g_iadd e_X8_append_43 ?_
    obtain ⟨hc5, hs⟩ := chk_elim hs
    refine g_put 0 3 ao rfl rfl fsX8_k3 fsX8_s3 ls_0 fw_X8_25 (fun h => by cases h) ⟨rfl, rfl⟩ e_X8_append_44 ?_
    obtain rfl := Option.some.inj hs
    exact g_vret rfl ⟨hc5, (okA_up ok_t_xs ok_v1), (okA_up ok_t_ys ok_v2), (okA_up ok_t_zs ok_v3)⟩ e_X8_append_47
  · obtain rfl := Option.some.inj hs
    exact g_vret rfl ⟨ok_t_many, ok_t_xs, ok_t_ys, ok_t_zs⟩ e_X8_append_47

noncomputable def m_X8_append (N_t : Nat) (t_many : Int) (t_xs : Nat → Int) (t_ys : Nat → Int) (t_zs : Nat → Int) (v1 : Int) (v2 : Int) (v3 : Int) : Option (Int × (Nat → Int) × (Nat → Int) × (Nat → Int)) := m_X8_append_0 N_t t_many t_xs t_ys t_zs v1 v2 v3

set_option maxRecDepth 10000 in
theorem ct_X8_append {l : Launch} {E : EE} {b0 n : Nat} {h : AH} {a_t : Nat} {N_t : Nat} {t_many : Int} {t_xs t_ys t_zs : Nat → Int} {v1 v2 v3 : Int} (ao : AO b0 n [a_t, (a_t + 1), (a_t + 2), (a_t + 3)]) (hN_t : N_t ≤ 100000) (hf : FA h [a_t, (a_t + 1), (a_t + 2), (a_t + 3)] [.inr (8, fsX8 a_t t_many), IA E N_t t_xs, IA E N_t t_ys, IA E N_t t_zs]) (ok_t_many : inI t_many) (ok_t_xs : okA t_xs) (ok_t_ys : okA t_ys) (ok_t_zs : okA t_zs) (ok_v1 : inI v1) (ok_v2 : inI v2) (ok_v3 : inI v3) {r : Int × (Nat → Int) × (Nat → Int) × (Nat → Int)} (hm : m_X8_append N_t t_many t_xs t_ys t_zs v1 v2 v3 = some r) : Ct l E b0 M_X8_append 0 0 [.ref a_t, vI v1, vI v2, vI v3] h n (none) (ov [a_t, (a_t + 1), (a_t + 2), (a_t + 3)] [.inr (8, fsX8 a_t r.1), IA E N_t r.2.1, IA E N_t r.2.2.1, IA E N_t r.2.2.2] h) n (inI r.1 ∧ okA r.2.1 ∧ okA r.2.2.1 ∧ okA r.2.2.2) := by
  rw [m_X8_append] at hm
  have hg : G l E b0 M_X8_append (fun _ => True) (ZM E b0 (none) (ov [a_t, (a_t + 1), (a_t + 2), (a_t + 3)] [.inr (8, fsX8 a_t r.1), IA E N_t r.2.1, IA E N_t r.2.2.1, IA E N_t r.2.2.2] h) n (inI r.1 ∧ okA r.2.1 ∧ okA r.2.2.1 ∧ okA r.2.2.2) 0 0) 0 0 n (ov [a_t, (a_t + 1), (a_t + 2), (a_t + 3)] [.inr (8, fsX8 a_t t_many), IA E N_t t_xs, IA E N_t t_ys, IA E N_t t_zs] h) 0 [some (.ref a_t), some (vI v1), some (vI v2), some (vI v3)] [] := by
    have hs := hm
    exact g_X8_append_0 ao hN_t ok_t_many ok_t_xs ok_t_ys ok_t_zs ok_v1 ok_v2 ok_v3 hs
  rw [FA_id hf] at hg
  exact Ct_of [some (.ref a_t), some (vI v1), some (vI v2), some (vI v3)] ⟨by decide +kernel, rfl⟩ rfl (Nat.le_of_ble_eq_true rfl) hg

/-! ===== X8_partOf ===== -/
theorem e_X8_partOf_0 : DC cX8_partOf 0 (.aload_n 0) 1 1 := ⟨by decide +kernel, rfl⟩
theorem e_X8_partOf_1 : DC cX8_partOf 1 (.iload_n 1) 1 2 := ⟨by decide +kernel, rfl⟩
theorem e_X8_partOf_2 : DC cX8_partOf 2 (.invokevirtual 33) 3 5 := ⟨by decide +kernel, rfl⟩
theorem e_X8_partOf_5 : DB cX8_partOf 5 (.ifCond .ne 5) (5) 3 8 10 := ⟨by decide +kernel, rfl, rfl⟩
theorem e_X8_partOf_8 : DC cX8_partOf 8 (.iconst 0) 1 9 := ⟨by decide +kernel, rfl⟩
theorem e_X8_partOf_9 : DC cX8_partOf 9 (.ireturn) 1 10 := ⟨by decide +kernel, rfl⟩
theorem e_X8_partOf_10 : DC cX8_partOf 10 (.iload_n 2) 1 11 := ⟨by decide +kernel, rfl⟩
theorem e_X8_partOf_11 : DB cX8_partOf 11 (.ifCond .ne 10) (10) 3 14 21 := ⟨by decide +kernel, rfl, rfl⟩
theorem e_X8_partOf_14 : DC cX8_partOf 14 (.aload_n 0) 1 15 := ⟨by decide +kernel, rfl⟩
theorem e_X8_partOf_15 : DC cX8_partOf 15 (.getfield 13) 3 18 := ⟨by decide +kernel, rfl⟩
theorem e_X8_partOf_18 : DC cX8_partOf 18 (.iload_n 1) 1 19 := ⟨by decide +kernel, rfl⟩
theorem e_X8_partOf_19 : DC cX8_partOf 19 (.iaload) 1 20 := ⟨by decide +kernel, rfl⟩
theorem e_X8_partOf_20 : DC cX8_partOf 20 (.ireturn) 1 21 := ⟨by decide +kernel, rfl⟩
theorem e_X8_partOf_21 : DC cX8_partOf 21 (.iload_n 2) 1 22 := ⟨by decide +kernel, rfl⟩
theorem e_X8_partOf_22 : DC cX8_partOf 22 (.iconst 1) 1 23 := ⟨by decide +kernel, rfl⟩
theorem e_X8_partOf_23 : DB cX8_partOf 23 (.if_icmp .ne 12) (12) 3 26 35 := ⟨by decide +kernel, rfl, rfl⟩
theorem e_X8_partOf_26 : DC cX8_partOf 26 (.aload_n 0) 1 27 := ⟨by decide +kernel, rfl⟩
theorem e_X8_partOf_27 : DC cX8_partOf 27 (.getfield 19) 3 30 := ⟨by decide +kernel, rfl⟩
theorem e_X8_partOf_30 : DC cX8_partOf 30 (.iload_n 1) 1 31 := ⟨by decide +kernel, rfl⟩
theorem e_X8_partOf_31 : DC cX8_partOf 31 (.iaload) 1 32 := ⟨by decide +kernel, rfl⟩
theorem e_X8_partOf_32 : DB cX8_partOf 32 (.goto 9) (9) 3 35 41 := ⟨by decide +kernel, rfl, rfl⟩
theorem e_X8_partOf_35 : DC cX8_partOf 35 (.aload_n 0) 1 36 := ⟨by decide +kernel, rfl⟩
theorem e_X8_partOf_36 : DC cX8_partOf 36 (.getfield 22) 3 39 := ⟨by decide +kernel, rfl⟩
theorem e_X8_partOf_39 : DC cX8_partOf 39 (.iload_n 1) 1 40 := ⟨by decide +kernel, rfl⟩
theorem e_X8_partOf_40 : DC cX8_partOf 40 (.iaload) 1 41 := ⟨by decide +kernel, rfl⟩
theorem e_X8_partOf_41 : DC cX8_partOf 41 (.ireturn) 1 42 := ⟨by decide +kernel, rfl⟩
noncomputable def m_X8_partOf_0 (N_t : Nat) (t_many : Int) (t_xs : Nat → Int) (t_ys : Nat → Int) (t_zs : Nat → Int) (v1 : Int) (v2 : Int) : Option (Int) :=
  (m_X8_has t_many v1).bind (fun y1 => if y1 = 0 then (some (0)) else (if v2 = 0 then (chk (inB v1 N_t) (some (t_xs (Int.toNat v1)))) else (if v2 = 1 then (chk (inB v1 N_t) (some (t_ys (Int.toNat v1)))) else (chk (inB v1 N_t) (some (t_zs (Int.toNat v1)))))))

set_option maxRecDepth 10000 in
theorem g_X8_partOf_0 {l : Launch} {E : EE} {b0 n : Nat} {h : AH} {a_t : Nat} {N_t : Nat} {t_many v1 v2 : Int} {t_xs t_ys t_zs : Nat → Int} {r : Int} (ao : AO b0 n [a_t, (a_t + 1), (a_t + 2), (a_t + 3)]) (hN_t : N_t ≤ 100000) (ok_t_many : inI t_many) (ok_t_xs : okA t_xs) (ok_t_ys : okA t_ys) (ok_t_zs : okA t_zs) (ok_v1 : inI v1) (ok_v2 : inI v2) (hs : m_X8_partOf_0 N_t t_many t_xs t_ys t_zs v1 v2 = some r) : G l E b0 M_X8_partOf (fun _ => True) (ZM E b0 (some (vI r)) (ov [a_t, (a_t + 1), (a_t + 2), (a_t + 3)] [.inr (8, fsX8 a_t t_many), IA E N_t t_xs, IA E N_t t_ys, IA E N_t t_zs] h) n (inI r) 0 0) 0 0 n (ov [a_t, (a_t + 1), (a_t + 2), (a_t + 3)] [.inr (8, fsX8 a_t t_many), IA E N_t t_xs, IA E N_t t_ys, IA E N_t t_zs] h) 0 [some (.ref a_t), some (vI v1), some (vI v2)] [] := by
  rw [m_X8_partOf_0] at hs
  refine g_aload_n e_X8_partOf_0 rfl ?_
  refine g_iload_n e_X8_partOf_1 rfl ?_
  obtain ⟨y1, hy1, hs⟩ := bind_elim hs
  refine g_callV [vI v1] cv_X8_33 ⟨rfl, rfl, Nat.le_of_ble_eq_true rfl, Nat.le_of_ble_eq_true rfl⟩ (ct_X8_has (AO_call [0] ao (by decide) rfl) (FA_call [0] ao.1 rfl rfl) ok_t_many ok_v1 hy1) e_X8_partOf_2 (ao.2 0 _ rfl) (ov_get 0 ao.1 rfl rfl) rfl rfl rfl (Nat.le_of_ble_eq_true rfl) ⟨Nat.le_refl _, Nat.le_refl _⟩ (fun Py1 => ?_)
  refine g_if_ne e_X8_partOf_5 (inZ_I Py1) hs (fun c5 hs => ?_) (fun c5 hs => ?_)
  · refine g_iconst e_X8_partOf_8 ?_
    obtain rfl := Option.some.inj hs
    exact g_iret rfl (by decide) e_X8_partOf_9
  · refine g_iload_n e_X8_partOf_10 rfl ?_
    refine g_if_ne e_X8_partOf_11 ok_v2 hs (fun c11 hs => ?_) (fun c11 hs => ?_)
    · refine g_aload_n e_X8_partOf_14 rfl ?_
      refine g_get 0 0 ao rfl rfl fsX8_g0 fl_X8_13 e_X8_partOf_15 ?_
      refine g_iload_n e_X8_partOf_18 rfl ?_
      refine g_iald 1 ao rfl rfl (Nat.le_trans hN_t (Nat.le_of_ble_eq_true rfl)) e_X8_partOf_19 hs (fun hi2 hs => ?_)
      obtain rfl := Option.some.inj hs
      exact g_iret rfl (ok_t_xs _) e_X8_partOf_20
    · refine g_iload_n e_X8_partOf_21 rfl ?_
      refine g_iconst e_X8_partOf_22 ?_
      refine g_icmp_ne e_X8_partOf_23 ok_v2 (by decide) hs (fun c23 hs => ?_) (fun c23 hs => ?_)
      · refine g_aload_n e_X8_partOf_26 rfl ?_
        refine g_get 0 1 ao rfl rfl fsX8_g1 fl_X8_19 e_X8_partOf_27 ?_
        refine g_iload_n e_X8_partOf_30 rfl ?_
        refine g_iald 2 ao rfl rfl (Nat.le_trans hN_t (Nat.le_of_ble_eq_true rfl)) e_X8_partOf_31 hs (fun hi3 hs => ?_)
        refine g_goto e_X8_partOf_32 ?_
        obtain rfl := Option.some.inj hs
        exact g_iret rfl (ok_t_ys _) e_X8_partOf_41
      · refine g_aload_n e_X8_partOf_35 rfl ?_
        refine g_get 0 2 ao rfl rfl fsX8_g2 fl_X8_22 e_X8_partOf_36 ?_
        refine g_iload_n e_X8_partOf_39 rfl ?_
        refine g_iald 3 ao rfl rfl (Nat.le_trans hN_t (Nat.le_of_ble_eq_true rfl)) e_X8_partOf_40 hs (fun hi4 hs => ?_)
        obtain rfl := Option.some.inj hs
        exact g_iret rfl (ok_t_zs _) e_X8_partOf_41

noncomputable def m_X8_partOf (N_t : Nat) (t_many : Int) (t_xs : Nat → Int) (t_ys : Nat → Int) (t_zs : Nat → Int) (v1 : Int) (v2 : Int) : Option (Int) := m_X8_partOf_0 N_t t_many t_xs t_ys t_zs v1 v2

set_option maxRecDepth 10000 in
theorem ct_X8_partOf {l : Launch} {E : EE} {b0 n : Nat} {h : AH} {a_t : Nat} {N_t : Nat} {t_many : Int} {t_xs t_ys t_zs : Nat → Int} {v1 v2 : Int} (ao : AO b0 n [a_t, (a_t + 1), (a_t + 2), (a_t + 3)]) (hN_t : N_t ≤ 100000) (hf : FA h [a_t, (a_t + 1), (a_t + 2), (a_t + 3)] [.inr (8, fsX8 a_t t_many), IA E N_t t_xs, IA E N_t t_ys, IA E N_t t_zs]) (ok_t_many : inI t_many) (ok_t_xs : okA t_xs) (ok_t_ys : okA t_ys) (ok_t_zs : okA t_zs) (ok_v1 : inI v1) (ok_v2 : inI v2) {r : Int} (hm : m_X8_partOf N_t t_many t_xs t_ys t_zs v1 v2 = some r) : Ct l E b0 M_X8_partOf 0 0 [.ref a_t, vI v1, vI v2] h n (some (vI r)) h n (inI r) := by
  rw [m_X8_partOf] at hm
  have hg : G l E b0 M_X8_partOf (fun _ => True) (ZM E b0 (some (vI r)) (ov [a_t, (a_t + 1), (a_t + 2), (a_t + 3)] [.inr (8, fsX8 a_t t_many), IA E N_t t_xs, IA E N_t t_ys, IA E N_t t_zs] h) n (inI r) 0 0) 0 0 n (ov [a_t, (a_t + 1), (a_t + 2), (a_t + 3)] [.inr (8, fsX8 a_t t_many), IA E N_t t_xs, IA E N_t t_ys, IA E N_t t_zs] h) 0 [some (.ref a_t), some (vI v1), some (vI v2)] [] := by
    have hs := hm
    exact g_X8_partOf_0 ao hN_t ok_t_many ok_t_xs ok_t_ys ok_t_zs ok_v1 ok_v2 hs
  rw [FA_id hf] at hg
  exact Ct_of [some (.ref a_t), some (vI v1), some (vI v2)] ⟨by decide +kernel, rfl⟩ rfl (Nat.le_of_ble_eq_true rfl) hg

/-! ===== X8_haveEitherWay ===== -/
theorem e_X8_haveEitherWay_0 : DC cX8_haveEitherWay 0 (.iconst 0) 1 1 := ⟨by decide +kernel, rfl⟩
theorem e_X8_haveEitherWay_1 : DC cX8_haveEitherWay 1 (.istore 4) 2 3 := ⟨by decide +kernel, rfl⟩
theorem e_X8_haveEitherWay_3 : DC cX8_haveEitherWay 3 (.iload 4) 2 5 := ⟨by decide +kernel, rfl⟩
theorem e_X8_haveEitherWay_5 : DC cX8_haveEitherWay 5 (.aload_n 0) 1 6 := ⟨by decide +kernel, rfl⟩
theorem e_X8_haveEitherWay_6 : DC cX8_haveEitherWay 6 (.getfield 25) 3 9 := ⟨by decide +kernel, rfl⟩
theorem e_X8_haveEitherWay_9 : DB cX8_haveEitherWay 9 (.if_icmp .ge 82) (82) 3 12 91 := ⟨by decide +kernel, rfl, rfl⟩
theorem e_X8_haveEitherWay_12 : DC cX8_haveEitherWay 12 (.aload_n 0) 1 13 := ⟨by decide +kernel, rfl⟩
theorem e_X8_haveEitherWay_13 : DC cX8_haveEitherWay 13 (.getfield 13) 3 16 := ⟨by decide +kernel, rfl⟩
theorem e_X8_haveEitherWay_16 : DC cX8_haveEitherWay 16 (.iload 4) 2 18 := ⟨by decide +kernel, rfl⟩
theorem e_X8_haveEitherWay_18 : DC cX8_haveEitherWay 18 (.iaload) 1 19 := ⟨by decide +kernel, rfl⟩
theorem e_X8_haveEitherWay_19 : DC cX8_haveEitherWay 19 (.iload_n 1) 1 20 := ⟨by decide +kernel, rfl⟩
theorem e_X8_haveEitherWay_20 : DB cX8_haveEitherWay 20 (.if_icmp .ne 27) (27) 3 23 47 := ⟨by decide +kernel, rfl, rfl⟩
theorem e_X8_haveEitherWay_23 : DC cX8_haveEitherWay 23 (.aload_n 0) 1 24 := ⟨by decide +kernel, rfl⟩
theorem e_X8_haveEitherWay_24 : DC cX8_haveEitherWay 24 (.getfield 19) 3 27 := ⟨by decide +kernel, rfl⟩
theorem e_X8_haveEitherWay_27 : DC cX8_haveEitherWay 27 (.iload 4) 2 29 := ⟨by decide +kernel, rfl⟩
theorem e_X8_haveEitherWay_29 : DC cX8_haveEitherWay 29 (.iaload) 1 30 := ⟨by decide +kernel, rfl⟩
theorem e_X8_haveEitherWay_30 : DC cX8_haveEitherWay 30 (.iload_n 2) 1 31 := ⟨by decide +kernel, rfl⟩
theorem e_X8_haveEitherWay_31 : DB cX8_haveEitherWay 31 (.if_icmp .ne 16) (16) 3 34 47 := ⟨by decide +kernel, rfl, rfl⟩
theorem e_X8_haveEitherWay_34 : DC cX8_haveEitherWay 34 (.aload_n 0) 1 35 := ⟨by decide +kernel, rfl⟩
theorem e_X8_haveEitherWay_35 : DC cX8_haveEitherWay 35 (.getfield 22) 3 38 := ⟨by decide +kernel, rfl⟩
theorem e_X8_haveEitherWay_38 : DC cX8_haveEitherWay 38 (.iload 4) 2 40 := ⟨by decide +kernel, rfl⟩
theorem e_X8_haveEitherWay_40 : DC cX8_haveEitherWay 40 (.iaload) 1 41 := ⟨by decide +kernel, rfl⟩
theorem e_X8_haveEitherWay_41 : DC cX8_haveEitherWay 41 (.iload_n 3) 1 42 := ⟨by decide +kernel, rfl⟩
theorem e_X8_haveEitherWay_42 : DB cX8_haveEitherWay 42 (.if_icmp .ne 5) (5) 3 45 47 := ⟨by decide +kernel, rfl, rfl⟩
theorem e_X8_haveEitherWay_45 : DC cX8_haveEitherWay 45 (.iconst 1) 1 46 := ⟨by decide +kernel, rfl⟩
theorem e_X8_haveEitherWay_46 : DC cX8_haveEitherWay 46 (.ireturn) 1 47 := ⟨by decide +kernel, rfl⟩
theorem e_X8_haveEitherWay_47 : DC cX8_haveEitherWay 47 (.aload_n 0) 1 48 := ⟨by decide +kernel, rfl⟩
theorem e_X8_haveEitherWay_48 : DC cX8_haveEitherWay 48 (.getfield 13) 3 51 := ⟨by decide +kernel, rfl⟩
theorem e_X8_haveEitherWay_51 : DC cX8_haveEitherWay 51 (.iload 4) 2 53 := ⟨by decide +kernel, rfl⟩
theorem e_X8_haveEitherWay_53 : DC cX8_haveEitherWay 53 (.iaload) 1 54 := ⟨by decide +kernel, rfl⟩
theorem e_X8_haveEitherWay_54 : DC cX8_haveEitherWay 54 (.iload_n 1) 1 55 := ⟨by decide +kernel, rfl⟩
theorem e_X8_haveEitherWay_55 : DC cX8_haveEitherWay 55 (.ineg) 1 56 := ⟨by decide +kernel, rfl⟩
theorem e_X8_haveEitherWay_56 : DB cX8_haveEitherWay 56 (.if_icmp .ne 29) (29) 3 59 85 := ⟨by decide +kernel, rfl, rfl⟩
theorem e_X8_haveEitherWay_59 : DC cX8_haveEitherWay 59 (.aload_n 0) 1 60 := ⟨by decide +kernel, rfl⟩
theorem e_X8_haveEitherWay_60 : DC cX8_haveEitherWay 60 (.getfield 19) 3 63 := ⟨by decide +kernel, rfl⟩
theorem e_X8_haveEitherWay_63 : DC cX8_haveEitherWay 63 (.iload 4) 2 65 := ⟨by decide +kernel, rfl⟩
theorem e_X8_haveEitherWay_65 : DC cX8_haveEitherWay 65 (.iaload) 1 66 := ⟨by decide +kernel, rfl⟩
theorem e_X8_haveEitherWay_66 : DC cX8_haveEitherWay 66 (.iload_n 2) 1 67 := ⟨by decide +kernel, rfl⟩
theorem e_X8_haveEitherWay_67 : DC cX8_haveEitherWay 67 (.ineg) 1 68 := ⟨by decide +kernel, rfl⟩
theorem e_X8_haveEitherWay_68 : DB cX8_haveEitherWay 68 (.if_icmp .ne 17) (17) 3 71 85 := ⟨by decide +kernel, rfl, rfl⟩
theorem e_X8_haveEitherWay_71 : DC cX8_haveEitherWay 71 (.aload_n 0) 1 72 := ⟨by decide +kernel, rfl⟩
theorem e_X8_haveEitherWay_72 : DC cX8_haveEitherWay 72 (.getfield 22) 3 75 := ⟨by decide +kernel, rfl⟩
theorem e_X8_haveEitherWay_75 : DC cX8_haveEitherWay 75 (.iload 4) 2 77 := ⟨by decide +kernel, rfl⟩
theorem e_X8_haveEitherWay_77 : DC cX8_haveEitherWay 77 (.iaload) 1 78 := ⟨by decide +kernel, rfl⟩
theorem e_X8_haveEitherWay_78 : DC cX8_haveEitherWay 78 (.iload_n 3) 1 79 := ⟨by decide +kernel, rfl⟩
theorem e_X8_haveEitherWay_79 : DC cX8_haveEitherWay 79 (.ineg) 1 80 := ⟨by decide +kernel, rfl⟩
theorem e_X8_haveEitherWay_80 : DB cX8_haveEitherWay 80 (.if_icmp .ne 5) (5) 3 83 85 := ⟨by decide +kernel, rfl, rfl⟩
theorem e_X8_haveEitherWay_83 : DC cX8_haveEitherWay 83 (.iconst 1) 1 84 := ⟨by decide +kernel, rfl⟩
theorem e_X8_haveEitherWay_84 : DC cX8_haveEitherWay 84 (.ireturn) 1 85 := ⟨by decide +kernel, rfl⟩
theorem e_X8_haveEitherWay_85 : DC cX8_haveEitherWay 85 (.iinc 4 1) 3 88 := ⟨by decide +kernel, rfl⟩
theorem e_X8_haveEitherWay_88 : DB cX8_haveEitherWay 88 (.goto (-85)) (-85) 3 91 3 := ⟨by decide +kernel, rfl, rfl⟩
theorem e_X8_haveEitherWay_91 : DC cX8_haveEitherWay 91 (.iconst 0) 1 92 := ⟨by decide +kernel, rfl⟩
theorem e_X8_haveEitherWay_92 : DC cX8_haveEitherWay 92 (.ireturn) 1 93 := ⟨by decide +kernel, rfl⟩
noncomputable def m_X8_haveEitherWay_85 (N_t : Nat) (t_many : Int) (t_xs : Nat → Int) (t_ys : Nat → Int) (t_zs : Nat → Int) (v1 : Int) (v2 : Int) (v3 : Int) (v4 : Int) (ag : Int → Option (Int)) (k_91 : Int → Option (Int)) (k_45 : Int → Option (Int)) (k_83 : Int → Option (Int)) : Option (Int) :=
  chk (inI (v4 + 1)) (ag (v4 + 1))

set_option maxRecDepth 10000 in
theorem g_X8_haveEitherWay_85 {l : Launch} {E : EE} {b0 n : Nat} {h : AH} {a_t : Nat} {N_t : Nat} {t_many v1 v2 v3 v4 : Int} {t_xs t_ys t_zs : Nat → Int} {r : Int} {ag : Int → Option (Int)} {k_91 : Int → Option (Int)} {k_45 : Int → Option (Int)} {k_83 : Int → Option (Int)} (ao : AO b0 n [a_t, (a_t + 1), (a_t + 2), (a_t + 3)]) (hN_t : N_t ≤ 100000) (ok_t_many : inI t_many) (ok_t_xs : okA t_xs) (ok_t_ys : okA t_ys) (ok_t_zs : okA t_zs) (ok_v1 : inI v1) (ok_v2 : inI v2) (ok_v3 : inI v3) (ok_v4 : inI v4) (hag : ∀ (v4_ : Int), inI v4_ → ag v4_ = some r → G l E b0 M_X8_haveEitherWay (fun _ => True) (ZM E b0 (some (vI r)) (ov [a_t, (a_t + 1), (a_t + 2), (a_t + 3)] [.inr (8, fsX8 a_t t_many), IA E N_t t_xs, IA E N_t t_ys, IA E N_t t_zs] h) n (inZ r) 0 0) 0 0 n (ov [a_t, (a_t + 1), (a_t + 2), (a_t + 3)] [.inr (8, fsX8 a_t t_many), IA E N_t t_xs, IA E N_t t_ys, IA E N_t t_zs] h) 3 [some (.ref a_t), some (vI v1), some (vI v2), some (vI v3), some (vI v4_)] []) (hk_91 : ∀ (v4_ : Int), inI v4_ → k_91 v4_ = some r → G l E b0 M_X8_haveEitherWay (fun _ => True) (ZM E b0 (some (vI r)) (ov [a_t, (a_t + 1), (a_t + 2), (a_t + 3)] [.inr (8, fsX8 a_t t_many), IA E N_t t_xs, IA E N_t t_ys, IA E N_t t_zs] h) n (inZ r) 0 0) 0 0 n (ov [a_t, (a_t + 1), (a_t + 2), (a_t + 3)] [.inr (8, fsX8 a_t t_many), IA E N_t t_xs, IA E N_t t_ys, IA E N_t t_zs] h) 91 [none, none, none, none, none] []) (hk_45 : ∀ (v4_ : Int), inI v4_ → k_45 v4_ = some r → G l E b0 M_X8_haveEitherWay (fun _ => True) (ZM E b0 (some (vI r)) (ov [a_t, (a_t + 1), (a_t + 2), (a_t + 3)] [.inr (8, fsX8 a_t t_many), IA E N_t t_xs, IA E N_t t_ys, IA E N_t t_zs] h) n (inZ r) 0 0) 0 0 n (ov [a_t, (a_t + 1), (a_t + 2), (a_t + 3)] [.inr (8, fsX8 a_t t_many), IA E N_t t_xs, IA E N_t t_ys, IA E N_t t_zs] h) 45 [none, none, none, none, none] []) (hk_83 : ∀ (v4_ : Int), inI v4_ → k_83 v4_ = some r → G l E b0 M_X8_haveEitherWay (fun _ => True) (ZM E b0 (some (vI r)) (ov [a_t, (a_t + 1), (a_t + 2), (a_t + 3)] [.inr (8, fsX8 a_t t_many), IA E N_t t_xs, IA E N_t t_ys, IA E N_t t_zs] h) n (inZ r) 0 0) 0 0 n (ov [a_t, (a_t + 1), (a_t + 2), (a_t + 3)] [.inr (8, fsX8 a_t t_many), IA E N_t t_xs, IA E N_t t_ys, IA E N_t t_zs] h) 83 [none, none, none, none, none] []) (hs : m_X8_haveEitherWay_85 N_t t_many t_xs t_ys t_zs v1 v2 v3 v4 ag k_91 k_45 k_83 = some r) : G l E b0 M_X8_haveEitherWay (fun _ => True) (ZM E b0 (some (vI r)) (ov [a_t, (a_t + 1), (a_t + 2), (a_t + 3)] [.inr (8, fsX8 a_t t_many), IA E N_t t_xs, IA E N_t t_ys, IA E N_t t_zs] h) n (inZ r) 0 0) 0 0 n (ov [a_t, (a_t + 1), (a_t + 2), (a_t + 3)] [.inr (8, fsX8 a_t t_many), IA E N_t t_xs, IA E N_t t_ys, IA E N_t t_zs] h) 85 [some (.ref a_t), some (vI v1), some (vI v2), some (vI v3), some (vI v4)] [] := by
  rw [m_X8_haveEitherWay_85] at hs
  refine g_iinc e_X8_haveEitherWay_85 rfl st1_4 rfl ?_
  refine g_goto e_X8_haveEitherWay_88 ?_
  obtain ⟨hc10, hs⟩ := chk_elim hs
  exact hag _ hc10 hs

noncomputable def m_X8_haveEitherWay_47 (N_t : Nat) (t_many : Int) (t_xs : Nat → Int) (t_ys : Nat → Int) (t_zs : Nat → Int) (v1 : Int) (v2 : Int) (v3 : Int) (v4 : Int) (ag : Int → Option (Int)) (k_91 : Int → Option (Int)) (k_45 : Int → Option (Int)) (k_83 : Int → Option (Int)) : Option (Int) :=
  chk (inB v4 N_t) (chk (inI (-v1)) (if (t_xs (Int.toNat v4)) = (-v1) then (chk (inB v4 N_t) (chk (inI (-v2)) (if (t_ys (Int.toNat v4)) = (-v2) then (chk (inB v4 N_t) (chk (inI (-v3)) (if (t_zs (Int.toNat v4)) = (-v3) then (some (1)) else (m_X8_haveEitherWay_85 N_t t_many t_xs t_ys t_zs v1 v2 v3 v4 ag k_91 k_45 k_83)))) else (m_X8_haveEitherWay_85 N_t t_many t_xs t_ys t_zs v1 v2 v3 v4 ag k_91 k_45 k_83)))) else (m_X8_haveEitherWay_85 N_t t_many t_xs t_ys t_zs v1 v2 v3 v4 ag k_91 k_45 k_83)))

set_option maxRecDepth 10000 in
theorem g_X8_haveEitherWay_47 {l : Launch} {E : EE} {b0 n : Nat} {h : AH} {a_t : Nat} {N_t : Nat} {t_many v1 v2 v3 v4 : Int} {t_xs t_ys t_zs : Nat → Int} {r : Int} {ag : Int → Option (Int)} {k_91 : Int → Option (Int)} {k_45 : Int → Option (Int)} {k_83 : Int → Option (Int)} (ao : AO b0 n [a_t, (a_t + 1), (a_t + 2), (a_t + 3)]) (hN_t : N_t ≤ 100000) (ok_t_many : inI t_many) (ok_t_xs : okA t_xs) (ok_t_ys : okA t_ys) (ok_t_zs : okA t_zs) (ok_v1 : inI v1) (ok_v2 : inI v2) (ok_v3 : inI v3) (ok_v4 : inI v4) (hag : ∀ (v4_ : Int), inI v4_ → ag v4_ = some r → G l E b0 M_X8_haveEitherWay (fun _ => True) (ZM E b0 (some (vI r)) (ov [a_t, (a_t + 1), (a_t + 2), (a_t + 3)] [.inr (8, fsX8 a_t t_many), IA E N_t t_xs, IA E N_t t_ys, IA E N_t t_zs] h) n (inZ r) 0 0) 0 0 n (ov [a_t, (a_t + 1), (a_t + 2), (a_t + 3)] [.inr (8, fsX8 a_t t_many), IA E N_t t_xs, IA E N_t t_ys, IA E N_t t_zs] h) 3 [some (.ref a_t), some (vI v1), some (vI v2), some (vI v3), some (vI v4_)] []) (hk_91 : ∀ (v4_ : Int), inI v4_ → k_91 v4_ = some r → G l E b0 M_X8_haveEitherWay (fun _ => True) (ZM E b0 (some (vI r)) (ov [a_t, (a_t + 1), (a_t + 2), (a_t + 3)] [.inr (8, fsX8 a_t t_many), IA E N_t t_xs, IA E N_t t_ys, IA E N_t t_zs] h) n (inZ r) 0 0) 0 0 n (ov [a_t, (a_t + 1), (a_t + 2), (a_t + 3)] [.inr (8, fsX8 a_t t_many), IA E N_t t_xs, IA E N_t t_ys, IA E N_t t_zs] h) 91 [none, none, none, none, none] []) (hk_45 : ∀ (v4_ : Int), inI v4_ → k_45 v4_ = some r → G l E b0 M_X8_haveEitherWay (fun _ => True) (ZM E b0 (some (vI r)) (ov [a_t, (a_t + 1), (a_t + 2), (a_t + 3)] [.inr (8, fsX8 a_t t_many), IA E N_t t_xs, IA E N_t t_ys, IA E N_t t_zs] h) n (inZ r) 0 0) 0 0 n (ov [a_t, (a_t + 1), (a_t + 2), (a_t + 3)] [.inr (8, fsX8 a_t t_many), IA E N_t t_xs, IA E N_t t_ys, IA E N_t t_zs] h) 45 [none, none, none, none, none] []) (hk_83 : ∀ (v4_ : Int), inI v4_ → k_83 v4_ = some r → G l E b0 M_X8_haveEitherWay (fun _ => True) (ZM E b0 (some (vI r)) (ov [a_t, (a_t + 1), (a_t + 2), (a_t + 3)] [.inr (8, fsX8 a_t t_many), IA E N_t t_xs, IA E N_t t_ys, IA E N_t t_zs] h) n (inZ r) 0 0) 0 0 n (ov [a_t, (a_t + 1), (a_t + 2), (a_t + 3)] [.inr (8, fsX8 a_t t_many), IA E N_t t_xs, IA E N_t t_ys, IA E N_t t_zs] h) 83 [none, none, none, none, none] []) (hs : m_X8_haveEitherWay_47 N_t t_many t_xs t_ys t_zs v1 v2 v3 v4 ag k_91 k_45 k_83 = some r) : G l E b0 M_X8_haveEitherWay (fun _ => True) (ZM E b0 (some (vI r)) (ov [a_t, (a_t + 1), (a_t + 2), (a_t + 3)] [.inr (8, fsX8 a_t t_many), IA E N_t t_xs, IA E N_t t_ys, IA E N_t t_zs] h) n (inZ r) 0 0) 0 0 n (ov [a_t, (a_t + 1), (a_t + 2), (a_t + 3)] [.inr (8, fsX8 a_t t_many), IA E N_t t_xs, IA E N_t t_ys, IA E N_t t_zs] h) 47 [some (.ref a_t), some (vI v1), some (vI v2), some (vI v3), some (vI v4)] [] := by
  rw [m_X8_haveEitherWay_47] at hs
  refine g_aload_n e_X8_haveEitherWay_47 rfl ?_
  refine g_get 0 0 ao rfl rfl fsX8_g0 fl_X8_13 e_X8_haveEitherWay_48 ?_
  refine g_iload e_X8_haveEitherWay_51 rfl ?_
  refine g_iald 1 ao rfl rfl (Nat.le_trans hN_t (Nat.le_of_ble_eq_true rfl)) e_X8_haveEitherWay_53 hs (fun hi4 hs => ?_)
  refine g_iload_n e_X8_haveEitherWay_54 rfl ?_
  refine g_ineg e_X8_haveEitherWay_55 ?_
  obtain ⟨hc5, hs⟩ := chk_elim hs
  refine g_icmp_ne e_X8_haveEitherWay_56 (ok_t_xs _) hc5 hs (fun c56 hs => ?_) (fun c56 hs => ?_)
  · refine g_aload_n e_X8_haveEitherWay_59 rfl ?_
    refine g_get 0 1 ao rfl rfl fsX8_g1 fl_X8_19 e_X8_haveEitherWay_60 ?_
    refine g_iload e_X8_haveEitherWay_63 rfl ?_
    refine g_iald 2 ao rfl rfl (Nat.le_trans hN_t (Nat.le_of_ble_eq_true rfl)) e_X8_haveEitherWay_65 hs (fun hi6 hs => ?_)
    refine g_iload_n e_X8_haveEitherWay_66 rfl ?_
    refine g_ineg e_X8_haveEitherWay_67 ?_
    obtain ⟨hc7, hs⟩ := chk_elim hs
    refine g_icmp_ne e_X8_haveEitherWay_68 (ok_t_ys _) hc7 hs (fun c68 hs => ?_) (fun c68 hs => ?_)
    · refine g_aload_n e_X8_haveEitherWay_71 rfl ?_
      refine g_get 0 2 ao rfl rfl fsX8_g2 fl_X8_22 e_X8_haveEitherWay_72 ?_
      refine g_iload e_X8_haveEitherWay_75 rfl ?_
      refine g_iald 3 ao rfl rfl (Nat.le_trans hN_t (Nat.le_of_ble_eq_true rfl)) e_X8_haveEitherWay_77 hs (fun hi8 hs => ?_)
      refine g_iload_n e_X8_haveEitherWay_78 rfl ?_
      refine g_ineg e_X8_haveEitherWay_79 ?_
      obtain ⟨hc9, hs⟩ := chk_elim hs
      refine g_icmp_ne e_X8_haveEitherWay_80 (ok_t_zs _) hc9 hs (fun c80 hs => ?_) (fun c80 hs => ?_)
      · refine g_iconst e_X8_haveEitherWay_83 ?_
        obtain rfl := Option.some.inj hs
        exact g_zret rfl (by decide) (by decide) e_X8_haveEitherWay_84
      · exact g_X8_haveEitherWay_85 ao hN_t ok_t_many ok_t_xs ok_t_ys ok_t_zs ok_v1 ok_v2 ok_v3 ok_v4 hag hk_91 hk_45 hk_83 hs
    · exact g_X8_haveEitherWay_85 ao hN_t ok_t_many ok_t_xs ok_t_ys ok_t_zs ok_v1 ok_v2 ok_v3 ok_v4 hag hk_91 hk_45 hk_83 hs
  · exact g_X8_haveEitherWay_85 ao hN_t ok_t_many ok_t_xs ok_t_ys ok_t_zs ok_v1 ok_v2 ok_v3 ok_v4 hag hk_91 hk_45 hk_83 hs

noncomputable def m_X8_haveEitherWay_3 (N_t : Nat) (t_many : Int) (t_xs : Nat → Int) (t_ys : Nat → Int) (t_zs : Nat → Int) (v1 : Int) (v2 : Int) (v3 : Int) (k_91 : Int → Option (Int)) (k_45 : Int → Option (Int)) (k_83 : Int → Option (Int)) : Nat → Int → Option (Int)
  | 0, _ => none
  | F + 1, v4 => if t_many ≤ v4 then (some (0)) else (chk (inB v4 N_t) (if (t_xs (Int.toNat v4)) = v1 then (chk (inB v4 N_t) (if (t_ys (Int.toNat v4)) = v2 then (chk (inB v4 N_t) (if (t_zs (Int.toNat v4)) = v3 then (some (1)) else (m_X8_haveEitherWay_47 N_t t_many t_xs t_ys t_zs v1 v2 v3 v4 (m_X8_haveEitherWay_3 N_t t_many t_xs t_ys t_zs v1 v2 v3 k_91 k_45 k_83 F) k_91 k_45 k_83))) else (m_X8_haveEitherWay_47 N_t t_many t_xs t_ys t_zs v1 v2 v3 v4 (m_X8_haveEitherWay_3 N_t t_many t_xs t_ys t_zs v1 v2 v3 k_91 k_45 k_83 F) k_91 k_45 k_83))) else (m_X8_haveEitherWay_47 N_t t_many t_xs t_ys t_zs v1 v2 v3 v4 (m_X8_haveEitherWay_3 N_t t_many t_xs t_ys t_zs v1 v2 v3 k_91 k_45 k_83 F) k_91 k_45 k_83)))

set_option maxRecDepth 10000 in
theorem g_X8_haveEitherWay_3 {l : Launch} {E : EE} {b0 n : Nat} {h : AH} {a_t : Nat} {N_t : Nat} {t_many v1 v2 v3 : Int} {t_xs t_ys t_zs : Nat → Int} {r : Int} {k_91 : Int → Option (Int)} {k_45 : Int → Option (Int)} {k_83 : Int → Option (Int)} (ao : AO b0 n [a_t, (a_t + 1), (a_t + 2), (a_t + 3)]) (hN_t : N_t ≤ 100000) (ok_t_many : inI t_many) (ok_t_xs : okA t_xs) (ok_t_ys : okA t_ys) (ok_t_zs : okA t_zs) (ok_v1 : inI v1) (ok_v2 : inI v2) (ok_v3 : inI v3) (hk_91 : ∀ (v4_ : Int), inI v4_ → k_91 v4_ = some r → G l E b0 M_X8_haveEitherWay (fun _ => True) (ZM E b0 (some (vI r)) (ov [a_t, (a_t + 1), (a_t + 2), (a_t + 3)] [.inr (8, fsX8 a_t t_many), IA E N_t t_xs, IA E N_t t_ys, IA E N_t t_zs] h) n (inZ r) 0 0) 0 0 n (ov [a_t, (a_t + 1), (a_t + 2), (a_t + 3)] [.inr (8, fsX8 a_t t_many), IA E N_t t_xs, IA E N_t t_ys, IA E N_t t_zs] h) 91 [none, none, none, none, none] []) (hk_45 : ∀ (v4_ : Int), inI v4_ → k_45 v4_ = some r → G l E b0 M_X8_haveEitherWay (fun _ => True) (ZM E b0 (some (vI r)) (ov [a_t, (a_t + 1), (a_t + 2), (a_t + 3)] [.inr (8, fsX8 a_t t_many), IA E N_t t_xs, IA E N_t t_ys, IA E N_t t_zs] h) n (inZ r) 0 0) 0 0 n (ov [a_t, (a_t + 1), (a_t + 2), (a_t + 3)] [.inr (8, fsX8 a_t t_many), IA E N_t t_xs, IA E N_t t_ys, IA E N_t t_zs] h) 45 [none, none, none, none, none] []) (hk_83 : ∀ (v4_ : Int), inI v4_ → k_83 v4_ = some r → G l E b0 M_X8_haveEitherWay (fun _ => True) (ZM E b0 (some (vI r)) (ov [a_t, (a_t + 1), (a_t + 2), (a_t + 3)] [.inr (8, fsX8 a_t t_many), IA E N_t t_xs, IA E N_t t_ys, IA E N_t t_zs] h) n (inZ r) 0 0) 0 0 n (ov [a_t, (a_t + 1), (a_t + 2), (a_t + 3)] [.inr (8, fsX8 a_t t_many), IA E N_t t_xs, IA E N_t t_ys, IA E N_t t_zs] h) 83 [none, none, none, none, none] []) :
    ∀ (F : Nat) (v4 : Int), inI v4 → m_X8_haveEitherWay_3 N_t t_many t_xs t_ys t_zs v1 v2 v3 k_91 k_45 k_83 F v4 = some r → G l E b0 M_X8_haveEitherWay (fun _ => True) (ZM E b0 (some (vI r)) (ov [a_t, (a_t + 1), (a_t + 2), (a_t + 3)] [.inr (8, fsX8 a_t t_many), IA E N_t t_xs, IA E N_t t_ys, IA E N_t t_zs] h) n (inZ r) 0 0) 0 0 n (ov [a_t, (a_t + 1), (a_t + 2), (a_t + 3)] [.inr (8, fsX8 a_t t_many), IA E N_t t_xs, IA E N_t t_ys, IA E N_t t_zs] h) 3 [some (.ref a_t), some (vI v1), some (vI v2), some (vI v3), some (vI v4)] [] := by
  intro F
  induction F with
  | zero =>
    intro v4 ok_v4 hs
    rw [m_X8_haveEitherWay_3] at hs
    cases hs
  | succ F ih =>
    intro v4 ok_v4 hs
    rw [m_X8_haveEitherWay_3] at hs
    refine g_iload e_X8_haveEitherWay_3 rfl ?_
    refine g_aload_n e_X8_haveEitherWay_5 rfl ?_
    refine g_get 0 3 ao rfl rfl fsX8_g3 fl_X8_25 e_X8_haveEitherWay_6 ?_
    refine g_icmp_ge e_X8_haveEitherWay_9 ok_v4 ok_t_many hs (fun c9 hs => ?_) (fun c9 hs => ?_)
    · refine g_iconst e_X8_haveEitherWay_91 ?_
      obtain rfl := Option.some.inj hs
      exact g_zret rfl (by decide) (by decide) e_X8_haveEitherWay_92
    · refine g_aload_n e_X8_haveEitherWay_12 rfl ?_
      refine g_get 0 0 ao rfl rfl fsX8_g0 fl_X8_13 e_X8_haveEitherWay_13 ?_
      refine g_iload e_X8_haveEitherWay_16 rfl ?_
      refine g_iald 1 ao rfl rfl (Nat.le_trans hN_t (Nat.le_of_ble_eq_true rfl)) e_X8_haveEitherWay_18 hs (fun hi1 hs => ?_)
      refine g_iload_n e_X8_haveEitherWay_19 rfl ?_
      refine g_icmp_ne e_X8_haveEitherWay_20 (ok_t_xs _) ok_v1 hs (fun c20 hs => ?_) (fun c20 hs => ?_)
      · refine g_aload_n e_X8_haveEitherWay_23 rfl ?_
        refine g_get 0 1 ao rfl rfl fsX8_g1 fl_X8_19 e_X8_haveEitherWay_24 ?_
        refine g_iload e_X8_haveEitherWay_27 rfl ?_
        refine g_iald 2 ao rfl rfl (Nat.le_trans hN_t (Nat.le_of_ble_eq_true rfl)) e_X8_haveEitherWay_29 hs (fun hi2 hs => ?_)
        refine g_iload_n e_X8_haveEitherWay_30 rfl ?_
        refine g_icmp_ne e_X8_haveEitherWay_31 (ok_t_ys _) ok_v2 hs (fun c31 hs => ?_) (fun c31 hs => ?_)
        · refine g_aload_n e_X8_haveEitherWay_34 rfl ?_
          refine g_get 0 2 ao rfl rfl fsX8_g2 fl_X8_22 e_X8_haveEitherWay_35 ?_
          refine g_iload e_X8_haveEitherWay_38 rfl ?_
          refine g_iald 3 ao rfl rfl (Nat.le_trans hN_t (Nat.le_of_ble_eq_true rfl)) e_X8_haveEitherWay_40 hs (fun hi3 hs => ?_)
          refine g_iload_n e_X8_haveEitherWay_41 rfl ?_
          refine g_icmp_ne e_X8_haveEitherWay_42 (ok_t_zs _) ok_v3 hs (fun c42 hs => ?_) (fun c42 hs => ?_)
          · refine g_iconst e_X8_haveEitherWay_45 ?_
            obtain rfl := Option.some.inj hs
            exact g_zret rfl (by decide) (by decide) e_X8_haveEitherWay_46
          · exact g_X8_haveEitherWay_47 ao hN_t ok_t_many ok_t_xs ok_t_ys ok_t_zs ok_v1 ok_v2 ok_v3 ok_v4 ih hk_91 hk_45 hk_83 hs
        · exact g_X8_haveEitherWay_47 ao hN_t ok_t_many ok_t_xs ok_t_ys ok_t_zs ok_v1 ok_v2 ok_v3 ok_v4 ih hk_91 hk_45 hk_83 hs
      · exact g_X8_haveEitherWay_47 ao hN_t ok_t_many ok_t_xs ok_t_ys ok_t_zs ok_v1 ok_v2 ok_v3 ok_v4 ih hk_91 hk_45 hk_83 hs

noncomputable def m_X8_haveEitherWay_91 (N_t : Nat) : Option (Int) :=
  some (0)

set_option maxRecDepth 10000 in
theorem g_X8_haveEitherWay_91 {l : Launch} {E : EE} {b0 n : Nat} {h : AH} {a_t : Nat} {N_t : Nat} {t_many : Int} {t_xs t_ys t_zs : Nat → Int} {r : Int} (ao : AO b0 n [a_t, (a_t + 1), (a_t + 2), (a_t + 3)]) (hN_t : N_t ≤ 100000) (ok_t_many : inI t_many) (ok_t_xs : okA t_xs) (ok_t_ys : okA t_ys) (ok_t_zs : okA t_zs) (hs : m_X8_haveEitherWay_91 N_t = some r) : G l E b0 M_X8_haveEitherWay (fun _ => True) (ZM E b0 (some (vI r)) (ov [a_t, (a_t + 1), (a_t + 2), (a_t + 3)] [.inr (8, fsX8 a_t t_many), IA E N_t t_xs, IA E N_t t_ys, IA E N_t t_zs] h) n (inZ r) 0 0) 0 0 n (ov [a_t, (a_t + 1), (a_t + 2), (a_t + 3)] [.inr (8, fsX8 a_t t_many), IA E N_t t_xs, IA E N_t t_ys, IA E N_t t_zs] h) 91 [none, none, none, none, none] [] := by
  rw [m_X8_haveEitherWay_91] at hs
  refine g_iconst e_X8_haveEitherWay_91 ?_
  obtain rfl := Option.some.inj hs
  exact g_zret rfl (by decide) (by decide) e_X8_haveEitherWay_92

noncomputable def m_X8_haveEitherWay_45 (N_t : Nat) : Option (Int) :=
  some (1)

set_option maxRecDepth 10000 in
theorem g_X8_haveEitherWay_45 {l : Launch} {E : EE} {b0 n : Nat} {h : AH} {a_t : Nat} {N_t : Nat} {t_many : Int} {t_xs t_ys t_zs : Nat → Int} {r : Int} (ao : AO b0 n [a_t, (a_t + 1), (a_t + 2), (a_t + 3)]) (hN_t : N_t ≤ 100000) (ok_t_many : inI t_many) (ok_t_xs : okA t_xs) (ok_t_ys : okA t_ys) (ok_t_zs : okA t_zs) (hs : m_X8_haveEitherWay_45 N_t = some r) : G l E b0 M_X8_haveEitherWay (fun _ => True) (ZM E b0 (some (vI r)) (ov [a_t, (a_t + 1), (a_t + 2), (a_t + 3)] [.inr (8, fsX8 a_t t_many), IA E N_t t_xs, IA E N_t t_ys, IA E N_t t_zs] h) n (inZ r) 0 0) 0 0 n (ov [a_t, (a_t + 1), (a_t + 2), (a_t + 3)] [.inr (8, fsX8 a_t t_many), IA E N_t t_xs, IA E N_t t_ys, IA E N_t t_zs] h) 45 [none, none, none, none, none] [] := by
  rw [m_X8_haveEitherWay_45] at hs
  refine g_iconst e_X8_haveEitherWay_45 ?_
  obtain rfl := Option.some.inj hs
  exact g_zret rfl (by decide) (by decide) e_X8_haveEitherWay_46

noncomputable def m_X8_haveEitherWay_83 (N_t : Nat) : Option (Int) :=
  some (1)

set_option maxRecDepth 10000 in
theorem g_X8_haveEitherWay_83 {l : Launch} {E : EE} {b0 n : Nat} {h : AH} {a_t : Nat} {N_t : Nat} {t_many : Int} {t_xs t_ys t_zs : Nat → Int} {r : Int} (ao : AO b0 n [a_t, (a_t + 1), (a_t + 2), (a_t + 3)]) (hN_t : N_t ≤ 100000) (ok_t_many : inI t_many) (ok_t_xs : okA t_xs) (ok_t_ys : okA t_ys) (ok_t_zs : okA t_zs) (hs : m_X8_haveEitherWay_83 N_t = some r) : G l E b0 M_X8_haveEitherWay (fun _ => True) (ZM E b0 (some (vI r)) (ov [a_t, (a_t + 1), (a_t + 2), (a_t + 3)] [.inr (8, fsX8 a_t t_many), IA E N_t t_xs, IA E N_t t_ys, IA E N_t t_zs] h) n (inZ r) 0 0) 0 0 n (ov [a_t, (a_t + 1), (a_t + 2), (a_t + 3)] [.inr (8, fsX8 a_t t_many), IA E N_t t_xs, IA E N_t t_ys, IA E N_t t_zs] h) 83 [none, none, none, none, none] [] := by
  rw [m_X8_haveEitherWay_83] at hs
  refine g_iconst e_X8_haveEitherWay_83 ?_
  obtain rfl := Option.some.inj hs
  exact g_zret rfl (by decide) (by decide) e_X8_haveEitherWay_84

noncomputable def m_X8_haveEitherWay_0 (N_t : Nat) (t_many : Int) (t_xs : Nat → Int) (t_ys : Nat → Int) (t_zs : Nat → Int) (v1 : Int) (v2 : Int) (v3 : Int) : Option (Int) :=
  m_X8_haveEitherWay_3 N_t t_many t_xs t_ys t_zs v1 v2 v3 (fun v4' => m_X8_haveEitherWay_91 N_t) (fun v4' => m_X8_haveEitherWay_45 N_t) (fun v4' => m_X8_haveEitherWay_83 N_t) FU 0

set_option maxRecDepth 10000 in
theorem g_X8_haveEitherWay_0 {l : Launch} {E : EE} {b0 n : Nat} {h : AH} {a_t : Nat} {N_t : Nat} {t_many v1 v2 v3 : Int} {t_xs t_ys t_zs : Nat → Int} {r : Int} (ao : AO b0 n [a_t, (a_t + 1), (a_t + 2), (a_t + 3)]) (hN_t : N_t ≤ 100000) (ok_t_many : inI t_many) (ok_t_xs : okA t_xs) (ok_t_ys : okA t_ys) (ok_t_zs : okA t_zs) (ok_v1 : inI v1) (ok_v2 : inI v2) (ok_v3 : inI v3) (hs : m_X8_haveEitherWay_0 N_t t_many t_xs t_ys t_zs v1 v2 v3 = some r) : G l E b0 M_X8_haveEitherWay (fun _ => True) (ZM E b0 (some (vI r)) (ov [a_t, (a_t + 1), (a_t + 2), (a_t + 3)] [.inr (8, fsX8 a_t t_many), IA E N_t t_xs, IA E N_t t_ys, IA E N_t t_zs] h) n (inZ r) 0 0) 0 0 n (ov [a_t, (a_t + 1), (a_t + 2), (a_t + 3)] [.inr (8, fsX8 a_t t_many), IA E N_t t_xs, IA E N_t t_ys, IA E N_t t_zs] h) 0 [some (.ref a_t), some (vI v1), some (vI v2), some (vI v3), none] [] := by
  rw [m_X8_haveEitherWay_0] at hs
  refine g_iconst e_X8_haveEitherWay_0 ?_
  refine g_istore e_X8_haveEitherWay_1 st1_4 rfl ?_
  exact g_X8_haveEitherWay_3 ao hN_t ok_t_many ok_t_xs ok_t_ys ok_t_zs ok_v1 ok_v2 ok_v3 (hk_91 := by
      intro v4' ok_v4' hs
      exact g_X8_haveEitherWay_91 ao hN_t ok_t_many ok_t_xs ok_t_ys ok_t_zs hs) (hk_45 := by
      intro v4' ok_v4' hs
      exact g_X8_haveEitherWay_45 ao hN_t ok_t_many ok_t_xs ok_t_ys ok_t_zs hs) (hk_83 := by
      intro v4' ok_v4' hs
      exact g_X8_haveEitherWay_83 ao hN_t ok_t_many ok_t_xs ok_t_ys ok_t_zs hs) FU _ (by decide) hs

noncomputable def m_X8_haveEitherWay (N_t : Nat) (t_many : Int) (t_xs : Nat → Int) (t_ys : Nat → Int) (t_zs : Nat → Int) (v1 : Int) (v2 : Int) (v3 : Int) : Option (Int) := m_X8_haveEitherWay_0 N_t t_many t_xs t_ys t_zs v1 v2 v3

set_option maxRecDepth 10000 in
theorem ct_X8_haveEitherWay {l : Launch} {E : EE} {b0 n : Nat} {h : AH} {a_t : Nat} {N_t : Nat} {t_many : Int} {t_xs t_ys t_zs : Nat → Int} {v1 v2 v3 : Int} (ao : AO b0 n [a_t, (a_t + 1), (a_t + 2), (a_t + 3)]) (hN_t : N_t ≤ 100000) (hf : FA h [a_t, (a_t + 1), (a_t + 2), (a_t + 3)] [.inr (8, fsX8 a_t t_many), IA E N_t t_xs, IA E N_t t_ys, IA E N_t t_zs]) (ok_t_many : inI t_many) (ok_t_xs : okA t_xs) (ok_t_ys : okA t_ys) (ok_t_zs : okA t_zs) (ok_v1 : inI v1) (ok_v2 : inI v2) (ok_v3 : inI v3) {r : Int} (hm : m_X8_haveEitherWay N_t t_many t_xs t_ys t_zs v1 v2 v3 = some r) : Ct l E b0 M_X8_haveEitherWay 0 0 [.ref a_t, vI v1, vI v2, vI v3] h n (some (vI r)) h n (inZ r) := by
  rw [m_X8_haveEitherWay] at hm
  have hg : G l E b0 M_X8_haveEitherWay (fun _ => True) (ZM E b0 (some (vI r)) (ov [a_t, (a_t + 1), (a_t + 2), (a_t + 3)] [.inr (8, fsX8 a_t t_many), IA E N_t t_xs, IA E N_t t_ys, IA E N_t t_zs] h) n (inZ r) 0 0) 0 0 n (ov [a_t, (a_t + 1), (a_t + 2), (a_t + 3)] [.inr (8, fsX8 a_t t_many), IA E N_t t_xs, IA E N_t t_ys, IA E N_t t_zs] h) 0 [some (.ref a_t), some (vI v1), some (vI v2), some (vI v3), none] [] := by
    have hs := hm
    exact g_X8_haveEitherWay_0 ao hN_t ok_t_many ok_t_xs ok_t_ys ok_t_zs ok_v1 ok_v2 ok_v3 hs
  rw [FA_id hf] at hg
  exact Ct_of [some (.ref a_t), some (vI v1), some (vI v2), some (vI v3), none] ⟨by decide +kernel, rfl⟩ rfl (Nat.le_of_ble_eq_true rfl) hg

/-! ===== X10_within ===== -/
theorem e_X10_within_0 : DC cX10_within 0 (.iload_n 1) 1 1 := ⟨by decide +kernel, rfl⟩
theorem e_X10_within_1 : DC cX10_within 1 (.iload_n 0) 1 2 := ⟨by decide +kernel, rfl⟩
theorem e_X10_within_2 : DB cX10_within 2 (.if_icmp .gt 12) (12) 3 5 14 := ⟨by decide +kernel, rfl, rfl⟩
theorem e_X10_within_5 : DC cX10_within 5 (.iload_n 0) 1 6 := ⟨by decide +kernel, rfl⟩
theorem e_X10_within_6 : DC cX10_within 6 (.iload_n 2) 1 7 := ⟨by decide +kernel, rfl⟩
theorem e_X10_within_7 : DB cX10_within 7 (.if_icmp .gt 7) (7) 3 10 14 := ⟨by decide +kernel, rfl, rfl⟩
theorem e_X10_within_10 : DC cX10_within 10 (.iconst 1) 1 11 := ⟨by decide +kernel, rfl⟩
theorem e_X10_within_11 : DB cX10_within 11 (.goto 4) (4) 3 14 15 := ⟨by decide +kernel, rfl, rfl⟩
theorem e_X10_within_14 : DC cX10_within 14 (.iconst 0) 1 15 := ⟨by decide +kernel, rfl⟩
theorem e_X10_within_15 : DC cX10_within 15 (.ireturn) 1 16 := ⟨by decide +kernel, rfl⟩
noncomputable def m_X10_within_0 (v0 : Int) (v1 : Int) (v2 : Int) : Option (Int) :=
  if v0 < v1 then (some (0)) else (if v2 < v0 then (some (0)) else (some (1)))

set_option maxRecDepth 10000 in
theorem g_X10_within_0 {l : Launch} {E : EE} {b0 n : Nat} {h : AH} {v0 v1 v2 : Int} {r : Int} (ao : AO b0 n []) (ok_v0 : inI v0) (ok_v1 : inI v1) (ok_v2 : inI v2) (hs : m_X10_within_0 v0 v1 v2 = some r) : G l E b0 M_X10_within (fun _ => True) (ZM E b0 (some (vI r)) (ov [] [] h) n (inZ r) 0 0) 0 0 n (ov [] [] h) 0 [some (vI v0), some (vI v1), some (vI v2)] [] := by
  rw [m_X10_within_0] at hs
  refine g_iload_n e_X10_within_0 rfl ?_
  refine g_iload_n e_X10_within_1 rfl ?_
  refine g_icmp_gt e_X10_within_2 ok_v1 ok_v0 hs (fun c2 hs => ?_) (fun c2 hs => ?_)
  · refine g_iconst e_X10_within_14 ?_
    obtain rfl := Option.some.inj hs
    exact g_zret rfl (by decide) (by decide) e_X10_within_15
  · refine g_iload_n e_X10_within_5 rfl ?_
    refine g_iload_n e_X10_within_6 rfl ?_
    refine g_icmp_gt e_X10_within_7 ok_v0 ok_v2 hs (fun c7 hs => ?_) (fun c7 hs => ?_)
    · refine g_iconst e_X10_within_14 ?_
      obtain rfl := Option.some.inj hs
      exact g_zret rfl (by decide) (by decide) e_X10_within_15
    · refine g_iconst e_X10_within_10 ?_
      refine g_goto e_X10_within_11 ?_
      obtain rfl := Option.some.inj hs
      exact g_zret rfl (by decide) (by decide) e_X10_within_15

noncomputable def m_X10_within (v0 : Int) (v1 : Int) (v2 : Int) : Option (Int) := m_X10_within_0 v0 v1 v2

set_option maxRecDepth 10000 in
theorem ct_X10_within {l : Launch} {E : EE} {b0 n : Nat} {h : AH} {v0 v1 v2 : Int} (ao : AO b0 n []) (hf : FA h [] []) (ok_v0 : inI v0) (ok_v1 : inI v1) (ok_v2 : inI v2) {r : Int} (hm : m_X10_within v0 v1 v2 = some r) : Ct l E b0 M_X10_within 0 0 [vI v0, vI v1, vI v2] h n (some (vI r)) h n (inZ r) := by
  rw [m_X10_within] at hm
  have hg : G l E b0 M_X10_within (fun _ => True) (ZM E b0 (some (vI r)) (ov [] [] h) n (inZ r) 0 0) 0 0 n (ov [] [] h) 0 [some (vI v0), some (vI v1), some (vI v2)] [] := by
    have hs := hm
    exact g_X10_within_0 ao ok_v0 ok_v1 ok_v2 hs
  rw [FA_id hf] at hg
  exact Ct_of [some (vI v0), some (vI v1), some (vI v2)] ⟨by decide +kernel, rfl⟩ rfl (Nat.le_of_ble_eq_true rfl) hg

/-! ===== X10_isPlace ===== -/
theorem e_X10_isPlace_0 : DC cX10_isPlace 0 (.iconst 0) 1 1 := ⟨by decide +kernel, rfl⟩
theorem e_X10_isPlace_1 : DC cX10_isPlace 1 (.iload_n 0) 1 2 := ⟨by decide +kernel, rfl⟩
theorem e_X10_isPlace_2 : DB cX10_isPlace 2 (.if_icmp .gt 13) (13) 3 5 15 := ⟨by decide +kernel, rfl, rfl⟩
theorem e_X10_isPlace_5 : DC cX10_isPlace 5 (.iload_n 0) 1 6 := ⟨by decide +kernel, rfl⟩
theorem e_X10_isPlace_6 : DC cX10_isPlace 6 (.bipush 100) 2 8 := ⟨by decide +kernel, rfl⟩
theorem e_X10_isPlace_8 : DB cX10_isPlace 8 (.if_icmp .ge 7) (7) 3 11 15 := ⟨by decide +kernel, rfl, rfl⟩
theorem e_X10_isPlace_11 : DC cX10_isPlace 11 (.iconst 1) 1 12 := ⟨by decide +kernel, rfl⟩
theorem e_X10_isPlace_12 : DB cX10_isPlace 12 (.goto 4) (4) 3 15 16 := ⟨by decide +kernel, rfl, rfl⟩
theorem e_X10_isPlace_15 : DC cX10_isPlace 15 (.iconst 0) 1 16 := ⟨by decide +kernel, rfl⟩
theorem e_X10_isPlace_16 : DC cX10_isPlace 16 (.ireturn) 1 17 := ⟨by decide +kernel, rfl⟩
noncomputable def m_X10_isPlace_0 (v0 : Int) : Option (Int) :=
  if v0 < 0 then (some (0)) else (if 100 ≤ v0 then (some (0)) else (some (1)))

set_option maxRecDepth 10000 in
theorem g_X10_isPlace_0 {l : Launch} {E : EE} {b0 n : Nat} {h : AH} {v0 : Int} {r : Int} (ao : AO b0 n []) (ok_v0 : inI v0) (hs : m_X10_isPlace_0 v0 = some r) : G l E b0 M_X10_isPlace (fun _ => True) (ZM E b0 (some (vI r)) (ov [] [] h) n (inZ r) 0 0) 0 0 n (ov [] [] h) 0 [some (vI v0)] [] := by
  rw [m_X10_isPlace_0] at hs
  refine g_iconst e_X10_isPlace_0 ?_
  refine g_iload_n e_X10_isPlace_1 rfl ?_
  refine g_icmp_gt e_X10_isPlace_2 (by decide) ok_v0 hs (fun c2 hs => ?_) (fun c2 hs => ?_)
  · refine g_iconst e_X10_isPlace_15 ?_
    obtain rfl := Option.some.inj hs
    exact g_zret rfl (by decide) (by decide) e_X10_isPlace_16
  · refine g_iload_n e_X10_isPlace_5 rfl ?_
    refine g_bipush e_X10_isPlace_6 bp_100 ?_
    refine g_icmp_ge e_X10_isPlace_8 ok_v0 (by decide) hs (fun c8 hs => ?_) (fun c8 hs => ?_)
    · refine g_iconst e_X10_isPlace_15 ?_
      obtain rfl := Option.some.inj hs
      exact g_zret rfl (by decide) (by decide) e_X10_isPlace_16
    · refine g_iconst e_X10_isPlace_11 ?_
      refine g_goto e_X10_isPlace_12 ?_
      obtain rfl := Option.some.inj hs
      exact g_zret rfl (by decide) (by decide) e_X10_isPlace_16

noncomputable def m_X10_isPlace (v0 : Int) : Option (Int) := m_X10_isPlace_0 v0

set_option maxRecDepth 10000 in
theorem ct_X10_isPlace {l : Launch} {E : EE} {b0 n : Nat} {h : AH} {v0 : Int} (ao : AO b0 n []) (hf : FA h [] []) (ok_v0 : inI v0) {r : Int} (hm : m_X10_isPlace v0 = some r) : Ct l E b0 M_X10_isPlace 0 0 [vI v0] h n (some (vI r)) h n (inZ r) := by
  rw [m_X10_isPlace] at hm
  have hg : G l E b0 M_X10_isPlace (fun _ => True) (ZM E b0 (some (vI r)) (ov [] [] h) n (inZ r) 0 0) 0 0 n (ov [] [] h) 0 [some (vI v0)] [] := by
    have hs := hm
    exact g_X10_isPlace_0 ao ok_v0 hs
  rw [FA_id hf] at hg
  exact Ct_of [some (vI v0)] ⟨by decide +kernel, rfl⟩ rfl (Nat.le_of_ble_eq_true rfl) hg

/-! ===== X6_signAt ===== -/
theorem e_X6_signAt_0 : DC cX6_signAt 0 (.iconst 0) 1 1 := ⟨by decide +kernel, rfl⟩
theorem e_X6_signAt_1 : DC cX6_signAt 1 (.iload_n 1) 1 2 := ⟨by decide +kernel, rfl⟩
theorem e_X6_signAt_2 : DB cX6_signAt 2 (.if_icmp .gt 18) (18) 3 5 20 := ⟨by decide +kernel, rfl, rfl⟩
theorem e_X6_signAt_5 : DC cX6_signAt 5 (.iload_n 1) 1 6 := ⟨by decide +kernel, rfl⟩
theorem e_X6_signAt_6 : DC cX6_signAt 6 (.bipush 100) 2 8 := ⟨by decide +kernel, rfl⟩
theorem e_X6_signAt_8 : DB cX6_signAt 8 (.if_icmp .ge 12) (12) 3 11 20 := ⟨by decide +kernel, rfl, rfl⟩
theorem e_X6_signAt_11 : DC cX6_signAt 11 (.aload_n 0) 1 12 := ⟨by decide +kernel, rfl⟩
theorem e_X6_signAt_12 : DC cX6_signAt 12 (.getfield 9) 3 15 := ⟨by decide +kernel, rfl⟩
theorem e_X6_signAt_15 : DC cX6_signAt 15 (.iload_n 1) 1 16 := ⟨by decide +kernel, rfl⟩
theorem e_X6_signAt_16 : DC cX6_signAt 16 (.iaload) 1 17 := ⟨by decide +kernel, rfl⟩
theorem e_X6_signAt_17 : DB cX6_signAt 17 (.goto 4) (4) 3 20 21 := ⟨by decide +kernel, rfl, rfl⟩
theorem e_X6_signAt_20 : DC cX6_signAt 20 (.iconst 0) 1 21 := ⟨by decide +kernel, rfl⟩
theorem e_X6_signAt_21 : DC cX6_signAt 21 (.ireturn) 1 22 := ⟨by decide +kernel, rfl⟩
noncomputable def m_X6_signAt_0 (t_signs : Nat → Int) (v1 : Int) : Option (Int) :=
  if v1 < 0 then (some (0)) else (if 100 ≤ v1 then (some (0)) else (chk (inB v1 100) (some (t_signs (Int.toNat v1)))))

set_option maxRecDepth 10000 in
theorem g_X6_signAt_0 {l : Launch} {E : EE} {b0 n : Nat} {h : AH} {a_t : Nat} {t_flaws t_slipped t_gone t_work t_out t_lost t_came v1 : Int} {t_signs : Nat → Int} {r : Int} (ao : AO b0 n [a_t, (a_t + 1)]) (ok_t_signs : okA t_signs) (ok_v1 : inI v1) (hs : m_X6_signAt_0 t_signs v1 = some r) : G l E b0 M_X6_signAt (fun _ => True) (ZM E b0 (some (vI r)) (ov [a_t, (a_t + 1)] [.inr (6, fsX6 a_t t_flaws t_slipped t_gone t_work t_out t_lost t_came), IA E 100 t_signs] h) n (inI r) 0 0) 0 0 n (ov [a_t, (a_t + 1)] [.inr (6, fsX6 a_t t_flaws t_slipped t_gone t_work t_out t_lost t_came), IA E 100 t_signs] h) 0 [some (.ref a_t), some (vI v1)] [] := by
  rw [m_X6_signAt_0] at hs
  refine g_iconst e_X6_signAt_0 ?_
  refine g_iload_n e_X6_signAt_1 rfl ?_
  refine g_icmp_gt e_X6_signAt_2 (by decide) ok_v1 hs (fun c2 hs => ?_) (fun c2 hs => ?_)
  · refine g_iconst e_X6_signAt_20 ?_
    obtain rfl := Option.some.inj hs
    exact g_iret rfl (by decide) e_X6_signAt_21
  · refine g_iload_n e_X6_signAt_5 rfl ?_
    refine g_bipush e_X6_signAt_6 bp_100 ?_
    refine g_icmp_ge e_X6_signAt_8 ok_v1 (by decide) hs (fun c8 hs => ?_) (fun c8 hs => ?_)
    · refine g_iconst e_X6_signAt_20 ?_
      obtain rfl := Option.some.inj hs
      exact g_iret rfl (by decide) e_X6_signAt_21
    · refine g_aload_n e_X6_signAt_11 rfl ?_
      refine g_get 0 0 ao rfl rfl fsX6_g0 fl_X6_9 e_X6_signAt_12 ?_
      refine g_iload_n e_X6_signAt_15 rfl ?_
      refine g_iald 1 ao rfl rfl (Nat.le_of_ble_eq_true rfl) e_X6_signAt_16 hs (fun hi1 hs => ?_)
      refine g_goto e_X6_signAt_17 ?_
      obtain rfl := Option.some.inj hs
      exact g_iret rfl (ok_t_signs _) e_X6_signAt_21

noncomputable def m_X6_signAt (t_signs : Nat → Int) (v1 : Int) : Option (Int) := m_X6_signAt_0 t_signs v1

set_option maxRecDepth 10000 in
theorem ct_X6_signAt {l : Launch} {E : EE} {b0 n : Nat} {h : AH} {a_t : Nat} {t_flaws t_slipped t_gone t_work t_out t_lost t_came : Int} {t_signs : Nat → Int} {v1 : Int} (ao : AO b0 n [a_t, (a_t + 1)]) (hf : FA h [a_t, (a_t + 1)] [.inr (6, fsX6 a_t t_flaws t_slipped t_gone t_work t_out t_lost t_came), IA E 100 t_signs]) (ok_t_signs : okA t_signs) (ok_v1 : inI v1) {r : Int} (hm : m_X6_signAt t_signs v1 = some r) : Ct l E b0 M_X6_signAt 0 0 [.ref a_t, vI v1] h n (some (vI r)) h n (inI r) := by
  rw [m_X6_signAt] at hm
  have hg : G l E b0 M_X6_signAt (fun _ => True) (ZM E b0 (some (vI r)) (ov [a_t, (a_t + 1)] [.inr (6, fsX6 a_t t_flaws t_slipped t_gone t_work t_out t_lost t_came), IA E 100 t_signs] h) n (inI r) 0 0) 0 0 n (ov [a_t, (a_t + 1)] [.inr (6, fsX6 a_t t_flaws t_slipped t_gone t_work t_out t_lost t_came), IA E 100 t_signs] h) 0 [some (.ref a_t), some (vI v1)] [] := by
    have hs := hm
    exact g_X6_signAt_0 ao ok_t_signs ok_v1 hs
  rw [FA_id hf] at hg
  exact Ct_of [some (.ref a_t), some (vI v1)] ⟨by decide +kernel, rfl⟩ rfl (Nat.le_of_ble_eq_true rfl) hg

/-! ===== X6_isFree ===== -/
theorem e_X6_isFree_0 : DC cX6_isFree 0 (.iconst 0) 1 1 := ⟨by decide +kernel, rfl⟩
theorem e_X6_isFree_1 : DC cX6_isFree 1 (.iload_n 1) 1 2 := ⟨by decide +kernel, rfl⟩
theorem e_X6_isFree_2 : DB cX6_isFree 2 (.if_icmp .gt 22) (22) 3 5 24 := ⟨by decide +kernel, rfl, rfl⟩
theorem e_X6_isFree_5 : DC cX6_isFree 5 (.iload_n 1) 1 6 := ⟨by decide +kernel, rfl⟩
theorem e_X6_isFree_6 : DC cX6_isFree 6 (.bipush 100) 2 8 := ⟨by decide +kernel, rfl⟩
theorem e_X6_isFree_8 : DB cX6_isFree 8 (.if_icmp .ge 16) (16) 3 11 24 := ⟨by decide +kernel, rfl, rfl⟩
theorem e_X6_isFree_11 : DC cX6_isFree 11 (.aload_n 0) 1 12 := ⟨by decide +kernel, rfl⟩
theorem e_X6_isFree_12 : DC cX6_isFree 12 (.getfield 9) 3 15 := ⟨by decide +kernel, rfl⟩
theorem e_X6_isFree_15 : DC cX6_isFree 15 (.iload_n 1) 1 16 := ⟨by decide +kernel, rfl⟩
theorem e_X6_isFree_16 : DC cX6_isFree 16 (.iaload) 1 17 := ⟨by decide +kernel, rfl⟩
theorem e_X6_isFree_17 : DB cX6_isFree 17 (.ifCond .ne 7) (7) 3 20 24 := ⟨by decide +kernel, rfl, rfl⟩
theorem e_X6_isFree_20 : DC cX6_isFree 20 (.iconst 1) 1 21 := ⟨by decide +kernel, rfl⟩
theorem e_X6_isFree_21 : DB cX6_isFree 21 (.goto 4) (4) 3 24 25 := ⟨by decide +kernel, rfl, rfl⟩
theorem e_X6_isFree_24 : DC cX6_isFree 24 (.iconst 0) 1 25 := ⟨by decide +kernel, rfl⟩
theorem e_X6_isFree_25 : DC cX6_isFree 25 (.ireturn) 1 26 := ⟨by decide +kernel, rfl⟩
noncomputable def m_X6_isFree_0 (t_signs : Nat → Int) (v1 : Int) : Option (Int) :=
  if v1 < 0 then (some (0)) else (if 100 ≤ v1 then (some (0)) else (chk (inB v1 100) (if (t_signs (Int.toNat v1)) = 0 then (some (1)) else (some (0)))))

set_option maxRecDepth 10000 in
theorem g_X6_isFree_0 {l : Launch} {E : EE} {b0 n : Nat} {h : AH} {a_t : Nat} {t_flaws t_slipped t_gone t_work t_out t_lost t_came v1 : Int} {t_signs : Nat → Int} {r : Int} (ao : AO b0 n [a_t, (a_t + 1)]) (ok_t_signs : okA t_signs) (ok_v1 : inI v1) (hs : m_X6_isFree_0 t_signs v1 = some r) : G l E b0 M_X6_isFree (fun _ => True) (ZM E b0 (some (vI r)) (ov [a_t, (a_t + 1)] [.inr (6, fsX6 a_t t_flaws t_slipped t_gone t_work t_out t_lost t_came), IA E 100 t_signs] h) n (inZ r) 0 0) 0 0 n (ov [a_t, (a_t + 1)] [.inr (6, fsX6 a_t t_flaws t_slipped t_gone t_work t_out t_lost t_came), IA E 100 t_signs] h) 0 [some (.ref a_t), some (vI v1)] [] := by
  rw [m_X6_isFree_0] at hs
  refine g_iconst e_X6_isFree_0 ?_
  refine g_iload_n e_X6_isFree_1 rfl ?_
  refine g_icmp_gt e_X6_isFree_2 (by decide) ok_v1 hs (fun c2 hs => ?_) (fun c2 hs => ?_)
  · refine g_iconst e_X6_isFree_24 ?_
    obtain rfl := Option.some.inj hs
    exact g_zret rfl (by decide) (by decide) e_X6_isFree_25
  · refine g_iload_n e_X6_isFree_5 rfl ?_
    refine g_bipush e_X6_isFree_6 bp_100 ?_
    refine g_icmp_ge e_X6_isFree_8 ok_v1 (by decide) hs (fun c8 hs => ?_) (fun c8 hs => ?_)
    · refine g_iconst e_X6_isFree_24 ?_
      obtain rfl := Option.some.inj hs
      exact g_zret rfl (by decide) (by decide) e_X6_isFree_25
    · refine g_aload_n e_X6_isFree_11 rfl ?_
      refine g_get 0 0 ao rfl rfl fsX6_g0 fl_X6_9 e_X6_isFree_12 ?_
      refine g_iload_n e_X6_isFree_15 rfl ?_
      refine g_iald 1 ao rfl rfl (Nat.le_of_ble_eq_true rfl) e_X6_isFree_16 hs (fun hi1 hs => ?_)
      refine g_if_ne e_X6_isFree_17 (ok_t_signs _) hs (fun c17 hs => ?_) (fun c17 hs => ?_)
      · refine g_iconst e_X6_isFree_20 ?_
        refine g_goto e_X6_isFree_21 ?_
        obtain rfl := Option.some.inj hs
        exact g_zret rfl (by decide) (by decide) e_X6_isFree_25
      · refine g_iconst e_X6_isFree_24 ?_
        obtain rfl := Option.some.inj hs
        exact g_zret rfl (by decide) (by decide) e_X6_isFree_25

noncomputable def m_X6_isFree (t_signs : Nat → Int) (v1 : Int) : Option (Int) := m_X6_isFree_0 t_signs v1

set_option maxRecDepth 10000 in
theorem ct_X6_isFree {l : Launch} {E : EE} {b0 n : Nat} {h : AH} {a_t : Nat} {t_flaws t_slipped t_gone t_work t_out t_lost t_came : Int} {t_signs : Nat → Int} {v1 : Int} (ao : AO b0 n [a_t, (a_t + 1)]) (hf : FA h [a_t, (a_t + 1)] [.inr (6, fsX6 a_t t_flaws t_slipped t_gone t_work t_out t_lost t_came), IA E 100 t_signs]) (ok_t_signs : okA t_signs) (ok_v1 : inI v1) {r : Int} (hm : m_X6_isFree t_signs v1 = some r) : Ct l E b0 M_X6_isFree 0 0 [.ref a_t, vI v1] h n (some (vI r)) h n (inZ r) := by
  rw [m_X6_isFree] at hm
  have hg : G l E b0 M_X6_isFree (fun _ => True) (ZM E b0 (some (vI r)) (ov [a_t, (a_t + 1)] [.inr (6, fsX6 a_t t_flaws t_slipped t_gone t_work t_out t_lost t_came), IA E 100 t_signs] h) n (inZ r) 0 0) 0 0 n (ov [a_t, (a_t + 1)] [.inr (6, fsX6 a_t t_flaws t_slipped t_gone t_work t_out t_lost t_came), IA E 100 t_signs] h) 0 [some (.ref a_t), some (vI v1)] [] := by
    have hs := hm
    exact g_X6_isFree_0 ao ok_t_signs ok_v1 hs
  rw [FA_id hf] at hg
  exact Ct_of [some (.ref a_t), some (vI v1)] ⟨by decide +kernel, rfl⟩ rfl (Nat.le_of_ble_eq_true rfl) hg

/-! ===== X6_forceAt ===== -/
theorem e_X6_forceAt_0 : DC cX6_forceAt 0 (.iload_n 3) 1 1 := ⟨by decide +kernel, rfl⟩
theorem e_X6_forceAt_1 : DC cX6_forceAt 1 (.istore 4) 2 3 := ⟨by decide +kernel, rfl⟩
theorem e_X6_forceAt_3 : DC cX6_forceAt 3 (.iconst 1) 1 4 := ⟨by decide +kernel, rfl⟩
theorem e_X6_forceAt_4 : DC cX6_forceAt 4 (.istore 5) 2 6 := ⟨by decide +kernel, rfl⟩
theorem e_X6_forceAt_6 : DC cX6_forceAt 6 (.iload 5) 2 8 := ⟨by decide +kernel, rfl⟩
theorem e_X6_forceAt_8 : DC cX6_forceAt 8 (.aload_n 1) 1 9 := ⟨by decide +kernel, rfl⟩
theorem e_X6_forceAt_9 : DC cX6_forceAt 9 (.getfield 67) 3 12 := ⟨by decide +kernel, rfl⟩
theorem e_X6_forceAt_12 : DB cX6_forceAt 12 (.if_icmp .gt 72) (72) 3 15 84 := ⟨by decide +kernel, rfl, rfl⟩
theorem e_X6_forceAt_15 : DC cX6_forceAt 15 (.iload_n 2) 1 16 := ⟨by decide +kernel, rfl⟩
theorem e_X6_forceAt_16 : DC cX6_forceAt 16 (.iload 5) 2 18 := ⟨by decide +kernel, rfl⟩
theorem e_X6_forceAt_18 : DB cX6_forceAt 18 (.if_icmp .lt 15) (15) 3 21 33 := ⟨by decide +kernel, rfl, rfl⟩
theorem e_X6_forceAt_21 : DC cX6_forceAt 21 (.aload_n 0) 1 22 := ⟨by decide +kernel, rfl⟩
theorem e_X6_forceAt_22 : DC cX6_forceAt 22 (.getfield 9) 3 25 := ⟨by decide +kernel, rfl⟩
theorem e_X6_forceAt_25 : DC cX6_forceAt 25 (.iload_n 2) 1 26 := ⟨by decide +kernel, rfl⟩
theorem e_X6_forceAt_26 : DC cX6_forceAt 26 (.iload 5) 2 28 := ⟨by decide +kernel, rfl⟩
theorem e_X6_forceAt_28 : DC cX6_forceAt 28 (.isub) 1 29 := ⟨by decide +kernel, rfl⟩
theorem e_X6_forceAt_29 : DC cX6_forceAt 29 (.iaload) 1 30 := ⟨by decide +kernel, rfl⟩
theorem e_X6_forceAt_30 : DB cX6_forceAt 30 (.goto 4) (4) 3 33 34 := ⟨by decide +kernel, rfl, rfl⟩
theorem e_X6_forceAt_33 : DC cX6_forceAt 33 (.iconst 0) 1 34 := ⟨by decide +kernel, rfl⟩
theorem e_X6_forceAt_34 : DC cX6_forceAt 34 (.istore 6) 2 36 := ⟨by decide +kernel, rfl⟩
theorem e_X6_forceAt_36 : DC cX6_forceAt 36 (.iload_n 2) 1 37 := ⟨by decide +kernel, rfl⟩
theorem e_X6_forceAt_37 : DC cX6_forceAt 37 (.iload 5) 2 39 := ⟨by decide +kernel, rfl⟩
theorem e_X6_forceAt_39 : DC cX6_forceAt 39 (.iadd) 1 40 := ⟨by decide +kernel, rfl⟩
theorem e_X6_forceAt_40 : DC cX6_forceAt 40 (.bipush 100) 2 42 := ⟨by decide +kernel, rfl⟩
theorem e_X6_forceAt_42 : DB cX6_forceAt 42 (.if_icmp .ge 15) (15) 3 45 57 := ⟨by decide +kernel, rfl, rfl⟩
theorem e_X6_forceAt_45 : DC cX6_forceAt 45 (.aload_n 0) 1 46 := ⟨by decide +kernel, rfl⟩
theorem e_X6_forceAt_46 : DC cX6_forceAt 46 (.getfield 9) 3 49 := ⟨by decide +kernel, rfl⟩
theorem e_X6_forceAt_49 : DC cX6_forceAt 49 (.iload_n 2) 1 50 := ⟨by decide +kernel, rfl⟩
theorem e_X6_forceAt_50 : DC cX6_forceAt 50 (.iload 5) 2 52 := ⟨by decide +kernel, rfl⟩
theorem e_X6_forceAt_52 : DC cX6_forceAt 52 (.iadd) 1 53 := ⟨by decide +kernel, rfl⟩
theorem e_X6_forceAt_53 : DC cX6_forceAt 53 (.iaload) 1 54 := ⟨by decide +kernel, rfl⟩
theorem e_X6_forceAt_54 : DB cX6_forceAt 54 (.goto 4) (4) 3 57 58 := ⟨by decide +kernel, rfl, rfl⟩
theorem e_X6_forceAt_57 : DC cX6_forceAt 57 (.iconst 0) 1 58 := ⟨by decide +kernel, rfl⟩
theorem e_X6_forceAt_58 : DC cX6_forceAt 58 (.istore 7) 2 60 := ⟨by decide +kernel, rfl⟩
theorem e_X6_forceAt_60 : DC cX6_forceAt 60 (.iload 4) 2 62 := ⟨by decide +kernel, rfl⟩
theorem e_X6_forceAt_62 : DC cX6_forceAt 62 (.iload 6) 2 64 := ⟨by decide +kernel, rfl⟩
theorem e_X6_forceAt_64 : DC cX6_forceAt 64 (.iload 7) 2 66 := ⟨by decide +kernel, rfl⟩
theorem e_X6_forceAt_66 : DC cX6_forceAt 66 (.isub) 1 67 := ⟨by decide +kernel, rfl⟩
theorem e_X6_forceAt_67 : DC cX6_forceAt 67 (.aload_n 1) 1 68 := ⟨by decide +kernel, rfl⟩
theorem e_X6_forceAt_68 : DC cX6_forceAt 68 (.getfield 72) 3 71 := ⟨by decide +kernel, rfl⟩
theorem e_X6_forceAt_71 : DC cX6_forceAt 71 (.iload 5) 2 73 := ⟨by decide +kernel, rfl⟩
theorem e_X6_forceAt_73 : DC cX6_forceAt 73 (.iaload) 1 74 := ⟨by decide +kernel, rfl⟩
theorem e_X6_forceAt_74 : DC cX6_forceAt 74 (.imul) 1 75 := ⟨by decide +kernel, rfl⟩
theorem e_X6_forceAt_75 : DC cX6_forceAt 75 (.iadd) 1 76 := ⟨by decide +kernel, rfl⟩
theorem e_X6_forceAt_76 : DC cX6_forceAt 76 (.istore 4) 2 78 := ⟨by decide +kernel, rfl⟩
theorem e_X6_forceAt_78 : DC cX6_forceAt 78 (.iinc 5 1) 3 81 := ⟨by decide +kernel, rfl⟩
theorem e_X6_forceAt_81 : DB cX6_forceAt 81 (.goto (-75)) (-75) 3 84 6 := ⟨by decide +kernel, rfl, rfl⟩
theorem e_X6_forceAt_84 : DC cX6_forceAt 84 (.iload 4) 2 86 := ⟨by decide +kernel, rfl⟩
theorem e_X6_forceAt_86 : DC cX6_forceAt 86 (.ireturn) 1 87 := ⟨by decide +kernel, rfl⟩
noncomputable def m_X6_forceAt_58 (t_signs : Nat → Int) (p1_reach : Int) (p1_pushes : Nat → Int) (v2 : Int) (v4 : Int) (v5 : Int) (v6 : Int) (s0 : Int) (ag : Int → Int → Option (Int)) (k_84 : Int → Int → Option (Int)) : Option (Int) :=
  chk (inB v5 21) (chk (inI (v4 + ((v6 - s0) * (p1_pushes (Int.toNat v5))))) (chk (inI (v5 + 1)) (ag (v4 + ((v6 - s0) * (p1_pushes (Int.toNat v5)))) (v5 + 1))))

set_option maxRecDepth 10000 in
theorem g_X6_forceAt_58 {l : Launch} {E : EE} {b0 n : Nat} {h : AH} {a_t a_p1 : Nat} {t_flaws t_slipped t_gone t_work t_out t_lost t_came p1_speckMany p1_sourceMany p1_baseTold p1_baseLow p1_baseHigh p1_reach v2 v4 v5 v6 s0 : Int} {t_signs p1_pushes : Nat → Int} {r : Int} {ag : Int → Int → Option (Int)} {k_84 : Int → Int → Option (Int)} (ao : AO b0 n [a_t, (a_t + 1), a_p1, (a_p1 + 1)]) (ok_t_signs : okA t_signs) (ok_p1_reach : inI p1_reach) (ok_p1_pushes : okA p1_pushes) (ok_v2 : inI v2) (ok_v4 : inI v4) (ok_v5 : inI v5) (ok_v6 : inI v6) (ok_s0 : inI s0) (hag : ∀ (v4_ : Int) (v5_ : Int), inI v4_ → inI v5_ → ag v4_ v5_ = some r → G l E b0 M_X6_forceAt (fun _ => True) (ZM E b0 (some (vI r)) (ov [a_t, (a_t + 1), a_p1, (a_p1 + 1)] [.inr (6, fsX6 a_t t_flaws t_slipped t_gone t_work t_out t_lost t_came), IA E 100 t_signs, .inr (3, fsX3 a_p1 p1_speckMany p1_sourceMany p1_baseTold p1_baseLow p1_baseHigh p1_reach), IA E 21 p1_pushes] h) n (inI r) 0 0) 0 0 n (ov [a_t, (a_t + 1), a_p1, (a_p1 + 1)] [.inr (6, fsX6 a_t t_flaws t_slipped t_gone t_work t_out t_lost t_came), IA E 100 t_signs, .inr (3, fsX3 a_p1 p1_speckMany p1_sourceMany p1_baseTold p1_baseLow p1_baseHigh p1_reach), IA E 21 p1_pushes] h) 6 [some (.ref a_t), some (.ref a_p1), some (vI v2), none, some (vI v4_), some (vI v5_), none, none] []) (hk_84 : ∀ (v4_ : Int) (v5_ : Int), inI v4_ → inI v5_ → k_84 v4_ v5_ = some r → G l E b0 M_X6_forceAt (fun _ => True) (ZM E b0 (some (vI r)) (ov [a_t, (a_t + 1), a_p1, (a_p1 + 1)] [.inr (6, fsX6 a_t t_flaws t_slipped t_gone t_work t_out t_lost t_came), IA E 100 t_signs, .inr (3, fsX3 a_p1 p1_speckMany p1_sourceMany p1_baseTold p1_baseLow p1_baseHigh p1_reach), IA E 21 p1_pushes] h) n (inI r) 0 0) 0 0 n (ov [a_t, (a_t + 1), a_p1, (a_p1 + 1)] [.inr (6, fsX6 a_t t_flaws t_slipped t_gone t_work t_out t_lost t_came), IA E 100 t_signs, .inr (3, fsX3 a_p1 p1_speckMany p1_sourceMany p1_baseTold p1_baseLow p1_baseHigh p1_reach), IA E 21 p1_pushes] h) 84 [none, none, none, none, some (vI v4_), none, none, none] []) (hs : m_X6_forceAt_58 t_signs p1_reach p1_pushes v2 v4 v5 v6 s0 ag k_84 = some r) : G l E b0 M_X6_forceAt (fun _ => True) (ZM E b0 (some (vI r)) (ov [a_t, (a_t + 1), a_p1, (a_p1 + 1)] [.inr (6, fsX6 a_t t_flaws t_slipped t_gone t_work t_out t_lost t_came), IA E 100 t_signs, .inr (3, fsX3 a_p1 p1_speckMany p1_sourceMany p1_baseTold p1_baseLow p1_baseHigh p1_reach), IA E 21 p1_pushes] h) n (inI r) 0 0) 0 0 n (ov [a_t, (a_t + 1), a_p1, (a_p1 + 1)] [.inr (6, fsX6 a_t t_flaws t_slipped t_gone t_work t_out t_lost t_came), IA E 100 t_signs, .inr (3, fsX3 a_p1 p1_speckMany p1_sourceMany p1_baseTold p1_baseLow p1_baseHigh p1_reach), IA E 21 p1_pushes] h) 58 [some (.ref a_t), some (.ref a_p1), some (vI v2), none, some (vI v4), some (vI v5), some (vI v6), none] [vI s0] := by
  rw [m_X6_forceAt_58] at hs
  refine g_istore e_X6_forceAt_58 st1_7 rfl ?_
  refine g_iload e_X6_forceAt_60 rfl ?_
  refine g_iload e_X6_forceAt_62 rfl ?_
  refine g_iload e_X6_forceAt_64 rfl ?_
  refine g_isub e_X6_forceAt_66 ?_
  refine g_aload_n e_X6_forceAt_67 rfl ?_
  refine g_get 2 0 ao rfl rfl fsX3_g0 fl_X6_72 e_X6_forceAt_68 ?_
  refine g_iload e_X6_forceAt_71 rfl ?_
  refine g_iald 3 ao rfl rfl (Nat.le_of_ble_eq_true rfl) e_X6_forceAt_73 hs (fun hi2 hs => ?_)
  refine g_imul e_X6_forceAt_74 ?_
  refine g_iadd e_X6_forceAt_75 ?_
  refine g_istore e_X6_forceAt_76 st1_4 rfl ?_
  refine g_iinc e_X6_forceAt_78 rfl st1_5 rfl ?_
  refine g_goto e_X6_forceAt_81 ?_
  obtain ⟨hc3, hs⟩ := chk_elim hs
  obtain ⟨hc4, hs⟩ := chk_elim hs
  exact g_mask [true, true, true, true, true, true, false, false] (hag _ _ hc3 hc4 hs)

noncomputable def m_X6_forceAt_34 (t_signs : Nat → Int) (p1_reach : Int) (p1_pushes : Nat → Int) (v2 : Int) (v4 : Int) (v5 : Int) (s0 : Int) (ag : Int → Int → Option (Int)) (k_84 : Int → Int → Option (Int)) : Option (Int) :=
  chk (inI (v2 + v5)) (if 100 ≤ (v2 + v5) then (m_X6_forceAt_58 t_signs p1_reach p1_pushes v2 v4 v5 s0 0 ag k_84) else (chk (inB (v2 + v5) 100) (m_X6_forceAt_58 t_signs p1_reach p1_pushes v2 v4 v5 s0 (t_signs (Int.toNat (v2 + v5))) ag k_84)))

set_option maxRecDepth 10000 in
theorem g_X6_forceAt_34 {l : Launch} {E : EE} {b0 n : Nat} {h : AH} {a_t a_p1 : Nat} {t_flaws t_slipped t_gone t_work t_out t_lost t_came p1_speckMany p1_sourceMany p1_baseTold p1_baseLow p1_baseHigh p1_reach v2 v4 v5 s0 : Int} {t_signs p1_pushes : Nat → Int} {r : Int} {ag : Int → Int → Option (Int)} {k_84 : Int → Int → Option (Int)} (ao : AO b0 n [a_t, (a_t + 1), a_p1, (a_p1 + 1)]) (ok_t_signs : okA t_signs) (ok_p1_reach : inI p1_reach) (ok_p1_pushes : okA p1_pushes) (ok_v2 : inI v2) (ok_v4 : inI v4) (ok_v5 : inI v5) (ok_s0 : inI s0) (hag : ∀ (v4_ : Int) (v5_ : Int), inI v4_ → inI v5_ → ag v4_ v5_ = some r → G l E b0 M_X6_forceAt (fun _ => True) (ZM E b0 (some (vI r)) (ov [a_t, (a_t + 1), a_p1, (a_p1 + 1)] [.inr (6, fsX6 a_t t_flaws t_slipped t_gone t_work t_out t_lost t_came), IA E 100 t_signs, .inr (3, fsX3 a_p1 p1_speckMany p1_sourceMany p1_baseTold p1_baseLow p1_baseHigh p1_reach), IA E 21 p1_pushes] h) n (inI r) 0 0) 0 0 n (ov [a_t, (a_t + 1), a_p1, (a_p1 + 1)] [.inr (6, fsX6 a_t t_flaws t_slipped t_gone t_work t_out t_lost t_came), IA E 100 t_signs, .inr (3, fsX3 a_p1 p1_speckMany p1_sourceMany p1_baseTold p1_baseLow p1_baseHigh p1_reach), IA E 21 p1_pushes] h) 6 [some (.ref a_t), some (.ref a_p1), some (vI v2), none, some (vI v4_), some (vI v5_), none, none] []) (hk_84 : ∀ (v4_ : Int) (v5_ : Int), inI v4_ → inI v5_ → k_84 v4_ v5_ = some r → G l E b0 M_X6_forceAt (fun _ => True) (ZM E b0 (some (vI r)) (ov [a_t, (a_t + 1), a_p1, (a_p1 + 1)] [.inr (6, fsX6 a_t t_flaws t_slipped t_gone t_work t_out t_lost t_came), IA E 100 t_signs, .inr (3, fsX3 a_p1 p1_speckMany p1_sourceMany p1_baseTold p1_baseLow p1_baseHigh p1_reach), IA E 21 p1_pushes] h) n (inI r) 0 0) 0 0 n (ov [a_t, (a_t + 1), a_p1, (a_p1 + 1)] [.inr (6, fsX6 a_t t_flaws t_slipped t_gone t_work t_out t_lost t_came), IA E 100 t_signs, .inr (3, fsX3 a_p1 p1_speckMany p1_sourceMany p1_baseTold p1_baseLow p1_baseHigh p1_reach), IA E 21 p1_pushes] h) 84 [none, none, none, none, some (vI v4_), none, none, none] []) (hs : m_X6_forceAt_34 t_signs p1_reach p1_pushes v2 v4 v5 s0 ag k_84 = some r) : G l E b0 M_X6_forceAt (fun _ => True) (ZM E b0 (some (vI r)) (ov [a_t, (a_t + 1), a_p1, (a_p1 + 1)] [.inr (6, fsX6 a_t t_flaws t_slipped t_gone t_work t_out t_lost t_came), IA E 100 t_signs, .inr (3, fsX3 a_p1 p1_speckMany p1_sourceMany p1_baseTold p1_baseLow p1_baseHigh p1_reach), IA E 21 p1_pushes] h) n (inI r) 0 0) 0 0 n (ov [a_t, (a_t + 1), a_p1, (a_p1 + 1)] [.inr (6, fsX6 a_t t_flaws t_slipped t_gone t_work t_out t_lost t_came), IA E 100 t_signs, .inr (3, fsX3 a_p1 p1_speckMany p1_sourceMany p1_baseTold p1_baseLow p1_baseHigh p1_reach), IA E 21 p1_pushes] h) 34 [some (.ref a_t), some (.ref a_p1), some (vI v2), none, some (vI v4), some (vI v5), none, none] [vI s0] := by
  rw [m_X6_forceAt_34] at hs
  refine g_istore e_X6_forceAt_34 st1_6 rfl ?_
  refine g_iload_n e_X6_forceAt_36 rfl ?_
  refine g_iload e_X6_forceAt_37 rfl ?_
  refine g_iadd e_X6_forceAt_39 ?_
  refine g_bipush e_X6_forceAt_40 bp_100 ?_
  obtain ⟨hc1, hs⟩ := chk_elim hs
  refine g_icmp_ge e_X6_forceAt_42 hc1 (by decide) hs (fun c42 hs => ?_) (fun c42 hs => ?_)
  · refine g_iconst e_X6_forceAt_57 ?_
    exact g_X6_forceAt_58 ao ok_t_signs ok_p1_reach ok_p1_pushes ok_v2 ok_v4 ok_v5 ok_s0 (by decide) hag hk_84 hs
  · refine g_aload_n e_X6_forceAt_45 rfl ?_
    refine g_get 0 0 ao rfl rfl fsX6_g0 fl_X6_9 e_X6_forceAt_46 ?_
    refine g_iload_n e_X6_forceAt_49 rfl ?_
    refine g_iload e_X6_forceAt_50 rfl ?_
    refine g_iadd e_X6_forceAt_52 ?_
    refine g_iald 1 ao rfl rfl (Nat.le_of_ble_eq_true rfl) e_X6_forceAt_53 hs (fun hi5 hs => ?_)
    refine g_goto e_X6_forceAt_54 ?_
    exact g_X6_forceAt_58 ao ok_t_signs ok_p1_reach ok_p1_pushes ok_v2 ok_v4 ok_v5 ok_s0 (ok_t_signs _) hag hk_84 hs

noncomputable def m_X6_forceAt_6 (t_signs : Nat → Int) (p1_reach : Int) (p1_pushes : Nat → Int) (v2 : Int) (k_84 : Int → Int → Option (Int)) : Nat → Int → Int → Option (Int)
  | 0, _, _ => none
  | F + 1, v4, v5 => if p1_reach < v5 then (some (v4)) else (if v2 < v5 then (m_X6_forceAt_34 t_signs p1_reach p1_pushes v2 v4 v5 0 (m_X6_forceAt_6 t_signs p1_reach p1_pushes v2 k_84 F) k_84) else (chk (inB (v2 - v5) 100) (m_X6_forceAt_34 t_signs p1_reach p1_pushes v2 v4 v5 (t_signs (Int.toNat (v2 - v5))) (m_X6_forceAt_6 t_signs p1_reach p1_pushes v2 k_84 F) k_84)))

set_option maxRecDepth 10000 in
theorem g_X6_forceAt_6 {l : Launch} {E : EE} {b0 n : Nat} {h : AH} {a_t a_p1 : Nat} {t_flaws t_slipped t_gone t_work t_out t_lost t_came p1_speckMany p1_sourceMany p1_baseTold p1_baseLow p1_baseHigh p1_reach v2 : Int} {t_signs p1_pushes : Nat → Int} {r : Int} {k_84 : Int → Int → Option (Int)} (ao : AO b0 n [a_t, (a_t + 1), a_p1, (a_p1 + 1)]) (ok_t_signs : okA t_signs) (ok_p1_reach : inI p1_reach) (ok_p1_pushes : okA p1_pushes) (ok_v2 : inI v2) (hk_84 : ∀ (v4_ : Int) (v5_ : Int), inI v4_ → inI v5_ → k_84 v4_ v5_ = some r → G l E b0 M_X6_forceAt (fun _ => True) (ZM E b0 (some (vI r)) (ov [a_t, (a_t + 1), a_p1, (a_p1 + 1)] [.inr (6, fsX6 a_t t_flaws t_slipped t_gone t_work t_out t_lost t_came), IA E 100 t_signs, .inr (3, fsX3 a_p1 p1_speckMany p1_sourceMany p1_baseTold p1_baseLow p1_baseHigh p1_reach), IA E 21 p1_pushes] h) n (inI r) 0 0) 0 0 n (ov [a_t, (a_t + 1), a_p1, (a_p1 + 1)] [.inr (6, fsX6 a_t t_flaws t_slipped t_gone t_work t_out t_lost t_came), IA E 100 t_signs, .inr (3, fsX3 a_p1 p1_speckMany p1_sourceMany p1_baseTold p1_baseLow p1_baseHigh p1_reach), IA E 21 p1_pushes] h) 84 [none, none, none, none, some (vI v4_), none, none, none] []) :
    ∀ (F : Nat) (v4 : Int) (v5 : Int), inI v4 → inI v5 → m_X6_forceAt_6 t_signs p1_reach p1_pushes v2 k_84 F v4 v5 = some r → G l E b0 M_X6_forceAt (fun _ => True) (ZM E b0 (some (vI r)) (ov [a_t, (a_t + 1), a_p1, (a_p1 + 1)] [.inr (6, fsX6 a_t t_flaws t_slipped t_gone t_work t_out t_lost t_came), IA E 100 t_signs, .inr (3, fsX3 a_p1 p1_speckMany p1_sourceMany p1_baseTold p1_baseLow p1_baseHigh p1_reach), IA E 21 p1_pushes] h) n (inI r) 0 0) 0 0 n (ov [a_t, (a_t + 1), a_p1, (a_p1 + 1)] [.inr (6, fsX6 a_t t_flaws t_slipped t_gone t_work t_out t_lost t_came), IA E 100 t_signs, .inr (3, fsX3 a_p1 p1_speckMany p1_sourceMany p1_baseTold p1_baseLow p1_baseHigh p1_reach), IA E 21 p1_pushes] h) 6 [some (.ref a_t), some (.ref a_p1), some (vI v2), none, some (vI v4), some (vI v5), none, none] [] := by
  intro F
  induction F with
  | zero =>
    intro v4 v5 ok_v4 ok_v5 hs
    rw [m_X6_forceAt_6] at hs
    cases hs
  | succ F ih =>
    intro v4 v5 ok_v4 ok_v5 hs
    rw [m_X6_forceAt_6] at hs
    refine g_iload e_X6_forceAt_6 rfl ?_
    refine g_aload_n e_X6_forceAt_8 rfl ?_
    refine g_get 2 13 ao rfl rfl fsX3_g13 fl_X6_67 e_X6_forceAt_9 ?_
    refine g_icmp_gt e_X6_forceAt_12 ok_v5 ok_p1_reach hs (fun c12 hs => ?_) (fun c12 hs => ?_)
    · refine g_iload e_X6_forceAt_84 rfl ?_
      obtain rfl := Option.some.inj hs
      exact g_iret rfl ok_v4 e_X6_forceAt_86
    · refine g_iload_n e_X6_forceAt_15 rfl ?_
      refine g_iload e_X6_forceAt_16 rfl ?_
      refine g_icmp_lt e_X6_forceAt_18 ok_v2 ok_v5 hs (fun c18 hs => ?_) (fun c18 hs => ?_)
      · refine g_iconst e_X6_forceAt_33 ?_
        exact g_X6_forceAt_34 ao ok_t_signs ok_p1_reach ok_p1_pushes ok_v2 ok_v4 ok_v5 (by decide) ih hk_84 hs
      · refine g_aload_n e_X6_forceAt_21 rfl ?_
        refine g_get 0 0 ao rfl rfl fsX6_g0 fl_X6_9 e_X6_forceAt_22 ?_
        refine g_iload_n e_X6_forceAt_25 rfl ?_
        refine g_iload e_X6_forceAt_26 rfl ?_
        refine g_isub e_X6_forceAt_28 ?_
        refine g_iald 1 ao rfl rfl (Nat.le_of_ble_eq_true rfl) e_X6_forceAt_29 hs (fun hi6 hs => ?_)
        refine g_goto e_X6_forceAt_30 ?_
        exact g_X6_forceAt_34 ao ok_t_signs ok_p1_reach ok_p1_pushes ok_v2 ok_v4 ok_v5 (ok_t_signs _) ih hk_84 hs

noncomputable def m_X6_forceAt_84 (v4 : Int) : Option (Int) :=
  some (v4)

set_option maxRecDepth 10000 in
theorem g_X6_forceAt_84 {l : Launch} {E : EE} {b0 n : Nat} {h : AH} {a_t a_p1 : Nat} {t_flaws t_slipped t_gone t_work t_out t_lost t_came p1_speckMany p1_sourceMany p1_baseTold p1_baseLow p1_baseHigh p1_reach v4 : Int} {t_signs p1_pushes : Nat → Int} {r : Int} (ao : AO b0 n [a_t, (a_t + 1), a_p1, (a_p1 + 1)]) (ok_t_signs : okA t_signs) (ok_p1_reach : inI p1_reach) (ok_p1_pushes : okA p1_pushes) (ok_v4 : inI v4) (hs : m_X6_forceAt_84 v4 = some r) : G l E b0 M_X6_forceAt (fun _ => True) (ZM E b0 (some (vI r)) (ov [a_t, (a_t + 1), a_p1, (a_p1 + 1)] [.inr (6, fsX6 a_t t_flaws t_slipped t_gone t_work t_out t_lost t_came), IA E 100 t_signs, .inr (3, fsX3 a_p1 p1_speckMany p1_sourceMany p1_baseTold p1_baseLow p1_baseHigh p1_reach), IA E 21 p1_pushes] h) n (inI r) 0 0) 0 0 n (ov [a_t, (a_t + 1), a_p1, (a_p1 + 1)] [.inr (6, fsX6 a_t t_flaws t_slipped t_gone t_work t_out t_lost t_came), IA E 100 t_signs, .inr (3, fsX3 a_p1 p1_speckMany p1_sourceMany p1_baseTold p1_baseLow p1_baseHigh p1_reach), IA E 21 p1_pushes] h) 84 [none, none, none, none, some (vI v4), none, none, none] [] := by
  rw [m_X6_forceAt_84] at hs
  refine g_iload e_X6_forceAt_84 rfl ?_
  obtain rfl := Option.some.inj hs
  exact g_iret rfl ok_v4 e_X6_forceAt_86

noncomputable def m_X6_forceAt_0 (t_signs : Nat → Int) (p1_reach : Int) (p1_pushes : Nat → Int) (v2 : Int) (v3 : Int) : Option (Int) :=
  m_X6_forceAt_6 t_signs p1_reach p1_pushes v2 (fun v4' v5' => m_X6_forceAt_84 v4') FU v3 1

set_option maxRecDepth 10000 in
theorem g_X6_forceAt_0 {l : Launch} {E : EE} {b0 n : Nat} {h : AH} {a_t a_p1 : Nat} {t_flaws t_slipped t_gone t_work t_out t_lost t_came p1_speckMany p1_sourceMany p1_baseTold p1_baseLow p1_baseHigh p1_reach v2 v3 : Int} {t_signs p1_pushes : Nat → Int} {r : Int} (ao : AO b0 n [a_t, (a_t + 1), a_p1, (a_p1 + 1)]) (ok_t_signs : okA t_signs) (ok_p1_reach : inI p1_reach) (ok_p1_pushes : okA p1_pushes) (ok_v2 : inI v2) (ok_v3 : inI v3) (hs : m_X6_forceAt_0 t_signs p1_reach p1_pushes v2 v3 = some r) : G l E b0 M_X6_forceAt (fun _ => True) (ZM E b0 (some (vI r)) (ov [a_t, (a_t + 1), a_p1, (a_p1 + 1)] [.inr (6, fsX6 a_t t_flaws t_slipped t_gone t_work t_out t_lost t_came), IA E 100 t_signs, .inr (3, fsX3 a_p1 p1_speckMany p1_sourceMany p1_baseTold p1_baseLow p1_baseHigh p1_reach), IA E 21 p1_pushes] h) n (inI r) 0 0) 0 0 n (ov [a_t, (a_t + 1), a_p1, (a_p1 + 1)] [.inr (6, fsX6 a_t t_flaws t_slipped t_gone t_work t_out t_lost t_came), IA E 100 t_signs, .inr (3, fsX3 a_p1 p1_speckMany p1_sourceMany p1_baseTold p1_baseLow p1_baseHigh p1_reach), IA E 21 p1_pushes] h) 0 [some (.ref a_t), some (.ref a_p1), some (vI v2), some (vI v3), none, none, none, none] [] := by
  rw [m_X6_forceAt_0] at hs
  refine g_iload_n e_X6_forceAt_0 rfl ?_
  refine g_istore e_X6_forceAt_1 st1_4 rfl ?_
  refine g_iconst e_X6_forceAt_3 ?_
  refine g_istore e_X6_forceAt_4 st1_5 rfl ?_
  exact g_mask [true, true, true, false, true, true, true, true] (g_X6_forceAt_6 ao ok_t_signs ok_p1_reach ok_p1_pushes ok_v2 (hk_84 := by
      intro v4' v5' ok_v4' ok_v5' hs
      exact g_X6_forceAt_84 ao ok_t_signs ok_p1_reach ok_p1_pushes ok_v4' hs) FU _ _ ok_v3 (by decide) hs)

noncomputable def m_X6_forceAt (t_signs : Nat → Int) (p1_reach : Int) (p1_pushes : Nat → Int) (v2 : Int) (v3 : Int) : Option (Int) := m_X6_forceAt_0 t_signs p1_reach p1_pushes v2 v3

set_option maxRecDepth 10000 in
theorem ct_X6_forceAt {l : Launch} {E : EE} {b0 n : Nat} {h : AH} {a_t a_p1 : Nat} {t_flaws t_slipped t_gone t_work t_out t_lost t_came p1_speckMany p1_sourceMany p1_baseTold p1_baseLow p1_baseHigh p1_reach : Int} {t_signs p1_pushes : Nat → Int} {v2 v3 : Int} (ao : AO b0 n [a_t, (a_t + 1), a_p1, (a_p1 + 1)]) (hf : FA h [a_t, (a_t + 1), a_p1, (a_p1 + 1)] [.inr (6, fsX6 a_t t_flaws t_slipped t_gone t_work t_out t_lost t_came), IA E 100 t_signs, .inr (3, fsX3 a_p1 p1_speckMany p1_sourceMany p1_baseTold p1_baseLow p1_baseHigh p1_reach), IA E 21 p1_pushes]) (ok_t_signs : okA t_signs) (ok_p1_reach : inI p1_reach) (ok_p1_pushes : okA p1_pushes) (ok_v2 : inI v2) (ok_v3 : inI v3) {r : Int} (hm : m_X6_forceAt t_signs p1_reach p1_pushes v2 v3 = some r) : Ct l E b0 M_X6_forceAt 0 0 [.ref a_t, .ref a_p1, vI v2, vI v3] h n (some (vI r)) h n (inI r) := by
  rw [m_X6_forceAt] at hm
  have hg : G l E b0 M_X6_forceAt (fun _ => True) (ZM E b0 (some (vI r)) (ov [a_t, (a_t + 1), a_p1, (a_p1 + 1)] [.inr (6, fsX6 a_t t_flaws t_slipped t_gone t_work t_out t_lost t_came), IA E 100 t_signs, .inr (3, fsX3 a_p1 p1_speckMany p1_sourceMany p1_baseTold p1_baseLow p1_baseHigh p1_reach), IA E 21 p1_pushes] h) n (inI r) 0 0) 0 0 n (ov [a_t, (a_t + 1), a_p1, (a_p1 + 1)] [.inr (6, fsX6 a_t t_flaws t_slipped t_gone t_work t_out t_lost t_came), IA E 100 t_signs, .inr (3, fsX3 a_p1 p1_speckMany p1_sourceMany p1_baseTold p1_baseLow p1_baseHigh p1_reach), IA E 21 p1_pushes] h) 0 [some (.ref a_t), some (.ref a_p1), some (vI v2), some (vI v3), none, none, none, none] [] := by
    have hs := hm
    exact g_X6_forceAt_0 ao ok_t_signs ok_p1_reach ok_p1_pushes ok_v2 ok_v3 hs
  rw [FA_id hf] at hg
  exact Ct_of [some (.ref a_t), some (.ref a_p1), some (vI v2), some (vI v3), none, none, none, none] ⟨by decide +kernel, rfl⟩ rfl (Nat.le_of_ble_eq_true rfl) hg


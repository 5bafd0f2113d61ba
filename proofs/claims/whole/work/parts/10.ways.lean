def M_X8_drop : MB := (yX8_drop, cX8_drop, 1, none, ({ frames := 1, cells := 0, slots := 0, locals := 40 } : Room), RX8)
def M_X8_has : MB := (yX8_has, cX8_has, 2, (some .boolean), ({ frames := 1, cells := 0, slots := 0, locals := 40 } : Room), RX8)
def M_X8_isFull : MB := (yX8_isFull, cX8_isFull, 1, (some .boolean), ({ frames := 1, cells := 0, slots := 0, locals := 40 } : Room), RX8)
def M_X8_append : MB := (yX8_append, cX8_append, 4, none, ({ frames := 2, cells := 0, slots := 0, locals := 60 } : Room), RX8)
def M_X8_change : MB := (yX8_change, cX8_change, 5, none, ({ frames := 2, cells := 0, slots := 0, locals := 61 } : Room), RX8)
def M_X8_partOf : MB := (yX8_partOf, cX8_partOf, 3, (some .int), ({ frames := 2, cells := 0, slots := 0, locals := 61 } : Room), RX8)
def M_X8_productWith : MB := (yX8_productWith, cX8_productWith, 5, (some .int), ({ frames := 1, cells := 0, slots := 0, locals := 40 } : Room), RX8)
def M_X8_product : MB := (yX8_product, cX8_product, 4, (some .int), ({ frames := 2, cells := 0, slots := 0, locals := 61 } : Room), RX8)
def M_X8_worthOf : MB := (yX8_worthOf, cX8_worthOf, 2, (some .int), ({ frames := 2, cells := 0, slots := 0, locals := 61 } : Room), RX8)
def M_X8_areAlike : MB := (yX8_areAlike, cX8_areAlike, 3, (some .boolean), ({ frames := 2, cells := 0, slots := 0, locals := 61 } : Room), RX8)
def M_X8_haveEitherWay : MB := (yX8_haveEitherWay, cX8_haveEitherWay, 5, (some .boolean), ({ frames := 1, cells := 0, slots := 0, locals := 40 } : Room), RX8)
def M_J7_fill_53178 : MB := (yJ7_fill_53178, cJ7_fill_53178, 4, none, ({ frames := 1, cells := 0, slots := 0, locals := 40 } : Room), RJ7)
theorem cb_X8_has : CB M_X8_has 1 := ⟨GW_of 771 (by decide +kernel) (by decide +kernel), GW_of 87 (by decide +kernel) (by decide +kernel), by decide +kernel, by decide +kernel, by decide +kernel⟩
theorem cb_X8_isFull : CB M_X8_isFull 0 := ⟨GW_of 680 (by decide +kernel) (by decide +kernel), GW_of 87 (by decide +kernel) (by decide +kernel), by decide +kernel, by decide +kernel, by decide +kernel⟩
theorem fw_X8_25 : FW RX8 25 8 3 false .int := ⟨RX8, TX8, 4, rfl, by decide, rfl, rfl, by decide +kernel, Or.inl (GW_of 152 (by decide +kernel) (by decide +kernel)), fun h => by cases h⟩
theorem fl_X8_25 : FL RX8 25 8 3 := ⟨RX8, TX8, 4, rfl, by decide, rfl, Or.inl (GW_of 152 (by decide +kernel) (by decide +kernel))⟩
theorem fl_X8_13 : FL RX8 13 8 0 := ⟨RX8, TX8, 4, rfl, by decide, rfl, Or.inl (GW_of 149 (by decide +kernel) (by decide +kernel))⟩
theorem fl_X8_19 : FL RX8 19 8 1 := ⟨RX8, TX8, 4, rfl, by decide, rfl, Or.inl (GW_of 150 (by decide +kernel) (by decide +kernel))⟩
theorem fl_X8_22 : FL RX8 22 8 2 := ⟨RX8, TX8, 4, rfl, by decide, rfl, Or.inl (GW_of 151 (by decide +kernel) (by decide +kernel))⟩
theorem cv_X8_29 : CV RX8 29 M_X8_isFull 0 := ⟨cb_X8_isFull, Or.inl (GW_of 700 (by decide +kernel) (by decide +kernel)), GW_of 678 (by decide +kernel) (by decide +kernel), GW_of 679 (by decide +kernel) (by decide +kernel)⟩
theorem cv_X8_33 : CV RX8 33 M_X8_has 1 := ⟨cb_X8_has, Or.inl (GW_of 780 (by decide +kernel) (by decide +kernel)), GW_of 769 (by decide +kernel) (by decide +kernel), GW_of 770 (by decide +kernel) (by decide +kernel)⟩
/-! ===== X8_drop ===== -/
theorem e_X8_drop_0 : DC cX8_drop 0 (.aload_n 0) 1 1 := ⟨by decide +kernel, rfl⟩
theorem e_X8_drop_1 : DC cX8_drop 1 (.iconst 0) 1 2 := ⟨by decide +kernel, rfl⟩
theorem e_X8_drop_2 : DC cX8_drop 2 (.putfield 25) 3 5 := ⟨by decide +kernel, rfl⟩
theorem e_X8_drop_5 : DC cX8_drop 5 (.return_) 1 6 := ⟨by decide +kernel, rfl⟩
noncomputable def m_X8_drop_0 (t_many : Int) : Option (Int) :=
  some (0)

set_option maxRecDepth 10000 in
theorem g_X8_drop_0 {l : Launch} {E : EE} {b0 n : Nat} {h : AH} {a_t : Nat} {t_many : Int} {r : Int} (ao : AO b0 n [a_t]) (ok_t_many : inI t_many) (hs : m_X8_drop_0 t_many = some r) : G l E b0 M_X8_drop (fun _ => True) (ZM E b0 (none) (ov [a_t] [.inr (8, fsX8 a_t r)] h) n (inI r) 0 0) 0 0 n (ov [a_t] [.inr (8, fsX8 a_t t_many)] h) 0 [some (.ref a_t)] [] := by
  rw [m_X8_drop_0] at hs
  refine g_aload_n e_X8_drop_0 rfl ?_
  refine g_iconst e_X8_drop_1 ?_
  refine g_put 0 3 ao rfl rfl fsX8_k3 fsX8_s3 ls_0 fw_X8_25 (fun h => by cases h) ⟨rfl, rfl⟩ e_X8_drop_2 ?_
  obtain rfl := Option.some.inj hs
  exact g_vret rfl (by decide : inI 0) e_X8_drop_5

noncomputable def m_X8_drop (t_many : Int) : Option (Int) := m_X8_drop_0 t_many

set_option maxRecDepth 10000 in
theorem ct_X8_drop {l : Launch} {E : EE} {b0 n : Nat} {h : AH} {a_t : Nat} {t_many : Int} (ao : AO b0 n [a_t]) (hf : FA h [a_t] [.inr (8, fsX8 a_t t_many)]) (ok_t_many : inI t_many) {r : Int} (hm : m_X8_drop t_many = some r) : Ct l E b0 M_X8_drop 0 0 [.ref a_t] h n (none) (ov [a_t] [.inr (8, fsX8 a_t r)] h) n (inI r) := by
  rw [m_X8_drop] at hm
  have hg : G l E b0 M_X8_drop (fun _ => True) (ZM E b0 (none) (ov [a_t] [.inr (8, fsX8 a_t r)] h) n (inI r) 0 0) 0 0 n (ov [a_t] [.inr (8, fsX8 a_t t_many)] h) 0 [some (.ref a_t)] [] := by
    have hs := hm
    exact g_X8_drop_0 ao ok_t_many hs
  rw [FA_id hf] at hg
  exact Ct_of [some (.ref a_t)] ⟨by decide +kernel, rfl⟩ rfl (Nat.le_of_ble_eq_true rfl) hg

/-! ===== X8_has ===== -/
theorem e_X8_has_0 : DC cX8_has 0 (.iconst 0) 1 1 := ⟨by decide +kernel, rfl⟩
theorem e_X8_has_1 : DC cX8_has 1 (.iload_n 1) 1 2 := ⟨by decide +kernel, rfl⟩
theorem e_X8_has_2 : DB cX8_has 2 (.if_icmp .gt 15) (15) 3 5 17 := ⟨by decide +kernel, rfl, rfl⟩
theorem e_X8_has_5 : DC cX8_has 5 (.iload_n 1) 1 6 := ⟨by decide +kernel, rfl⟩
theorem e_X8_has_6 : DC cX8_has 6 (.aload_n 0) 1 7 := ⟨by decide +kernel, rfl⟩
theorem e_X8_has_7 : DC cX8_has 7 (.getfield 25) 3 10 := ⟨by decide +kernel, rfl⟩
theorem e_X8_has_10 : DB cX8_has 10 (.if_icmp .ge 7) (7) 3 13 17 := ⟨by decide +kernel, rfl, rfl⟩
theorem e_X8_has_13 : DC cX8_has 13 (.iconst 1) 1 14 := ⟨by decide +kernel, rfl⟩
theorem e_X8_has_14 : DB cX8_has 14 (.goto 4) (4) 3 17 18 := ⟨by decide +kernel, rfl, rfl⟩
theorem e_X8_has_17 : DC cX8_has 17 (.iconst 0) 1 18 := ⟨by decide +kernel, rfl⟩
theorem e_X8_has_18 : DC cX8_has 18 (.ireturn) 1 19 := ⟨by decide +kernel, rfl⟩
noncomputable def m_X8_has_0 (t_many : Int) (v1 : Int) : Option (Int) :=
  if v1 < 0 then (some (0)) else (if t_many ≤ v1 then (some (0)) else (some (1)))

set_option maxRecDepth 10000 in
theorem g_X8_has_0 {l : Launch} {E : EE} {b0 n : Nat} {h : AH} {a_t : Nat} {t_many v1 : Int} {r : Int} (ao : AO b0 n [a_t]) (ok_t_many : inI t_many) (ok_v1 : inI v1) (hs : m_X8_has_0 t_many v1 = some r) : G l E b0 M_X8_has (fun _ => True) (ZM E b0 (some (vI r)) (ov [a_t] [.inr (8, fsX8 a_t t_many)] h) n (inZ r) 0 0) 0 0 n (ov [a_t] [.inr (8, fsX8 a_t t_many)] h) 0 [some (.ref a_t), some (vI v1)] [] := by
  rw [m_X8_has_0] at hs
  refine g_iconst e_X8_has_0 ?_
  refine g_iload_n e_X8_has_1 rfl ?_
  refine g_icmp_gt e_X8_has_2 (by decide : inI 0) ok_v1 hs (fun c2 hs => ?_) (fun c2 hs => ?_)
  · refine g_iconst e_X8_has_17 ?_
    obtain rfl := Option.some.inj hs
    exact g_zret rfl (by decide : inZ 0) (by decide : inZ 0) e_X8_has_18
  · refine g_iload_n e_X8_has_5 rfl ?_
    refine g_aload_n e_X8_has_6 rfl ?_
    refine g_get 0 3 ao rfl rfl fsX8_g3 fl_X8_25 e_X8_has_7 ?_
    refine g_icmp_ge e_X8_has_10 ok_v1 ok_t_many hs (fun c10 hs => ?_) (fun c10 hs => ?_)
    · refine g_iconst e_X8_has_17 ?_
      obtain rfl := Option.some.inj hs
      exact g_zret rfl (by decide : inZ 0) (by decide : inZ 0) e_X8_has_18
    · refine g_iconst e_X8_has_13 ?_
      refine g_goto e_X8_has_14 ?_
      obtain rfl := Option.some.inj hs
      exact g_zret rfl (by decide : inZ 1) (by decide : inZ 1) e_X8_has_18

noncomputable def m_X8_has (t_many : Int) (v1 : Int) : Option (Int) := m_X8_has_0 t_many v1

set_option maxRecDepth 10000 in
theorem ct_X8_has {l : Launch} {E : EE} {b0 n : Nat} {h : AH} {a_t : Nat} {t_many : Int} {v1 : Int} (ao : AO b0 n [a_t]) (hf : FA h [a_t] [.inr (8, fsX8 a_t t_many)]) (ok_t_many : inI t_many) (ok_v1 : inI v1) {r : Int} (hm : m_X8_has t_many v1 = some r) : Ct l E b0 M_X8_has 0 0 [.ref a_t, vI v1] h n (some (vI r)) h n (inZ r) := by
  rw [m_X8_has] at hm
  have hg : G l E b0 M_X8_has (fun _ => True) (ZM E b0 (some (vI r)) (ov [a_t] [.inr (8, fsX8 a_t t_many)] h) n (inZ r) 0 0) 0 0 n (ov [a_t] [.inr (8, fsX8 a_t t_many)] h) 0 [some (.ref a_t), some (vI v1)] [] := by
    have hs := hm
    exact g_X8_has_0 ao ok_t_many ok_v1 hs
  rw [FA_id hf] at hg
  exact Ct_of [some (.ref a_t), some (vI v1)] ⟨by decide +kernel, rfl⟩ rfl (Nat.le_of_ble_eq_true rfl) hg

/-! ===== X8_isFull ===== -/
theorem e_X8_isFull_0 : DC cX8_isFull 0 (.aload_n 0) 1 1 := ⟨by decide +kernel, rfl⟩
theorem e_X8_isFull_1 : DC cX8_isFull 1 (.getfield 25) 3 4 := ⟨by decide +kernel, rfl⟩
theorem e_X8_isFull_4 : DC cX8_isFull 4 (.aload_n 0) 1 5 := ⟨by decide +kernel, rfl⟩
theorem e_X8_isFull_5 : DC cX8_isFull 5 (.getfield 13) 3 8 := ⟨by decide +kernel, rfl⟩
theorem e_X8_isFull_8 : DC cX8_isFull 8 (.arraylength) 1 9 := ⟨by decide +kernel, rfl⟩
theorem e_X8_isFull_9 : DB cX8_isFull 9 (.if_icmp .lt 7) (7) 3 12 16 := ⟨by decide +kernel, rfl, rfl⟩
theorem e_X8_isFull_12 : DC cX8_isFull 12 (.iconst 1) 1 13 := ⟨by decide +kernel, rfl⟩
theorem e_X8_isFull_13 : DB cX8_isFull 13 (.goto 4) (4) 3 16 17 := ⟨by decide +kernel, rfl, rfl⟩
theorem e_X8_isFull_16 : DC cX8_isFull 16 (.iconst 0) 1 17 := ⟨by decide +kernel, rfl⟩
theorem e_X8_isFull_17 : DC cX8_isFull 17 (.ireturn) 1 18 := ⟨by decide +kernel, rfl⟩
noncomputable def m_X8_isFull_0 (N_t : Nat) (t_many : Int) : Option (Int) :=
  if t_many < ((N_t : Nat) : Int) then (some (0)) else (some (1))

set_option maxRecDepth 10000 in
theorem g_X8_isFull_0 {l : Launch} {E : EE} {b0 n : Nat} {h : AH} {a_t : Nat} {N_t : Nat} {t_many : Int} {t_xs : Nat → Int} {r : Int} (ao : AO b0 n [a_t, (a_t + 1)]) (hN_t : N_t ≤ 100000) (ok_t_many : inI t_many) (hs : m_X8_isFull_0 N_t t_many = some r) : G l E b0 M_X8_isFull (fun _ => True) (ZM E b0 (some (vI r)) (ov [a_t, (a_t + 1)] [.inr (8, fsX8 a_t t_many), IA E N_t t_xs] h) n (inZ r) 0 0) 0 0 n (ov [a_t, (a_t + 1)] [.inr (8, fsX8 a_t t_many), IA E N_t t_xs] h) 0 [some (.ref a_t)] [] := by
  rw [m_X8_isFull_0] at hs
  refine g_aload_n e_X8_isFull_0 rfl ?_
  refine g_get 0 3 ao rfl rfl fsX8_g3 fl_X8_25 e_X8_isFull_1 ?_
  refine g_aload_n e_X8_isFull_4 rfl ?_
  refine g_get 0 0 ao rfl rfl fsX8_g0 fl_X8_13 e_X8_isFull_5 ?_
  refine g_alen 1 ao rfl (Or.inl rfl) e_X8_isFull_8 ?_
  refine g_icmp_lt e_X8_isFull_9 ok_t_many (by constructor <;> omega) hs (fun c9 hs => ?_) (fun c9 hs => ?_)
  · refine g_iconst e_X8_isFull_16 ?_
    obtain rfl := Option.some.inj hs
    exact g_zret rfl (by decide : inZ 0) (by decide : inZ 0) e_X8_isFull_17
  · refine g_iconst e_X8_isFull_12 ?_
    refine g_goto e_X8_isFull_13 ?_
    obtain rfl := Option.some.inj hs
    exact g_zret rfl (by decide : inZ 1) (by decide : inZ 1) e_X8_isFull_17

noncomputable def m_X8_isFull (N_t : Nat) (t_many : Int) : Option (Int) := m_X8_isFull_0 N_t t_many

set_option maxRecDepth 10000 in
theorem ct_X8_isFull {l : Launch} {E : EE} {b0 n : Nat} {h : AH} {a_t : Nat} {N_t : Nat} {t_many : Int} {t_xs : Nat → Int} (ao : AO b0 n [a_t, (a_t + 1)]) (hN_t : N_t ≤ 100000) (hf : FA h [a_t, (a_t + 1)] [.inr (8, fsX8 a_t t_many), IA E N_t t_xs]) (ok_t_many : inI t_many) {r : Int} (hm : m_X8_isFull N_t t_many = some r) : Ct l E b0 M_X8_isFull 0 0 [.ref a_t] h n (some (vI r)) h n (inZ r) := by
  rw [m_X8_isFull] at hm
  have hg : G l E b0 M_X8_isFull (fun _ => True) (ZM E b0 (some (vI r)) (ov [a_t, (a_t + 1)] [.inr (8, fsX8 a_t t_many), IA E N_t t_xs] h) n (inZ r) 0 0) 0 0 n (ov [a_t, (a_t + 1)] [.inr (8, fsX8 a_t t_many), IA E N_t t_xs] h) 0 [some (.ref a_t)] [] := by
    have hs := hm
    exact g_X8_isFull_0 ao hN_t ok_t_many hs
  rw [FA_id hf] at hg
  exact Ct_of [some (.ref a_t)] ⟨by decide +kernel, rfl⟩ rfl (Nat.le_of_ble_eq_true rfl) hg

/-! ===== X8_append ===== -/
theorem e_X8_append_0 : DC cX8_append 0 (.aload_n 0) 1 1 := ⟨by decide +kernel, rfl⟩
theorem e_X8_append_1 : DC cX8_append 1 (.invokevirtual 29) 3 4 := ⟨by decide +kernel, rfl⟩
theorem e_X8_append_4 : DB cX8_append 4 (.ifCond .ne 43) (43) 3 7 47 := ⟨by decide +kernel, rfl, rfl⟩
theorem e_X8_append_7 : DC cX8_append 7 (.aload_n 0) 1 8 := ⟨by decide +kernel, rfl⟩
theorem e_X8_append_8 : DC cX8_append 8 (.getfield 13) 3 11 := ⟨by decide +kernel, rfl⟩
theorem e_X8_append_11 : DC cX8_append 11 (.aload_n 0) 1 12 := ⟨by decide +kernel, rfl⟩
theorem e_X8_append_12 : DC cX8_append 12 (.getfield 25) 3 15 := ⟨by decide +kernel, rfl⟩
theorem e_X8_append_15 : DC cX8_append 15 (.iload_n 1) 1 16 := ⟨by decide +kernel, rfl⟩
theorem e_X8_append_16 : DC cX8_append 16 (.iastore) 1 17 := ⟨by decide +kernel, rfl⟩
theorem e_X8_append_17 : DC cX8_append 17 (.aload_n 0) 1 18 := ⟨by decide +kernel, rfl⟩
theorem e_X8_append_18 : DC cX8_append 18 (.getfield 19) 3 21 := ⟨by decide +kernel, rfl⟩
theorem e_X8_append_21 : DC cX8_append 21 (.aload_n 0) 1 22 := ⟨by decide +kernel, rfl⟩
theorem e_X8_append_22 : DC cX8_append 22 (.getfield 25) 3 25 := ⟨by decide +kernel, rfl⟩
theorem e_X8_append_25 : DC cX8_append 25 (.iload_n 2) 1 26 := ⟨by decide +kernel, rfl⟩
theorem e_X8_append_26 : DC cX8_append 26 (.iastore) 1 27 := ⟨by decide +kernel, rfl⟩
theorem e_X8_append_27 : DC cX8_append 27 (.aload_n 0) 1 28 := ⟨by decide +kernel, rfl⟩
theorem e_X8_append_28 : DC cX8_append 28 (.getfield 22) 3 31 := ⟨by decide +kernel, rfl⟩
theorem e_X8_append_31 : DC cX8_append 31 (.aload_n 0) 1 32 := ⟨by decide +kernel, rfl⟩
theorem e_X8_append_32 : DC cX8_append 32 (.getfield 25) 3 35 := ⟨by decide +kernel, rfl⟩
theorem e_X8_append_35 : DC cX8_append 35 (.iload_n 3) 1 36 := ⟨by decide +kernel, rfl⟩
theorem e_X8_append_36 : DC cX8_append 36 (.iastore) 1 37 := ⟨by decide +kernel, rfl⟩
theorem e_X8_append_37 : DC cX8_append 37 (.aload_n 0) 1 38 := ⟨by decide +kernel, rfl⟩
theorem e_X8_append_38 : DC cX8_append 38 (.dup) 1 39 := ⟨by decide +kernel, rfl⟩
theorem e_X8_append_39 : DC cX8_append 39 (.getfield 25) 3 42 := ⟨by decide +kernel, rfl⟩
theorem e_X8_append_42 : DC cX8_append 42 (.iconst 1) 1 43 := ⟨by decide +kernel, rfl⟩
theorem e_X8_append_43 : DC cX8_append 43 (.iadd) 1 44 := ⟨by decide +kernel, rfl⟩
theorem e_X8_append_44 : DC cX8_append 44 (.putfield 25) 3 47 := ⟨by decide +kernel, rfl⟩
theorem e_X8_append_47 : DC cX8_append 47 (.return_) 1 48 := ⟨by decide +kernel, rfl⟩
noncomputable def m_X8_append_0 (N_t : Nat) (t_many : Int) (t_xs : Nat → Int) (t_ys : Nat → Int) (t_zs : Nat → Int) (v1 : Int) (v2 : Int) (v3 : Int) : Option (Int × (Nat → Int) × (Nat → Int) × (Nat → Int)) :=
  (m_X8_isFull N_t t_many).bind (fun y1 => if y1 = 0 then (chk (inB t_many N_t) (chk (inB t_many N_t) (chk (inB t_many N_t) (chk (inI (t_many + 1)) (some (t_many + 1, up t_xs (Int.toNat t_many) v1, up t_ys (Int.toNat t_many) v2, up t_zs (Int.toNat t_many) v3)))))) else (some (t_many, t_xs, t_ys, t_zs)))

set_option maxRecDepth 10000 in
theorem g_X8_append_0 {l : Launch} {E : EE} {b0 n : Nat} {h : AH} {a_t : Nat} {N_t : Nat} {t_many v1 v2 v3 : Int} {t_xs t_ys t_zs : Nat → Int} {r : Int × (Nat → Int) × (Nat → Int) × (Nat → Int)} (ao : AO b0 n [a_t, (a_t + 1), (a_t + 2), (a_t + 3)]) (hN_t : N_t ≤ 100000) (ok_t_many : inI t_many) (ok_t_xs : okA t_xs) (ok_t_ys : okA t_ys) (ok_t_zs : okA t_zs) (ok_v1 : inI v1) (ok_v2 : inI v2) (ok_v3 : inI v3) (hs : m_X8_append_0 N_t t_many t_xs t_ys t_zs v1 v2 v3 = some r) : G l E b0 M_X8_append (fun _ => True) (ZM E b0 (none) (ov [a_t, (a_t + 1), (a_t + 2), (a_t + 3)] [.inr (8, fsX8 a_t r.1), IA E N_t r.2.1, IA E N_t r.2.2.1, IA E N_t r.2.2.2] h) n (inI r.1 ∧ okA r.2.1 ∧ okA r.2.2.1 ∧ okA r.2.2.2) 0 0) 0 0 n (ov [a_t, (a_t + 1), (a_t + 2), (a_t + 3)] [.inr (8, fsX8 a_t t_many), IA E N_t t_xs, IA E N_t t_ys, IA E N_t t_zs] h) 0 [some (.ref a_t), some (vI v1), some (vI v2), some (vI v3)] [] := by
  rw [m_X8_append_0] at hs
  refine g_aload_n e_X8_append_0 rfl ?_
  obtain ⟨y1, hy1, hs⟩ := bind_elim hs
  refine g_callVr [] cv_X8_29 ⟨rfl, rfl, Nat.le_of_ble_eq_true rfl, Nat.le_of_ble_eq_true rfl⟩ (ct_X8_isFull (AO_call [0, 1] ao (by decide) rfl) hN_t (FA_call [0, 1] ao.1 rfl rfl) ok_t_many hy1) e_X8_append_1 (ao.2 0 _ rfl) (ov_get 0 ao.1 rfl rfl) rfl rfl rfl (Nat.le_of_ble_eq_true rfl) ⟨Nat.le_refl _, Nat.le_refl _⟩ (fun Py1 => ?_)
  refine g_if_ne e_X8_append_4 (inZ_I Py1) hs (fun c4 hs => ?_) (fun c4 hs => ?_)
  · refine g_aload_n e_X8_append_7 rfl ?_
    refine g_get 0 0 ao rfl rfl fsX8_g0 fl_X8_13 e_X8_append_8 ?_
    refine g_aload_n e_X8_append_11 rfl ?_
    refine g_get 0 3 ao rfl rfl fsX8_g3 fl_X8_25 e_X8_append_12 ?_
    refine g_iload_n e_X8_append_15 rfl ?_
    refine g_iast 1 ao rfl rfl ls_1 (Nat.le_trans hN_t (Nat.le_of_ble_eq_true rfl)) e_X8_append_16 hs (fun hi2 hs => ?_)
    refine g_aload_n e_X8_append_17 rfl ?_
    refine g_get 0 1 ao rfl rfl fsX8_g1 fl_X8_19 e_X8_append_18 ?_
    refine g_aload_n e_X8_append_21 rfl ?_
    refine g_get 0 3 ao rfl rfl fsX8_g3 fl_X8_25 e_X8_append_22 ?_
    refine g_iload_n e_X8_append_25 rfl ?_
    refine g_iast 2 ao rfl rfl ls_2 (Nat.le_trans hN_t (Nat.le_of_ble_eq_true rfl)) e_X8_append_26 hs (fun hi3 hs => ?_)
    refine g_aload_n e_X8_append_27 rfl ?_
    refine g_get 0 2 ao rfl rfl fsX8_g2 fl_X8_22 e_X8_append_28 ?_
    refine g_aload_n e_X8_append_31 rfl ?_
    refine g_get 0 3 ao rfl rfl fsX8_g3 fl_X8_25 e_X8_append_32 ?_
    refine g_iload_n e_X8_append_35 rfl ?_
    refine g_iast 3 ao rfl rfl ls_3 (Nat.le_trans hN_t (Nat.le_of_ble_eq_true rfl)) e_X8_append_36 hs (fun hi4 hs => ?_)
    refine g_aload_n e_X8_append_37 rfl ?_
    refine g_dup e_X8_append_38 rfl ?_
    refine g_get 0 3 ao rfl rfl fsX8_g3 fl_X8_25 e_X8_append_39 ?_
    refine g_iconst e_X8_append_42 ?_
    refine g_iadd e_X8_append_43 ?_
    obtain ⟨hc5, hs⟩ := chk_elim hs
    refine g_put 0 3 ao rfl rfl fsX8_k3 fsX8_s3 ls_0 fw_X8_25 (fun h => by cases h) ⟨rfl, rfl⟩ e_X8_append_44 ?_
    obtain rfl := Option.some.inj hs
    exact g_vret rfl ⟨hc5, (okA_up ok_t_xs ok_v1), (okA_up ok_t_ys ok_v2), (okA_up ok_t_zs ok_v3)⟩ e_X8_append_47
  · obtain rfl := Option.some.inj hs
    exact g_vret rfl ⟨ok_t_many, ok_t_xs, ok_t_ys, ok_t_zs⟩ e_X8_append_47

noncomputable def m_X8_append (N_t : Nat) (t_many : Int) (t_xs : Nat → Int) (t_ys : Nat → Int) (t_zs : Nat → Int) (v1 : Int) (v2 : Int) (v3 : Int) : Option (Int × (Nat → Int) × (Nat → Int) × (Nat → Int)) := m_X8_append_0 N_t t_many t_xs t_ys t_zs v1 v2 v3

set_option maxRecDepth 10000 in
theorem ct_X8_append {l : Launch} {E : EE} {b0 n : Nat} {h : AH} {a_t : Nat} {N_t : Nat} {t_many : Int} {t_xs t_ys t_zs : Nat → Int} {v1 v2 v3 : Int} (ao : AO b0 n [a_t, (a_t + 1), (a_t + 2), (a_t + 3)]) (hN_t : N_t ≤ 100000) (hf : FA h [a_t, (a_t + 1), (a_t + 2), (a_t + 3)] [.inr (8, fsX8 a_t t_many), IA E N_t t_xs, IA E N_t t_ys, IA E N_t t_zs]) (ok_t_many : inI t_many) (ok_t_xs : okA t_xs) (ok_t_ys : okA t_ys) (ok_t_zs : okA t_zs) (ok_v1 : inI v1) (ok_v2 : inI v2) (ok_v3 : inI v3) {r : Int × (Nat → Int) × (Nat → Int) × (Nat → Int)} (hm : m_X8_append N_t t_many t_xs t_ys t_zs v1 v2 v3 = some r) : Ct l E b0 M_X8_append 0 0 [.ref a_t, vI v1, vI v2, vI v3] h n (none) (ov [a_t, (a_t + 1), (a_t + 2), (a_t + 3)] [.inr (8, fsX8 a_t r.1), IA E N_t r.2.1, IA E N_t r.2.2.1, IA E N_t r.2.2.2] h) n (inI r.1 ∧ okA r.2.1 ∧ okA r.2.2.1 ∧ okA r.2.2.2) := by
  rw [m_X8_append] at hm
  have hg : G l E b0 M_X8_append (fun _ => True) (ZM E b0 (none) (ov [a_t, (a_t + 1), (a_t + 2), (a_t + 3)] [.inr (8, fsX8 a_t r.1), IA E N_t r.2.1, IA E N_t r.2.2.1, IA E N_t r.2.2.2] h) n (inI r.1 ∧ okA r.2.1 ∧ okA r.2.2.1 ∧ okA r.2.2.2) 0 0) 0 0 n (ov [a_t, (a_t + 1), (a_t + 2), (a_t + 3)] [.inr (8, fsX8 a_t t_many), IA E N_t t_xs, IA E N_t t_ys, IA E N_t t_zs] h) 0 [some (.ref a_t), some (vI v1), some (vI v2), some (vI v3)] [] := by
    have hs := hm
    exact g_X8_append_0 ao hN_t ok_t_many ok_t_xs ok_t_ys ok_t_zs ok_v1 ok_v2 ok_v3 hs
  rw [FA_id hf] at hg
  exact Ct_of [some (.ref a_t), some (vI v1), some (vI v2), some (vI v3)] ⟨by decide +kernel, rfl⟩ rfl (Nat.le_of_ble_eq_true rfl) hg

/-! ===== X8_change ===== -/
theorem e_X8_change_0 : DC cX8_change 0 (.aload_n 0) 1 1 := ⟨by decide +kernel, rfl⟩
theorem e_X8_change_1 : DC cX8_change 1 (.iload_n 1) 1 2 := ⟨by decide +kernel, rfl⟩
theorem e_X8_change_2 : DC cX8_change 2 (.invokevirtual 33) 3 5 := ⟨by decide +kernel, rfl⟩
theorem e_X8_change_5 : DB cX8_change 5 (.ifCond .eq 25) (25) 3 8 30 := ⟨by decide +kernel, rfl, rfl⟩
theorem e_X8_change_8 : DC cX8_change 8 (.aload_n 0) 1 9 := ⟨by decide +kernel, rfl⟩
theorem e_X8_change_9 : DC cX8_change 9 (.getfield 13) 3 12 := ⟨by decide +kernel, rfl⟩
theorem e_X8_change_12 : DC cX8_change 12 (.iload_n 1) 1 13 := ⟨by decide +kernel, rfl⟩
theorem e_X8_change_13 : DC cX8_change 13 (.iload_n 2) 1 14 := ⟨by decide +kernel, rfl⟩
theorem e_X8_change_14 : DC cX8_change 14 (.iastore) 1 15 := ⟨by decide +kernel, rfl⟩
theorem e_X8_change_15 : DC cX8_change 15 (.aload_n 0) 1 16 := ⟨by decide +kernel, rfl⟩
theorem e_X8_change_16 : DC cX8_change 16 (.getfield 19) 3 19 := ⟨by decide +kernel, rfl⟩
theorem e_X8_change_19 : DC cX8_change 19 (.iload_n 1) 1 20 := ⟨by decide +kernel, rfl⟩
theorem e_X8_change_20 : DC cX8_change 20 (.iload_n 3) 1 21 := ⟨by decide +kernel, rfl⟩
theorem e_X8_change_21 : DC cX8_change 21 (.iastore) 1 22 := ⟨by decide +kernel, rfl⟩
theorem e_X8_change_22 : DC cX8_change 22 (.aload_n 0) 1 23 := ⟨by decide +kernel, rfl⟩
theorem e_X8_change_23 : DC cX8_change 23 (.getfield 22) 3 26 := ⟨by decide +kernel, rfl⟩
theorem e_X8_change_26 : DC cX8_change 26 (.iload_n 1) 1 27 := ⟨by decide +kernel, rfl⟩
theorem e_X8_change_27 : DC cX8_change 27 (.iload 4) 2 29 := ⟨by decide +kernel, rfl⟩
theorem e_X8_change_29 : DC cX8_change 29 (.iastore) 1 30 := ⟨by decide +kernel, rfl⟩
theorem e_X8_change_30 : DC cX8_change 30 (.return_) 1 31 := ⟨by decide +kernel, rfl⟩
noncomputable def m_X8_change_0 (N_t : Nat) (t_many : Int) (t_xs : Nat → Int) (t_ys : Nat → Int) (t_zs : Nat → Int) (v1 : Int) (v2 : Int) (v3 : Int) (v4 : Int) : Option ((Nat → Int) × (Nat → Int) × (Nat → Int)) :=
  (m_X8_has t_many v1).bind (fun y1 => if y1 = 0 then (some (t_xs, t_ys, t_zs)) else (chk (inB v1 N_t) (chk (inB v1 N_t) (chk (inB v1 N_t) (some (up t_xs (Int.toNat v1) v2, up t_ys (Int.toNat v1) v3, up t_zs (Int.toNat v1) v4))))))

set_option maxRecDepth 10000 in
theorem g_X8_change_0 {l : Launch} {E : EE} {b0 n : Nat} {h : AH} {a_t : Nat} {N_t : Nat} {t_many v1 v2 v3 v4 : Int} {t_xs t_ys t_zs : Nat → Int} {r : (Nat → Int) × (Nat → Int) × (Nat → Int)} (ao : AO b0 n [a_t, (a_t + 1), (a_t + 2), (a_t + 3)]) (hN_t : N_t ≤ 100000) (ok_t_many : inI t_many) (ok_t_xs : okA t_xs) (ok_t_ys : okA t_ys) (ok_t_zs : okA t_zs) (ok_v1 : inI v1) (ok_v2 : inI v2) (ok_v3 : inI v3) (ok_v4 : inI v4) (hs : m_X8_change_0 N_t t_many t_xs t_ys t_zs v1 v2 v3 v4 = some r) : G l E b0 M_X8_change (fun _ => True) (ZM E b0 (none) (ov [a_t, (a_t + 1), (a_t + 2), (a_t + 3)] [.inr (8, fsX8 a_t t_many), IA E N_t r.1, IA E N_t r.2.1, IA E N_t r.2.2] h) n (okA r.1 ∧ okA r.2.1 ∧ okA r.2.2) 0 0) 0 0 n (ov [a_t, (a_t + 1), (a_t + 2), (a_t + 3)] [.inr (8, fsX8 a_t t_many), IA E N_t t_xs, IA E N_t t_ys, IA E N_t t_zs] h) 0 [some (.ref a_t), some (vI v1), some (vI v2), some (vI v3), some (vI v4)] [] := by
  rw [m_X8_change_0] at hs
  refine g_aload_n e_X8_change_0 rfl ?_
  refine g_iload_n e_X8_change_1 rfl ?_
  obtain ⟨y1, hy1, hs⟩ := bind_elim hs
  refine g_callVr [vI v1] cv_X8_33 ⟨rfl, rfl, Nat.le_of_ble_eq_true rfl, Nat.le_of_ble_eq_true rfl⟩ (ct_X8_has (AO_call [0] ao (by decide) rfl) (FA_call [0] ao.1 rfl rfl) ok_t_many ok_v1 hy1) e_X8_change_2 (ao.2 0 _ rfl) (ov_get 0 ao.1 rfl rfl) rfl rfl rfl (Nat.le_of_ble_eq_true rfl) ⟨Nat.le_refl _, Nat.le_refl _⟩ (fun Py1 => ?_)
  refine g_if_eq e_X8_change_5 (inZ_I Py1) hs (fun c5 hs => ?_) (fun c5 hs => ?_)
  · obtain rfl := Option.some.inj hs
    exact g_vret rfl ⟨ok_t_xs, ok_t_ys, ok_t_zs⟩ e_X8_change_30
  · refine g_aload_n e_X8_change_8 rfl ?_
    refine g_get 0 0 ao rfl rfl fsX8_g0 fl_X8_13 e_X8_change_9 ?_
    refine g_iload_n e_X8_change_12 rfl ?_
    refine g_iload_n e_X8_change_13 rfl ?_
    refine g_iast 1 ao rfl rfl ls_1 (Nat.le_trans hN_t (Nat.le_of_ble_eq_true rfl)) e_X8_change_14 hs (fun hi2 hs => ?_)
    refine g_aload_n e_X8_change_15 rfl ?_
    refine g_get 0 1 ao rfl rfl fsX8_g1 fl_X8_19 e_X8_change_16 ?_
    refine g_iload_n e_X8_change_19 rfl ?_
    refine g_iload_n e_X8_change_20 rfl ?_
    refine g_iast 2 ao rfl rfl ls_2 (Nat.le_trans hN_t (Nat.le_of_ble_eq_true rfl)) e_X8_change_21 hs (fun hi3 hs => ?_)
    refine g_aload_n e_X8_change_22 rfl ?_
    refine g_get 0 2 ao rfl rfl fsX8_g2 fl_X8_22 e_X8_change_23 ?_
    refine g_iload_n e_X8_change_26 rfl ?_
    refine g_iload e_X8_change_27 rfl ?_
    refine g_iast 3 ao rfl rfl ls_3 (Nat.le_trans hN_t (Nat.le_of_ble_eq_true rfl)) e_X8_change_29 hs (fun hi4 hs => ?_)
    obtain rfl := Option.some.inj hs
    exact g_vret rfl ⟨(okA_up ok_t_xs ok_v2), (okA_up ok_t_ys ok_v3), (okA_up ok_t_zs ok_v4)⟩ e_X8_change_30

noncomputable def m_X8_change (N_t : Nat) (t_many : Int) (t_xs : Nat → Int) (t_ys : Nat → Int) (t_zs : Nat → Int) (v1 : Int) (v2 : Int) (v3 : Int) (v4 : Int) : Option ((Nat → Int) × (Nat → Int) × (Nat → Int)) := m_X8_change_0 N_t t_many t_xs t_ys t_zs v1 v2 v3 v4

set_option maxRecDepth 10000 in
theorem ct_X8_change {l : Launch} {E : EE} {b0 n : Nat} {h : AH} {a_t : Nat} {N_t : Nat} {t_many : Int} {t_xs t_ys t_zs : Nat → Int} {v1 v2 v3 v4 : Int} (ao : AO b0 n [a_t, (a_t + 1), (a_t + 2), (a_t + 3)]) (hN_t : N_t ≤ 100000) (hf : FA h [a_t, (a_t + 1), (a_t + 2), (a_t + 3)] [.inr (8, fsX8 a_t t_many), IA E N_t t_xs, IA E N_t t_ys, IA E N_t t_zs]) (ok_t_many : inI t_many) (ok_t_xs : okA t_xs) (ok_t_ys : okA t_ys) (ok_t_zs : okA t_zs) (ok_v1 : inI v1) (ok_v2 : inI v2) (ok_v3 : inI v3) (ok_v4 : inI v4) {r : (Nat → Int) × (Nat → Int) × (Nat → Int)} (hm : m_X8_change N_t t_many t_xs t_ys t_zs v1 v2 v3 v4 = some r) : Ct l E b0 M_X8_change 0 0 [.ref a_t, vI v1, vI v2, vI v3, vI v4] h n (none) (ov [a_t, (a_t + 1), (a_t + 2), (a_t + 3)] [.inr (8, fsX8 a_t t_many), IA E N_t r.1, IA E N_t r.2.1, IA E N_t r.2.2] h) n (okA r.1 ∧ okA r.2.1 ∧ okA r.2.2) := by
  rw [m_X8_change] at hm
  have hg : G l E b0 M_X8_change (fun _ => True) (ZM E b0 (none) (ov [a_t, (a_t + 1), (a_t + 2), (a_t + 3)] [.inr (8, fsX8 a_t t_many), IA E N_t r.1, IA E N_t r.2.1, IA E N_t r.2.2] h) n (okA r.1 ∧ okA r.2.1 ∧ okA r.2.2) 0 0) 0 0 n (ov [a_t, (a_t + 1), (a_t + 2), (a_t + 3)] [.inr (8, fsX8 a_t t_many), IA E N_t t_xs, IA E N_t t_ys, IA E N_t t_zs] h) 0 [some (.ref a_t), some (vI v1), some (vI v2), some (vI v3), some (vI v4)] [] := by
    have hs := hm
    exact g_X8_change_0 ao hN_t ok_t_many ok_t_xs ok_t_ys ok_t_zs ok_v1 ok_v2 ok_v3 ok_v4 hs
  rw [FA_id hf] at hg
  exact Ct_of [some (.ref a_t), some (vI v1), some (vI v2), some (vI v3), some (vI v4)] ⟨by decide +kernel, rfl⟩ rfl (Nat.le_of_ble_eq_true rfl) hg

/-! ===== X8_partOf ===== -/
theorem e_X8_partOf_0 : DC cX8_partOf 0 (.aload_n 0) 1 1 := ⟨by decide +kernel, rfl⟩
theorem e_X8_partOf_1 : DC cX8_partOf 1 (.iload_n 1) 1 2 := ⟨by decide +kernel, rfl⟩
theorem e_X8_partOf_2 : DC cX8_partOf 2 (.invokevirtual 33) 3 5 := ⟨by decide +kernel, rfl⟩
theorem e_X8_partOf_5 : DB cX8_partOf 5 (.ifCond .ne 5) (5) 3 8 10 := ⟨by decide +kernel, rfl, rfl⟩
theorem e_X8_partOf_8 : DC cX8_partOf 8 (.iconst 0) 1 9 := ⟨by decide +kernel, rfl⟩
theorem e_X8_partOf_9 : DC cX8_partOf 9 (.ireturn) 1 10 := ⟨by decide +kernel, rfl⟩
theorem e_X8_partOf_10 : DC cX8_partOf 10 (.iload_n 2) 1 11 := ⟨by decide +kernel, rfl⟩
theorem e_X8_partOf_11 : DB cX8_partOf 11 (.ifCond .ne 10) (10) 3 14 21 := ⟨by decide +kernel, rfl, rfl⟩
theorem e_X8_partOf_14 : DC cX8_partOf 14 (.aload_n 0) 1 15 := ⟨by decide +kernel, rfl⟩
theorem e_X8_partOf_15 : DC cX8_partOf 15 (.getfield 13) 3 18 := ⟨by decide +kernel, rfl⟩
theorem e_X8_partOf_18 : DC cX8_partOf 18 (.iload_n 1) 1 19 := ⟨by decide +kernel, rfl⟩
theorem e_X8_partOf_19 : DC cX8_partOf 19 (.iaload) 1 20 := ⟨by decide +kernel, rfl⟩
theorem e_X8_partOf_20 : DC cX8_partOf 20 (.ireturn) 1 21 := ⟨by decide +kernel, rfl⟩
theorem e_X8_partOf_21 : DC cX8_partOf 21 (.iload_n 2) 1 22 := ⟨by decide +kernel, rfl⟩
theorem e_X8_partOf_22 : DC cX8_partOf 22 (.iconst 1) 1 23 := ⟨by decide +kernel, rfl⟩
theorem e_X8_partOf_23 : DB cX8_partOf 23 (.if_icmp .ne 12) (12) 3 26 35 := ⟨by decide +kernel, rfl, rfl⟩
theorem e_X8_partOf_26 : DC cX8_partOf 26 (.aload_n 0) 1 27 := ⟨by decide +kernel, rfl⟩
theorem e_X8_partOf_27 : DC cX8_partOf 27 (.getfield 19) 3 30 := ⟨by decide +kernel, rfl⟩
theorem e_X8_partOf_30 : DC cX8_partOf 30 (.iload_n 1) 1 31 := ⟨by decide +kernel, rfl⟩
theorem e_X8_partOf_31 : DC cX8_partOf 31 (.iaload) 1 32 := ⟨by decide +kernel, rfl⟩
theorem e_X8_partOf_32 : DB cX8_partOf 32 (.goto 9) (9) 3 35 41 := ⟨by decide +kernel, rfl, rfl⟩
theorem e_X8_partOf_35 : DC cX8_partOf 35 (.aload_n 0) 1 36 := ⟨by decide +kernel, rfl⟩
theorem e_X8_partOf_36 : DC cX8_partOf 36 (.getfield 22) 3 39 := ⟨by decide +kernel, rfl⟩
theorem e_X8_partOf_39 : DC cX8_partOf 39 (.iload_n 1) 1 40 := ⟨by decide +kernel, rfl⟩
theorem e_X8_partOf_40 : DC cX8_partOf 40 (.iaload) 1 41 := ⟨by decide +kernel, rfl⟩
theorem e_X8_partOf_41 : DC cX8_partOf 41 (.ireturn) 1 42 := ⟨by decide +kernel, rfl⟩
noncomputable def m_X8_partOf_0 (N_t : Nat) (t_many : Int) (t_xs : Nat → Int) (t_ys : Nat → Int) (t_zs : Nat → Int) (v1 : Int) (v2 : Int) : Option (Int) :=
  (m_X8_has t_many v1).bind (fun y1 => if y1 = 0 then (some (0)) else (if v2 = 0 then (chk (inB v1 N_t) (some (t_xs (Int.toNat v1)))) else (if v2 = 1 then (chk (inB v1 N_t) (some (t_ys (Int.toNat v1)))) else (chk (inB v1 N_t) (some (t_zs (Int.toNat v1)))))))

set_option maxRecDepth 10000 in
theorem g_X8_partOf_0 {l : Launch} {E : EE} {b0 n : Nat} {h : AH} {a_t : Nat} {N_t : Nat} {t_many v1 v2 : Int} {t_xs t_ys t_zs : Nat → Int} {r : Int} (ao : AO b0 n [a_t, (a_t + 1), (a_t + 2), (a_t + 3)]) (hN_t : N_t ≤ 100000) (ok_t_many : inI t_many) (ok_t_xs : okA t_xs) (ok_t_ys : okA t_ys) (ok_t_zs : okA t_zs) (ok_v1 : inI v1) (ok_v2 : inI v2) (hs : m_X8_partOf_0 N_t t_many t_xs t_ys t_zs v1 v2 = some r) : G l E b0 M_X8_partOf (fun _ => True) (ZM E b0 (some (vI r)) (ov [a_t, (a_t + 1), (a_t + 2), (a_t + 3)] [.inr (8, fsX8 a_t t_many), IA E N_t t_xs, IA E N_t t_ys, IA E N_t t_zs] h) n (inI r) 0 0) 0 0 n (ov [a_t, (a_t + 1), (a_t + 2), (a_t + 3)] [.inr (8, fsX8 a_t t_many), IA E N_t t_xs, IA E N_t t_ys, IA E N_t t_zs] h) 0 [some (.ref a_t), some (vI v1), some (vI v2)] [] := by
  rw [m_X8_partOf_0] at hs
  refine g_aload_n e_X8_partOf_0 rfl ?_
  refine g_iload_n e_X8_partOf_1 rfl ?_
  obtain ⟨y1, hy1, hs⟩ := bind_elim hs
  refine g_callVr [vI v1] cv_X8_33 ⟨rfl, rfl, Nat.le_of_ble_eq_true rfl, Nat.le_of_ble_eq_true rfl⟩ (ct_X8_has (AO_call [0] ao (by decide) rfl) (FA_call [0] ao.1 rfl rfl) ok_t_many ok_v1 hy1) e_X8_partOf_2 (ao.2 0 _ rfl) (ov_get 0 ao.1 rfl rfl) rfl rfl rfl (Nat.le_of_ble_eq_true rfl) ⟨Nat.le_refl _, Nat.le_refl _⟩ (fun Py1 => ?_)
  refine g_if_ne e_X8_partOf_5 (inZ_I Py1) hs (fun c5 hs => ?_) (fun c5 hs => ?_)
  · refine g_iconst e_X8_partOf_8 ?_
    obtain rfl := Option.some.inj hs
    exact g_iret rfl (by decide : inI 0) e_X8_partOf_9
  · refine g_iload_n e_X8_partOf_10 rfl ?_
    refine g_if_ne e_X8_partOf_11 ok_v2 hs (fun c11 hs => ?_) (fun c11 hs => ?_)
    · refine g_aload_n e_X8_partOf_14 rfl ?_
      refine g_get 0 0 ao rfl rfl fsX8_g0 fl_X8_13 e_X8_partOf_15 ?_
      refine g_iload_n e_X8_partOf_18 rfl ?_
      refine g_iald 1 ao rfl rfl (Nat.le_trans hN_t (Nat.le_of_ble_eq_true rfl)) e_X8_partOf_19 hs (fun hi2 hs => ?_)
      obtain rfl := Option.some.inj hs
      exact g_iret rfl (ok_t_xs _) e_X8_partOf_20
    · refine g_iload_n e_X8_partOf_21 rfl ?_
      refine g_iconst e_X8_partOf_22 ?_
      refine g_icmp_ne e_X8_partOf_23 ok_v2 (by decide : inI 1) hs (fun c23 hs => ?_) (fun c23 hs => ?_)
      · refine g_aload_n e_X8_partOf_26 rfl ?_
        refine g_get 0 1 ao rfl rfl fsX8_g1 fl_X8_19 e_X8_partOf_27 ?_
        refine g_iload_n e_X8_partOf_30 rfl ?_
        refine g_iald 2 ao rfl rfl (Nat.le_trans hN_t (Nat.le_of_ble_eq_true rfl)) e_X8_partOf_31 hs (fun hi3 hs => ?_)
        refine g_goto e_X8_partOf_32 ?_
        obtain rfl := Option.some.inj hs
        exact g_iret rfl (ok_t_ys _) e_X8_partOf_41
      · refine g_aload_n e_X8_partOf_35 rfl ?_
        refine g_get 0 2 ao rfl rfl fsX8_g2 fl_X8_22 e_X8_partOf_36 ?_
        refine g_iload_n e_X8_partOf_39 rfl ?_
        refine g_iald 3 ao rfl rfl (Nat.le_trans hN_t (Nat.le_of_ble_eq_true rfl)) e_X8_partOf_40 hs (fun hi4 hs => ?_)
        obtain rfl := Option.some.inj hs
        exact g_iret rfl (ok_t_zs _) e_X8_partOf_41

noncomputable def m_X8_partOf (N_t : Nat) (t_many : Int) (t_xs : Nat → Int) (t_ys : Nat → Int) (t_zs : Nat → Int) (v1 : Int) (v2 : Int) : Option (Int) := m_X8_partOf_0 N_t t_many t_xs t_ys t_zs v1 v2

set_option maxRecDepth 10000 in
theorem ct_X8_partOf {l : Launch} {E : EE} {b0 n : Nat} {h : AH} {a_t : Nat} {N_t : Nat} {t_many : Int} {t_xs t_ys t_zs : Nat → Int} {v1 v2 : Int} (ao : AO b0 n [a_t, (a_t + 1), (a_t + 2), (a_t + 3)]) (hN_t : N_t ≤ 100000) (hf : FA h [a_t, (a_t + 1), (a_t + 2), (a_t + 3)] [.inr (8, fsX8 a_t t_many), IA E N_t t_xs, IA E N_t t_ys, IA E N_t t_zs]) (ok_t_many : inI t_many) (ok_t_xs : okA t_xs) (ok_t_ys : okA t_ys) (ok_t_zs : okA t_zs) (ok_v1 : inI v1) (ok_v2 : inI v2) {r : Int} (hm : m_X8_partOf N_t t_many t_xs t_ys t_zs v1 v2 = some r) : Ct l E b0 M_X8_partOf 0 0 [.ref a_t, vI v1, vI v2] h n (some (vI r)) h n (inI r) := by
  rw [m_X8_partOf] at hm
  have hg : G l E b0 M_X8_partOf (fun _ => True) (ZM E b0 (some (vI r)) (ov [a_t, (a_t + 1), (a_t + 2), (a_t + 3)] [.inr (8, fsX8 a_t t_many), IA E N_t t_xs, IA E N_t t_ys, IA E N_t t_zs] h) n (inI r) 0 0) 0 0 n (ov [a_t, (a_t + 1), (a_t + 2), (a_t + 3)] [.inr (8, fsX8 a_t t_many), IA E N_t t_xs, IA E N_t t_ys, IA E N_t t_zs] h) 0 [some (.ref a_t), some (vI v1), some (vI v2)] [] := by
    have hs := hm
    exact g_X8_partOf_0 ao hN_t ok_t_many ok_t_xs ok_t_ys ok_t_zs ok_v1 ok_v2 hs
  rw [FA_id hf] at hg
  exact Ct_of [some (.ref a_t), some (vI v1), some (vI v2)] ⟨by decide +kernel, rfl⟩ rfl (Nat.le_of_ble_eq_true rfl) hg

/-! ===== X8_productWith ===== -/
theorem e_X8_productWith_0 : DC cX8_productWith 0 (.iconst 0) 1 1 := ⟨by decide +kernel, rfl⟩
theorem e_X8_productWith_1 : DC cX8_productWith 1 (.iload_n 1) 1 2 := ⟨by decide +kernel, rfl⟩
theorem e_X8_productWith_2 : DB cX8_productWith 2 (.if_icmp .gt 41) (41) 3 5 43 := ⟨by decide +kernel, rfl, rfl⟩
theorem e_X8_productWith_5 : DC cX8_productWith 5 (.iload_n 1) 1 6 := ⟨by decide +kernel, rfl⟩
theorem e_X8_productWith_6 : DC cX8_productWith 6 (.aload_n 0) 1 7 := ⟨by decide +kernel, rfl⟩
theorem e_X8_productWith_7 : DC cX8_productWith 7 (.getfield 25) 3 10 := ⟨by decide +kernel, rfl⟩
theorem e_X8_productWith_10 : DB cX8_productWith 10 (.if_icmp .ge 33) (33) 3 13 43 := ⟨by decide +kernel, rfl, rfl⟩
theorem e_X8_productWith_13 : DC cX8_productWith 13 (.aload_n 0) 1 14 := ⟨by decide +kernel, rfl⟩
theorem e_X8_productWith_14 : DC cX8_productWith 14 (.getfield 13) 3 17 := ⟨by decide +kernel, rfl⟩
theorem e_X8_productWith_17 : DC cX8_productWith 17 (.iload_n 1) 1 18 := ⟨by decide +kernel, rfl⟩
theorem e_X8_productWith_18 : DC cX8_productWith 18 (.iaload) 1 19 := ⟨by decide +kernel, rfl⟩
theorem e_X8_productWith_19 : DC cX8_productWith 19 (.iload_n 2) 1 20 := ⟨by decide +kernel, rfl⟩
theorem e_X8_productWith_20 : DC cX8_productWith 20 (.imul) 1 21 := ⟨by decide +kernel, rfl⟩
theorem e_X8_productWith_21 : DC cX8_productWith 21 (.aload_n 0) 1 22 := ⟨by decide +kernel, rfl⟩
theorem e_X8_productWith_22 : DC cX8_productWith 22 (.getfield 19) 3 25 := ⟨by decide +kernel, rfl⟩
theorem e_X8_productWith_25 : DC cX8_productWith 25 (.iload_n 1) 1 26 := ⟨by decide +kernel, rfl⟩
theorem e_X8_productWith_26 : DC cX8_productWith 26 (.iaload) 1 27 := ⟨by decide +kernel, rfl⟩
theorem e_X8_productWith_27 : DC cX8_productWith 27 (.iload_n 3) 1 28 := ⟨by decide +kernel, rfl⟩
theorem e_X8_productWith_28 : DC cX8_productWith 28 (.imul) 1 29 := ⟨by decide +kernel, rfl⟩
theorem e_X8_productWith_29 : DC cX8_productWith 29 (.iadd) 1 30 := ⟨by decide +kernel, rfl⟩
theorem e_X8_productWith_30 : DC cX8_productWith 30 (.aload_n 0) 1 31 := ⟨by decide +kernel, rfl⟩
theorem e_X8_productWith_31 : DC cX8_productWith 31 (.getfield 22) 3 34 := ⟨by decide +kernel, rfl⟩
theorem e_X8_productWith_34 : DC cX8_productWith 34 (.iload_n 1) 1 35 := ⟨by decide +kernel, rfl⟩
theorem e_X8_productWith_35 : DC cX8_productWith 35 (.iaload) 1 36 := ⟨by decide +kernel, rfl⟩
theorem e_X8_productWith_36 : DC cX8_productWith 36 (.iload 4) 2 38 := ⟨by decide +kernel, rfl⟩
theorem e_X8_productWith_38 : DC cX8_productWith 38 (.imul) 1 39 := ⟨by decide +kernel, rfl⟩
theorem e_X8_productWith_39 : DC cX8_productWith 39 (.iadd) 1 40 := ⟨by decide +kernel, rfl⟩
theorem e_X8_productWith_40 : DB cX8_productWith 40 (.goto 4) (4) 3 43 44 := ⟨by decide +kernel, rfl, rfl⟩
theorem e_X8_productWith_43 : DC cX8_productWith 43 (.iconst 0) 1 44 := ⟨by decide +kernel, rfl⟩
theorem e_X8_productWith_44 : DC cX8_productWith 44 (.ireturn) 1 45 := ⟨by decide +kernel, rfl⟩
noncomputable def m_X8_productWith_0 (N_t : Nat) (t_many : Int) (t_xs : Nat → Int) (t_ys : Nat → Int) (t_zs : Nat → Int) (v1 : Int) (v2 : Int) (v3 : Int) (v4 : Int) : Option (Int) :=
  if v1 < 0 then (some (0)) else (if t_many ≤ v1 then (some (0)) else (chk (inB v1 N_t) (chk (inB v1 N_t) (chk (inB v1 N_t) (chk (inI ((((t_xs (Int.toNat v1)) * v2) + ((t_ys (Int.toNat v1)) * v3)) + ((t_zs (Int.toNat v1)) * v4))) (some ((((t_xs (Int.toNat v1)) * v2) + ((t_ys (Int.toNat v1)) * v3)) + ((t_zs (Int.toNat v1)) * v4))))))))

set_option maxRecDepth 10000 in
theorem g_X8_productWith_0 {l : Launch} {E : EE} {b0 n : Nat} {h : AH} {a_t : Nat} {N_t : Nat} {t_many v1 v2 v3 v4 : Int} {t_xs t_ys t_zs : Nat → Int} {r : Int} (ao : AO b0 n [a_t, (a_t + 1), (a_t + 2), (a_t + 3)]) (hN_t : N_t ≤ 100000) (ok_t_many : inI t_many) (ok_t_xs : okA t_xs) (ok_t_ys : okA t_ys) (ok_t_zs : okA t_zs) (ok_v1 : inI v1) (ok_v2 : inI v2) (ok_v3 : inI v3) (ok_v4 : inI v4) (hs : m_X8_productWith_0 N_t t_many t_xs t_ys t_zs v1 v2 v3 v4 = some r) : G l E b0 M_X8_productWith (fun _ => True) (ZM E b0 (some (vI r)) (ov [a_t, (a_t + 1), (a_t + 2), (a_t + 3)] [.inr (8, fsX8 a_t t_many), IA E N_t t_xs, IA E N_t t_ys, IA E N_t t_zs] h) n (inI r) 0 0) 0 0 n (ov [a_t, (a_t + 1), (a_t + 2), (a_t + 3)] [.inr (8, fsX8 a_t t_many), IA E N_t t_xs, IA E N_t t_ys, IA E N_t t_zs] h) 0 [some (.ref a_t), some (vI v1), some (vI v2), some (vI v3), some (vI v4)] [] := by
  rw [m_X8_productWith_0] at hs
  refine g_iconst e_X8_productWith_0 ?_
  refine g_iload_n e_X8_productWith_1 rfl ?_
  refine g_icmp_gt e_X8_productWith_2 (by decide : inI 0) ok_v1 hs (fun c2 hs => ?_) (fun c2 hs => ?_)
  · refine g_iconst e_X8_productWith_43 ?_
    obtain rfl := Option.some.inj hs
    exact g_iret rfl (by decide : inI 0) e_X8_productWith_44
  · refine g_iload_n e_X8_productWith_5 rfl ?_
    refine g_aload_n e_X8_productWith_6 rfl ?_
    refine g_get 0 3 ao rfl rfl fsX8_g3 fl_X8_25 e_X8_productWith_7 ?_
    refine g_icmp_ge e_X8_productWith_10 ok_v1 ok_t_many hs (fun c10 hs => ?_) (fun c10 hs => ?_)
    · refine g_iconst e_X8_productWith_43 ?_
      obtain rfl := Option.some.inj hs
      exact g_iret rfl (by decide : inI 0) e_X8_productWith_44
    · refine g_aload_n e_X8_productWith_13 rfl ?_
      refine g_get 0 0 ao rfl rfl fsX8_g0 fl_X8_13 e_X8_productWith_14 ?_
      refine g_iload_n e_X8_productWith_17 rfl ?_
      refine g_iald 1 ao rfl rfl (Nat.le_trans hN_t (Nat.le_of_ble_eq_true rfl)) e_X8_productWith_18 hs (fun hi1 hs => ?_)
      refine g_iload_n e_X8_productWith_19 rfl ?_
      refine g_imul e_X8_productWith_20 ?_
      refine g_aload_n e_X8_productWith_21 rfl ?_
      refine g_get 0 1 ao rfl rfl fsX8_g1 fl_X8_19 e_X8_productWith_22 ?_
      refine g_iload_n e_X8_productWith_25 rfl ?_
      refine g_iald 2 ao rfl rfl (Nat.le_trans hN_t (Nat.le_of_ble_eq_true rfl)) e_X8_productWith_26 hs (fun hi2 hs => ?_)
      refine g_iload_n e_X8_productWith_27 rfl ?_
      refine g_imul e_X8_productWith_28 ?_
      refine g_iadd e_X8_productWith_29 ?_
      refine g_aload_n e_X8_productWith_30 rfl ?_
      refine g_get 0 2 ao rfl rfl fsX8_g2 fl_X8_22 e_X8_productWith_31 ?_
      refine g_iload_n e_X8_productWith_34 rfl ?_
      refine g_iald 3 ao rfl rfl (Nat.le_trans hN_t (Nat.le_of_ble_eq_true rfl)) e_X8_productWith_35 hs (fun hi3 hs => ?_)
      refine g_iload e_X8_productWith_36 rfl ?_
      refine g_imul e_X8_productWith_38 ?_
      refine g_iadd e_X8_productWith_39 ?_
      refine g_goto e_X8_productWith_40 ?_
      obtain ⟨hc4, hs⟩ := chk_elim hs
      obtain rfl := Option.some.inj hs
      exact g_iret rfl hc4 e_X8_productWith_44

noncomputable def m_X8_productWith (N_t : Nat) (t_many : Int) (t_xs : Nat → Int) (t_ys : Nat → Int) (t_zs : Nat → Int) (v1 : Int) (v2 : Int) (v3 : Int) (v4 : Int) : Option (Int) := m_X8_productWith_0 N_t t_many t_xs t_ys t_zs v1 v2 v3 v4

set_option maxRecDepth 10000 in
theorem ct_X8_productWith {l : Launch} {E : EE} {b0 n : Nat} {h : AH} {a_t : Nat} {N_t : Nat} {t_many : Int} {t_xs t_ys t_zs : Nat → Int} {v1 v2 v3 v4 : Int} (ao : AO b0 n [a_t, (a_t + 1), (a_t + 2), (a_t + 3)]) (hN_t : N_t ≤ 100000) (hf : FA h [a_t, (a_t + 1), (a_t + 2), (a_t + 3)] [.inr (8, fsX8 a_t t_many), IA E N_t t_xs, IA E N_t t_ys, IA E N_t t_zs]) (ok_t_many : inI t_many) (ok_t_xs : okA t_xs) (ok_t_ys : okA t_ys) (ok_t_zs : okA t_zs) (ok_v1 : inI v1) (ok_v2 : inI v2) (ok_v3 : inI v3) (ok_v4 : inI v4) {r : Int} (hm : m_X8_productWith N_t t_many t_xs t_ys t_zs v1 v2 v3 v4 = some r) : Ct l E b0 M_X8_productWith 0 0 [.ref a_t, vI v1, vI v2, vI v3, vI v4] h n (some (vI r)) h n (inI r) := by
  rw [m_X8_productWith] at hm
  have hg : G l E b0 M_X8_productWith (fun _ => True) (ZM E b0 (some (vI r)) (ov [a_t, (a_t + 1), (a_t + 2), (a_t + 3)] [.inr (8, fsX8 a_t t_many), IA E N_t t_xs, IA E N_t t_ys, IA E N_t t_zs] h) n (inI r) 0 0) 0 0 n (ov [a_t, (a_t + 1), (a_t + 2), (a_t + 3)] [.inr (8, fsX8 a_t t_many), IA E N_t t_xs, IA E N_t t_ys, IA E N_t t_zs] h) 0 [some (.ref a_t), some (vI v1), some (vI v2), some (vI v3), some (vI v4)] [] := by
    have hs := hm
    exact g_X8_productWith_0 ao hN_t ok_t_many ok_t_xs ok_t_ys ok_t_zs ok_v1 ok_v2 ok_v3 ok_v4 hs
  rw [FA_id hf] at hg
  exact Ct_of [some (.ref a_t), some (vI v1), some (vI v2), some (vI v3), some (vI v4)] ⟨by decide +kernel, rfl⟩ rfl (Nat.le_of_ble_eq_true rfl) hg

/-! ===== X8_product ===== -/
theorem e_X8_product_0 : DC cX8_product 0 (.aload_n 0) 1 1 := ⟨by decide +kernel, rfl⟩
theorem e_X8_product_1 : DC cX8_product 1 (.iload_n 1) 1 2 := ⟨by decide +kernel, rfl⟩
theorem e_X8_product_2 : DC cX8_product 2 (.invokevirtual 33) 3 5 := ⟨by decide +kernel, rfl⟩
theorem e_X8_product_5 : DB cX8_product 5 (.ifCond .eq 11) (11) 3 8 16 := ⟨by decide +kernel, rfl, rfl⟩
theorem e_X8_product_8 : DC cX8_product 8 (.aload_n 2) 1 9 := ⟨by decide +kernel, rfl⟩
theorem e_X8_product_9 : DC cX8_product 9 (.iload_n 3) 1 10 := ⟨by decide +kernel, rfl⟩
theorem e_X8_product_10 : DC cX8_product 10 (.invokevirtual 33) 3 13 := ⟨by decide +kernel, rfl⟩
theorem e_X8_product_13 : DB cX8_product 13 (.ifCond .ne 5) (5) 3 16 18 := ⟨by decide +kernel, rfl, rfl⟩
theorem e_X8_product_16 : DC cX8_product 16 (.iconst 0) 1 17 := ⟨by decide +kernel, rfl⟩
theorem e_X8_product_17 : DC cX8_product 17 (.ireturn) 1 18 := ⟨by decide +kernel, rfl⟩
theorem e_X8_product_18 : DC cX8_product 18 (.aload_n 0) 1 19 := ⟨by decide +kernel, rfl⟩
theorem e_X8_product_19 : DC cX8_product 19 (.getfield 13) 3 22 := ⟨by decide +kernel, rfl⟩
theorem e_X8_product_22 : DC cX8_product 22 (.iload_n 1) 1 23 := ⟨by decide +kernel, rfl⟩
theorem e_X8_product_23 : DC cX8_product 23 (.iaload) 1 24 := ⟨by decide +kernel, rfl⟩
theorem e_X8_product_24 : DC cX8_product 24 (.aload_n 2) 1 25 := ⟨by decide +kernel, rfl⟩
theorem e_X8_product_25 : DC cX8_product 25 (.getfield 13) 3 28 := ⟨by decide +kernel, rfl⟩
theorem e_X8_product_28 : DC cX8_product 28 (.iload_n 3) 1 29 := ⟨by decide +kernel, rfl⟩
theorem e_X8_product_29 : DC cX8_product 29 (.iaload) 1 30 := ⟨by decide +kernel, rfl⟩
theorem e_X8_product_30 : DC cX8_product 30 (.imul) 1 31 := ⟨by decide +kernel, rfl⟩
theorem e_X8_product_31 : DC cX8_product 31 (.aload_n 0) 1 32 := ⟨by decide +kernel, rfl⟩
theorem e_X8_product_32 : DC cX8_product 32 (.getfield 19) 3 35 := ⟨by decide +kernel, rfl⟩
theorem e_X8_product_35 : DC cX8_product 35 (.iload_n 1) 1 36 := ⟨by decide +kernel, rfl⟩
theorem e_X8_product_36 : DC cX8_product 36 (.iaload) 1 37 := ⟨by decide +kernel, rfl⟩
theorem e_X8_product_37 : DC cX8_product 37 (.aload_n 2) 1 38 := ⟨by decide +kernel, rfl⟩
theorem e_X8_product_38 : DC cX8_product 38 (.getfield 19) 3 41 := ⟨by decide +kernel, rfl⟩
theorem e_X8_product_41 : DC cX8_product 41 (.iload_n 3) 1 42 := ⟨by decide +kernel, rfl⟩
theorem e_X8_product_42 : DC cX8_product 42 (.iaload) 1 43 := ⟨by decide +kernel, rfl⟩
theorem e_X8_product_43 : DC cX8_product 43 (.imul) 1 44 := ⟨by decide +kernel, rfl⟩
theorem e_X8_product_44 : DC cX8_product 44 (.iadd) 1 45 := ⟨by decide +kernel, rfl⟩
theorem e_X8_product_45 : DC cX8_product 45 (.aload_n 0) 1 46 := ⟨by decide +kernel, rfl⟩
theorem e_X8_product_46 : DC cX8_product 46 (.getfield 22) 3 49 := ⟨by decide +kernel, rfl⟩
theorem e_X8_product_49 : DC cX8_product 49 (.iload_n 1) 1 50 := ⟨by decide +kernel, rfl⟩
theorem e_X8_product_50 : DC cX8_product 50 (.iaload) 1 51 := ⟨by decide +kernel, rfl⟩
theorem e_X8_product_51 : DC cX8_product 51 (.aload_n 2) 1 52 := ⟨by decide +kernel, rfl⟩
theorem e_X8_product_52 : DC cX8_product 52 (.getfield 22) 3 55 := ⟨by decide +kernel, rfl⟩
theorem e_X8_product_55 : DC cX8_product 55 (.iload_n 3) 1 56 := ⟨by decide +kernel, rfl⟩
theorem e_X8_product_56 : DC cX8_product 56 (.iaload) 1 57 := ⟨by decide +kernel, rfl⟩
theorem e_X8_product_57 : DC cX8_product 57 (.imul) 1 58 := ⟨by decide +kernel, rfl⟩
theorem e_X8_product_58 : DC cX8_product 58 (.iadd) 1 59 := ⟨by decide +kernel, rfl⟩
theorem e_X8_product_59 : DC cX8_product 59 (.ireturn) 1 60 := ⟨by decide +kernel, rfl⟩
noncomputable def m_X8_product_0 (N_p2 : Nat) (N_t : Nat) (t_many : Int) (t_xs : Nat → Int) (t_ys : Nat → Int) (t_zs : Nat → Int) (p2_many : Int) (p2_xs : Nat → Int) (p2_ys : Nat → Int) (p2_zs : Nat → Int) (v1 : Int) (v3 : Int) : Option (Int) :=
  (m_X8_has t_many v1).bind (fun y1 => if y1 = 0 then (some (0)) else ((m_X8_has p2_many v3).bind (fun y2 => if y2 = 0 then (some (0)) else (chk (inB v1 N_t) (chk (inB v3 N_p2) (chk (inB v1 N_t) (chk (inB v3 N_p2) (chk (inB v1 N_t) (chk (inB v3 N_p2) (chk (inI ((((t_xs (Int.toNat v1)) * (p2_xs (Int.toNat v3))) + ((t_ys (Int.toNat v1)) * (p2_ys (Int.toNat v3)))) + ((t_zs (Int.toNat v1)) * (p2_zs (Int.toNat v3))))) (some ((((t_xs (Int.toNat v1)) * (p2_xs (Int.toNat v3))) + ((t_ys (Int.toNat v1)) * (p2_ys (Int.toNat v3)))) + ((t_zs (Int.toNat v1)) * (p2_zs (Int.toNat v3)))))))))))))))

set_option maxRecDepth 10000 in
theorem g_X8_product_0 {l : Launch} {E : EE} {b0 n : Nat} {h : AH} {a_t a_p2 : Nat} {N_p2 N_t : Nat} {t_many p2_many v1 v3 : Int} {t_xs t_ys t_zs p2_xs p2_ys p2_zs : Nat → Int} {r : Int} (ao : AO b0 n [a_t, (a_t + 1), (a_t + 2), (a_t + 3), a_p2, (a_p2 + 1), (a_p2 + 2), (a_p2 + 3)]) (hN_p2 : N_p2 ≤ 100000) (hN_t : N_t ≤ 100000) (ok_t_many : inI t_many) (ok_t_xs : okA t_xs) (ok_t_ys : okA t_ys) (ok_t_zs : okA t_zs) (ok_p2_many : inI p2_many) (ok_p2_xs : okA p2_xs) (ok_p2_ys : okA p2_ys) (ok_p2_zs : okA p2_zs) (ok_v1 : inI v1) (ok_v3 : inI v3) (hs : m_X8_product_0 N_p2 N_t t_many t_xs t_ys t_zs p2_many p2_xs p2_ys p2_zs v1 v3 = some r) : G l E b0 M_X8_product (fun _ => True) (ZM E b0 (some (vI r)) (ov [a_t, (a_t + 1), (a_t + 2), (a_t + 3), a_p2, (a_p2 + 1), (a_p2 + 2), (a_p2 + 3)] [.inr (8, fsX8 a_t t_many), IA E N_t t_xs, IA E N_t t_ys, IA E N_t t_zs, .inr (8, fsX8 a_p2 p2_many), IA E N_p2 p2_xs, IA E N_p2 p2_ys, IA E N_p2 p2_zs] h) n (inI r) 0 0) 0 0 n (ov [a_t, (a_t + 1), (a_t + 2), (a_t + 3), a_p2, (a_p2 + 1), (a_p2 + 2), (a_p2 + 3)] [.inr (8, fsX8 a_t t_many), IA E N_t t_xs, IA E N_t t_ys, IA E N_t t_zs, .inr (8, fsX8 a_p2 p2_many), IA E N_p2 p2_xs, IA E N_p2 p2_ys, IA E N_p2 p2_zs] h) 0 [some (.ref a_t), some (vI v1), some (.ref a_p2), some (vI v3)] [] := by
  rw [m_X8_product_0] at hs
  refine g_aload_n e_X8_product_0 rfl ?_
  refine g_iload_n e_X8_product_1 rfl ?_
  obtain ⟨y1, hy1, hs⟩ := bind_elim hs
  refine g_callVr [vI v1] cv_X8_33 ⟨rfl, rfl, Nat.le_of_ble_eq_true rfl, Nat.le_of_ble_eq_true rfl⟩ (ct_X8_has (AO_call [0] ao (by decide) rfl) (FA_call [0] ao.1 rfl rfl) ok_t_many ok_v1 hy1) e_X8_product_2 (ao.2 0 _ rfl) (ov_get 0 ao.1 rfl rfl) rfl rfl rfl (Nat.le_of_ble_eq_true rfl) ⟨Nat.le_refl _, Nat.le_refl _⟩ (fun Py1 => ?_)
  refine g_if_eq e_X8_product_5 (inZ_I Py1) hs (fun c5 hs => ?_) (fun c5 hs => ?_)
  · refine g_iconst e_X8_product_16 ?_
    obtain rfl := Option.some.inj hs
    exact g_iret rfl (by decide : inI 0) e_X8_product_17
  · refine g_aload_n e_X8_product_8 rfl ?_
    refine g_iload_n e_X8_product_9 rfl ?_
    obtain ⟨y2, hy2, hs⟩ := bind_elim hs
    refine g_callVr [vI v3] cv_X8_33 ⟨rfl, rfl, Nat.le_of_ble_eq_true rfl, Nat.le_of_ble_eq_true rfl⟩ (ct_X8_has (AO_call [4] ao (by decide) rfl) (FA_call [4] ao.1 rfl rfl) ok_p2_many ok_v3 hy2) e_X8_product_10 (ao.2 4 _ rfl) (ov_get 4 ao.1 rfl rfl) rfl rfl rfl (Nat.le_of_ble_eq_true rfl) ⟨Nat.le_refl _, Nat.le_refl _⟩ (fun Py2 => ?_)
    refine g_if_ne e_X8_product_13 (inZ_I Py2) hs (fun c13 hs => ?_) (fun c13 hs => ?_)
    · refine g_iconst e_X8_product_16 ?_
      obtain rfl := Option.some.inj hs
      exact g_iret rfl (by decide : inI 0) e_X8_product_17
    · refine g_aload_n e_X8_product_18 rfl ?_
      refine g_get 0 0 ao rfl rfl fsX8_g0 fl_X8_13 e_X8_product_19 ?_
      refine g_iload_n e_X8_product_22 rfl ?_
      refine g_iald 1 ao rfl rfl (Nat.le_trans hN_t (Nat.le_of_ble_eq_true rfl)) e_X8_product_23 hs (fun hi3 hs => ?_)
      refine g_aload_n e_X8_product_24 rfl ?_
      refine g_get 4 0 ao rfl rfl fsX8_g0 fl_X8_13 e_X8_product_25 ?_
      refine g_iload_n e_X8_product_28 rfl ?_
      refine g_iald 5 ao rfl rfl (Nat.le_trans hN_p2 (Nat.le_of_ble_eq_true rfl)) e_X8_product_29 hs (fun hi4 hs => ?_)
      refine g_imul e_X8_product_30 ?_
      refine g_aload_n e_X8_product_31 rfl ?_
      refine g_get 0 1 ao rfl rfl fsX8_g1 fl_X8_19 e_X8_product_32 ?_
      refine g_iload_n e_X8_product_35 rfl ?_
      refine g_iald 2 ao rfl rfl (Nat.le_trans hN_t (Nat.le_of_ble_eq_true rfl)) e_X8_product_36 hs (fun hi5 hs => ?_)
      refine g_aload_n e_X8_product_37 rfl ?_
      refine g_get 4 1 ao rfl rfl fsX8_g1 fl_X8_19 e_X8_product_38 ?_
      refine g_iload_n e_X8_product_41 rfl ?_
      refine g_iald 6 ao rfl rfl (Nat.le_trans hN_p2 (Nat.le_of_ble_eq_true rfl)) e_X8_product_42 hs (fun hi6 hs => ?_)
      refine g_imul e_X8_product_43 ?_
      refine g_iadd e_X8_product_44 ?_
      refine g_aload_n e_X8_product_45 rfl ?_
      refine g_get 0 2 ao rfl rfl fsX8_g2 fl_X8_22 e_X8_product_46 ?_
      refine g_iload_n e_X8_product_49 rfl ?_
      refine g_iald 3 ao rfl rfl (Nat.le_trans hN_t (Nat.le_of_ble_eq_true rfl)) e_X8_product_50 hs (fun hi7 hs => ?_)
      refine g_aload_n e_X8_product_51 rfl ?_
      refine g_get 4 2 ao rfl rfl fsX8_g2 fl_X8_22 e_X8_product_52 ?_
      refine g_iload_n e_X8_product_55 rfl ?_
      refine g_iald 7 ao rfl rfl (Nat.le_trans hN_p2 (Nat.le_of_ble_eq_true rfl)) e_X8_product_56 hs (fun hi8 hs => ?_)
      refine g_imul e_X8_product_57 ?_
      refine g_iadd e_X8_product_58 ?_
      obtain ⟨hc9, hs⟩ := chk_elim hs
      obtain rfl := Option.some.inj hs
      exact g_iret rfl hc9 e_X8_product_59

noncomputable def m_X8_product (N_p2 : Nat) (N_t : Nat) (t_many : Int) (t_xs : Nat → Int) (t_ys : Nat → Int) (t_zs : Nat → Int) (p2_many : Int) (p2_xs : Nat → Int) (p2_ys : Nat → Int) (p2_zs : Nat → Int) (v1 : Int) (v3 : Int) : Option (Int) := m_X8_product_0 N_p2 N_t t_many t_xs t_ys t_zs p2_many p2_xs p2_ys p2_zs v1 v3

set_option maxRecDepth 10000 in
theorem ct_X8_product {l : Launch} {E : EE} {b0 n : Nat} {h : AH} {a_t a_p2 : Nat} {N_p2 N_t : Nat} {t_many p2_many : Int} {t_xs t_ys t_zs p2_xs p2_ys p2_zs : Nat → Int} {v1 v3 : Int} (ao : AO b0 n [a_t, (a_t + 1), (a_t + 2), (a_t + 3), a_p2, (a_p2 + 1), (a_p2 + 2), (a_p2 + 3)]) (hN_p2 : N_p2 ≤ 100000) (hN_t : N_t ≤ 100000) (hf : FA h [a_t, (a_t + 1), (a_t + 2), (a_t + 3), a_p2, (a_p2 + 1), (a_p2 + 2), (a_p2 + 3)] [.inr (8, fsX8 a_t t_many), IA E N_t t_xs, IA E N_t t_ys, IA E N_t t_zs, .inr (8, fsX8 a_p2 p2_many), IA E N_p2 p2_xs, IA E N_p2 p2_ys, IA E N_p2 p2_zs]) (ok_t_many : inI t_many) (ok_t_xs : okA t_xs) (ok_t_ys : okA t_ys) (ok_t_zs : okA t_zs) (ok_p2_many : inI p2_many) (ok_p2_xs : okA p2_xs) (ok_p2_ys : okA p2_ys) (ok_p2_zs : okA p2_zs) (ok_v1 : inI v1) (ok_v3 : inI v3) {r : Int} (hm : m_X8_product N_p2 N_t t_many t_xs t_ys t_zs p2_many p2_xs p2_ys p2_zs v1 v3 = some r) : Ct l E b0 M_X8_product 0 0 [.ref a_t, vI v1, .ref a_p2, vI v3] h n (some (vI r)) h n (inI r) := by
  rw [m_X8_product] at hm
  have hg : G l E b0 M_X8_product (fun _ => True) (ZM E b0 (some (vI r)) (ov [a_t, (a_t + 1), (a_t + 2), (a_t + 3), a_p2, (a_p2 + 1), (a_p2 + 2), (a_p2 + 3)] [.inr (8, fsX8 a_t t_many), IA E N_t t_xs, IA E N_t t_ys, IA E N_t t_zs, .inr (8, fsX8 a_p2 p2_many), IA E N_p2 p2_xs, IA E N_p2 p2_ys, IA E N_p2 p2_zs] h) n (inI r) 0 0) 0 0 n (ov [a_t, (a_t + 1), (a_t + 2), (a_t + 3), a_p2, (a_p2 + 1), (a_p2 + 2), (a_p2 + 3)] [.inr (8, fsX8 a_t t_many), IA E N_t t_xs, IA E N_t t_ys, IA E N_t t_zs, .inr (8, fsX8 a_p2 p2_many), IA E N_p2 p2_xs, IA E N_p2 p2_ys, IA E N_p2 p2_zs] h) 0 [some (.ref a_t), some (vI v1), some (.ref a_p2), some (vI v3)] [] := by
    have hs := hm
    exact g_X8_product_0 ao hN_p2 hN_t ok_t_many ok_t_xs ok_t_ys ok_t_zs ok_p2_many ok_p2_xs ok_p2_ys ok_p2_zs ok_v1 ok_v3 hs
  rw [FA_id hf] at hg
  exact Ct_of [some (.ref a_t), some (vI v1), some (.ref a_p2), some (vI v3)] ⟨by decide +kernel, rfl⟩ rfl (Nat.le_of_ble_eq_true rfl) hg

/-! ===== X8_worthOf ===== -/
theorem e_X8_worthOf_0 : DC cX8_worthOf 0 (.aload_n 0) 1 1 := ⟨by decide +kernel, rfl⟩
theorem e_X8_worthOf_1 : DC cX8_worthOf 1 (.iload_n 1) 1 2 := ⟨by decide +kernel, rfl⟩
theorem e_X8_worthOf_2 : DC cX8_worthOf 2 (.invokevirtual 33) 3 5 := ⟨by decide +kernel, rfl⟩
theorem e_X8_worthOf_5 : DB cX8_worthOf 5 (.ifCond .eq 47) (47) 3 8 52 := ⟨by decide +kernel, rfl, rfl⟩
theorem e_X8_worthOf_8 : DC cX8_worthOf 8 (.aload_n 0) 1 9 := ⟨by decide +kernel, rfl⟩
theorem e_X8_worthOf_9 : DC cX8_worthOf 9 (.getfield 13) 3 12 := ⟨by decide +kernel, rfl⟩
theorem e_X8_worthOf_12 : DC cX8_worthOf 12 (.iload_n 1) 1 13 := ⟨by decide +kernel, rfl⟩
theorem e_X8_worthOf_13 : DC cX8_worthOf 13 (.iaload) 1 14 := ⟨by decide +kernel, rfl⟩
theorem e_X8_worthOf_14 : DC cX8_worthOf 14 (.aload_n 0) 1 15 := ⟨by decide +kernel, rfl⟩
theorem e_X8_worthOf_15 : DC cX8_worthOf 15 (.getfield 13) 3 18 := ⟨by decide +kernel, rfl⟩
theorem e_X8_worthOf_18 : DC cX8_worthOf 18 (.iload_n 1) 1 19 := ⟨by decide +kernel, rfl⟩
theorem e_X8_worthOf_19 : DC cX8_worthOf 19 (.iaload) 1 20 := ⟨by decide +kernel, rfl⟩
theorem e_X8_worthOf_20 : DC cX8_worthOf 20 (.imul) 1 21 := ⟨by decide +kernel, rfl⟩
theorem e_X8_worthOf_21 : DC cX8_worthOf 21 (.aload_n 0) 1 22 := ⟨by decide +kernel, rfl⟩
theorem e_X8_worthOf_22 : DC cX8_worthOf 22 (.getfield 19) 3 25 := ⟨by decide +kernel, rfl⟩
theorem e_X8_worthOf_25 : DC cX8_worthOf 25 (.iload_n 1) 1 26 := ⟨by decide +kernel, rfl⟩
theorem e_X8_worthOf_26 : DC cX8_worthOf 26 (.iaload) 1 27 := ⟨by decide +kernel, rfl⟩
theorem e_X8_worthOf_27 : DC cX8_worthOf 27 (.aload_n 0) 1 28 := ⟨by decide +kernel, rfl⟩
theorem e_X8_worthOf_28 : DC cX8_worthOf 28 (.getfield 19) 3 31 := ⟨by decide +kernel, rfl⟩
theorem e_X8_worthOf_31 : DC cX8_worthOf 31 (.iload_n 1) 1 32 := ⟨by decide +kernel, rfl⟩
theorem e_X8_worthOf_32 : DC cX8_worthOf 32 (.iaload) 1 33 := ⟨by decide +kernel, rfl⟩
theorem e_X8_worthOf_33 : DC cX8_worthOf 33 (.imul) 1 34 := ⟨by decide +kernel, rfl⟩
theorem e_X8_worthOf_34 : DC cX8_worthOf 34 (.iadd) 1 35 := ⟨by decide +kernel, rfl⟩
theorem e_X8_worthOf_35 : DC cX8_worthOf 35 (.aload_n 0) 1 36 := ⟨by decide +kernel, rfl⟩
theorem e_X8_worthOf_36 : DC cX8_worthOf 36 (.getfield 22) 3 39 := ⟨by decide +kernel, rfl⟩
theorem e_X8_worthOf_39 : DC cX8_worthOf 39 (.iload_n 1) 1 40 := ⟨by decide +kernel, rfl⟩
theorem e_X8_worthOf_40 : DC cX8_worthOf 40 (.iaload) 1 41 := ⟨by decide +kernel, rfl⟩
theorem e_X8_worthOf_41 : DC cX8_worthOf 41 (.aload_n 0) 1 42 := ⟨by decide +kernel, rfl⟩
theorem e_X8_worthOf_42 : DC cX8_worthOf 42 (.getfield 22) 3 45 := ⟨by decide +kernel, rfl⟩
theorem e_X8_worthOf_45 : DC cX8_worthOf 45 (.iload_n 1) 1 46 := ⟨by decide +kernel, rfl⟩
theorem e_X8_worthOf_46 : DC cX8_worthOf 46 (.iaload) 1 47 := ⟨by decide +kernel, rfl⟩
theorem e_X8_worthOf_47 : DC cX8_worthOf 47 (.imul) 1 48 := ⟨by decide +kernel, rfl⟩
theorem e_X8_worthOf_48 : DC cX8_worthOf 48 (.iadd) 1 49 := ⟨by decide +kernel, rfl⟩
theorem e_X8_worthOf_49 : DB cX8_worthOf 49 (.goto 4) (4) 3 52 53 := ⟨by decide +kernel, rfl, rfl⟩
theorem e_X8_worthOf_52 : DC cX8_worthOf 52 (.iconst 0) 1 53 := ⟨by decide +kernel, rfl⟩
theorem e_X8_worthOf_53 : DC cX8_worthOf 53 (.ireturn) 1 54 := ⟨by decide +kernel, rfl⟩
noncomputable def m_X8_worthOf_0 (N_t : Nat) (t_many : Int) (t_xs : Nat → Int) (t_ys : Nat → Int) (t_zs : Nat → Int) (v1 : Int) : Option (Int) :=
  (m_X8_has t_many v1).bind (fun y1 => if y1 = 0 then (some (0)) else (chk (inB v1 N_t) (chk (inB v1 N_t) (chk (inB v1 N_t) (chk (inB v1 N_t) (chk (inB v1 N_t) (chk (inB v1 N_t) (chk (inI ((((t_xs (Int.toNat v1)) * (t_xs (Int.toNat v1))) + ((t_ys (Int.toNat v1)) * (t_ys (Int.toNat v1)))) + ((t_zs (Int.toNat v1)) * (t_zs (Int.toNat v1))))) (some ((((t_xs (Int.toNat v1)) * (t_xs (Int.toNat v1))) + ((t_ys (Int.toNat v1)) * (t_ys (Int.toNat v1)))) + ((t_zs (Int.toNat v1)) * (t_zs (Int.toNat v1)))))))))))))

set_option maxRecDepth 10000 in
theorem g_X8_worthOf_0 {l : Launch} {E : EE} {b0 n : Nat} {h : AH} {a_t : Nat} {N_t : Nat} {t_many v1 : Int} {t_xs t_ys t_zs : Nat → Int} {r : Int} (ao : AO b0 n [a_t, (a_t + 1), (a_t + 2), (a_t + 3)]) (hN_t : N_t ≤ 100000) (ok_t_many : inI t_many) (ok_t_xs : okA t_xs) (ok_t_ys : okA t_ys) (ok_t_zs : okA t_zs) (ok_v1 : inI v1) (hs : m_X8_worthOf_0 N_t t_many t_xs t_ys t_zs v1 = some r) : G l E b0 M_X8_worthOf (fun _ => True) (ZM E b0 (some (vI r)) (ov [a_t, (a_t + 1), (a_t + 2), (a_t + 3)] [.inr (8, fsX8 a_t t_many), IA E N_t t_xs, IA E N_t t_ys, IA E N_t t_zs] h) n (inI r) 0 0) 0 0 n (ov [a_t, (a_t + 1), (a_t + 2), (a_t + 3)] [.inr (8, fsX8 a_t t_many), IA E N_t t_xs, IA E N_t t_ys, IA E N_t t_zs] h) 0 [some (.ref a_t), some (vI v1)] [] := by
  rw [m_X8_worthOf_0] at hs
  refine g_aload_n e_X8_worthOf_0 rfl ?_
  refine g_iload_n e_X8_worthOf_1 rfl ?_
  obtain ⟨y1, hy1, hs⟩ := bind_elim hs
  refine g_callVr [vI v1] cv_X8_33 ⟨rfl, rfl, Nat.le_of_ble_eq_true rfl, Nat.le_of_ble_eq_true rfl⟩ (ct_X8_has (AO_call [0] ao (by decide) rfl) (FA_call [0] ao.1 rfl rfl) ok_t_many ok_v1 hy1) e_X8_worthOf_2 (ao.2 0 _ rfl) (ov_get 0 ao.1 rfl rfl) rfl rfl rfl (Nat.le_of_ble_eq_true rfl) ⟨Nat.le_refl _, Nat.le_refl _⟩ (fun Py1 => ?_)
  refine g_if_eq e_X8_worthOf_5 (inZ_I Py1) hs (fun c5 hs => ?_) (fun c5 hs => ?_)
  · refine g_iconst e_X8_worthOf_52 ?_
    obtain rfl := Option.some.inj hs
    exact g_iret rfl (by decide : inI 0) e_X8_worthOf_53
  · refine g_aload_n e_X8_worthOf_8 rfl ?_
    refine g_get 0 0 ao rfl rfl fsX8_g0 fl_X8_13 e_X8_worthOf_9 ?_
    refine g_iload_n e_X8_worthOf_12 rfl ?_
    refine g_iald 1 ao rfl rfl (Nat.le_trans hN_t (Nat.le_of_ble_eq_true rfl)) e_X8_worthOf_13 hs (fun hi2 hs => ?_)
    refine g_aload_n e_X8_worthOf_14 rfl ?_
    refine g_get 0 0 ao rfl rfl fsX8_g0 fl_X8_13 e_X8_worthOf_15 ?_
    refine g_iload_n e_X8_worthOf_18 rfl ?_
    refine g_iald 1 ao rfl rfl (Nat.le_trans hN_t (Nat.le_of_ble_eq_true rfl)) e_X8_worthOf_19 hs (fun hi3 hs => ?_)
    refine g_imul e_X8_worthOf_20 ?_
    refine g_aload_n e_X8_worthOf_21 rfl ?_
    refine g_get 0 1 ao rfl rfl fsX8_g1 fl_X8_19 e_X8_worthOf_22 ?_
    refine g_iload_n e_X8_worthOf_25 rfl ?_
    refine g_iald 2 ao rfl rfl (Nat.le_trans hN_t (Nat.le_of_ble_eq_true rfl)) e_X8_worthOf_26 hs (fun hi4 hs => ?_)
    refine g_aload_n e_X8_worthOf_27 rfl ?_
    refine g_get 0 1 ao rfl rfl fsX8_g1 fl_X8_19 e_X8_worthOf_28 ?_
    refine g_iload_n e_X8_worthOf_31 rfl ?_
    refine g_iald 2 ao rfl rfl (Nat.le_trans hN_t (Nat.le_of_ble_eq_true rfl)) e_X8_worthOf_32 hs (fun hi5 hs => ?_)
    refine g_imul e_X8_worthOf_33 ?_
    refine g_iadd e_X8_worthOf_34 ?_
    refine g_aload_n e_X8_worthOf_35 rfl ?_
    refine g_get 0 2 ao rfl rfl fsX8_g2 fl_X8_22 e_X8_worthOf_36 ?_
    refine g_iload_n e_X8_worthOf_39 rfl ?_
    refine g_iald 3 ao rfl rfl (Nat.le_trans hN_t (Nat.le_of_ble_eq_true rfl)) e_X8_worthOf_40 hs (fun hi6 hs => ?_)
    refine g_aload_n e_X8_worthOf_41 rfl ?_
    refine g_get 0 2 ao rfl rfl fsX8_g2 fl_X8_22 e_X8_worthOf_42 ?_
    refine g_iload_n e_X8_worthOf_45 rfl ?_
    refine g_iald 3 ao rfl rfl (Nat.le_trans hN_t (Nat.le_of_ble_eq_true rfl)) e_X8_worthOf_46 hs (fun hi7 hs => ?_)
    refine g_imul e_X8_worthOf_47 ?_
    refine g_iadd e_X8_worthOf_48 ?_
    refine g_goto e_X8_worthOf_49 ?_
    obtain ⟨hc8, hs⟩ := chk_elim hs
    obtain rfl := Option.some.inj hs
    exact g_iret rfl hc8 e_X8_worthOf_53

noncomputable def m_X8_worthOf (N_t : Nat) (t_many : Int) (t_xs : Nat → Int) (t_ys : Nat → Int) (t_zs : Nat → Int) (v1 : Int) : Option (Int) := m_X8_worthOf_0 N_t t_many t_xs t_ys t_zs v1

set_option maxRecDepth 10000 in
theorem ct_X8_worthOf {l : Launch} {E : EE} {b0 n : Nat} {h : AH} {a_t : Nat} {N_t : Nat} {t_many : Int} {t_xs t_ys t_zs : Nat → Int} {v1 : Int} (ao : AO b0 n [a_t, (a_t + 1), (a_t + 2), (a_t + 3)]) (hN_t : N_t ≤ 100000) (hf : FA h [a_t, (a_t + 1), (a_t + 2), (a_t + 3)] [.inr (8, fsX8 a_t t_many), IA E N_t t_xs, IA E N_t t_ys, IA E N_t t_zs]) (ok_t_many : inI t_many) (ok_t_xs : okA t_xs) (ok_t_ys : okA t_ys) (ok_t_zs : okA t_zs) (ok_v1 : inI v1) {r : Int} (hm : m_X8_worthOf N_t t_many t_xs t_ys t_zs v1 = some r) : Ct l E b0 M_X8_worthOf 0 0 [.ref a_t, vI v1] h n (some (vI r)) h n (inI r) := by
  rw [m_X8_worthOf] at hm
  have hg : G l E b0 M_X8_worthOf (fun _ => True) (ZM E b0 (some (vI r)) (ov [a_t, (a_t + 1), (a_t + 2), (a_t + 3)] [.inr (8, fsX8 a_t t_many), IA E N_t t_xs, IA E N_t t_ys, IA E N_t t_zs] h) n (inI r) 0 0) 0 0 n (ov [a_t, (a_t + 1), (a_t + 2), (a_t + 3)] [.inr (8, fsX8 a_t t_many), IA E N_t t_xs, IA E N_t t_ys, IA E N_t t_zs] h) 0 [some (.ref a_t), some (vI v1)] [] := by
    have hs := hm
    exact g_X8_worthOf_0 ao hN_t ok_t_many ok_t_xs ok_t_ys ok_t_zs ok_v1 hs
  rw [FA_id hf] at hg
  exact Ct_of [some (.ref a_t), some (vI v1)] ⟨by decide +kernel, rfl⟩ rfl (Nat.le_of_ble_eq_true rfl) hg

/-! ===== X8_areAlike ===== -/
theorem e_X8_areAlike_0 : DC cX8_areAlike 0 (.aload_n 0) 1 1 := ⟨by decide +kernel, rfl⟩
theorem e_X8_areAlike_1 : DC cX8_areAlike 1 (.iload_n 1) 1 2 := ⟨by decide +kernel, rfl⟩
theorem e_X8_areAlike_2 : DC cX8_areAlike 2 (.invokevirtual 33) 3 5 := ⟨by decide +kernel, rfl⟩
theorem e_X8_areAlike_5 : DB cX8_areAlike 5 (.ifCond .eq 60) (60) 3 8 65 := ⟨by decide +kernel, rfl, rfl⟩
theorem e_X8_areAlike_8 : DC cX8_areAlike 8 (.aload_n 0) 1 9 := ⟨by decide +kernel, rfl⟩
theorem e_X8_areAlike_9 : DC cX8_areAlike 9 (.iload_n 2) 1 10 := ⟨by decide +kernel, rfl⟩
theorem e_X8_areAlike_10 : DC cX8_areAlike 10 (.invokevirtual 33) 3 13 := ⟨by decide +kernel, rfl⟩
theorem e_X8_areAlike_13 : DB cX8_areAlike 13 (.ifCond .eq 52) (52) 3 16 65 := ⟨by decide +kernel, rfl, rfl⟩
theorem e_X8_areAlike_16 : DC cX8_areAlike 16 (.aload_n 0) 1 17 := ⟨by decide +kernel, rfl⟩
theorem e_X8_areAlike_17 : DC cX8_areAlike 17 (.getfield 13) 3 20 := ⟨by decide +kernel, rfl⟩
theorem e_X8_areAlike_20 : DC cX8_areAlike 20 (.iload_n 1) 1 21 := ⟨by decide +kernel, rfl⟩
theorem e_X8_areAlike_21 : DC cX8_areAlike 21 (.iaload) 1 22 := ⟨by decide +kernel, rfl⟩
theorem e_X8_areAlike_22 : DC cX8_areAlike 22 (.aload_n 0) 1 23 := ⟨by decide +kernel, rfl⟩
theorem e_X8_areAlike_23 : DC cX8_areAlike 23 (.getfield 13) 3 26 := ⟨by decide +kernel, rfl⟩
theorem e_X8_areAlike_26 : DC cX8_areAlike 26 (.iload_n 2) 1 27 := ⟨by decide +kernel, rfl⟩
theorem e_X8_areAlike_27 : DC cX8_areAlike 27 (.iaload) 1 28 := ⟨by decide +kernel, rfl⟩
theorem e_X8_areAlike_28 : DB cX8_areAlike 28 (.if_icmp .ne 37) (37) 3 31 65 := ⟨by decide +kernel, rfl, rfl⟩
theorem e_X8_areAlike_31 : DC cX8_areAlike 31 (.aload_n 0) 1 32 := ⟨by decide +kernel, rfl⟩
theorem e_X8_areAlike_32 : DC cX8_areAlike 32 (.getfield 19) 3 35 := ⟨by decide +kernel, rfl⟩
theorem e_X8_areAlike_35 : DC cX8_areAlike 35 (.iload_n 1) 1 36 := ⟨by decide +kernel, rfl⟩
theorem e_X8_areAlike_36 : DC cX8_areAlike 36 (.iaload) 1 37 := ⟨by decide +kernel, rfl⟩
theorem e_X8_areAlike_37 : DC cX8_areAlike 37 (.aload_n 0) 1 38 := ⟨by decide +kernel, rfl⟩
theorem e_X8_areAlike_38 : DC cX8_areAlike 38 (.getfield 19) 3 41 := ⟨by decide +kernel, rfl⟩
theorem e_X8_areAlike_41 : DC cX8_areAlike 41 (.iload_n 2) 1 42 := ⟨by decide +kernel, rfl⟩
theorem e_X8_areAlike_42 : DC cX8_areAlike 42 (.iaload) 1 43 := ⟨by decide +kernel, rfl⟩
theorem e_X8_areAlike_43 : DB cX8_areAlike 43 (.if_icmp .ne 22) (22) 3 46 65 := ⟨by decide +kernel, rfl, rfl⟩
theorem e_X8_areAlike_46 : DC cX8_areAlike 46 (.aload_n 0) 1 47 := ⟨by decide +kernel, rfl⟩
theorem e_X8_areAlike_47 : DC cX8_areAlike 47 (.getfield 22) 3 50 := ⟨by decide +kernel, rfl⟩
theorem e_X8_areAlike_50 : DC cX8_areAlike 50 (.iload_n 1) 1 51 := ⟨by decide +kernel, rfl⟩
theorem e_X8_areAlike_51 : DC cX8_areAlike 51 (.iaload) 1 52 := ⟨by decide +kernel, rfl⟩
theorem e_X8_areAlike_52 : DC cX8_areAlike 52 (.aload_n 0) 1 53 := ⟨by decide +kernel, rfl⟩
theorem e_X8_areAlike_53 : DC cX8_areAlike 53 (.getfield 22) 3 56 := ⟨by decide +kernel, rfl⟩
theorem e_X8_areAlike_56 : DC cX8_areAlike 56 (.iload_n 2) 1 57 := ⟨by decide +kernel, rfl⟩
theorem e_X8_areAlike_57 : DC cX8_areAlike 57 (.iaload) 1 58 := ⟨by decide +kernel, rfl⟩
theorem e_X8_areAlike_58 : DB cX8_areAlike 58 (.if_icmp .ne 7) (7) 3 61 65 := ⟨by decide +kernel, rfl, rfl⟩
theorem e_X8_areAlike_61 : DC cX8_areAlike 61 (.iconst 1) 1 62 := ⟨by decide +kernel, rfl⟩
theorem e_X8_areAlike_62 : DB cX8_areAlike 62 (.goto 4) (4) 3 65 66 := ⟨by decide +kernel, rfl, rfl⟩
theorem e_X8_areAlike_65 : DC cX8_areAlike 65 (.iconst 0) 1 66 := ⟨by decide +kernel, rfl⟩
theorem e_X8_areAlike_66 : DC cX8_areAlike 66 (.ireturn) 1 67 := ⟨by decide +kernel, rfl⟩
noncomputable def m_X8_areAlike_0 (N_t : Nat) (t_many : Int) (t_xs : Nat → Int) (t_ys : Nat → Int) (t_zs : Nat → Int) (v1 : Int) (v2 : Int) : Option (Int) :=
  (m_X8_has t_many v1).bind (fun y1 => if y1 = 0 then (some (0)) else ((m_X8_has t_many v2).bind (fun y2 => if y2 = 0 then (some (0)) else (chk (inB v1 N_t) (chk (inB v2 N_t) (if (t_xs (Int.toNat v1)) = (t_xs (Int.toNat v2)) then (chk (inB v1 N_t) (chk (inB v2 N_t) (if (t_ys (Int.toNat v1)) = (t_ys (Int.toNat v2)) then (chk (inB v1 N_t) (chk (inB v2 N_t) (if (t_zs (Int.toNat v1)) = (t_zs (Int.toNat v2)) then (some (1)) else (some (0))))) else (some (0))))) else (some (0))))))))

set_option maxRecDepth 10000 in
theorem g_X8_areAlike_0 {l : Launch} {E : EE} {b0 n : Nat} {h : AH} {a_t : Nat} {N_t : Nat} {t_many v1 v2 : Int} {t_xs t_ys t_zs : Nat → Int} {r : Int} (ao : AO b0 n [a_t, (a_t + 1), (a_t + 2), (a_t + 3)]) (hN_t : N_t ≤ 100000) (ok_t_many : inI t_many) (ok_t_xs : okA t_xs) (ok_t_ys : okA t_ys) (ok_t_zs : okA t_zs) (ok_v1 : inI v1) (ok_v2 : inI v2) (hs : m_X8_areAlike_0 N_t t_many t_xs t_ys t_zs v1 v2 = some r) : G l E b0 M_X8_areAlike (fun _ => True) (ZM E b0 (some (vI r)) (ov [a_t, (a_t + 1), (a_t + 2), (a_t + 3)] [.inr (8, fsX8 a_t t_many), IA E N_t t_xs, IA E N_t t_ys, IA E N_t t_zs] h) n (inZ r) 0 0) 0 0 n (ov [a_t, (a_t + 1), (a_t + 2), (a_t + 3)] [.inr (8, fsX8 a_t t_many), IA E N_t t_xs, IA E N_t t_ys, IA E N_t t_zs] h) 0 [some (.ref a_t), some (vI v1), some (vI v2)] [] := by
  rw [m_X8_areAlike_0] at hs
  refine g_aload_n e_X8_areAlike_0 rfl ?_
  refine g_iload_n e_X8_areAlike_1 rfl ?_
  obtain ⟨y1, hy1, hs⟩ := bind_elim hs
  refine g_callVr [vI v1] cv_X8_33 ⟨rfl, rfl, Nat.le_of_ble_eq_true rfl, Nat.le_of_ble_eq_true rfl⟩ (ct_X8_has (AO_call [0] ao (by decide) rfl) (FA_call [0] ao.1 rfl rfl) ok_t_many ok_v1 hy1) e_X8_areAlike_2 (ao.2 0 _ rfl) (ov_get 0 ao.1 rfl rfl) rfl rfl rfl (Nat.le_of_ble_eq_true rfl) ⟨Nat.le_refl _, Nat.le_refl _⟩ (fun Py1 => ?_)
  refine g_if_eq e_X8_areAlike_5 (inZ_I Py1) hs (fun c5 hs => ?_) (fun c5 hs => ?_)
  · refine g_iconst e_X8_areAlike_65 ?_
    obtain rfl := Option.some.inj hs
    exact g_zret rfl (by decide : inZ 0) (by decide : inZ 0) e_X8_areAlike_66
  · refine g_aload_n e_X8_areAlike_8 rfl ?_
    refine g_iload_n e_X8_areAlike_9 rfl ?_
    obtain ⟨y2, hy2, hs⟩ := bind_elim hs
    refine g_callVr [vI v2] cv_X8_33 ⟨rfl, rfl, Nat.le_of_ble_eq_true rfl, Nat.le_of_ble_eq_true rfl⟩ (ct_X8_has (AO_call [0] ao (by decide) rfl) (FA_call [0] ao.1 rfl rfl) ok_t_many ok_v2 hy2) e_X8_areAlike_10 (ao.2 0 _ rfl) (ov_get 0 ao.1 rfl rfl) rfl rfl rfl (Nat.le_of_ble_eq_true rfl) ⟨Nat.le_refl _, Nat.le_refl _⟩ (fun Py2 => ?_)
    refine g_if_eq e_X8_areAlike_13 (inZ_I Py2) hs (fun c13 hs => ?_) (fun c13 hs => ?_)
    · refine g_iconst e_X8_areAlike_65 ?_
      obtain rfl := Option.some.inj hs
      exact g_zret rfl (by decide : inZ 0) (by decide : inZ 0) e_X8_areAlike_66
    · refine g_aload_n e_X8_areAlike_16 rfl ?_
      refine g_get 0 0 ao rfl rfl fsX8_g0 fl_X8_13 e_X8_areAlike_17 ?_
      refine g_iload_n e_X8_areAlike_20 rfl ?_
      refine g_iald 1 ao rfl rfl (Nat.le_trans hN_t (Nat.le_of_ble_eq_true rfl)) e_X8_areAlike_21 hs (fun hi3 hs => ?_)
      refine g_aload_n e_X8_areAlike_22 rfl ?_
      refine g_get 0 0 ao rfl rfl fsX8_g0 fl_X8_13 e_X8_areAlike_23 ?_
      refine g_iload_n e_X8_areAlike_26 rfl ?_
      refine g_iald 1 ao rfl rfl (Nat.le_trans hN_t (Nat.le_of_ble_eq_true rfl)) e_X8_areAlike_27 hs (fun hi4 hs => ?_)
      refine g_icmp_ne e_X8_areAlike_28 (ok_t_xs _) (ok_t_xs _) hs (fun c28 hs => ?_) (fun c28 hs => ?_)
      · refine g_aload_n e_X8_areAlike_31 rfl ?_
        refine g_get 0 1 ao rfl rfl fsX8_g1 fl_X8_19 e_X8_areAlike_32 ?_
        refine g_iload_n e_X8_areAlike_35 rfl ?_
        refine g_iald 2 ao rfl rfl (Nat.le_trans hN_t (Nat.le_of_ble_eq_true rfl)) e_X8_areAlike_36 hs (fun hi5 hs => ?_)
        refine g_aload_n e_X8_areAlike_37 rfl ?_
        refine g_get 0 1 ao rfl rfl fsX8_g1 fl_X8_19 e_X8_areAlike_38 ?_
        refine g_iload_n e_X8_areAlike_41 rfl ?_
        refine g_iald 2 ao rfl rfl (Nat.le_trans hN_t (Nat.le_of_ble_eq_true rfl)) e_X8_areAlike_42 hs (fun hi6 hs => ?_)
        refine g_icmp_ne e_X8_areAlike_43 (ok_t_ys _) (ok_t_ys _) hs (fun c43 hs => ?_) (fun c43 hs => ?_)
        · refine g_aload_n e_X8_areAlike_46 rfl ?_
          refine g_get 0 2 ao rfl rfl fsX8_g2 fl_X8_22 e_X8_areAlike_47 ?_
          refine g_iload_n e_X8_areAlike_50 rfl ?_
          refine g_iald 3 ao rfl rfl (Nat.le_trans hN_t (Nat.le_of_ble_eq_true rfl)) e_X8_areAlike_51 hs (fun hi7 hs => ?_)
          refine g_aload_n e_X8_areAlike_52 rfl ?_
          refine g_get 0 2 ao rfl rfl fsX8_g2 fl_X8_22 e_X8_areAlike_53 ?_
          refine g_iload_n e_X8_areAlike_56 rfl ?_
          refine g_iald 3 ao rfl rfl (Nat.le_trans hN_t (Nat.le_of_ble_eq_true rfl)) e_X8_areAlike_57 hs (fun hi8 hs => ?_)
          refine g_icmp_ne e_X8_areAlike_58 (ok_t_zs _) (ok_t_zs _) hs (fun c58 hs => ?_) (fun c58 hs => ?_)
          · refine g_iconst e_X8_areAlike_61 ?_
            refine g_goto e_X8_areAlike_62 ?_
            obtain rfl := Option.some.inj hs
            exact g_zret rfl (by decide : inZ 1) (by decide : inZ 1) e_X8_areAlike_66
          · refine g_iconst e_X8_areAlike_65 ?_
            obtain rfl := Option.some.inj hs
            exact g_zret rfl (by decide : inZ 0) (by decide : inZ 0) e_X8_areAlike_66
        · refine g_iconst e_X8_areAlike_65 ?_
          obtain rfl := Option.some.inj hs
          exact g_zret rfl (by decide : inZ 0) (by decide : inZ 0) e_X8_areAlike_66
      · refine g_iconst e_X8_areAlike_65 ?_
        obtain rfl := Option.some.inj hs
        exact g_zret rfl (by decide : inZ 0) (by decide : inZ 0) e_X8_areAlike_66

noncomputable def m_X8_areAlike (N_t : Nat) (t_many : Int) (t_xs : Nat → Int) (t_ys : Nat → Int) (t_zs : Nat → Int) (v1 : Int) (v2 : Int) : Option (Int) := m_X8_areAlike_0 N_t t_many t_xs t_ys t_zs v1 v2

set_option maxRecDepth 10000 in
theorem ct_X8_areAlike {l : Launch} {E : EE} {b0 n : Nat} {h : AH} {a_t : Nat} {N_t : Nat} {t_many : Int} {t_xs t_ys t_zs : Nat → Int} {v1 v2 : Int} (ao : AO b0 n [a_t, (a_t + 1), (a_t + 2), (a_t + 3)]) (hN_t : N_t ≤ 100000) (hf : FA h [a_t, (a_t + 1), (a_t + 2), (a_t + 3)] [.inr (8, fsX8 a_t t_many), IA E N_t t_xs, IA E N_t t_ys, IA E N_t t_zs]) (ok_t_many : inI t_many) (ok_t_xs : okA t_xs) (ok_t_ys : okA t_ys) (ok_t_zs : okA t_zs) (ok_v1 : inI v1) (ok_v2 : inI v2) {r : Int} (hm : m_X8_areAlike N_t t_many t_xs t_ys t_zs v1 v2 = some r) : Ct l E b0 M_X8_areAlike 0 0 [.ref a_t, vI v1, vI v2] h n (some (vI r)) h n (inZ r) := by
  rw [m_X8_areAlike] at hm
  have hg : G l E b0 M_X8_areAlike (fun _ => True) (ZM E b0 (some (vI r)) (ov [a_t, (a_t + 1), (a_t + 2), (a_t + 3)] [.inr (8, fsX8 a_t t_many), IA E N_t t_xs, IA E N_t t_ys, IA E N_t t_zs] h) n (inZ r) 0 0) 0 0 n (ov [a_t, (a_t + 1), (a_t + 2), (a_t + 3)] [.inr (8, fsX8 a_t t_many), IA E N_t t_xs, IA E N_t t_ys, IA E N_t t_zs] h) 0 [some (.ref a_t), some (vI v1), some (vI v2)] [] := by
    have hs := hm
    exact g_X8_areAlike_0 ao hN_t ok_t_many ok_t_xs ok_t_ys ok_t_zs ok_v1 ok_v2 hs
  rw [FA_id hf] at hg
  exact Ct_of [some (.ref a_t), some (vI v1), some (vI v2)] ⟨by decide +kernel, rfl⟩ rfl (Nat.le_of_ble_eq_true rfl) hg

/-! ===== X8_haveEitherWay ===== -/
theorem e_X8_haveEitherWay_0 : DC cX8_haveEitherWay 0 (.iconst 0) 1 1 := ⟨by decide +kernel, rfl⟩
theorem e_X8_haveEitherWay_1 : DC cX8_haveEitherWay 1 (.istore 4) 2 3 := ⟨by decide +kernel, rfl⟩
theorem e_X8_haveEitherWay_3 : DC cX8_haveEitherWay 3 (.iload 4) 2 5 := ⟨by decide +kernel, rfl⟩
theorem e_X8_haveEitherWay_5 : DC cX8_haveEitherWay 5 (.aload_n 0) 1 6 := ⟨by decide +kernel, rfl⟩
theorem e_X8_haveEitherWay_6 : DC cX8_haveEitherWay 6 (.getfield 25) 3 9 := ⟨by decide +kernel, rfl⟩
theorem e_X8_haveEitherWay_9 : DB cX8_haveEitherWay 9 (.if_icmp .ge 82) (82) 3 12 91 := ⟨by decide +kernel, rfl, rfl⟩
theorem e_X8_haveEitherWay_12 : DC cX8_haveEitherWay 12 (.aload_n 0) 1 13 := ⟨by decide +kernel, rfl⟩
theorem e_X8_haveEitherWay_13 : DC cX8_haveEitherWay 13 (.getfield 13) 3 16 := ⟨by decide +kernel, rfl⟩
theorem e_X8_haveEitherWay_16 : DC cX8_haveEitherWay 16 (.iload 4) 2 18 := ⟨by decide +kernel, rfl⟩
theorem e_X8_haveEitherWay_18 : DC cX8_haveEitherWay 18 (.iaload) 1 19 := ⟨by decide +kernel, rfl⟩
theorem e_X8_haveEitherWay_19 : DC cX8_haveEitherWay 19 (.iload_n 1) 1 20 := ⟨by decide +kernel, rfl⟩
theorem e_X8_haveEitherWay_20 : DB cX8_haveEitherWay 20 (.if_icmp .ne 27) (27) 3 23 47 := ⟨by decide +kernel, rfl, rfl⟩
theorem e_X8_haveEitherWay_23 : DC cX8_haveEitherWay 23 (.aload_n 0) 1 24 := ⟨by decide +kernel, rfl⟩
theorem e_X8_haveEitherWay_24 : DC cX8_haveEitherWay 24 (.getfield 19) 3 27 := ⟨by decide +kernel, rfl⟩
theorem e_X8_haveEitherWay_27 : DC cX8_haveEitherWay 27 (.iload 4) 2 29 := ⟨by decide +kernel, rfl⟩
theorem e_X8_haveEitherWay_29 : DC cX8_haveEitherWay 29 (.iaload) 1 30 := ⟨by decide +kernel, rfl⟩
theorem e_X8_haveEitherWay_30 : DC cX8_haveEitherWay 30 (.iload_n 2) 1 31 := ⟨by decide +kernel, rfl⟩
theorem e_X8_haveEitherWay_31 : DB cX8_haveEitherWay 31 (.if_icmp .ne 16) (16) 3 34 47 := ⟨by decide +kernel, rfl, rfl⟩
theorem e_X8_haveEitherWay_34 : DC cX8_haveEitherWay 34 (.aload_n 0) 1 35 := ⟨by decide +kernel, rfl⟩
theorem e_X8_haveEitherWay_35 : DC cX8_haveEitherWay 35 (.getfield 22) 3 38 := ⟨by decide +kernel, rfl⟩
theorem e_X8_haveEitherWay_38 : DC cX8_haveEitherWay 38 (.iload 4) 2 40 := ⟨by decide +kernel, rfl⟩
theorem e_X8_haveEitherWay_40 : DC cX8_haveEitherWay 40 (.iaload) 1 41 := ⟨by decide +kernel, rfl⟩
theorem e_X8_haveEitherWay_41 : DC cX8_haveEitherWay 41 (.iload_n 3) 1 42 := ⟨by decide +kernel, rfl⟩
theorem e_X8_haveEitherWay_42 : DB cX8_haveEitherWay 42 (.if_icmp .ne 5) (5) 3 45 47 := ⟨by decide +kernel, rfl, rfl⟩
theorem e_X8_haveEitherWay_45 : DC cX8_haveEitherWay 45 (.iconst 1) 1 46 := ⟨by decide +kernel, rfl⟩
theorem e_X8_haveEitherWay_46 : DC cX8_haveEitherWay 46 (.ireturn) 1 47 := ⟨by decide +kernel, rfl⟩
theorem e_X8_haveEitherWay_47 : DC cX8_haveEitherWay 47 (.aload_n 0) 1 48 := ⟨by decide +kernel, rfl⟩
theorem e_X8_haveEitherWay_48 : DC cX8_haveEitherWay 48 (.getfield 13) 3 51 := ⟨by decide +kernel, rfl⟩
theorem e_X8_haveEitherWay_51 : DC cX8_haveEitherWay 51 (.iload 4) 2 53 := ⟨by decide +kernel, rfl⟩
theorem e_X8_haveEitherWay_53 : DC cX8_haveEitherWay 53 (.iaload) 1 54 := ⟨by decide +kernel, rfl⟩
theorem e_X8_haveEitherWay_54 : DC cX8_haveEitherWay 54 (.iload_n 1) 1 55 := ⟨by decide +kernel, rfl⟩
theorem e_X8_haveEitherWay_55 : DC cX8_haveEitherWay 55 (.ineg) 1 56 := ⟨by decide +kernel, rfl⟩
theorem e_X8_haveEitherWay_56 : DB cX8_haveEitherWay 56 (.if_icmp .ne 29) (29) 3 59 85 := ⟨by decide +kernel, rfl, rfl⟩
theorem e_X8_haveEitherWay_59 : DC cX8_haveEitherWay 59 (.aload_n 0) 1 60 := ⟨by decide +kernel, rfl⟩
theorem e_X8_haveEitherWay_60 : DC cX8_haveEitherWay 60 (.getfield 19) 3 63 := ⟨by decide +kernel, rfl⟩
theorem e_X8_haveEitherWay_63 : DC cX8_haveEitherWay 63 (.iload 4) 2 65 := ⟨by decide +kernel, rfl⟩
theorem e_X8_haveEitherWay_65 : DC cX8_haveEitherWay 65 (.iaload) 1 66 := ⟨by decide +kernel, rfl⟩
theorem e_X8_haveEitherWay_66 : DC cX8_haveEitherWay 66 (.iload_n 2) 1 67 := ⟨by decide +kernel, rfl⟩
theorem e_X8_haveEitherWay_67 : DC cX8_haveEitherWay 67 (.ineg) 1 68 := ⟨by decide +kernel, rfl⟩
theorem e_X8_haveEitherWay_68 : DB cX8_haveEitherWay 68 (.if_icmp .ne 17) (17) 3 71 85 := ⟨by decide +kernel, rfl, rfl⟩
theorem e_X8_haveEitherWay_71 : DC cX8_haveEitherWay 71 (.aload_n 0) 1 72 := ⟨by decide +kernel, rfl⟩
theorem e_X8_haveEitherWay_72 : DC cX8_haveEitherWay 72 (.getfield 22) 3 75 := ⟨by decide +kernel, rfl⟩
theorem e_X8_haveEitherWay_75 : DC cX8_haveEitherWay 75 (.iload 4) 2 77 := ⟨by decide +kernel, rfl⟩
theorem e_X8_haveEitherWay_77 : DC cX8_haveEitherWay 77 (.iaload) 1 78 := ⟨by decide +kernel, rfl⟩
theorem e_X8_haveEitherWay_78 : DC cX8_haveEitherWay 78 (.iload_n 3) 1 79 := ⟨by decide +kernel, rfl⟩
theorem e_X8_haveEitherWay_79 : DC cX8_haveEitherWay 79 (.ineg) 1 80 := ⟨by decide +kernel, rfl⟩
theorem e_X8_haveEitherWay_80 : DB cX8_haveEitherWay 80 (.if_icmp .ne 5) (5) 3 83 85 := ⟨by decide +kernel, rfl, rfl⟩
theorem e_X8_haveEitherWay_83 : DC cX8_haveEitherWay 83 (.iconst 1) 1 84 := ⟨by decide +kernel, rfl⟩
theorem e_X8_haveEitherWay_84 : DC cX8_haveEitherWay 84 (.ireturn) 1 85 := ⟨by decide +kernel, rfl⟩
theorem e_X8_haveEitherWay_85 : DC cX8_haveEitherWay 85 (.iinc 4 1) 3 88 := ⟨by decide +kernel, rfl⟩
theorem e_X8_haveEitherWay_88 : DB cX8_haveEitherWay 88 (.goto (-85)) (-85) 3 91 3 := ⟨by decide +kernel, rfl, rfl⟩
theorem e_X8_haveEitherWay_91 : DC cX8_haveEitherWay 91 (.iconst 0) 1 92 := ⟨by decide +kernel, rfl⟩
theorem e_X8_haveEitherWay_92 : DC cX8_haveEitherWay 92 (.ireturn) 1 93 := ⟨by decide +kernel, rfl⟩
noncomputable def m_X8_haveEitherWay_85 (N_t : Nat) (t_many : Int) (t_xs : Nat → Int) (t_ys : Nat → Int) (t_zs : Nat → Int) (v1 : Int) (v2 : Int) (v3 : Int) (v4 : Int) (ag : Int → Option (Int)) (k_91 : Int → Option (Int)) (k_45 : Int → Option (Int)) (k_83 : Int → Option (Int)) : Option (Int) :=
  chk (inI (v4 + 1)) (ag (v4 + 1))

set_option maxRecDepth 10000 in
theorem g_X8_haveEitherWay_85 {l : Launch} {E : EE} {b0 n : Nat} {h : AH} {a_t : Nat} {N_t : Nat} {t_many v1 v2 v3 v4 : Int} {t_xs t_ys t_zs : Nat → Int} {r : Int} {ag : Int → Option (Int)} {k_91 : Int → Option (Int)} {k_45 : Int → Option (Int)} {k_83 : Int → Option (Int)} (ao : AO b0 n [a_t, (a_t + 1), (a_t + 2), (a_t + 3)]) (hN_t : N_t ≤ 100000) (ok_t_many : inI t_many) (ok_t_xs : okA t_xs) (ok_t_ys : okA t_ys) (ok_t_zs : okA t_zs) (ok_v1 : inI v1) (ok_v2 : inI v2) (ok_v3 : inI v3) (ok_v4 : inI v4) (hag : ∀ (v4_ : Int), inI v4_ → ag v4_ = some r → G l E b0 M_X8_haveEitherWay (fun _ => True) (ZM E b0 (some (vI r)) (ov [a_t, (a_t + 1), (a_t + 2), (a_t + 3)] [.inr (8, fsX8 a_t t_many), IA E N_t t_xs, IA E N_t t_ys, IA E N_t t_zs] h) n (inZ r) 0 0) 0 0 n (ov [a_t, (a_t + 1), (a_t + 2), (a_t + 3)] [.inr (8, fsX8 a_t t_many), IA E N_t t_xs, IA E N_t t_ys, IA E N_t t_zs] h) 3 [some (.ref a_t), some (vI v1), some (vI v2), some (vI v3), some (vI v4_)] []) (hk_91 : ∀ (v4_ : Int), inI v4_ → k_91 v4_ = some r → G l E b0 M_X8_haveEitherWay (fun _ => True) (ZM E b0 (some (vI r)) (ov [a_t, (a_t + 1), (a_t + 2), (a_t + 3)] [.inr (8, fsX8 a_t t_many), IA E N_t t_xs, IA E N_t t_ys, IA E N_t t_zs] h) n (inZ r) 0 0) 0 0 n (ov [a_t, (a_t + 1), (a_t + 2), (a_t + 3)] [.inr (8, fsX8 a_t t_many), IA E N_t t_xs, IA E N_t t_ys, IA E N_t t_zs] h) 91 [none, none, none, none, none] []) (hk_45 : ∀ (v4_ : Int), inI v4_ → k_45 v4_ = some r → G l E b0 M_X8_haveEitherWay (fun _ => True) (ZM E b0 (some (vI r)) (ov [a_t, (a_t + 1), (a_t + 2), (a_t + 3)] [.inr (8, fsX8 a_t t_many), IA E N_t t_xs, IA E N_t t_ys, IA E N_t t_zs] h) n (inZ r) 0 0) 0 0 n (ov [a_t, (a_t + 1), (a_t + 2), (a_t + 3)] [.inr (8, fsX8 a_t t_many), IA E N_t t_xs, IA E N_t t_ys, IA E N_t t_zs] h) 45 [none, none, none, none, none] []) (hk_83 : ∀ (v4_ : Int), inI v4_ → k_83 v4_ = some r → G l E b0 M_X8_haveEitherWay (fun _ => True) (ZM E b0 (some (vI r)) (ov [a_t, (a_t + 1), (a_t + 2), (a_t + 3)] [.inr (8, fsX8 a_t t_many), IA E N_t t_xs, IA E N_t t_ys, IA E N_t t_zs] h) n (inZ r) 0 0) 0 0 n (ov [a_t, (a_t + 1), (a_t + 2), (a_t + 3)] [.inr (8, fsX8 a_t t_many), IA E N_t t_xs, IA E N_t t_ys, IA E N_t t_zs] h) 83 [none, none, none, none, none] []) (hs : m_X8_haveEitherWay_85 N_t t_many t_xs t_ys t_zs v1 v2 v3 v4 ag k_91 k_45 k_83 = some r) : G l E b0 M_X8_haveEitherWay (fun _ => True) (ZM E b0 (some (vI r)) (ov [a_t, (a_t + 1), (a_t + 2), (a_t + 3)] [.inr (8, fsX8 a_t t_many), IA E N_t t_xs, IA E N_t t_ys, IA E N_t t_zs] h) n (inZ r) 0 0) 0 0 n (ov [a_t, (a_t + 1), (a_t + 2), (a_t + 3)] [.inr (8, fsX8 a_t t_many), IA E N_t t_xs, IA E N_t t_ys, IA E N_t t_zs] h) 85 [some (.ref a_t), some (vI v1), some (vI v2), some (vI v3), some (vI v4)] [] := by
  rw [m_X8_haveEitherWay_85] at hs
  refine g_iinc e_X8_haveEitherWay_85 rfl st1_4 rfl ?_
  refine g_goto e_X8_haveEitherWay_88 ?_
  obtain ⟨hc10, hs⟩ := chk_elim hs
  exact hag _ hc10 hs

noncomputable def m_X8_haveEitherWay_47 (N_t : Nat) (t_many : Int) (t_xs : Nat → Int) (t_ys : Nat → Int) (t_zs : Nat → Int) (v1 : Int) (v2 : Int) (v3 : Int) (v4 : Int) (ag : Int → Option (Int)) (k_91 : Int → Option (Int)) (k_45 : Int → Option (Int)) (k_83 : Int → Option (Int)) : Option (Int) :=
  chk (inB v4 N_t) (chk (inI (-v1)) (if (t_xs (Int.toNat v4)) = (-v1) then (chk (inB v4 N_t) (chk (inI (-v2)) (if (t_ys (Int.toNat v4)) = (-v2) then (chk (inB v4 N_t) (chk (inI (-v3)) (if (t_zs (Int.toNat v4)) = (-v3) then (some (1)) else (m_X8_haveEitherWay_85 N_t t_many t_xs t_ys t_zs v1 v2 v3 v4 ag k_91 k_45 k_83)))) else (m_X8_haveEitherWay_85 N_t t_many t_xs t_ys t_zs v1 v2 v3 v4 ag k_91 k_45 k_83)))) else (m_X8_haveEitherWay_85 N_t t_many t_xs t_ys t_zs v1 v2 v3 v4 ag k_91 k_45 k_83)))

set_option maxRecDepth 10000 in
theorem g_X8_haveEitherWay_47 {l : Launch} {E : EE} {b0 n : Nat} {h : AH} {a_t : Nat} {N_t : Nat} {t_many v1 v2 v3 v4 : Int} {t_xs t_ys t_zs : Nat → Int} {r : Int} {ag : Int → Option (Int)} {k_91 : Int → Option (Int)} {k_45 : Int → Option (Int)} {k_83 : Int → Option (Int)} (ao : AO b0 n [a_t, (a_t + 1), (a_t + 2), (a_t + 3)]) (hN_t : N_t ≤ 100000) (ok_t_many : inI t_many) (ok_t_xs : okA t_xs) (ok_t_ys : okA t_ys) (ok_t_zs : okA t_zs) (ok_v1 : inI v1) (ok_v2 : inI v2) (ok_v3 : inI v3) (ok_v4 : inI v4) (hag : ∀ (v4_ : Int), inI v4_ → ag v4_ = some r → G l E b0 M_X8_haveEitherWay (fun _ => True) (ZM E b0 (some (vI r)) (ov [a_t, (a_t + 1), (a_t + 2), (a_t + 3)] [.inr (8, fsX8 a_t t_many), IA E N_t t_xs, IA E N_t t_ys, IA E N_t t_zs] h) n (inZ r) 0 0) 0 0 n (ov [a_t, (a_t + 1), (a_t + 2), (a_t + 3)] [.inr (8, fsX8 a_t t_many), IA E N_t t_xs, IA E N_t t_ys, IA E N_t t_zs] h) 3 [some (.ref a_t), some (vI v1), some (vI v2), some (vI v3), some (vI v4_)] []) (hk_91 : ∀ (v4_ : Int), inI v4_ → k_91 v4_ = some r → G l E b0 M_X8_haveEitherWay (fun _ => True) (ZM E b0 (some (vI r)) (ov [a_t, (a_t + 1), (a_t + 2), (a_t + 3)] [.inr (8, fsX8 a_t t_many), IA E N_t t_xs, IA E N_t t_ys, IA E N_t t_zs] h) n (inZ r) 0 0) 0 0 n (ov [a_t, (a_t + 1), (a_t + 2), (a_t + 3)] [.inr (8, fsX8 a_t t_many), IA E N_t t_xs, IA E N_t t_ys, IA E N_t t_zs] h) 91 [none, none, none, none, none] []) (hk_45 : ∀ (v4_ : Int), inI v4_ → k_45 v4_ = some r → G l E b0 M_X8_haveEitherWay (fun _ => True) (ZM E b0 (some (vI r)) (ov [a_t, (a_t + 1), (a_t + 2), (a_t + 3)] [.inr (8, fsX8 a_t t_many), IA E N_t t_xs, IA E N_t t_ys, IA E N_t t_zs] h) n (inZ r) 0 0) 0 0 n (ov [a_t, (a_t + 1), (a_t + 2), (a_t + 3)] [.inr (8, fsX8 a_t t_many), IA E N_t t_xs, IA E N_t t_ys, IA E N_t t_zs] h) 45 [none, none, none, none, none] []) (hk_83 : ∀ (v4_ : Int), inI v4_ → k_83 v4_ = some r → G l E b0 M_X8_haveEitherWay (fun _ => True) (ZM E b0 (some (vI r)) (ov [a_t, (a_t + 1), (a_t + 2), (a_t + 3)] [.inr (8, fsX8 a_t t_many), IA E N_t t_xs, IA E N_t t_ys, IA E N_t t_zs] h) n (inZ r) 0 0) 0 0 n (ov [a_t, (a_t + 1), (a_t + 2), (a_t + 3)] [.inr (8, fsX8 a_t t_many), IA E N_t t_xs, IA E N_t t_ys, IA E N_t t_zs] h) 83 [none, none, none, none, none] []) (hs : m_X8_haveEitherWay_47 N_t t_many t_xs t_ys t_zs v1 v2 v3 v4 ag k_91 k_45 k_83 = some r) : G l E b0 M_X8_haveEitherWay (fun _ => True) (ZM E b0 (some (vI r)) (ov [a_t, (a_t + 1), (a_t + 2), (a_t + 3)] [.inr (8, fsX8 a_t t_many), IA E N_t t_xs, IA E N_t t_ys, IA E N_t t_zs] h) n (inZ r) 0 0) 0 0 n (ov [a_t, (a_t + 1), (a_t + 2), (a_t + 3)] [.inr (8, fsX8 a_t t_many), IA E N_t t_xs, IA E N_t t_ys, IA E N_t t_zs] h) 47 [some (.ref a_t), some (vI v1), some (vI v2), some (vI v3), some (vI v4)] [] := by
  rw [m_X8_haveEitherWay_47] at hs
  refine g_aload_n e_X8_haveEitherWay_47 rfl ?_
  refine g_get 0 0 ao rfl rfl fsX8_g0 fl_X8_13 e_X8_haveEitherWay_48 ?_
  refine g_iload e_X8_haveEitherWay_51 rfl ?_
  refine g_iald 1 ao rfl rfl (Nat.le_trans hN_t (Nat.le_of_ble_eq_true rfl)) e_X8_haveEitherWay_53 hs (fun hi4 hs => ?_)
  refine g_iload_n e_X8_haveEitherWay_54 rfl ?_
  refine g_ineg e_X8_haveEitherWay_55 ?_
  obtain ⟨hc5, hs⟩ := chk_elim hs
  refine g_icmp_ne e_X8_haveEitherWay_56 (ok_t_xs _) hc5 hs (fun c56 hs => ?_) (fun c56 hs => ?_)
  · refine g_aload_n e_X8_haveEitherWay_59 rfl ?_
    refine g_get 0 1 ao rfl rfl fsX8_g1 fl_X8_19 e_X8_haveEitherWay_60 ?_
    refine g_iload e_X8_haveEitherWay_63 rfl ?_
    refine g_iald 2 ao rfl rfl (Nat.le_trans hN_t (Nat.le_of_ble_eq_true rfl)) e_X8_haveEitherWay_65 hs (fun hi6 hs => ?_)
    refine g_iload_n e_X8_haveEitherWay_66 rfl ?_
    refine g_ineg e_X8_haveEitherWay_67 ?_
    obtain ⟨hc7, hs⟩ := chk_elim hs
    refine g_icmp_ne e_X8_haveEitherWay_68 (ok_t_ys _) hc7 hs (fun c68 hs => ?_) (fun c68 hs => ?_)
    · refine g_aload_n e_X8_haveEitherWay_71 rfl ?_
      refine g_get 0 2 ao rfl rfl fsX8_g2 fl_X8_22 e_X8_haveEitherWay_72 ?_
      refine g_iload e_X8_haveEitherWay_75 rfl ?_
      refine g_iald 3 ao rfl rfl (Nat.le_trans hN_t (Nat.le_of_ble_eq_true rfl)) e_X8_haveEitherWay_77 hs (fun hi8 hs => ?_)
      refine g_iload_n e_X8_haveEitherWay_78 rfl ?_
      refine g_ineg e_X8_haveEitherWay_79 ?_
      obtain ⟨hc9, hs⟩ := chk_elim hs
      refine g_icmp_ne e_X8_haveEitherWay_80 (ok_t_zs _) hc9 hs (fun c80 hs => ?_) (fun c80 hs => ?_)
      · refine g_iconst e_X8_haveEitherWay_83 ?_
        obtain rfl := Option.some.inj hs
        exact g_zret rfl (by decide : inZ 1) (by decide : inZ 1) e_X8_haveEitherWay_84
      · exact g_X8_haveEitherWay_85 ao hN_t ok_t_many ok_t_xs ok_t_ys ok_t_zs ok_v1 ok_v2 ok_v3 ok_v4 hag hk_91 hk_45 hk_83 hs
    · exact g_X8_haveEitherWay_85 ao hN_t ok_t_many ok_t_xs ok_t_ys ok_t_zs ok_v1 ok_v2 ok_v3 ok_v4 hag hk_91 hk_45 hk_83 hs
  · exact g_X8_haveEitherWay_85 ao hN_t ok_t_many ok_t_xs ok_t_ys ok_t_zs ok_v1 ok_v2 ok_v3 ok_v4 hag hk_91 hk_45 hk_83 hs

noncomputable def m_X8_haveEitherWay_3 (N_t : Nat) (t_many : Int) (t_xs : Nat → Int) (t_ys : Nat → Int) (t_zs : Nat → Int) (v1 : Int) (v2 : Int) (v3 : Int) (k_91 : Int → Option (Int)) (k_45 : Int → Option (Int)) (k_83 : Int → Option (Int)) : Nat → Int → Option (Int)
  | 0, _ => none
  | F + 1, v4 => if t_many ≤ v4 then (some (0)) else (chk (inB v4 N_t) (if (t_xs (Int.toNat v4)) = v1 then (chk (inB v4 N_t) (if (t_ys (Int.toNat v4)) = v2 then (chk (inB v4 N_t) (if (t_zs (Int.toNat v4)) = v3 then (some (1)) else (m_X8_haveEitherWay_47 N_t t_many t_xs t_ys t_zs v1 v2 v3 v4 (m_X8_haveEitherWay_3 N_t t_many t_xs t_ys t_zs v1 v2 v3 k_91 k_45 k_83 F) k_91 k_45 k_83))) else (m_X8_haveEitherWay_47 N_t t_many t_xs t_ys t_zs v1 v2 v3 v4 (m_X8_haveEitherWay_3 N_t t_many t_xs t_ys t_zs v1 v2 v3 k_91 k_45 k_83 F) k_91 k_45 k_83))) else (m_X8_haveEitherWay_47 N_t t_many t_xs t_ys t_zs v1 v2 v3 v4 (m_X8_haveEitherWay_3 N_t t_many t_xs t_ys t_zs v1 v2 v3 k_91 k_45 k_83 F) k_91 k_45 k_83)))

set_option maxRecDepth 10000 in
theorem g_X8_haveEitherWay_3 {l : Launch} {E : EE} {b0 n : Nat} {h : AH} {a_t : Nat} {N_t : Nat} {t_many v1 v2 v3 : Int} {t_xs t_ys t_zs : Nat → Int} {r : Int} {k_91 : Int → Option (Int)} {k_45 : Int → Option (Int)} {k_83 : Int → Option (Int)} (ao : AO b0 n [a_t, (a_t + 1), (a_t + 2), (a_t + 3)]) (hN_t : N_t ≤ 100000) (ok_t_many : inI t_many) (ok_t_xs : okA t_xs) (ok_t_ys : okA t_ys) (ok_t_zs : okA t_zs) (ok_v1 : inI v1) (ok_v2 : inI v2) (ok_v3 : inI v3) (hk_91 : ∀ (v4_ : Int), inI v4_ → k_91 v4_ = some r → G l E b0 M_X8_haveEitherWay (fun _ => True) (ZM E b0 (some (vI r)) (ov [a_t, (a_t + 1), (a_t + 2), (a_t + 3)] [.inr (8, fsX8 a_t t_many), IA E N_t t_xs, IA E N_t t_ys, IA E N_t t_zs] h) n (inZ r) 0 0) 0 0 n (ov [a_t, (a_t + 1), (a_t + 2), (a_t + 3)] [.inr (8, fsX8 a_t t_many), IA E N_t t_xs, IA E N_t t_ys, IA E N_t t_zs] h) 91 [none, none, none, none, none] []) (hk_45 : ∀ (v4_ : Int), inI v4_ → k_45 v4_ = some r → G l E b0 M_X8_haveEitherWay (fun _ => True) (ZM E b0 (some (vI r)) (ov [a_t, (a_t + 1), (a_t + 2), (a_t + 3)] [.inr (8, fsX8 a_t t_many), IA E N_t t_xs, IA E N_t t_ys, IA E N_t t_zs] h) n (inZ r) 0 0) 0 0 n (ov [a_t, (a_t + 1), (a_t + 2), (a_t + 3)] [.inr (8, fsX8 a_t t_many), IA E N_t t_xs, IA E N_t t_ys, IA E N_t t_zs] h) 45 [none, none, none, none, none] []) (hk_83 : ∀ (v4_ : Int), inI v4_ → k_83 v4_ = some r → G l E b0 M_X8_haveEitherWay (fun _ => True) (ZM E b0 (some (vI r)) (ov [a_t, (a_t + 1), (a_t + 2), (a_t + 3)] [.inr (8, fsX8 a_t t_many), IA E N_t t_xs, IA E N_t t_ys, IA E N_t t_zs] h) n (inZ r) 0 0) 0 0 n (ov [a_t, (a_t + 1), (a_t + 2), (a_t + 3)] [.inr (8, fsX8 a_t t_many), IA E N_t t_xs, IA E N_t t_ys, IA E N_t t_zs] h) 83 [none, none, none, none, none] []) :
    ∀ (F : Nat) (v4 : Int), inI v4 → m_X8_haveEitherWay_3 N_t t_many t_xs t_ys t_zs v1 v2 v3 k_91 k_45 k_83 F v4 = some r → G l E b0 M_X8_haveEitherWay (fun _ => True) (ZM E b0 (some (vI r)) (ov [a_t, (a_t + 1), (a_t + 2), (a_t + 3)] [.inr (8, fsX8 a_t t_many), IA E N_t t_xs, IA E N_t t_ys, IA E N_t t_zs] h) n (inZ r) 0 0) 0 0 n (ov [a_t, (a_t + 1), (a_t + 2), (a_t + 3)] [.inr (8, fsX8 a_t t_many), IA E N_t t_xs, IA E N_t t_ys, IA E N_t t_zs] h) 3 [some (.ref a_t), some (vI v1), some (vI v2), some (vI v3), some (vI v4)] [] := by
  intro F
  induction F with
  | zero =>
    intro v4 ok_v4 hs
    rw [m_X8_haveEitherWay_3] at hs
    cases hs
  | succ F ih =>
    intro v4 ok_v4 hs
    rw [m_X8_haveEitherWay_3] at hs
    refine g_iload e_X8_haveEitherWay_3 rfl ?_
    refine g_aload_n e_X8_haveEitherWay_5 rfl ?_
    refine g_get 0 3 ao rfl rfl fsX8_g3 fl_X8_25 e_X8_haveEitherWay_6 ?_
    refine g_icmp_ge e_X8_haveEitherWay_9 ok_v4 ok_t_many hs (fun c9 hs => ?_) (fun c9 hs => ?_)
    · refine g_iconst e_X8_haveEitherWay_91 ?_
      obtain rfl := Option.some.inj hs
      exact g_zret rfl (by decide : inZ 0) (by decide : inZ 0) e_X8_haveEitherWay_92
    · refine g_aload_n e_X8_haveEitherWay_12 rfl ?_
      refine g_get 0 0 ao rfl rfl fsX8_g0 fl_X8_13 e_X8_haveEitherWay_13 ?_
      refine g_iload e_X8_haveEitherWay_16 rfl ?_
      refine g_iald 1 ao rfl rfl (Nat.le_trans hN_t (Nat.le_of_ble_eq_true rfl)) e_X8_haveEitherWay_18 hs (fun hi1 hs => ?_)
      refine g_iload_n e_X8_haveEitherWay_19 rfl ?_
      refine g_icmp_ne e_X8_haveEitherWay_20 (ok_t_xs _) ok_v1 hs (fun c20 hs => ?_) (fun c20 hs => ?_)
      · refine g_aload_n e_X8_haveEitherWay_23 rfl ?_
        refine g_get 0 1 ao rfl rfl fsX8_g1 fl_X8_19 e_X8_haveEitherWay_24 ?_
        refine g_iload e_X8_haveEitherWay_27 rfl ?_
        refine g_iald 2 ao rfl rfl (Nat.le_trans hN_t (Nat.le_of_ble_eq_true rfl)) e_X8_haveEitherWay_29 hs (fun hi2 hs => ?_)
        refine g_iload_n e_X8_haveEitherWay_30 rfl ?_
        refine g_icmp_ne e_X8_haveEitherWay_31 (ok_t_ys _) ok_v2 hs (fun c31 hs => ?_) (fun c31 hs => ?_)
        · refine g_aload_n e_X8_haveEitherWay_34 rfl ?_
          refine g_get 0 2 ao rfl rfl fsX8_g2 fl_X8_22 e_X8_haveEitherWay_35 ?_
          refine g_iload e_X8_haveEitherWay_38 rfl ?_
          refine g_iald 3 ao rfl rfl (Nat.le_trans hN_t (Nat.le_of_ble_eq_true rfl)) e_X8_haveEitherWay_40 hs (fun hi3 hs => ?_)
          refine g_iload_n e_X8_haveEitherWay_41 rfl ?_
          refine g_icmp_ne e_X8_haveEitherWay_42 (ok_t_zs _) ok_v3 hs (fun c42 hs => ?_) (fun c42 hs => ?_)
          · refine g_iconst e_X8_haveEitherWay_45 ?_
            obtain rfl := Option.some.inj hs
            exact g_zret rfl (by decide : inZ 1) (by decide : inZ 1) e_X8_haveEitherWay_46
          · exact g_X8_haveEitherWay_47 ao hN_t ok_t_many ok_t_xs ok_t_ys ok_t_zs ok_v1 ok_v2 ok_v3 ok_v4 ih hk_91 hk_45 hk_83 hs
        · exact g_X8_haveEitherWay_47 ao hN_t ok_t_many ok_t_xs ok_t_ys ok_t_zs ok_v1 ok_v2 ok_v3 ok_v4 ih hk_91 hk_45 hk_83 hs
      · exact g_X8_haveEitherWay_47 ao hN_t ok_t_many ok_t_xs ok_t_ys ok_t_zs ok_v1 ok_v2 ok_v3 ok_v4 ih hk_91 hk_45 hk_83 hs

noncomputable def m_X8_haveEitherWay_91 (N_t : Nat) : Option (Int) :=
  some (0)

set_option maxRecDepth 10000 in
theorem g_X8_haveEitherWay_91 {l : Launch} {E : EE} {b0 n : Nat} {h : AH} {a_t : Nat} {N_t : Nat} {t_many : Int} {t_xs t_ys t_zs : Nat → Int} {r : Int} (ao : AO b0 n [a_t, (a_t + 1), (a_t + 2), (a_t + 3)]) (hN_t : N_t ≤ 100000) (ok_t_many : inI t_many) (ok_t_xs : okA t_xs) (ok_t_ys : okA t_ys) (ok_t_zs : okA t_zs) (hs : m_X8_haveEitherWay_91 N_t = some r) : G l E b0 M_X8_haveEitherWay (fun _ => True) (ZM E b0 (some (vI r)) (ov [a_t, (a_t + 1), (a_t + 2), (a_t + 3)] [.inr (8, fsX8 a_t t_many), IA E N_t t_xs, IA E N_t t_ys, IA E N_t t_zs] h) n (inZ r) 0 0) 0 0 n (ov [a_t, (a_t + 1), (a_t + 2), (a_t + 3)] [.inr (8, fsX8 a_t t_many), IA E N_t t_xs, IA E N_t t_ys, IA E N_t t_zs] h) 91 [none, none, none, none, none] [] := by
  rw [m_X8_haveEitherWay_91] at hs
  refine g_iconst e_X8_haveEitherWay_91 ?_
  obtain rfl := Option.some.inj hs
  exact g_zret rfl (by decide : inZ 0) (by decide : inZ 0) e_X8_haveEitherWay_92

noncomputable def m_X8_haveEitherWay_45 (N_t : Nat) : Option (Int) :=
  some (1)

set_option maxRecDepth 10000 in
theorem g_X8_haveEitherWay_45 {l : Launch} {E : EE} {b0 n : Nat} {h : AH} {a_t : Nat} {N_t : Nat} {t_many : Int} {t_xs t_ys t_zs : Nat → Int} {r : Int} (ao : AO b0 n [a_t, (a_t + 1), (a_t + 2), (a_t + 3)]) (hN_t : N_t ≤ 100000) (ok_t_many : inI t_many) (ok_t_xs : okA t_xs) (ok_t_ys : okA t_ys) (ok_t_zs : okA t_zs) (hs : m_X8_haveEitherWay_45 N_t = some r) : G l E b0 M_X8_haveEitherWay (fun _ => True) (ZM E b0 (some (vI r)) (ov [a_t, (a_t + 1), (a_t + 2), (a_t + 3)] [.inr (8, fsX8 a_t t_many), IA E N_t t_xs, IA E N_t t_ys, IA E N_t t_zs] h) n (inZ r) 0 0) 0 0 n (ov [a_t, (a_t + 1), (a_t + 2), (a_t + 3)] [.inr (8, fsX8 a_t t_many), IA E N_t t_xs, IA E N_t t_ys, IA E N_t t_zs] h) 45 [none, none, none, none, none] [] := by
  rw [m_X8_haveEitherWay_45] at hs
  refine g_iconst e_X8_haveEitherWay_45 ?_
  obtain rfl := Option.some.inj hs
  exact g_zret rfl (by decide : inZ 1) (by decide : inZ 1) e_X8_haveEitherWay_46

noncomputable def m_X8_haveEitherWay_83 (N_t : Nat) : Option (Int) :=
  some (1)

set_option maxRecDepth 10000 in
theorem g_X8_haveEitherWay_83 {l : Launch} {E : EE} {b0 n : Nat} {h : AH} {a_t : Nat} {N_t : Nat} {t_many : Int} {t_xs t_ys t_zs : Nat → Int} {r : Int} (ao : AO b0 n [a_t, (a_t + 1), (a_t + 2), (a_t + 3)]) (hN_t : N_t ≤ 100000) (ok_t_many : inI t_many) (ok_t_xs : okA t_xs) (ok_t_ys : okA t_ys) (ok_t_zs : okA t_zs) (hs : m_X8_haveEitherWay_83 N_t = some r) : G l E b0 M_X8_haveEitherWay (fun _ => True) (ZM E b0 (some (vI r)) (ov [a_t, (a_t + 1), (a_t + 2), (a_t + 3)] [.inr (8, fsX8 a_t t_many), IA E N_t t_xs, IA E N_t t_ys, IA E N_t t_zs] h) n (inZ r) 0 0) 0 0 n (ov [a_t, (a_t + 1), (a_t + 2), (a_t + 3)] [.inr (8, fsX8 a_t t_many), IA E N_t t_xs, IA E N_t t_ys, IA E N_t t_zs] h) 83 [none, none, none, none, none] [] := by
  rw [m_X8_haveEitherWay_83] at hs
  refine g_iconst e_X8_haveEitherWay_83 ?_
  obtain rfl := Option.some.inj hs
  exact g_zret rfl (by decide : inZ 1) (by decide : inZ 1) e_X8_haveEitherWay_84

noncomputable def m_X8_haveEitherWay_0 (N_t : Nat) (t_many : Int) (t_xs : Nat → Int) (t_ys : Nat → Int) (t_zs : Nat → Int) (v1 : Int) (v2 : Int) (v3 : Int) : Option (Int) :=
  m_X8_haveEitherWay_3 N_t t_many t_xs t_ys t_zs v1 v2 v3 (fun v4' => m_X8_haveEitherWay_91 N_t) (fun v4' => m_X8_haveEitherWay_45 N_t) (fun v4' => m_X8_haveEitherWay_83 N_t) FU 0

set_option maxRecDepth 10000 in
theorem g_X8_haveEitherWay_0 {l : Launch} {E : EE} {b0 n : Nat} {h : AH} {a_t : Nat} {N_t : Nat} {t_many v1 v2 v3 : Int} {t_xs t_ys t_zs : Nat → Int} {r : Int} (ao : AO b0 n [a_t, (a_t + 1), (a_t + 2), (a_t + 3)]) (hN_t : N_t ≤ 100000) (ok_t_many : inI t_many) (ok_t_xs : okA t_xs) (ok_t_ys : okA t_ys) (ok_t_zs : okA t_zs) (ok_v1 : inI v1) (ok_v2 : inI v2) (ok_v3 : inI v3) (hs : m_X8_haveEitherWay_0 N_t t_many t_xs t_ys t_zs v1 v2 v3 = some r) : G l E b0 M_X8_haveEitherWay (fun _ => True) (ZM E b0 (some (vI r)) (ov [a_t, (a_t + 1), (a_t + 2), (a_t + 3)] [.inr (8, fsX8 a_t t_many), IA E N_t t_xs, IA E N_t t_ys, IA E N_t t_zs] h) n (inZ r) 0 0) 0 0 n (ov [a_t, (a_t + 1), (a_t + 2), (a_t + 3)] [.inr (8, fsX8 a_t t_many), IA E N_t t_xs, IA E N_t t_ys, IA E N_t t_zs] h) 0 [some (.ref a_t), some (vI v1), some (vI v2), some (vI v3), none] [] := by
  rw [m_X8_haveEitherWay_0] at hs
  refine g_iconst e_X8_haveEitherWay_0 ?_
  refine g_istore e_X8_haveEitherWay_1 st1_4 rfl ?_
  exact g_X8_haveEitherWay_3 ao hN_t ok_t_many ok_t_xs ok_t_ys ok_t_zs ok_v1 ok_v2 ok_v3 (hk_91 := by
      intro v4' ok_v4' hs
      exact g_X8_haveEitherWay_91 ao hN_t ok_t_many ok_t_xs ok_t_ys ok_t_zs hs) (hk_45 := by
      intro v4' ok_v4' hs
      exact g_X8_haveEitherWay_45 ao hN_t ok_t_many ok_t_xs ok_t_ys ok_t_zs hs) (hk_83 := by
      intro v4' ok_v4' hs
      exact g_X8_haveEitherWay_83 ao hN_t ok_t_many ok_t_xs ok_t_ys ok_t_zs hs) FU _ (by decide : inI 0) hs

noncomputable def m_X8_haveEitherWay (N_t : Nat) (t_many : Int) (t_xs : Nat → Int) (t_ys : Nat → Int) (t_zs : Nat → Int) (v1 : Int) (v2 : Int) (v3 : Int) : Option (Int) := m_X8_haveEitherWay_0 N_t t_many t_xs t_ys t_zs v1 v2 v3

set_option maxRecDepth 10000 in
theorem ct_X8_haveEitherWay {l : Launch} {E : EE} {b0 n : Nat} {h : AH} {a_t : Nat} {N_t : Nat} {t_many : Int} {t_xs t_ys t_zs : Nat → Int} {v1 v2 v3 : Int} (ao : AO b0 n [a_t, (a_t + 1), (a_t + 2), (a_t + 3)]) (hN_t : N_t ≤ 100000) (hf : FA h [a_t, (a_t + 1), (a_t + 2), (a_t + 3)] [.inr (8, fsX8 a_t t_many), IA E N_t t_xs, IA E N_t t_ys, IA E N_t t_zs]) (ok_t_many : inI t_many) (ok_t_xs : okA t_xs) (ok_t_ys : okA t_ys) (ok_t_zs : okA t_zs) (ok_v1 : inI v1) (ok_v2 : inI v2) (ok_v3 : inI v3) {r : Int} (hm : m_X8_haveEitherWay N_t t_many t_xs t_ys t_zs v1 v2 v3 = some r) : Ct l E b0 M_X8_haveEitherWay 0 0 [.ref a_t, vI v1, vI v2, vI v3] h n (some (vI r)) h n (inZ r) := by
  rw [m_X8_haveEitherWay] at hm
  have hg : G l E b0 M_X8_haveEitherWay (fun _ => True) (ZM E b0 (some (vI r)) (ov [a_t, (a_t + 1), (a_t + 2), (a_t + 3)] [.inr (8, fsX8 a_t t_many), IA E N_t t_xs, IA E N_t t_ys, IA E N_t t_zs] h) n (inZ r) 0 0) 0 0 n (ov [a_t, (a_t + 1), (a_t + 2), (a_t + 3)] [.inr (8, fsX8 a_t t_many), IA E N_t t_xs, IA E N_t t_ys, IA E N_t t_zs] h) 0 [some (.ref a_t), some (vI v1), some (vI v2), some (vI v3), none] [] := by
    have hs := hm
    exact g_X8_haveEitherWay_0 ao hN_t ok_t_many ok_t_xs ok_t_ys ok_t_zs ok_v1 ok_v2 ok_v3 hs
  rw [FA_id hf] at hg
  exact Ct_of [some (.ref a_t), some (vI v1), some (vI v2), some (vI v3), none] ⟨by decide +kernel, rfl⟩ rfl (Nat.le_of_ble_eq_true rfl) hg

/-! ===== J7_fill_53178 ===== -/
theorem e_J7_fill_53178_0 : DC cJ7_fill_53178 0 (.iconst 0) 1 1 := ⟨by decide +kernel, rfl⟩
theorem e_J7_fill_53178_1 : DC cJ7_fill_53178 1 (.istore_n 2) 1 2 := ⟨by decide +kernel, rfl⟩
theorem e_J7_fill_53178_2 : DC cJ7_fill_53178 2 (.aload_n 0) 1 3 := ⟨by decide +kernel, rfl⟩
theorem e_J7_fill_53178_3 : DC cJ7_fill_53178 3 (.arraylength) 1 4 := ⟨by decide +kernel, rfl⟩
theorem e_J7_fill_53178_4 : DC cJ7_fill_53178 4 (.istore_n 3) 1 5 := ⟨by decide +kernel, rfl⟩
theorem e_J7_fill_53178_5 : DC cJ7_fill_53178 5 (.iload_n 2) 1 6 := ⟨by decide +kernel, rfl⟩
theorem e_J7_fill_53178_6 : DC cJ7_fill_53178 6 (.iload_n 3) 1 7 := ⟨by decide +kernel, rfl⟩
theorem e_J7_fill_53178_7 : DB cJ7_fill_53178 7 (.if_icmp .ge 13) (13) 3 10 20 := ⟨by decide +kernel, rfl, rfl⟩
theorem e_J7_fill_53178_10 : DC cJ7_fill_53178 10 (.aload_n 0) 1 11 := ⟨by decide +kernel, rfl⟩
theorem e_J7_fill_53178_11 : DC cJ7_fill_53178 11 (.iload_n 2) 1 12 := ⟨by decide +kernel, rfl⟩
theorem e_J7_fill_53178_12 : DC cJ7_fill_53178 12 (.iload_n 1) 1 13 := ⟨by decide +kernel, rfl⟩
theorem e_J7_fill_53178_13 : DC cJ7_fill_53178 13 (.iastore) 1 14 := ⟨by decide +kernel, rfl⟩
theorem e_J7_fill_53178_14 : DC cJ7_fill_53178 14 (.iinc 2 1) 3 17 := ⟨by decide +kernel, rfl⟩
theorem e_J7_fill_53178_17 : DB cJ7_fill_53178 17 (.goto (-12)) (-12) 3 20 5 := ⟨by decide +kernel, rfl, rfl⟩
theorem e_J7_fill_53178_20 : DC cJ7_fill_53178 20 (.return_) 1 21 := ⟨by decide +kernel, rfl⟩
noncomputable def m_J7_fill_53178_5 (N_p0 : Nat) (v1 : Int) (v3 : Int) (k_20 : (Nat → Int) → Int → Option ((Nat → Int))) : Nat → (Nat → Int) → Int → Option ((Nat → Int))
  | 0, _, _ => none
  | F + 1, p0_a, v2 => if v3 ≤ v2 then (some (p0_a)) else (chk (inB v2 N_p0) (chk (inI (v2 + 1)) (m_J7_fill_53178_5 N_p0 v1 v3 k_20 F (up p0_a (Int.toNat v2) v1) (v2 + 1))))

set_option maxRecDepth 10000 in
theorem g_J7_fill_53178_5 {l : Launch} {E : EE} {b0 n : Nat} {h : AH} {a_p0 : Nat} {N_p0 : Nat} {v1 v3 : Int} {r : (Nat → Int)} {k_20 : (Nat → Int) → Int → Option ((Nat → Int))} (ao : AO b0 n [a_p0]) (hN_p0 : N_p0 ≤ 100000) (ok_v1 : inI v1) (ok_v3 : inI v3) (hk_20 : ∀ (p0_a_ : Nat → Int) (v2_ : Int), okA p0_a_ → inI v2_ → k_20 p0_a_ v2_ = some r → G l E b0 M_J7_fill_53178 (fun _ => True) (ZM E b0 (none) (ov [a_p0] [IA E N_p0 r] h) n (okA r) 0 0) 0 0 n (ov [a_p0] [IA E N_p0 p0_a_] h) 20 [none, none, none, none] []) :
    ∀ (F : Nat) (p0_a : Nat → Int) (v2 : Int), okA p0_a → inI v2 → m_J7_fill_53178_5 N_p0 v1 v3 k_20 F p0_a v2 = some r → G l E b0 M_J7_fill_53178 (fun _ => True) (ZM E b0 (none) (ov [a_p0] [IA E N_p0 r] h) n (okA r) 0 0) 0 0 n (ov [a_p0] [IA E N_p0 p0_a] h) 5 [some (.ref a_p0), some (vI v1), some (vI v2), some (vI v3)] [] := by
  intro F
  induction F with
  | zero =>
    intro p0_a v2 ok_p0_a ok_v2 hs
    rw [m_J7_fill_53178_5] at hs
    cases hs
  | succ F ih =>
    intro p0_a v2 ok_p0_a ok_v2 hs
    rw [m_J7_fill_53178_5] at hs
    refine g_iload_n e_J7_fill_53178_5 rfl ?_
    refine g_iload_n e_J7_fill_53178_6 rfl ?_
    refine g_icmp_ge e_J7_fill_53178_7 ok_v2 ok_v3 hs (fun c7 hs => ?_) (fun c7 hs => ?_)
    · obtain rfl := Option.some.inj hs
      exact g_vret rfl ok_p0_a e_J7_fill_53178_20
    · refine g_aload_n e_J7_fill_53178_10 rfl ?_
      refine g_iload_n e_J7_fill_53178_11 rfl ?_
      refine g_iload_n e_J7_fill_53178_12 rfl ?_
      refine g_iast 0 ao rfl rfl ls_0 (Nat.le_trans hN_p0 (Nat.le_of_ble_eq_true rfl)) e_J7_fill_53178_13 hs (fun hi1 hs => ?_)
      refine g_iinc e_J7_fill_53178_14 rfl st1_2 rfl ?_
      refine g_goto e_J7_fill_53178_17 ?_
      obtain ⟨hc2, hs⟩ := chk_elim hs
      exact ih _ _ (okA_up ok_p0_a ok_v1) hc2 hs

noncomputable def m_J7_fill_53178_20 (N_p0 : Nat) (p0_a : Nat → Int) : Option ((Nat → Int)) :=
  some (p0_a)

set_option maxRecDepth 10000 in
theorem g_J7_fill_53178_20 {l : Launch} {E : EE} {b0 n : Nat} {h : AH} {a_p0 : Nat} {N_p0 : Nat} {p0_a : Nat → Int} {r : (Nat → Int)} (ao : AO b0 n [a_p0]) (hN_p0 : N_p0 ≤ 100000) (ok_p0_a : okA p0_a) (hs : m_J7_fill_53178_20 N_p0 p0_a = some r) : G l E b0 M_J7_fill_53178 (fun _ => True) (ZM E b0 (none) (ov [a_p0] [IA E N_p0 r] h) n (okA r) 0 0) 0 0 n (ov [a_p0] [IA E N_p0 p0_a] h) 20 [none, none, none, none] [] := by
  rw [m_J7_fill_53178_20] at hs
  obtain rfl := Option.some.inj hs
  exact g_vret rfl ok_p0_a e_J7_fill_53178_20

noncomputable def m_J7_fill_53178_0 (N_p0 : Nat) (p0_a : Nat → Int) (v1 : Int) : Option ((Nat → Int)) :=
  m_J7_fill_53178_5 N_p0 v1 ((N_p0 : Nat) : Int) (fun p0_a' v2' => m_J7_fill_53178_20 N_p0 p0_a') FU p0_a 0

set_option maxRecDepth 10000 in
theorem g_J7_fill_53178_0 {l : Launch} {E : EE} {b0 n : Nat} {h : AH} {a_p0 : Nat} {N_p0 : Nat} {v1 : Int} {p0_a : Nat → Int} {r : (Nat → Int)} (ao : AO b0 n [a_p0]) (hN_p0 : N_p0 ≤ 100000) (ok_p0_a : okA p0_a) (ok_v1 : inI v1) (hs : m_J7_fill_53178_0 N_p0 p0_a v1 = some r) : G l E b0 M_J7_fill_53178 (fun _ => True) (ZM E b0 (none) (ov [a_p0] [IA E N_p0 r] h) n (okA r) 0 0) 0 0 n (ov [a_p0] [IA E N_p0 p0_a] h) 0 [some (.ref a_p0), some (vI v1), none, none] [] := by
  rw [m_J7_fill_53178_0] at hs
  refine g_iconst e_J7_fill_53178_0 ?_
  refine g_istore_n e_J7_fill_53178_1 st1_2 rfl ?_
  refine g_aload_n e_J7_fill_53178_2 rfl ?_
  refine g_alen 0 ao rfl (Or.inl rfl) e_J7_fill_53178_3 ?_
  refine g_istore_n e_J7_fill_53178_4 st1_3 rfl ?_
  exact g_J7_fill_53178_5 ao hN_p0 ok_v1 (by constructor <;> omega) (hk_20 := by
      intro p0_a' v2' ok_p0_a' ok_v2' hs
      exact g_J7_fill_53178_20 ao hN_p0 ok_p0_a' hs) FU _ _ ok_p0_a (by decide : inI 0) hs

noncomputable def m_J7_fill_53178 (N_p0 : Nat) (p0_a : Nat → Int) (v1 : Int) : Option ((Nat → Int)) := m_J7_fill_53178_0 N_p0 p0_a v1

set_option maxRecDepth 10000 in
theorem ct_J7_fill_53178 {l : Launch} {E : EE} {b0 n : Nat} {h : AH} {a_p0 : Nat} {N_p0 : Nat} {p0_a : Nat → Int} {v1 : Int} (ao : AO b0 n [a_p0]) (hN_p0 : N_p0 ≤ 100000) (hf : FA h [a_p0] [IA E N_p0 p0_a]) (ok_p0_a : okA p0_a) (ok_v1 : inI v1) {r : (Nat → Int)} (hm : m_J7_fill_53178 N_p0 p0_a v1 = some r) : Ct l E b0 M_J7_fill_53178 0 0 [.ref a_p0, vI v1] h n (none) (ov [a_p0] [IA E N_p0 r] h) n (okA r) := by
  rw [m_J7_fill_53178] at hm
  have hg : G l E b0 M_J7_fill_53178 (fun _ => True) (ZM E b0 (none) (ov [a_p0] [IA E N_p0 r] h) n (okA r) 0 0) 0 0 n (ov [a_p0] [IA E N_p0 p0_a] h) 0 [some (.ref a_p0), some (vI v1), none, none] [] := by
    have hs := hm
    exact g_J7_fill_53178_0 ao hN_p0 ok_p0_a ok_v1 hs
  rw [FA_id hf] at hg
  exact Ct_of [some (.ref a_p0), some (vI v1), none, none] ⟨by decide +kernel, rfl⟩ rfl (Nat.le_of_ble_eq_true rfl) hg


def M_X0_forgetOldest : MB := (yX0_forgetOldest, cX0_forgetOldest, 3, none, ({ frames := 1, cells := 0, slots := 0, locals := 40 } : Room), RX0)
def M_X0_keep : MB := (yX0_keep, cX0_keep, 2, none, ({ frames := 7, cells := 0, slots := 0, locals := 135 } : Room), RX0)
def M_X0_goBack : MB := (yX0_goBack, cX0_goBack, 2, (some .boolean), ({ frames := 7, cells := 0, slots := 0, locals := 135 } : Room), RX0)
def M_X0_goOn : MB := (yX0_goOn, cX0_goOn, 2, (some .boolean), ({ frames := 7, cells := 0, slots := 0, locals := 135 } : Room), RX0)
theorem cb_X0_forgetOldest : CB M_X0_forgetOldest 0 := ⟨GW_of 1014 (by decide +kernel) (by decide +kernel), GW_of 91 (by decide +kernel) (by decide +kernel), by decide +kernel, by decide +kernel, by decide +kernel⟩
theorem cb_X6_becomes : CB M_X6_becomes 1 := ⟨GW_of 1018 (by decide +kernel) (by decide +kernel), GW_of 90 (by decide +kernel) (by decide +kernel), by decide +kernel, by decide +kernel, by decide +kernel⟩
theorem fl_X0_11 : FL RX0 11 0 0 := ⟨RX0, TX0, 3, rfl, by decide, rfl, Or.inl (GW_of 299 (by decide +kernel) (by decide +kernel))⟩
theorem fw_X0_18 : FW RX0 18 0 1 false .int := ⟨RX0, TX0, 3, rfl, by decide, rfl, rfl, by decide +kernel, Or.inl (GW_of 300 (by decide +kernel) (by decide +kernel)), fun h => by cases h⟩
theorem fl_X0_18 : FL RX0 18 0 1 := ⟨RX0, TX0, 3, rfl, by decide, rfl, Or.inl (GW_of 300 (by decide +kernel) (by decide +kernel))⟩
theorem fw_X0_25 : FW RX0 25 0 2 false .int := ⟨RX0, TX0, 3, rfl, by decide, rfl, rfl, by decide +kernel, Or.inl (GW_of 302 (by decide +kernel) (by decide +kernel)), fun h => by cases h⟩
theorem fl_X0_25 : FL RX0 25 0 2 := ⟨RX0, TX0, 3, rfl, by decide, rfl, Or.inl (GW_of 302 (by decide +kernel) (by decide +kernel))⟩
theorem cv_X0_28 : CV RX0 28 M_X6_becomes 1 := ⟨cb_X6_becomes, Or.inl (GW_of 1015 (by decide +kernel) (by decide +kernel)), GW_of 1016 (by decide +kernel) (by decide +kernel), GW_of 1017 (by decide +kernel) (by decide +kernel)⟩
theorem cv_X0_22 : CV RX0 22 M_X0_forgetOldest 0 := ⟨cb_X0_forgetOldest, Or.inl (GW_of 1011 (by decide +kernel) (by decide +kernel)), GW_of 1013 (by decide +kernel) (by decide +kernel), GW_of 22 (by decide +kernel) (by decide +kernel)⟩
/-! ===== X0_forgetOldest ===== -/
theorem e_X0_forgetOldest_0 : DC cX0_forgetOldest 0 (.aload_n 0) 1 1 := ⟨by decide +kernel, rfl⟩
theorem e_X0_forgetOldest_1 : DC cX0_forgetOldest 1 (.getfield 11) 3 4 := ⟨by decide +kernel, rfl⟩
theorem e_X0_forgetOldest_4 : DC cX0_forgetOldest 4 (.iconst 0) 1 5 := ⟨by decide +kernel, rfl⟩
theorem e_X0_forgetOldest_5 : DC cX0_forgetOldest 5 (.aaload) 1 6 := ⟨by decide +kernel, rfl⟩
theorem e_X0_forgetOldest_6 : DC cX0_forgetOldest 6 (.astore_n 1) 1 7 := ⟨by decide +kernel, rfl⟩
theorem e_X0_forgetOldest_7 : DC cX0_forgetOldest 7 (.iconst 0) 1 8 := ⟨by decide +kernel, rfl⟩
theorem e_X0_forgetOldest_8 : DC cX0_forgetOldest 8 (.istore_n 2) 1 9 := ⟨by decide +kernel, rfl⟩
theorem e_X0_forgetOldest_9 : DC cX0_forgetOldest 9 (.iload_n 2) 1 10 := ⟨by decide +kernel, rfl⟩
theorem e_X0_forgetOldest_10 : DC cX0_forgetOldest 10 (.bipush 50) 2 12 := ⟨by decide +kernel, rfl⟩
theorem e_X0_forgetOldest_12 : DB cX0_forgetOldest 12 (.if_icmp .ge 23) (23) 3 15 35 := ⟨by decide +kernel, rfl, rfl⟩
theorem e_X0_forgetOldest_15 : DC cX0_forgetOldest 15 (.aload_n 0) 1 16 := ⟨by decide +kernel, rfl⟩
theorem e_X0_forgetOldest_16 : DC cX0_forgetOldest 16 (.getfield 11) 3 19 := ⟨by decide +kernel, rfl⟩
theorem e_X0_forgetOldest_19 : DC cX0_forgetOldest 19 (.iload_n 2) 1 20 := ⟨by decide +kernel, rfl⟩
theorem e_X0_forgetOldest_20 : DC cX0_forgetOldest 20 (.aload_n 0) 1 21 := ⟨by decide +kernel, rfl⟩
theorem e_X0_forgetOldest_21 : DC cX0_forgetOldest 21 (.getfield 11) 3 24 := ⟨by decide +kernel, rfl⟩
theorem e_X0_forgetOldest_24 : DC cX0_forgetOldest 24 (.iload_n 2) 1 25 := ⟨by decide +kernel, rfl⟩
theorem e_X0_forgetOldest_25 : DC cX0_forgetOldest 25 (.iconst 1) 1 26 := ⟨by decide +kernel, rfl⟩
theorem e_X0_forgetOldest_26 : DC cX0_forgetOldest 26 (.iadd) 1 27 := ⟨by decide +kernel, rfl⟩
theorem e_X0_forgetOldest_27 : DC cX0_forgetOldest 27 (.aaload) 1 28 := ⟨by decide +kernel, rfl⟩
theorem e_X0_forgetOldest_28 : DC cX0_forgetOldest 28 (.aastore) 1 29 := ⟨by decide +kernel, rfl⟩
theorem e_X0_forgetOldest_29 : DC cX0_forgetOldest 29 (.iinc 2 1) 3 32 := ⟨by decide +kernel, rfl⟩
theorem e_X0_forgetOldest_32 : DB cX0_forgetOldest 32 (.goto (-23)) (-23) 3 35 9 := ⟨by decide +kernel, rfl, rfl⟩
theorem e_X0_forgetOldest_35 : DC cX0_forgetOldest 35 (.aload_n 0) 1 36 := ⟨by decide +kernel, rfl⟩
theorem e_X0_forgetOldest_36 : DC cX0_forgetOldest 36 (.getfield 11) 3 39 := ⟨by decide +kernel, rfl⟩
theorem e_X0_forgetOldest_39 : DC cX0_forgetOldest 39 (.bipush 50) 2 41 := ⟨by decide +kernel, rfl⟩
theorem e_X0_forgetOldest_41 : DC cX0_forgetOldest 41 (.aload_n 1) 1 42 := ⟨by decide +kernel, rfl⟩
theorem e_X0_forgetOldest_42 : DC cX0_forgetOldest 42 (.aastore) 1 43 := ⟨by decide +kernel, rfl⟩
theorem e_X0_forgetOldest_43 : DC cX0_forgetOldest 43 (.aload_n 0) 1 44 := ⟨by decide +kernel, rfl⟩
theorem e_X0_forgetOldest_44 : DC cX0_forgetOldest 44 (.bipush 49) 2 46 := ⟨by decide +kernel, rfl⟩
theorem e_X0_forgetOldest_46 : DC cX0_forgetOldest 46 (.putfield 18) 3 49 := ⟨by decide +kernel, rfl⟩
theorem e_X0_forgetOldest_49 : DC cX0_forgetOldest 49 (.return_) 1 50 := ⟨by decide +kernel, rfl⟩
noncomputable def m_X0_forgetOldest_9 (k_35 : (Nat → Nat) → Int → Option (Int × (Nat → Nat))) : Nat → (Nat → Nat) → Int → Option (Int × (Nat → Nat))
  | 0, _, _ => none
  | F + 1, t_kept, v2 => if 50 ≤ v2 then (k_35 t_kept v2) else (chk (inB (v2 + 1) 51) (chk (t_kept (Int.toNat (v2 + 1)) < 51) (chk (inB v2 51) (chk (inI (v2 + 1)) (m_X0_forgetOldest_9 k_35 F (up t_kept (Int.toNat v2) (t_kept (Int.toNat (v2 + 1)))) (v2 + 1))))))

set_option maxRecDepth 10000 in
set_option maxHeartbeats 8000000 in
theorem g_X0_forgetOldest_9 {l : Launch} {E : EE} {b0 n : Nat} {h : AH} {a_t : Nat} {t_now t_last : Int} {v1 : Nat} {t_kept_R : Nat → RowT} {r : Int × (Nat → Nat)} {k_35 : (Nat → Nat) → Int → Option (Int × (Nat → Nat))} (ao : AO b0 n [a_t, (a_t + 1)]) (fo : FO b0 n [a_t, (a_t + 1)] (a_t + 2) 51) (ok_t_now : inI t_now) (ok_v1 : v1 < 51) (hk_35 : ∀ (t_kept_ : Nat → Nat) (v2_ : Int), True → inI v2_ → k_35 t_kept_ v2_ = some r → G l E b0 M_X0_forgetOldest (fun _ => True) (ZM E b0 (none) (ov [a_t, (a_t + 1)] [.inr (0, fsX0 a_t r.1 t_last), RK E 51 (a_t + 2) r.2] (fam E (a_t + 2) 51 t_kept_R h)) n (inI r.1 ∧ True) 0 0) 0 0 n (ov [a_t, (a_t + 1)] [.inr (0, fsX0 a_t t_now t_last), RK E 51 (a_t + 2) t_kept_] (fam E (a_t + 2) 51 t_kept_R h)) 35 [some (.ref a_t), some (.ref ((a_t + 2) + 4 * v1)), none] []) :
    ∀ (F : Nat) (t_kept : Nat → Nat) (v2 : Int), True → inI v2 → m_X0_forgetOldest_9 k_35 F t_kept v2 = some r → G l E b0 M_X0_forgetOldest (fun _ => True) (ZM E b0 (none) (ov [a_t, (a_t + 1)] [.inr (0, fsX0 a_t r.1 t_last), RK E 51 (a_t + 2) r.2] (fam E (a_t + 2) 51 t_kept_R h)) n (inI r.1 ∧ True) 0 0) 0 0 n (ov [a_t, (a_t + 1)] [.inr (0, fsX0 a_t t_now t_last), RK E 51 (a_t + 2) t_kept] (fam E (a_t + 2) 51 t_kept_R h)) 9 [some (.ref a_t), some (.ref ((a_t + 2) + 4 * v1)), some (vI v2)] [] := by
  intro F
  induction F with
  | zero =>
    intro t_kept v2 ok_t_kept ok_v2 hs
    rw [m_X0_forgetOldest_9] at hs
    cases hs
  | succ F ih =>
    intro t_kept v2 ok_t_kept ok_v2 hs
    rw [m_X0_forgetOldest_9] at hs
    refine g_iload_n e_X0_forgetOldest_9 rfl ?_
    refine g_bipush e_X0_forgetOldest_10 bp_50 ?_
    refine g_icmp_ge e_X0_forgetOldest_12 ok_v2 (by decide : inI 50) hs (fun c12 hs => ?_) (fun c12 hs => ?_)
    · exact g_mask [true, true, false] (hk_35 _ _ ok_t_kept ok_v2 hs)
    · refine g_aload_n e_X0_forgetOldest_15 rfl ?_
      refine g_get 0 0 ao rfl rfl fsX0_g0 fl_X0_11 e_X0_forgetOldest_16 ?_
      refine g_iload_n e_X0_forgetOldest_19 rfl ?_
      refine g_aload_n e_X0_forgetOldest_20 rfl ?_
      refine g_get 0 0 ao rfl rfl fsX0_g0 fl_X0_11 e_X0_forgetOldest_21 ?_
      refine g_iload_n e_X0_forgetOldest_24 rfl ?_
      refine g_iconst e_X0_forgetOldest_25 ?_
      refine g_iadd e_X0_forgetOldest_26 ?_
      refine g_aldF 1 ao rfl rfl (Nat.le_of_ble_eq_true rfl) e_X0_forgetOldest_27 hs (fun hi3 hs => ?_)
      obtain ⟨hc4, hs⟩ := chk_elim hs
      refine g_astF 1 ao fo hc4 rfl rfl ls_1 (Nat.le_of_ble_eq_true rfl) e_X0_forgetOldest_28 hs (fun hi5 hs => ?_)
      refine g_iinc e_X0_forgetOldest_29 rfl st1_2 rfl ?_
      refine g_goto e_X0_forgetOldest_32 ?_
      obtain ⟨hc6, hs⟩ := chk_elim hs
      exact ih _ _ trivial hc6 hs

noncomputable def m_X0_forgetOldest_35 (t_now : Int) (t_kept : Nat → Nat) (v1 : Nat) : Option (Int × (Nat → Nat)) :=
  chk (inB 50 51) (some (49, up t_kept (Int.toNat 50) v1))

set_option maxRecDepth 10000 in
set_option maxHeartbeats 8000000 in
theorem g_X0_forgetOldest_35 {l : Launch} {E : EE} {b0 n : Nat} {h : AH} {a_t : Nat} {t_now t_last : Int} {v1 : Nat} {t_kept : Nat → Nat} {t_kept_R : Nat → RowT} {r : Int × (Nat → Nat)} (ao : AO b0 n [a_t, (a_t + 1)]) (fo : FO b0 n [a_t, (a_t + 1)] (a_t + 2) 51) (ok_t_now : inI t_now) (ok_t_kept : True) (ok_v1 : v1 < 51) (hs : m_X0_forgetOldest_35 t_now t_kept v1 = some r) : G l E b0 M_X0_forgetOldest (fun _ => True) (ZM E b0 (none) (ov [a_t, (a_t + 1)] [.inr (0, fsX0 a_t r.1 t_last), RK E 51 (a_t + 2) r.2] (fam E (a_t + 2) 51 t_kept_R h)) n (inI r.1 ∧ True) 0 0) 0 0 n (ov [a_t, (a_t + 1)] [.inr (0, fsX0 a_t t_now t_last), RK E 51 (a_t + 2) t_kept] (fam E (a_t + 2) 51 t_kept_R h)) 35 [some (.ref a_t), some (.ref ((a_t + 2) + 4 * v1)), none] [] := by
  rw [m_X0_forgetOldest_35] at hs
  refine g_aload_n e_X0_forgetOldest_35 rfl ?_
  refine g_get 0 0 ao rfl rfl fsX0_g0 fl_X0_11 e_X0_forgetOldest_36 ?_
  refine g_bipush e_X0_forgetOldest_39 bp_50 ?_
  refine g_aload_n e_X0_forgetOldest_41 rfl ?_
  refine g_astF 1 ao fo ok_v1 rfl rfl ls_1 (Nat.le_of_ble_eq_true rfl) e_X0_forgetOldest_42 hs (fun hi7 hs => ?_)
  refine g_aload_n e_X0_forgetOldest_43 rfl ?_
  refine g_bipush e_X0_forgetOldest_44 bp_49 ?_
  refine g_put 0 1 ao rfl rfl fsX0_k1 fsX0_s1 ls_0 fw_X0_18 (fun h => by cases h) ⟨rfl, rfl⟩ e_X0_forgetOldest_46 ?_
  obtain rfl := Option.some.inj hs
  exact g_vret rfl ⟨(by decide : inI 49), trivial⟩ e_X0_forgetOldest_49

noncomputable def m_X0_forgetOldest_0 (t_now : Int) (t_kept : Nat → Nat) : Option (Int × (Nat → Nat)) :=
  chk (inB 0 51) (chk (t_kept (Int.toNat 0) < 51) (m_X0_forgetOldest_9 (fun t_kept' v2' => m_X0_forgetOldest_35 t_now t_kept' (t_kept (Int.toNat 0))) FU t_kept 0))

set_option maxRecDepth 10000 in
set_option maxHeartbeats 8000000 in
theorem g_X0_forgetOldest_0 {l : Launch} {E : EE} {b0 n : Nat} {h : AH} {a_t : Nat} {t_now t_last : Int} {t_kept : Nat → Nat} {t_kept_R : Nat → RowT} {r : Int × (Nat → Nat)} (ao : AO b0 n [a_t, (a_t + 1)]) (fo : FO b0 n [a_t, (a_t + 1)] (a_t + 2) 51) (ok_t_now : inI t_now) (ok_t_kept : True) (hs : m_X0_forgetOldest_0 t_now t_kept = some r) : G l E b0 M_X0_forgetOldest (fun _ => True) (ZM E b0 (none) (ov [a_t, (a_t + 1)] [.inr (0, fsX0 a_t r.1 t_last), RK E 51 (a_t + 2) r.2] (fam E (a_t + 2) 51 t_kept_R h)) n (inI r.1 ∧ True) 0 0) 0 0 n (ov [a_t, (a_t + 1)] [.inr (0, fsX0 a_t t_now t_last), RK E 51 (a_t + 2) t_kept] (fam E (a_t + 2) 51 t_kept_R h)) 0 [some (.ref a_t), none, none] [] := by
  rw [m_X0_forgetOldest_0] at hs
  refine g_aload_n e_X0_forgetOldest_0 rfl ?_
  refine g_get 0 0 ao rfl rfl fsX0_g0 fl_X0_11 e_X0_forgetOldest_1 ?_
  refine g_iconst e_X0_forgetOldest_4 ?_
  refine g_aldF 1 ao rfl rfl (Nat.le_of_ble_eq_true rfl) e_X0_forgetOldest_5 hs (fun hi1 hs => ?_)
  obtain ⟨hc2, hs⟩ := chk_elim hs
  refine g_astore_n e_X0_forgetOldest_6 st1_1 rfl ?_
  refine g_iconst e_X0_forgetOldest_7 ?_
  refine g_istore_n e_X0_forgetOldest_8 st1_2 rfl ?_
  exact g_X0_forgetOldest_9 ao fo ok_t_now hc2 (hk_35 := by
      intro t_kept' v2' ok_t_kept' ok_v2' hs
      exact g_X0_forgetOldest_35 ao fo ok_t_now ok_t_kept' hc2 hs) FU _ _ ok_t_kept (by decide : inI 0) hs

noncomputable def m_X0_forgetOldest (t_now : Int) (t_kept : Nat → Nat) : Option (Int × (Nat → Nat)) := m_X0_forgetOldest_0 t_now t_kept

set_option maxRecDepth 10000 in
set_option maxHeartbeats 8000000 in
theorem ct_X0_forgetOldest {l : Launch} {E : EE} {b0 n : Nat} {h : AH} {a_t : Nat} {t_now t_last : Int} {t_kept : Nat → Nat} {t_kept_R : Nat → RowT} (ao : AO b0 n [a_t, (a_t + 1)]) (fo : FO b0 n [a_t, (a_t + 1)] (a_t + 2) 51) (hf : FA h [a_t, (a_t + 1)] [.inr (0, fsX0 a_t t_now t_last), RK E 51 (a_t + 2) t_kept]) (hF : FF E h (a_t + 2) 51 t_kept_R) (ok_t_now : inI t_now) (ok_t_kept : True) {r : Int × (Nat → Nat)} (hm : m_X0_forgetOldest t_now t_kept = some r) : Ct l E b0 M_X0_forgetOldest 0 0 [.ref a_t] h n (none) (ov [a_t, (a_t + 1)] [.inr (0, fsX0 a_t r.1 t_last), RK E 51 (a_t + 2) r.2] h) n (inI r.1 ∧ True) := by
  rw [m_X0_forgetOldest] at hm
  have hg : G l E b0 M_X0_forgetOldest (fun _ => True) (ZM E b0 (none) (ov [a_t, (a_t + 1)] [.inr (0, fsX0 a_t r.1 t_last), RK E 51 (a_t + 2) r.2] (fam E (a_t + 2) 51 t_kept_R h)) n (inI r.1 ∧ True) 0 0) 0 0 n (ov [a_t, (a_t + 1)] [.inr (0, fsX0 a_t t_now t_last), RK E 51 (a_t + 2) t_kept] (fam E (a_t + 2) 51 t_kept_R h)) 0 [some (.ref a_t), none, none] [] := by
    have hs := hm
    exact g_X0_forgetOldest_0 ao fo ok_t_now ok_t_kept hs
  rw [FF_id hF] at hg
  rw [FA_id hf] at hg
  exact Ct_of [some (.ref a_t), none, none] ⟨by decide +kernel, rfl⟩ rfl (Nat.le_of_ble_eq_true rfl) hg

/-! ===== X0_keep ===== -/
theorem e_X0_keep_0 : DC cX0_keep 0 (.aload_n 0) 1 1 := ⟨by decide +kernel, rfl⟩
theorem e_X0_keep_1 : DC cX0_keep 1 (.getfield 18) 3 4 := ⟨by decide +kernel, rfl⟩
theorem e_X0_keep_4 : DC cX0_keep 4 (.bipush 50) 2 6 := ⟨by decide +kernel, rfl⟩
theorem e_X0_keep_6 : DB cX0_keep 6 (.if_icmp .lt 7) (7) 3 9 13 := ⟨by decide +kernel, rfl, rfl⟩
theorem e_X0_keep_9 : DC cX0_keep 9 (.aload_n 0) 1 10 := ⟨by decide +kernel, rfl⟩
theorem e_X0_keep_10 : DC cX0_keep 10 (.invokevirtual 22) 3 13 := ⟨by decide +kernel, rfl⟩
theorem e_X0_keep_13 : DC cX0_keep 13 (.aload_n 0) 1 14 := ⟨by decide +kernel, rfl⟩
theorem e_X0_keep_14 : DC cX0_keep 14 (.dup) 1 15 := ⟨by decide +kernel, rfl⟩
theorem e_X0_keep_15 : DC cX0_keep 15 (.getfield 18) 3 18 := ⟨by decide +kernel, rfl⟩
theorem e_X0_keep_18 : DC cX0_keep 18 (.iconst 1) 1 19 := ⟨by decide +kernel, rfl⟩
theorem e_X0_keep_19 : DC cX0_keep 19 (.iadd) 1 20 := ⟨by decide +kernel, rfl⟩
theorem e_X0_keep_20 : DC cX0_keep 20 (.putfield 18) 3 23 := ⟨by decide +kernel, rfl⟩
theorem e_X0_keep_23 : DC cX0_keep 23 (.aload_n 0) 1 24 := ⟨by decide +kernel, rfl⟩
theorem e_X0_keep_24 : DC cX0_keep 24 (.aload_n 0) 1 25 := ⟨by decide +kernel, rfl⟩
theorem e_X0_keep_25 : DC cX0_keep 25 (.getfield 18) 3 28 := ⟨by decide +kernel, rfl⟩
theorem e_X0_keep_28 : DC cX0_keep 28 (.putfield 25) 3 31 := ⟨by decide +kernel, rfl⟩
theorem e_X0_keep_31 : DC cX0_keep 31 (.aload_n 0) 1 32 := ⟨by decide +kernel, rfl⟩
theorem e_X0_keep_32 : DC cX0_keep 32 (.getfield 11) 3 35 := ⟨by decide +kernel, rfl⟩
theorem e_X0_keep_35 : DC cX0_keep 35 (.aload_n 0) 1 36 := ⟨by decide +kernel, rfl⟩
theorem e_X0_keep_36 : DC cX0_keep 36 (.getfield 18) 3 39 := ⟨by decide +kernel, rfl⟩
theorem e_X0_keep_39 : DC cX0_keep 39 (.aaload) 1 40 := ⟨by decide +kernel, rfl⟩
theorem e_X0_keep_40 : DC cX0_keep 40 (.aload_n 1) 1 41 := ⟨by decide +kernel, rfl⟩
theorem e_X0_keep_41 : DC cX0_keep 41 (.invokevirtual 28) 3 44 := ⟨by decide +kernel, rfl⟩
theorem e_X0_keep_44 : DC cX0_keep 44 (.return_) 1 45 := ⟨by decide +kernel, rfl⟩
noncomputable def m_X0_keep_13 (t_now : Int) (t_last : Int) (t_kept : Nat → Nat) (p1_flaws : Int) (p1_slipped : Int) (p1_gone : Int) (p1_work : Int) (p1_out : Int) (p1_lost : Int) (p1_came : Int) (p1_signs : Nat → Int) (t_kept_R : Nat → RowT) : Option (Int × Int × (Nat → Nat) × (Nat → RowT)) :=
  chk (inI (t_now + 1)) (chk (inB (t_now + 1) 51) (chk (t_kept (Int.toNat (t_now + 1)) < 51) ((m_X6_becomes ((t_kept_R (t_kept (Int.toNat (t_now + 1)))).2.2.2.1) ((t_kept_R (t_kept (Int.toNat (t_now + 1)))).2.2.2.2.1) ((t_kept_R (t_kept (Int.toNat (t_now + 1)))).2.2.2.2.2.1) ((t_kept_R (t_kept (Int.toNat (t_now + 1)))).2.2.2.2.2.2.1) ((t_kept_R (t_kept (Int.toNat (t_now + 1)))).2.2.2.2.2.2.2.1) ((t_kept_R (t_kept (Int.toNat (t_now + 1)))).2.2.2.2.2.2.2.2.1) ((t_kept_R (t_kept (Int.toNat (t_now + 1)))).2.2.2.2.2.2.2.2.2) ((t_kept_R (t_kept (Int.toNat (t_now + 1)))).1) p1_flaws p1_slipped p1_gone p1_work p1_out p1_lost p1_came p1_signs).bind (fun y4 => some (t_now + 1, t_now + 1, t_kept, up t_kept_R (t_kept (Int.toNat (t_now + 1))) (y4.2.2.2.2.2.2.2, (t_kept_R (t_kept (Int.toNat (t_now + 1)))).2.1, (t_kept_R (t_kept (Int.toNat (t_now + 1)))).2.2.1, y4.1, y4.2.1, y4.2.2.1, y4.2.2.2.1, y4.2.2.2.2.1, y4.2.2.2.2.2.1, y4.2.2.2.2.2.2.1))))))

set_option maxRecDepth 10000 in
set_option maxHeartbeats 8000000 in
theorem g_X0_keep_13 {l : Launch} {E : EE} {b0 n : Nat} {h : AH} {a_t a_p1 : Nat} {t_now t_last p1_flaws p1_slipped p1_gone p1_work p1_out p1_lost p1_came : Int} {p1_signs : Nat → Int} {t_kept : Nat → Nat} {t_kept_R : Nat → RowT} {r : Int × Int × (Nat → Nat) × (Nat → RowT)} (ao : AO b0 n [a_t, (a_t + 1), a_p1, (a_p1 + 1)]) (fo : FO b0 n [a_t, (a_t + 1), a_p1, (a_p1 + 1)] (a_t + 2) 51) (ok_t_now : inI t_now) (ok_t_last : inI t_last) (ok_t_kept : True) (ok_p1_flaws : inI p1_flaws) (ok_p1_slipped : inI p1_slipped) (ok_p1_gone : inI p1_gone) (ok_p1_work : inJ p1_work) (ok_p1_out : inI p1_out) (ok_p1_lost : inI p1_lost) (ok_p1_came : inI p1_came) (ok_p1_signs : okA p1_signs) (ok_t_kept_R : okR t_kept_R) (hs : m_X0_keep_13 t_now t_last t_kept p1_flaws p1_slipped p1_gone p1_work p1_out p1_lost p1_came p1_signs t_kept_R = some r) : G l E b0 M_X0_keep (fun _ => True) (ZM E b0 (none) (ov [a_t, (a_t + 1), a_p1, (a_p1 + 1)] [.inr (0, fsX0 a_t r.1 r.2.1), RK E 51 (a_t + 2) r.2.2.1, .inr (6, fsX6 a_p1 p1_flaws p1_slipped p1_gone p1_work p1_out p1_lost p1_came), IA E 100 p1_signs] (fam E (a_t + 2) 51 r.2.2.2 h)) n (inI r.1 ∧ inI r.2.1 ∧ True ∧ okR r.2.2.2) 0 0) 0 0 n (ov [a_t, (a_t + 1), a_p1, (a_p1 + 1)] [.inr (0, fsX0 a_t t_now t_last), RK E 51 (a_t + 2) t_kept, .inr (6, fsX6 a_p1 p1_flaws p1_slipped p1_gone p1_work p1_out p1_lost p1_came), IA E 100 p1_signs] (fam E (a_t + 2) 51 t_kept_R h)) 13 [some (.ref a_t), some (.ref a_p1)] [] := by
  rw [m_X0_keep_13] at hs
  refine g_aload_n e_X0_keep_13 rfl ?_
  refine g_dup e_X0_keep_14 rfl ?_
  refine g_get 0 1 ao rfl rfl fsX0_g1 fl_X0_18 e_X0_keep_15 ?_
  refine g_iconst e_X0_keep_18 ?_
  refine g_iadd e_X0_keep_19 ?_
  obtain ⟨hc1, hs⟩ := chk_elim hs
  refine g_put 0 1 ao rfl rfl fsX0_k1 fsX0_s1 ls_0 fw_X0_18 (fun h => by cases h) ⟨rfl, rfl⟩ e_X0_keep_20 ?_
  refine g_aload_n e_X0_keep_23 rfl ?_
  refine g_aload_n e_X0_keep_24 rfl ?_
  refine g_get 0 1 ao rfl rfl fsX0_g1 fl_X0_18 e_X0_keep_25 ?_
  refine g_put 0 2 ao rfl rfl fsX0_k2 fsX0_s2 ls_0 fw_X0_25 (fun h => by cases h) ⟨rfl, rfl⟩ e_X0_keep_28 ?_
  refine g_aload_n e_X0_keep_31 rfl ?_
  refine g_get 0 0 ao rfl rfl fsX0_g0 fl_X0_11 e_X0_keep_32 ?_
  refine g_aload_n e_X0_keep_35 rfl ?_
  refine g_get 0 1 ao rfl rfl fsX0_g1 fl_X0_18 e_X0_keep_36 ?_
  refine g_aldF 1 ao rfl rfl (Nat.le_of_ble_eq_true rfl) e_X0_keep_39 hs (fun hi2 hs => ?_)
  obtain ⟨hc3, hs⟩ := chk_elim hs
  refine g_aload_n e_X0_keep_40 rfl ?_
  obtain ⟨y4, hy4, hs⟩ := bind_elim hs
  refine g_famO (t_kept (Int.toNat (t_now + 1))) hc3 rfl ?_
  refine g_callVv [.ref a_p1] cv_X0_28 ⟨rfl, rfl, Nat.le_of_ble_eq_true rfl, Nat.le_of_ble_eq_true rfl⟩ (Ct_heap (ct_X6_becomes (a_t := ((a_t + 2) + 4 * (t_kept (Int.toNat (t_now + 1))))) (a_p1 := a_p1) (AO_call [4, 5, 2, 3] (AO_fam ao fo hc3) (by decide) rfl) (FA_call [4, 5, 2, 3] (AO_fam ao fo hc3).1 rfl rfl) ((ok_t_kept_R (t_kept (Int.toNat (t_now + 1)))).2.2.2.1) ((ok_t_kept_R (t_kept (Int.toNat (t_now + 1)))).2.2.2.2.1) ((ok_t_kept_R (t_kept (Int.toNat (t_now + 1)))).2.2.2.2.2.1) ((ok_t_kept_R (t_kept (Int.toNat (t_now + 1)))).2.2.2.2.2.2.1) ((ok_t_kept_R (t_kept (Int.toNat (t_now + 1)))).2.2.2.2.2.2.2.1) ((ok_t_kept_R (t_kept (Int.toNat (t_now + 1)))).2.2.2.2.2.2.2.2.1) ((ok_t_kept_R (t_kept (Int.toNat (t_now + 1)))).2.2.2.2.2.2.2.2.2) ((ok_t_kept_R (t_kept (Int.toNat (t_now + 1)))).1) ok_p1_flaws ok_p1_slipped ok_p1_gone ok_p1_work ok_p1_out ok_p1_lost ok_p1_came ok_p1_signs hy4) (ov_callN (esn := ([.inr (0, fsX0 a_t (t_now + 1) (t_now + 1)), RK E 51 (a_t + 2) t_kept, .inr (6, fsX6 a_p1 p1_flaws p1_slipped p1_gone p1_work p1_out p1_lost p1_came), IA E 100 p1_signs] ++ rc E ((a_t + 2) + 4 * (t_kept (Int.toNat (t_now + 1)))) (y4.2.2.2.2.2.2.2, (t_kept_R (t_kept (Int.toNat (t_now + 1)))).2.1, (t_kept_R (t_kept (Int.toNat (t_now + 1)))).2.2.1, y4.1, y4.2.1, y4.2.2.1, y4.2.2.2.1, y4.2.2.2.2.1, y4.2.2.2.2.2.1, y4.2.2.2.2.2.2.1))) [4, 5, 2, 3] [true, true, false, false, false, false, true, true] (AO_fam ao fo hc3).1 rfl rfl rfl rfl rfl rfl (by decide))) e_X0_keep_41 ((AO_fam ao fo hc3).2 4 _ rfl) (ov_get 4 (AO_fam ao fo hc3).1 rfl rfl) rfl rfl rfl (Nat.le_of_ble_eq_true rfl) ⟨Nat.le_refl _, Nat.le_refl _⟩ (fun Py4 => ?_)
  refine g_famC hc3 rfl ?_
  obtain rfl := Option.some.inj hs
  exact g_vret rfl ⟨hc1, hc1, ok_t_kept, (okR_up ok_t_kept_R ⟨Py4.2.2.2.2.2.2.2, (ok_t_kept_R (t_kept (Int.toNat (t_now + 1)))).2.1, (ok_t_kept_R (t_kept (Int.toNat (t_now + 1)))).2.2.1, Py4.1, Py4.2.1, Py4.2.2.1, Py4.2.2.2.1, Py4.2.2.2.2.1, Py4.2.2.2.2.2.1, Py4.2.2.2.2.2.2.1⟩)⟩ e_X0_keep_44

noncomputable def m_X0_keep_0 (t_now : Int) (t_last : Int) (t_kept : Nat → Nat) (p1_flaws : Int) (p1_slipped : Int) (p1_gone : Int) (p1_work : Int) (p1_out : Int) (p1_lost : Int) (p1_came : Int) (p1_signs : Nat → Int) (t_kept_R : Nat → RowT) : Option (Int × Int × (Nat → Nat) × (Nat → RowT)) :=
  if t_now < 50 then (m_X0_keep_13 t_now t_last t_kept p1_flaws p1_slipped p1_gone p1_work p1_out p1_lost p1_came p1_signs t_kept_R) else ((m_X0_forgetOldest t_now t_kept).bind (fun y5 => m_X0_keep_13 y5.1 t_last y5.2 p1_flaws p1_slipped p1_gone p1_work p1_out p1_lost p1_came p1_signs t_kept_R))

set_option maxRecDepth 10000 in
set_option maxHeartbeats 8000000 in
theorem g_X0_keep_0 {l : Launch} {E : EE} {b0 n : Nat} {h : AH} {a_t a_p1 : Nat} {t_now t_last p1_flaws p1_slipped p1_gone p1_work p1_out p1_lost p1_came : Int} {p1_signs : Nat → Int} {t_kept : Nat → Nat} {t_kept_R : Nat → RowT} {r : Int × Int × (Nat → Nat) × (Nat → RowT)} (ao : AO b0 n [a_t, (a_t + 1), a_p1, (a_p1 + 1)]) (fo : FO b0 n [a_t, (a_t + 1), a_p1, (a_p1 + 1)] (a_t + 2) 51) (ok_t_now : inI t_now) (ok_t_last : inI t_last) (ok_t_kept : True) (ok_p1_flaws : inI p1_flaws) (ok_p1_slipped : inI p1_slipped) (ok_p1_gone : inI p1_gone) (ok_p1_work : inJ p1_work) (ok_p1_out : inI p1_out) (ok_p1_lost : inI p1_lost) (ok_p1_came : inI p1_came) (ok_p1_signs : okA p1_signs) (ok_t_kept_R : okR t_kept_R) (hs : m_X0_keep_0 t_now t_last t_kept p1_flaws p1_slipped p1_gone p1_work p1_out p1_lost p1_came p1_signs t_kept_R = some r) : G l E b0 M_X0_keep (fun _ => True) (ZM E b0 (none) (ov [a_t, (a_t + 1), a_p1, (a_p1 + 1)] [.inr (0, fsX0 a_t r.1 r.2.1), RK E 51 (a_t + 2) r.2.2.1, .inr (6, fsX6 a_p1 p1_flaws p1_slipped p1_gone p1_work p1_out p1_lost p1_came), IA E 100 p1_signs] (fam E (a_t + 2) 51 r.2.2.2 h)) n (inI r.1 ∧ inI r.2.1 ∧ True ∧ okR r.2.2.2) 0 0) 0 0 n (ov [a_t, (a_t + 1), a_p1, (a_p1 + 1)] [.inr (0, fsX0 a_t t_now t_last), RK E 51 (a_t + 2) t_kept, .inr (6, fsX6 a_p1 p1_flaws p1_slipped p1_gone p1_work p1_out p1_lost p1_came), IA E 100 p1_signs] (fam E (a_t + 2) 51 t_kept_R h)) 0 [some (.ref a_t), some (.ref a_p1)] [] := by
  rw [m_X0_keep_0] at hs
  refine g_aload_n e_X0_keep_0 rfl ?_
  refine g_get 0 1 ao rfl rfl fsX0_g1 fl_X0_18 e_X0_keep_1 ?_
  refine g_bipush e_X0_keep_4 bp_50 ?_
  refine g_icmp_lt e_X0_keep_6 ok_t_now (by decide : inI 50) hs (fun c6 hs => ?_) (fun c6 hs => ?_)
  · exact g_X0_keep_13 ao fo ok_t_now ok_t_last ok_t_kept ok_p1_flaws ok_p1_slipped ok_p1_gone ok_p1_work ok_p1_out ok_p1_lost ok_p1_came ok_p1_signs ok_t_kept_R hs
  · refine g_aload_n e_X0_keep_9 rfl ?_
    obtain ⟨y5, hy5, hs⟩ := bind_elim hs
    refine g_callVv [] cv_X0_22 ⟨rfl, rfl, Nat.le_of_ble_eq_true rfl, Nat.le_of_ble_eq_true rfl⟩ (Ct_heap (ct_X0_forgetOldest (a_t := a_t) (AO_call [0, 1] ao (by decide) rfl) (FO_call [0, 1] fo rfl) (FA_call [0, 1] ao.1 rfl rfl) (FF_ov fo) ok_t_now ok_t_kept hy5) (ov_callN (esn := [.inr (0, fsX0 a_t y5.1 t_last), RK E 51 (a_t + 2) y5.2, .inr (6, fsX6 a_p1 p1_flaws p1_slipped p1_gone p1_work p1_out p1_lost p1_came), IA E 100 p1_signs]) [0, 1] [false, false, true, true] ao.1 rfl rfl rfl rfl rfl rfl (by decide))) e_X0_keep_10 (ao.2 0 _ rfl) (ov_get 0 ao.1 rfl rfl) rfl rfl rfl (Nat.le_of_ble_eq_true rfl) ⟨Nat.le_refl _, Nat.le_refl _⟩ (fun Py5 => ?_)
    exact g_X0_keep_13 ao fo Py5.1 ok_t_last Py5.2 ok_p1_flaws ok_p1_slipped ok_p1_gone ok_p1_work ok_p1_out ok_p1_lost ok_p1_came ok_p1_signs ok_t_kept_R hs

noncomputable def m_X0_keep (t_now : Int) (t_last : Int) (t_kept : Nat → Nat) (p1_flaws : Int) (p1_slipped : Int) (p1_gone : Int) (p1_work : Int) (p1_out : Int) (p1_lost : Int) (p1_came : Int) (p1_signs : Nat → Int) (t_kept_R : Nat → RowT) : Option (Int × Int × (Nat → Nat) × (Nat → RowT)) := m_X0_keep_0 t_now t_last t_kept p1_flaws p1_slipped p1_gone p1_work p1_out p1_lost p1_came p1_signs t_kept_R

set_option maxRecDepth 10000 in
set_option maxHeartbeats 8000000 in
theorem ct_X0_keep {l : Launch} {E : EE} {b0 n : Nat} {h : AH} {a_t a_p1 : Nat} {t_now t_last p1_flaws p1_slipped p1_gone p1_work p1_out p1_lost p1_came : Int} {p1_signs : Nat → Int} {t_kept : Nat → Nat} {t_kept_R : Nat → RowT} (ao : AO b0 n [a_t, (a_t + 1), a_p1, (a_p1 + 1)]) (fo : FO b0 n [a_t, (a_t + 1), a_p1, (a_p1 + 1)] (a_t + 2) 51) (hf : FA h [a_t, (a_t + 1), a_p1, (a_p1 + 1)] [.inr (0, fsX0 a_t t_now t_last), RK E 51 (a_t + 2) t_kept, .inr (6, fsX6 a_p1 p1_flaws p1_slipped p1_gone p1_work p1_out p1_lost p1_came), IA E 100 p1_signs]) (hF : FF E h (a_t + 2) 51 t_kept_R) (ok_t_now : inI t_now) (ok_t_last : inI t_last) (ok_t_kept : True) (ok_p1_flaws : inI p1_flaws) (ok_p1_slipped : inI p1_slipped) (ok_p1_gone : inI p1_gone) (ok_p1_work : inJ p1_work) (ok_p1_out : inI p1_out) (ok_p1_lost : inI p1_lost) (ok_p1_came : inI p1_came) (ok_p1_signs : okA p1_signs) (ok_t_kept_R : okR t_kept_R) {r : Int × Int × (Nat → Nat) × (Nat → RowT)} (hm : m_X0_keep t_now t_last t_kept p1_flaws p1_slipped p1_gone p1_work p1_out p1_lost p1_came p1_signs t_kept_R = some r) : Ct l E b0 M_X0_keep 0 0 [.ref a_t, .ref a_p1] h n (none) (ov [a_t, (a_t + 1), a_p1, (a_p1 + 1)] [.inr (0, fsX0 a_t r.1 r.2.1), RK E 51 (a_t + 2) r.2.2.1, .inr (6, fsX6 a_p1 p1_flaws p1_slipped p1_gone p1_work p1_out p1_lost p1_came), IA E 100 p1_signs] (fam E (a_t + 2) 51 r.2.2.2 h)) n (inI r.1 ∧ inI r.2.1 ∧ True ∧ okR r.2.2.2) := by
  rw [m_X0_keep] at hm
  have hg : G l E b0 M_X0_keep (fun _ => True) (ZM E b0 (none) (ov [a_t, (a_t + 1), a_p1, (a_p1 + 1)] [.inr (0, fsX0 a_t r.1 r.2.1), RK E 51 (a_t + 2) r.2.2.1, .inr (6, fsX6 a_p1 p1_flaws p1_slipped p1_gone p1_work p1_out p1_lost p1_came), IA E 100 p1_signs] (fam E (a_t + 2) 51 r.2.2.2 h)) n (inI r.1 ∧ inI r.2.1 ∧ True ∧ okR r.2.2.2) 0 0) 0 0 n (ov [a_t, (a_t + 1), a_p1, (a_p1 + 1)] [.inr (0, fsX0 a_t t_now t_last), RK E 51 (a_t + 2) t_kept, .inr (6, fsX6 a_p1 p1_flaws p1_slipped p1_gone p1_work p1_out p1_lost p1_came), IA E 100 p1_signs] (fam E (a_t + 2) 51 t_kept_R h)) 0 [some (.ref a_t), some (.ref a_p1)] [] := by
    have hs := hm
    exact g_X0_keep_0 ao fo ok_t_now ok_t_last ok_t_kept ok_p1_flaws ok_p1_slipped ok_p1_gone ok_p1_work ok_p1_out ok_p1_lost ok_p1_came ok_p1_signs ok_t_kept_R hs
  rw [FF_id hF] at hg
  rw [FA_id hf] at hg
  exact Ct_of [some (.ref a_t), some (.ref a_p1)] ⟨by decide +kernel, rfl⟩ rfl (Nat.le_of_ble_eq_true rfl) hg

/-! ===== X0_goBack ===== -/
theorem e_X0_goBack_0 : DC cX0_goBack 0 (.aload_n 0) 1 1 := ⟨by decide +kernel, rfl⟩
theorem e_X0_goBack_1 : DC cX0_goBack 1 (.getfield 18) 3 4 := ⟨by decide +kernel, rfl⟩
theorem e_X0_goBack_4 : DB cX0_goBack 4 (.ifCond .gt 5) (5) 3 7 9 := ⟨by decide +kernel, rfl, rfl⟩
theorem e_X0_goBack_7 : DC cX0_goBack 7 (.iconst 0) 1 8 := ⟨by decide +kernel, rfl⟩
theorem e_X0_goBack_8 : DC cX0_goBack 8 (.ireturn) 1 9 := ⟨by decide +kernel, rfl⟩
theorem e_X0_goBack_9 : DC cX0_goBack 9 (.aload_n 0) 1 10 := ⟨by decide +kernel, rfl⟩
theorem e_X0_goBack_10 : DC cX0_goBack 10 (.dup) 1 11 := ⟨by decide +kernel, rfl⟩
theorem e_X0_goBack_11 : DC cX0_goBack 11 (.getfield 18) 3 14 := ⟨by decide +kernel, rfl⟩
theorem e_X0_goBack_14 : DC cX0_goBack 14 (.iconst 1) 1 15 := ⟨by decide +kernel, rfl⟩
theorem e_X0_goBack_15 : DC cX0_goBack 15 (.isub) 1 16 := ⟨by decide +kernel, rfl⟩
theorem e_X0_goBack_16 : DC cX0_goBack 16 (.putfield 18) 3 19 := ⟨by decide +kernel, rfl⟩
theorem e_X0_goBack_19 : DC cX0_goBack 19 (.aload_n 1) 1 20 := ⟨by decide +kernel, rfl⟩
theorem e_X0_goBack_20 : DC cX0_goBack 20 (.aload_n 0) 1 21 := ⟨by decide +kernel, rfl⟩
theorem e_X0_goBack_21 : DC cX0_goBack 21 (.getfield 11) 3 24 := ⟨by decide +kernel, rfl⟩
theorem e_X0_goBack_24 : DC cX0_goBack 24 (.aload_n 0) 1 25 := ⟨by decide +kernel, rfl⟩
theorem e_X0_goBack_25 : DC cX0_goBack 25 (.getfield 18) 3 28 := ⟨by decide +kernel, rfl⟩
theorem e_X0_goBack_28 : DC cX0_goBack 28 (.aaload) 1 29 := ⟨by decide +kernel, rfl⟩
theorem e_X0_goBack_29 : DC cX0_goBack 29 (.invokevirtual 28) 3 32 := ⟨by decide +kernel, rfl⟩
theorem e_X0_goBack_32 : DC cX0_goBack 32 (.iconst 1) 1 33 := ⟨by decide +kernel, rfl⟩
theorem e_X0_goBack_33 : DC cX0_goBack 33 (.ireturn) 1 34 := ⟨by decide +kernel, rfl⟩
noncomputable def m_X0_goBack_0 (t_now : Int) (t_kept : Nat → Nat) (p1_flaws : Int) (p1_slipped : Int) (p1_gone : Int) (p1_work : Int) (p1_out : Int) (p1_lost : Int) (p1_came : Int) (p1_signs : Nat → Int) (t_kept_R : Nat → RowT) : Option (Int × Int × Int × Int × Int × Int × Int × Int × Int × (Nat → Int)) :=
  if 0 < t_now then (chk (inI (t_now - 1)) (chk (inB (t_now - 1) 51) (chk (t_kept (Int.toNat (t_now - 1)) < 51) ((m_X6_becomes p1_flaws p1_slipped p1_gone p1_work p1_out p1_lost p1_came p1_signs ((t_kept_R (t_kept (Int.toNat (t_now - 1)))).2.2.2.1) ((t_kept_R (t_kept (Int.toNat (t_now - 1)))).2.2.2.2.1) ((t_kept_R (t_kept (Int.toNat (t_now - 1)))).2.2.2.2.2.1) ((t_kept_R (t_kept (Int.toNat (t_now - 1)))).2.2.2.2.2.2.1) ((t_kept_R (t_kept (Int.toNat (t_now - 1)))).2.2.2.2.2.2.2.1) ((t_kept_R (t_kept (Int.toNat (t_now - 1)))).2.2.2.2.2.2.2.2.1) ((t_kept_R (t_kept (Int.toNat (t_now - 1)))).2.2.2.2.2.2.2.2.2) ((t_kept_R (t_kept (Int.toNat (t_now - 1)))).1)).bind (fun y4 => some (1, t_now - 1, y4.1, y4.2.1, y4.2.2.1, y4.2.2.2.1, y4.2.2.2.2.1, y4.2.2.2.2.2.1, y4.2.2.2.2.2.2.1, y4.2.2.2.2.2.2.2)))))) else (some (0, t_now, p1_flaws, p1_slipped, p1_gone, p1_work, p1_out, p1_lost, p1_came, p1_signs))

set_option maxRecDepth 10000 in
set_option maxHeartbeats 8000000 in
theorem g_X0_goBack_0 {l : Launch} {E : EE} {b0 n : Nat} {h : AH} {a_t a_p1 : Nat} {t_now t_last p1_flaws p1_slipped p1_gone p1_work p1_out p1_lost p1_came : Int} {p1_signs : Nat → Int} {t_kept : Nat → Nat} {t_kept_R : Nat → RowT} {r : Int × Int × Int × Int × Int × Int × Int × Int × Int × (Nat → Int)} (ao : AO b0 n [a_t, (a_t + 1), a_p1, (a_p1 + 1)]) (fo : FO b0 n [a_t, (a_t + 1), a_p1, (a_p1 + 1)] (a_t + 2) 51) (ok_t_now : inI t_now) (ok_t_kept : True) (ok_p1_flaws : inI p1_flaws) (ok_p1_slipped : inI p1_slipped) (ok_p1_gone : inI p1_gone) (ok_p1_work : inJ p1_work) (ok_p1_out : inI p1_out) (ok_p1_lost : inI p1_lost) (ok_p1_came : inI p1_came) (ok_p1_signs : okA p1_signs) (ok_t_kept_R : okR t_kept_R) (hs : m_X0_goBack_0 t_now t_kept p1_flaws p1_slipped p1_gone p1_work p1_out p1_lost p1_came p1_signs t_kept_R = some r) : G l E b0 M_X0_goBack (fun _ => True) (ZM E b0 (some (vI r.1)) (ov [a_t, (a_t + 1), a_p1, (a_p1 + 1)] [.inr (0, fsX0 a_t r.2.1 t_last), RK E 51 (a_t + 2) t_kept, .inr (6, fsX6 a_p1 r.2.2.1 r.2.2.2.1 r.2.2.2.2.1 r.2.2.2.2.2.1 r.2.2.2.2.2.2.1 r.2.2.2.2.2.2.2.1 r.2.2.2.2.2.2.2.2.1), IA E 100 r.2.2.2.2.2.2.2.2.2] (fam E (a_t + 2) 51 t_kept_R h)) n (inZ r.1 ∧ inI r.2.1 ∧ inI r.2.2.1 ∧ inI r.2.2.2.1 ∧ inI r.2.2.2.2.1 ∧ inJ r.2.2.2.2.2.1 ∧ inI r.2.2.2.2.2.2.1 ∧ inI r.2.2.2.2.2.2.2.1 ∧ inI r.2.2.2.2.2.2.2.2.1 ∧ okA r.2.2.2.2.2.2.2.2.2) 0 0) 0 0 n (ov [a_t, (a_t + 1), a_p1, (a_p1 + 1)] [.inr (0, fsX0 a_t t_now t_last), RK E 51 (a_t + 2) t_kept, .inr (6, fsX6 a_p1 p1_flaws p1_slipped p1_gone p1_work p1_out p1_lost p1_came), IA E 100 p1_signs] (fam E (a_t + 2) 51 t_kept_R h)) 0 [some (.ref a_t), some (.ref a_p1)] [] := by
  rw [m_X0_goBack_0] at hs
  refine g_aload_n e_X0_goBack_0 rfl ?_
  refine g_get 0 1 ao rfl rfl fsX0_g1 fl_X0_18 e_X0_goBack_1 ?_
  refine g_if_gt e_X0_goBack_4 ok_t_now hs (fun c4 hs => ?_) (fun c4 hs => ?_)
  · refine g_aload_n e_X0_goBack_9 rfl ?_
    refine g_dup e_X0_goBack_10 rfl ?_
    refine g_get 0 1 ao rfl rfl fsX0_g1 fl_X0_18 e_X0_goBack_11 ?_
    refine g_iconst e_X0_goBack_14 ?_
    refine g_isub e_X0_goBack_15 ?_
    obtain ⟨hc1, hs⟩ := chk_elim hs
    refine g_put 0 1 ao rfl rfl fsX0_k1 fsX0_s1 ls_0 fw_X0_18 (fun h => by cases h) ⟨rfl, rfl⟩ e_X0_goBack_16 ?_
    refine g_aload_n e_X0_goBack_19 rfl ?_
    refine g_aload_n e_X0_goBack_20 rfl ?_
    refine g_get 0 0 ao rfl rfl fsX0_g0 fl_X0_11 e_X0_goBack_21 ?_
    refine g_aload_n e_X0_goBack_24 rfl ?_
    refine g_get 0 1 ao rfl rfl fsX0_g1 fl_X0_18 e_X0_goBack_25 ?_
    refine g_aldF 1 ao rfl rfl (Nat.le_of_ble_eq_true rfl) e_X0_goBack_28 hs (fun hi2 hs => ?_)
    obtain ⟨hc3, hs⟩ := chk_elim hs
    obtain ⟨y4, hy4, hs⟩ := bind_elim hs
    refine g_famO (t_kept (Int.toNat (t_now - 1))) hc3 rfl ?_
    refine g_callVv [.ref ((a_t + 2) + 4 * (t_kept (Int.toNat (t_now - 1))))] cv_X0_28 ⟨rfl, rfl, Nat.le_of_ble_eq_true rfl, Nat.le_of_ble_eq_true rfl⟩ (Ct_heap (ct_X6_becomes (a_t := a_p1) (a_p1 := ((a_t + 2) + 4 * (t_kept (Int.toNat (t_now - 1))))) (AO_call [2, 3, 4, 5] (AO_fam ao fo hc3) (by decide) rfl) (FA_call [2, 3, 4, 5] (AO_fam ao fo hc3).1 rfl rfl) ok_p1_flaws ok_p1_slipped ok_p1_gone ok_p1_work ok_p1_out ok_p1_lost ok_p1_came ok_p1_signs ((ok_t_kept_R (t_kept (Int.toNat (t_now - 1)))).2.2.2.1) ((ok_t_kept_R (t_kept (Int.toNat (t_now - 1)))).2.2.2.2.1) ((ok_t_kept_R (t_kept (Int.toNat (t_now - 1)))).2.2.2.2.2.1) ((ok_t_kept_R (t_kept (Int.toNat (t_now - 1)))).2.2.2.2.2.2.1) ((ok_t_kept_R (t_kept (Int.toNat (t_now - 1)))).2.2.2.2.2.2.2.1) ((ok_t_kept_R (t_kept (Int.toNat (t_now - 1)))).2.2.2.2.2.2.2.2.1) ((ok_t_kept_R (t_kept (Int.toNat (t_now - 1)))).2.2.2.2.2.2.2.2.2) ((ok_t_kept_R (t_kept (Int.toNat (t_now - 1)))).1) hy4) (ov_callN (esn := ([.inr (0, fsX0 a_t (t_now - 1) t_last), RK E 51 (a_t + 2) t_kept, .inr (6, fsX6 a_p1 y4.1 y4.2.1 y4.2.2.1 y4.2.2.2.1 y4.2.2.2.2.1 y4.2.2.2.2.2.1 y4.2.2.2.2.2.2.1), IA E 100 y4.2.2.2.2.2.2.2] ++ rc E ((a_t + 2) + 4 * (t_kept (Int.toNat (t_now - 1)))) (t_kept_R (t_kept (Int.toNat (t_now - 1)))))) [2, 3, 4, 5] [true, true, false, false, false, false, true, true] (AO_fam ao fo hc3).1 rfl rfl rfl rfl rfl rfl (by decide))) e_X0_goBack_29 ((AO_fam ao fo hc3).2 2 _ rfl) (ov_get 2 (AO_fam ao fo hc3).1 rfl rfl) rfl rfl rfl (Nat.le_of_ble_eq_true rfl) ⟨Nat.le_refl _, Nat.le_refl _⟩ (fun Py4 => ?_)
    refine g_famC0 hc3 rfl ?_
    refine g_iconst e_X0_goBack_32 ?_
    obtain rfl := Option.some.inj hs
    exact g_zret rfl (by decide : inZ 1) ⟨(by decide : inZ 1), hc1, Py4.1, Py4.2.1, Py4.2.2.1, Py4.2.2.2.1, Py4.2.2.2.2.1, Py4.2.2.2.2.2.1, Py4.2.2.2.2.2.2.1, Py4.2.2.2.2.2.2.2⟩ e_X0_goBack_33
  · refine g_iconst e_X0_goBack_7 ?_
    obtain rfl := Option.some.inj hs
    exact g_zret rfl (by decide : inZ 0) ⟨(by decide : inZ 0), ok_t_now, ok_p1_flaws, ok_p1_slipped, ok_p1_gone, ok_p1_work, ok_p1_out, ok_p1_lost, ok_p1_came, ok_p1_signs⟩ e_X0_goBack_8

noncomputable def m_X0_goBack (t_now : Int) (t_kept : Nat → Nat) (p1_flaws : Int) (p1_slipped : Int) (p1_gone : Int) (p1_work : Int) (p1_out : Int) (p1_lost : Int) (p1_came : Int) (p1_signs : Nat → Int) (t_kept_R : Nat → RowT) : Option (Int × Int × Int × Int × Int × Int × Int × Int × Int × (Nat → Int)) := m_X0_goBack_0 t_now t_kept p1_flaws p1_slipped p1_gone p1_work p1_out p1_lost p1_came p1_signs t_kept_R

set_option maxRecDepth 10000 in
set_option maxHeartbeats 8000000 in
theorem ct_X0_goBack {l : Launch} {E : EE} {b0 n : Nat} {h : AH} {a_t a_p1 : Nat} {t_now t_last p1_flaws p1_slipped p1_gone p1_work p1_out p1_lost p1_came : Int} {p1_signs : Nat → Int} {t_kept : Nat → Nat} {t_kept_R : Nat → RowT} (ao : AO b0 n [a_t, (a_t + 1), a_p1, (a_p1 + 1)]) (fo : FO b0 n [a_t, (a_t + 1), a_p1, (a_p1 + 1)] (a_t + 2) 51) (hf : FA h [a_t, (a_t + 1), a_p1, (a_p1 + 1)] [.inr (0, fsX0 a_t t_now t_last), RK E 51 (a_t + 2) t_kept, .inr (6, fsX6 a_p1 p1_flaws p1_slipped p1_gone p1_work p1_out p1_lost p1_came), IA E 100 p1_signs]) (hF : FF E h (a_t + 2) 51 t_kept_R) (ok_t_now : inI t_now) (ok_t_kept : True) (ok_p1_flaws : inI p1_flaws) (ok_p1_slipped : inI p1_slipped) (ok_p1_gone : inI p1_gone) (ok_p1_work : inJ p1_work) (ok_p1_out : inI p1_out) (ok_p1_lost : inI p1_lost) (ok_p1_came : inI p1_came) (ok_p1_signs : okA p1_signs) (ok_t_kept_R : okR t_kept_R) {r : Int × Int × Int × Int × Int × Int × Int × Int × Int × (Nat → Int)} (hm : m_X0_goBack t_now t_kept p1_flaws p1_slipped p1_gone p1_work p1_out p1_lost p1_came p1_signs t_kept_R = some r) : Ct l E b0 M_X0_goBack 0 0 [.ref a_t, .ref a_p1] h n (some (vI r.1)) (ov [a_t, (a_t + 1), a_p1, (a_p1 + 1)] [.inr (0, fsX0 a_t r.2.1 t_last), RK E 51 (a_t + 2) t_kept, .inr (6, fsX6 a_p1 r.2.2.1 r.2.2.2.1 r.2.2.2.2.1 r.2.2.2.2.2.1 r.2.2.2.2.2.2.1 r.2.2.2.2.2.2.2.1 r.2.2.2.2.2.2.2.2.1), IA E 100 r.2.2.2.2.2.2.2.2.2] h) n (inZ r.1 ∧ inI r.2.1 ∧ inI r.2.2.1 ∧ inI r.2.2.2.1 ∧ inI r.2.2.2.2.1 ∧ inJ r.2.2.2.2.2.1 ∧ inI r.2.2.2.2.2.2.1 ∧ inI r.2.2.2.2.2.2.2.1 ∧ inI r.2.2.2.2.2.2.2.2.1 ∧ okA r.2.2.2.2.2.2.2.2.2) := by
  rw [m_X0_goBack] at hm
  have hg : G l E b0 M_X0_goBack (fun _ => True) (ZM E b0 (some (vI r.1)) (ov [a_t, (a_t + 1), a_p1, (a_p1 + 1)] [.inr (0, fsX0 a_t r.2.1 t_last), RK E 51 (a_t + 2) t_kept, .inr (6, fsX6 a_p1 r.2.2.1 r.2.2.2.1 r.2.2.2.2.1 r.2.2.2.2.2.1 r.2.2.2.2.2.2.1 r.2.2.2.2.2.2.2.1 r.2.2.2.2.2.2.2.2.1), IA E 100 r.2.2.2.2.2.2.2.2.2] (fam E (a_t + 2) 51 t_kept_R h)) n (inZ r.1 ∧ inI r.2.1 ∧ inI r.2.2.1 ∧ inI r.2.2.2.1 ∧ inI r.2.2.2.2.1 ∧ inJ r.2.2.2.2.2.1 ∧ inI r.2.2.2.2.2.2.1 ∧ inI r.2.2.2.2.2.2.2.1 ∧ inI r.2.2.2.2.2.2.2.2.1 ∧ okA r.2.2.2.2.2.2.2.2.2) 0 0) 0 0 n (ov [a_t, (a_t + 1), a_p1, (a_p1 + 1)] [.inr (0, fsX0 a_t t_now t_last), RK E 51 (a_t + 2) t_kept, .inr (6, fsX6 a_p1 p1_flaws p1_slipped p1_gone p1_work p1_out p1_lost p1_came), IA E 100 p1_signs] (fam E (a_t + 2) 51 t_kept_R h)) 0 [some (.ref a_t), some (.ref a_p1)] [] := by
    have hs := hm
    exact g_X0_goBack_0 ao fo ok_t_now ok_t_kept ok_p1_flaws ok_p1_slipped ok_p1_gone ok_p1_work ok_p1_out ok_p1_lost ok_p1_came ok_p1_signs ok_t_kept_R hs
  rw [FF_id hF] at hg
  rw [FA_id hf] at hg
  exact Ct_of [some (.ref a_t), some (.ref a_p1)] ⟨by decide +kernel, rfl⟩ rfl (Nat.le_of_ble_eq_true rfl) hg

/-! ===== X0_goOn ===== -/
theorem e_X0_goOn_0 : DC cX0_goOn 0 (.aload_n 0) 1 1 := ⟨by decide +kernel, rfl⟩
theorem e_X0_goOn_1 : DC cX0_goOn 1 (.getfield 18) 3 4 := ⟨by decide +kernel, rfl⟩
theorem e_X0_goOn_4 : DC cX0_goOn 4 (.aload_n 0) 1 5 := ⟨by decide +kernel, rfl⟩
theorem e_X0_goOn_5 : DC cX0_goOn 5 (.getfield 25) 3 8 := ⟨by decide +kernel, rfl⟩
theorem e_X0_goOn_8 : DB cX0_goOn 8 (.if_icmp .lt 5) (5) 3 11 13 := ⟨by decide +kernel, rfl, rfl⟩
theorem e_X0_goOn_11 : DC cX0_goOn 11 (.iconst 0) 1 12 := ⟨by decide +kernel, rfl⟩
theorem e_X0_goOn_12 : DC cX0_goOn 12 (.ireturn) 1 13 := ⟨by decide +kernel, rfl⟩
theorem e_X0_goOn_13 : DC cX0_goOn 13 (.aload_n 0) 1 14 := ⟨by decide +kernel, rfl⟩
theorem e_X0_goOn_14 : DC cX0_goOn 14 (.dup) 1 15 := ⟨by decide +kernel, rfl⟩
theorem e_X0_goOn_15 : DC cX0_goOn 15 (.getfield 18) 3 18 := ⟨by decide +kernel, rfl⟩
theorem e_X0_goOn_18 : DC cX0_goOn 18 (.iconst 1) 1 19 := ⟨by decide +kernel, rfl⟩
theorem e_X0_goOn_19 : DC cX0_goOn 19 (.iadd) 1 20 := ⟨by decide +kernel, rfl⟩
theorem e_X0_goOn_20 : DC cX0_goOn 20 (.putfield 18) 3 23 := ⟨by decide +kernel, rfl⟩
theorem e_X0_goOn_23 : DC cX0_goOn 23 (.aload_n 1) 1 24 := ⟨by decide +kernel, rfl⟩
theorem e_X0_goOn_24 : DC cX0_goOn 24 (.aload_n 0) 1 25 := ⟨by decide +kernel, rfl⟩
theorem e_X0_goOn_25 : DC cX0_goOn 25 (.getfield 11) 3 28 := ⟨by decide +kernel, rfl⟩
theorem e_X0_goOn_28 : DC cX0_goOn 28 (.aload_n 0) 1 29 := ⟨by decide +kernel, rfl⟩
theorem e_X0_goOn_29 : DC cX0_goOn 29 (.getfield 18) 3 32 := ⟨by decide +kernel, rfl⟩
theorem e_X0_goOn_32 : DC cX0_goOn 32 (.aaload) 1 33 := ⟨by decide +kernel, rfl⟩
theorem e_X0_goOn_33 : DC cX0_goOn 33 (.invokevirtual 28) 3 36 := ⟨by decide +kernel, rfl⟩
theorem e_X0_goOn_36 : DC cX0_goOn 36 (.iconst 1) 1 37 := ⟨by decide +kernel, rfl⟩
theorem e_X0_goOn_37 : DC cX0_goOn 37 (.ireturn) 1 38 := ⟨by decide +kernel, rfl⟩
noncomputable def m_X0_goOn_0 (t_now : Int) (t_last : Int) (t_kept : Nat → Nat) (p1_flaws : Int) (p1_slipped : Int) (p1_gone : Int) (p1_work : Int) (p1_out : Int) (p1_lost : Int) (p1_came : Int) (p1_signs : Nat → Int) (t_kept_R : Nat → RowT) : Option (Int × Int × Int × Int × Int × Int × Int × Int × Int × (Nat → Int)) :=
  if t_now < t_last then (chk (inI (t_now + 1)) (chk (inB (t_now + 1) 51) (chk (t_kept (Int.toNat (t_now + 1)) < 51) ((m_X6_becomes p1_flaws p1_slipped p1_gone p1_work p1_out p1_lost p1_came p1_signs ((t_kept_R (t_kept (Int.toNat (t_now + 1)))).2.2.2.1) ((t_kept_R (t_kept (Int.toNat (t_now + 1)))).2.2.2.2.1) ((t_kept_R (t_kept (Int.toNat (t_now + 1)))).2.2.2.2.2.1) ((t_kept_R (t_kept (Int.toNat (t_now + 1)))).2.2.2.2.2.2.1) ((t_kept_R (t_kept (Int.toNat (t_now + 1)))).2.2.2.2.2.2.2.1) ((t_kept_R (t_kept (Int.toNat (t_now + 1)))).2.2.2.2.2.2.2.2.1) ((t_kept_R (t_kept (Int.toNat (t_now + 1)))).2.2.2.2.2.2.2.2.2) ((t_kept_R (t_kept (Int.toNat (t_now + 1)))).1)).bind (fun y4 => some (1, t_now + 1, y4.1, y4.2.1, y4.2.2.1, y4.2.2.2.1, y4.2.2.2.2.1, y4.2.2.2.2.2.1, y4.2.2.2.2.2.2.1, y4.2.2.2.2.2.2.2)))))) else (some (0, t_now, p1_flaws, p1_slipped, p1_gone, p1_work, p1_out, p1_lost, p1_came, p1_signs))

set_option maxRecDepth 10000 in
set_option maxHeartbeats 8000000 in
theorem g_X0_goOn_0 {l : Launch} {E : EE} {b0 n : Nat} {h : AH} {a_t a_p1 : Nat} {t_now t_last p1_flaws p1_slipped p1_gone p1_work p1_out p1_lost p1_came : Int} {p1_signs : Nat → Int} {t_kept : Nat → Nat} {t_kept_R : Nat → RowT} {r : Int × Int × Int × Int × Int × Int × Int × Int × Int × (Nat → Int)} (ao : AO b0 n [a_t, (a_t + 1), a_p1, (a_p1 + 1)]) (fo : FO b0 n [a_t, (a_t + 1), a_p1, (a_p1 + 1)] (a_t + 2) 51) (ok_t_now : inI t_now) (ok_t_last : inI t_last) (ok_t_kept : True) (ok_p1_flaws : inI p1_flaws) (ok_p1_slipped : inI p1_slipped) (ok_p1_gone : inI p1_gone) (ok_p1_work : inJ p1_work) (ok_p1_out : inI p1_out) (ok_p1_lost : inI p1_lost) (ok_p1_came : inI p1_came) (ok_p1_signs : okA p1_signs) (ok_t_kept_R : okR t_kept_R) (hs : m_X0_goOn_0 t_now t_last t_kept p1_flaws p1_slipped p1_gone p1_work p1_out p1_lost p1_came p1_signs t_kept_R = some r) : G l E b0 M_X0_goOn (fun _ => True) (ZM E b0 (some (vI r.1)) (ov [a_t, (a_t + 1), a_p1, (a_p1 + 1)] [.inr (0, fsX0 a_t r.2.1 t_last), RK E 51 (a_t + 2) t_kept, .inr (6, fsX6 a_p1 r.2.2.1 r.2.2.2.1 r.2.2.2.2.1 r.2.2.2.2.2.1 r.2.2.2.2.2.2.1 r.2.2.2.2.2.2.2.1 r.2.2.2.2.2.2.2.2.1), IA E 100 r.2.2.2.2.2.2.2.2.2] (fam E (a_t + 2) 51 t_kept_R h)) n (inZ r.1 ∧ inI r.2.1 ∧ inI r.2.2.1 ∧ inI r.2.2.2.1 ∧ inI r.2.2.2.2.1 ∧ inJ r.2.2.2.2.2.1 ∧ inI r.2.2.2.2.2.2.1 ∧ inI r.2.2.2.2.2.2.2.1 ∧ inI r.2.2.2.2.2.2.2.2.1 ∧ okA r.2.2.2.2.2.2.2.2.2) 0 0) 0 0 n (ov [a_t, (a_t + 1), a_p1, (a_p1 + 1)] [.inr (0, fsX0 a_t t_now t_last), RK E 51 (a_t + 2) t_kept, .inr (6, fsX6 a_p1 p1_flaws p1_slipped p1_gone p1_work p1_out p1_lost p1_came), IA E 100 p1_signs] (fam E (a_t + 2) 51 t_kept_R h)) 0 [some (.ref a_t), some (.ref a_p1)] [] := by
  rw [m_X0_goOn_0] at hs
  refine g_aload_n e_X0_goOn_0 rfl ?_
  refine g_get 0 1 ao rfl rfl fsX0_g1 fl_X0_18 e_X0_goOn_1 ?_
  refine g_aload_n e_X0_goOn_4 rfl ?_
  refine g_get 0 2 ao rfl rfl fsX0_g2 fl_X0_25 e_X0_goOn_5 ?_
  refine g_icmp_lt e_X0_goOn_8 ok_t_now ok_t_last hs (fun c8 hs => ?_) (fun c8 hs => ?_)
  · refine g_aload_n e_X0_goOn_13 rfl ?_
    refine g_dup e_X0_goOn_14 rfl ?_
    refine g_get 0 1 ao rfl rfl fsX0_g1 fl_X0_18 e_X0_goOn_15 ?_
    refine g_iconst e_X0_goOn_18 ?_
    refine g_iadd e_X0_goOn_19 ?_
    obtain ⟨hc1, hs⟩ := chk_elim hs
    refine g_put 0 1 ao rfl rfl fsX0_k1 fsX0_s1 ls_0 fw_X0_18 (fun h => by cases h) ⟨rfl, rfl⟩ e_X0_goOn_20 ?_
    refine g_aload_n e_X0_goOn_23 rfl ?_
    refine g_aload_n e_X0_goOn_24 rfl ?_
    refine g_get 0 0 ao rfl rfl fsX0_g0 fl_X0_11 e_X0_goOn_25 ?_
    refine g_aload_n e_X0_goOn_28 rfl ?_
    refine g_get 0 1 ao rfl rfl fsX0_g1 fl_X0_18 e_X0_goOn_29 ?_
    refine g_aldF 1 ao rfl rfl (Nat.le_of_ble_eq_true rfl) e_X0_goOn_32 hs (fun hi2 hs => ?_)
    obtain ⟨hc3, hs⟩ := chk_elim hs
    obtain ⟨y4, hy4, hs⟩ := bind_elim hs
    refine g_famO (t_kept (Int.toNat (t_now + 1))) hc3 rfl ?_
    refine g_callVv [.ref ((a_t + 2) + 4 * (t_kept (Int.toNat (t_now + 1))))] cv_X0_28 ⟨rfl, rfl, Nat.le_of_ble_eq_true rfl, Nat.le_of_ble_eq_true rfl⟩ (Ct_heap (ct_X6_becomes (a_t := a_p1) (a_p1 := ((a_t + 2) + 4 * (t_kept (Int.toNat (t_now + 1))))) (AO_call [2, 3, 4, 5] (AO_fam ao fo hc3) (by decide) rfl) (FA_call [2, 3, 4, 5] (AO_fam ao fo hc3).1 rfl rfl) ok_p1_flaws ok_p1_slipped ok_p1_gone ok_p1_work ok_p1_out ok_p1_lost ok_p1_came ok_p1_signs ((ok_t_kept_R (t_kept (Int.toNat (t_now + 1)))).2.2.2.1) ((ok_t_kept_R (t_kept (Int.toNat (t_now + 1)))).2.2.2.2.1) ((ok_t_kept_R (t_kept (Int.toNat (t_now + 1)))).2.2.2.2.2.1) ((ok_t_kept_R (t_kept (Int.toNat (t_now + 1)))).2.2.2.2.2.2.1) ((ok_t_kept_R (t_kept (Int.toNat (t_now + 1)))).2.2.2.2.2.2.2.1) ((ok_t_kept_R (t_kept (Int.toNat (t_now + 1)))).2.2.2.2.2.2.2.2.1) ((ok_t_kept_R (t_kept (Int.toNat (t_now + 1)))).2.2.2.2.2.2.2.2.2) ((ok_t_kept_R (t_kept (Int.toNat (t_now + 1)))).1) hy4) (ov_callN (esn := ([.inr (0, fsX0 a_t (t_now + 1) t_last), RK E 51 (a_t + 2) t_kept, .inr (6, fsX6 a_p1 y4.1 y4.2.1 y4.2.2.1 y4.2.2.2.1 y4.2.2.2.2.1 y4.2.2.2.2.2.1 y4.2.2.2.2.2.2.1), IA E 100 y4.2.2.2.2.2.2.2] ++ rc E ((a_t + 2) + 4 * (t_kept (Int.toNat (t_now + 1)))) (t_kept_R (t_kept (Int.toNat (t_now + 1)))))) [2, 3, 4, 5] [true, true, false, false, false, false, true, true] (AO_fam ao fo hc3).1 rfl rfl rfl rfl rfl rfl (by decide))) e_X0_goOn_33 ((AO_fam ao fo hc3).2 2 _ rfl) (ov_get 2 (AO_fam ao fo hc3).1 rfl rfl) rfl rfl rfl (Nat.le_of_ble_eq_true rfl) ⟨Nat.le_refl _, Nat.le_refl _⟩ (fun Py4 => ?_)
    refine g_famC0 hc3 rfl ?_
    refine g_iconst e_X0_goOn_36 ?_
    obtain rfl := Option.some.inj hs
    exact g_zret rfl (by decide : inZ 1) ⟨(by decide : inZ 1), hc1, Py4.1, Py4.2.1, Py4.2.2.1, Py4.2.2.2.1, Py4.2.2.2.2.1, Py4.2.2.2.2.2.1, Py4.2.2.2.2.2.2.1, Py4.2.2.2.2.2.2.2⟩ e_X0_goOn_37
  · refine g_iconst e_X0_goOn_11 ?_
    obtain rfl := Option.some.inj hs
    exact g_zret rfl (by decide : inZ 0) ⟨(by decide : inZ 0), ok_t_now, ok_p1_flaws, ok_p1_slipped, ok_p1_gone, ok_p1_work, ok_p1_out, ok_p1_lost, ok_p1_came, ok_p1_signs⟩ e_X0_goOn_12

noncomputable def m_X0_goOn (t_now : Int) (t_last : Int) (t_kept : Nat → Nat) (p1_flaws : Int) (p1_slipped : Int) (p1_gone : Int) (p1_work : Int) (p1_out : Int) (p1_lost : Int) (p1_came : Int) (p1_signs : Nat → Int) (t_kept_R : Nat → RowT) : Option (Int × Int × Int × Int × Int × Int × Int × Int × Int × (Nat → Int)) := m_X0_goOn_0 t_now t_last t_kept p1_flaws p1_slipped p1_gone p1_work p1_out p1_lost p1_came p1_signs t_kept_R

set_option maxRecDepth 10000 in
set_option maxHeartbeats 8000000 in
theorem ct_X0_goOn {l : Launch} {E : EE} {b0 n : Nat} {h : AH} {a_t a_p1 : Nat} {t_now t_last p1_flaws p1_slipped p1_gone p1_work p1_out p1_lost p1_came : Int} {p1_signs : Nat → Int} {t_kept : Nat → Nat} {t_kept_R : Nat → RowT} (ao : AO b0 n [a_t, (a_t + 1), a_p1, (a_p1 + 1)]) (fo : FO b0 n [a_t, (a_t + 1), a_p1, (a_p1 + 1)] (a_t + 2) 51) (hf : FA h [a_t, (a_t + 1), a_p1, (a_p1 + 1)] [.inr (0, fsX0 a_t t_now t_last), RK E 51 (a_t + 2) t_kept, .inr (6, fsX6 a_p1 p1_flaws p1_slipped p1_gone p1_work p1_out p1_lost p1_came), IA E 100 p1_signs]) (hF : FF E h (a_t + 2) 51 t_kept_R) (ok_t_now : inI t_now) (ok_t_last : inI t_last) (ok_t_kept : True) (ok_p1_flaws : inI p1_flaws) (ok_p1_slipped : inI p1_slipped) (ok_p1_gone : inI p1_gone) (ok_p1_work : inJ p1_work) (ok_p1_out : inI p1_out) (ok_p1_lost : inI p1_lost) (ok_p1_came : inI p1_came) (ok_p1_signs : okA p1_signs) (ok_t_kept_R : okR t_kept_R) {r : Int × Int × Int × Int × Int × Int × Int × Int × Int × (Nat → Int)} (hm : m_X0_goOn t_now t_last t_kept p1_flaws p1_slipped p1_gone p1_work p1_out p1_lost p1_came p1_signs t_kept_R = some r) : Ct l E b0 M_X0_goOn 0 0 [.ref a_t, .ref a_p1] h n (some (vI r.1)) (ov [a_t, (a_t + 1), a_p1, (a_p1 + 1)] [.inr (0, fsX0 a_t r.2.1 t_last), RK E 51 (a_t + 2) t_kept, .inr (6, fsX6 a_p1 r.2.2.1 r.2.2.2.1 r.2.2.2.2.1 r.2.2.2.2.2.1 r.2.2.2.2.2.2.1 r.2.2.2.2.2.2.2.1 r.2.2.2.2.2.2.2.2.1), IA E 100 r.2.2.2.2.2.2.2.2.2] h) n (inZ r.1 ∧ inI r.2.1 ∧ inI r.2.2.1 ∧ inI r.2.2.2.1 ∧ inI r.2.2.2.2.1 ∧ inJ r.2.2.2.2.2.1 ∧ inI r.2.2.2.2.2.2.1 ∧ inI r.2.2.2.2.2.2.2.1 ∧ inI r.2.2.2.2.2.2.2.2.1 ∧ okA r.2.2.2.2.2.2.2.2.2) := by
  rw [m_X0_goOn] at hm
  have hg : G l E b0 M_X0_goOn (fun _ => True) (ZM E b0 (some (vI r.1)) (ov [a_t, (a_t + 1), a_p1, (a_p1 + 1)] [.inr (0, fsX0 a_t r.2.1 t_last), RK E 51 (a_t + 2) t_kept, .inr (6, fsX6 a_p1 r.2.2.1 r.2.2.2.1 r.2.2.2.2.1 r.2.2.2.2.2.1 r.2.2.2.2.2.2.1 r.2.2.2.2.2.2.2.1 r.2.2.2.2.2.2.2.2.1), IA E 100 r.2.2.2.2.2.2.2.2.2] (fam E (a_t + 2) 51 t_kept_R h)) n (inZ r.1 ∧ inI r.2.1 ∧ inI r.2.2.1 ∧ inI r.2.2.2.1 ∧ inI r.2.2.2.2.1 ∧ inJ r.2.2.2.2.2.1 ∧ inI r.2.2.2.2.2.2.1 ∧ inI r.2.2.2.2.2.2.2.1 ∧ inI r.2.2.2.2.2.2.2.2.1 ∧ okA r.2.2.2.2.2.2.2.2.2) 0 0) 0 0 n (ov [a_t, (a_t + 1), a_p1, (a_p1 + 1)] [.inr (0, fsX0 a_t t_now t_last), RK E 51 (a_t + 2) t_kept, .inr (6, fsX6 a_p1 p1_flaws p1_slipped p1_gone p1_work p1_out p1_lost p1_came), IA E 100 p1_signs] (fam E (a_t + 2) 51 t_kept_R h)) 0 [some (.ref a_t), some (.ref a_p1)] [] := by
    have hs := hm
    exact g_X0_goOn_0 ao fo ok_t_now ok_t_last ok_t_kept ok_p1_flaws ok_p1_slipped ok_p1_gone ok_p1_work ok_p1_out ok_p1_lost ok_p1_came ok_p1_signs ok_t_kept_R hs
  rw [FF_id hF] at hg
  rw [FA_id hf] at hg
  exact Ct_of [some (.ref a_t), some (.ref a_p1)] ⟨by decide +kernel, rfl⟩ rfl (Nat.le_of_ble_eq_true rfl) hg


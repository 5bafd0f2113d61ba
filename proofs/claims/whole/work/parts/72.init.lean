theorem oi_X8 : Cond.methodLink RX8 1 Lib.objectInit ∈ GW ∧ Cond.instanceMethod Lib.objectInit ∈ GW ∧ Cond.code Lib.objectInit ⟨#[0xb1]⟩ 1 none ∈ GW := ⟨GW_of 145 (by decide +kernel) (by decide +kernel), GW_of 109 (by decide +kernel) (by decide +kernel), GW_of 110 (by decide +kernel) (by decide +kernel)⟩
theorem e_X8_init_0 : DC cX8_init 0 (.aload_n 0) 1 1 := ⟨by decide +kernel, rfl⟩
theorem e_X8_init_1 : DC cX8_init 1 (.invokespecial 1) 3 4 := ⟨by decide +kernel, rfl⟩
theorem e_X8_init_4 : DC cX8_init 4 (.iconst 0) 1 5 := ⟨by decide +kernel, rfl⟩
theorem e_X8_init_5 : DC cX8_init 5 (.iload_n 1) 1 6 := ⟨by decide +kernel, rfl⟩
theorem e_X8_init_6 : DC cX8_init 6 (.invokestatic 7) 3 9 := ⟨by decide +kernel, rfl⟩
theorem e_X8_init_9 : DC cX8_init 9 (.istore_n 2) 1 10 := ⟨by decide +kernel, rfl⟩
theorem e_X8_init_10 : DC cX8_init 10 (.aload_n 0) 1 11 := ⟨by decide +kernel, rfl⟩
theorem e_X8_init_11 : DC cX8_init 11 (.iload_n 2) 1 12 := ⟨by decide +kernel, rfl⟩
theorem e_X8_init_12 : DC cX8_init 12 (.newarray .int) 2 14 := ⟨by decide +kernel, rfl⟩
theorem e_X8_init_14 : DC cX8_init 14 (.putfield 13) 3 17 := ⟨by decide +kernel, rfl⟩
theorem e_X8_init_17 : DC cX8_init 17 (.aload_n 0) 1 18 := ⟨by decide +kernel, rfl⟩
theorem e_X8_init_18 : DC cX8_init 18 (.iload_n 2) 1 19 := ⟨by decide +kernel, rfl⟩
theorem e_X8_init_19 : DC cX8_init 19 (.newarray .int) 2 21 := ⟨by decide +kernel, rfl⟩
theorem e_X8_init_21 : DC cX8_init 21 (.putfield 19) 3 24 := ⟨by decide +kernel, rfl⟩
theorem e_X8_init_24 : DC cX8_init 24 (.aload_n 0) 1 25 := ⟨by decide +kernel, rfl⟩
theorem e_X8_init_25 : DC cX8_init 25 (.iload_n 2) 1 26 := ⟨by decide +kernel, rfl⟩
theorem e_X8_init_26 : DC cX8_init 26 (.newarray .int) 2 28 := ⟨by decide +kernel, rfl⟩
theorem e_X8_init_28 : DC cX8_init 28 (.putfield 22) 3 31 := ⟨by decide +kernel, rfl⟩
theorem e_X8_init_31 : DC cX8_init 31 (.return_) 1 32 := ⟨by decide +kernel, rfl⟩
theorem fw_X8_13 : FW RX8 13 8 0 true (.array .int) := ⟨RX8, TX8, 4, rfl, by decide, rfl, rfl, by decide +kernel, Or.inl (GW_of 149 (by decide +kernel) (by decide +kernel)), fun _ => ⟨rfl, GW_of 149 (by decide +kernel) (by decide +kernel)⟩⟩
theorem fw_X8_19 : FW RX8 19 8 1 true (.array .int) := ⟨RX8, TX8, 4, rfl, by decide, rfl, rfl, by decide +kernel, Or.inl (GW_of 150 (by decide +kernel) (by decide +kernel)), fun _ => ⟨rfl, GW_of 150 (by decide +kernel) (by decide +kernel)⟩⟩
theorem fw_X8_22 : FW RX8 22 8 2 true (.array .int) := ⟨RX8, TX8, 4, rfl, by decide, rfl, rfl, by decide +kernel, Or.inl (GW_of 151 (by decide +kernel) (by decide +kernel)), fun _ => ⟨rfl, GW_of 151 (by decide +kernel) (by decide +kernel)⟩⟩
theorem jm_X8_init : Cond.methodLink RX8 7 Lib.Math.max.name ∈ GW ∧ Cond.static Lib.Math.max.name ∈ GW ∧ Cond.initialized "java/lang/Math" ∈ GW ∧ Cond.code Lib.Math.max.name Lib.Math.max.code 2 (some .int) ∈ GW := ⟨GW_of 146 (by decide +kernel) (by decide +kernel), GW_of 147 (by decide +kernel) (by decide +kernel), GW_of 88 (by decide +kernel) (by decide +kernel), GW_of 148 (by decide +kernel) (by decide +kernel)⟩
theorem getE_at {es bl : List va_E} {m : Nat} (h : es.length = m) : (es ++ bl)[m]? = bl[0]? := by
  rw [List.getElem?_append_right (by omega), h, Nat.sub_self]
def blkX8_8 (E : EE) (a : Nat) : List va_E := [.inr (8, fsX8 a 0), IA E 8 (fun _ => 0), IA E 8 (fun _ => 0), IA E 8 (fun _ => 0)]
theorem blkX8_8_len {E : EE} {a : Nat} : (blkX8_8 E a).length = 4 := rfl
def M_X8_8_init : MB := (yX8_init, cX8_init, 3, none, ({ frames := 2, cells := 3, slots := 24, locals := 60 } : Room), RX8)
theorem ct_X8_8_init {l : Launch} {E : EE} {b0 a k : Nat} {h : AH} (ha : a = b0 + k) (hb : h a = .inr (8, [.null, .null, .null, vI 0])) : Ct l E b0 M_X8_8_init 3 24 [.ref a, vI 8] h (k + 1) none (lay a (blkX8_8 E a) h) (k + 4) True := by
  have hg : G l E b0 M_X8_8_init (fun _ => True) (ZM E b0 none (lay a (blkX8_8 E a) h) (k + 4) True 3 24) 0 0 (k + 1) (lay a [.inr (8, [.null, .null, .null, vI 0])] h) 0 [some (.ref a), some (vI 8), none] [] := by
    refine g_aload_n e_X8_init_0 rfl ?_
    refine g_objInit oi_X8 e_X8_init_1 (Nat.le_of_ble_eq_true rfl) (Nat.le_of_ble_eq_true rfl) ?_
    refine g_iconst e_X8_init_4 ?_
    refine g_iload_n e_X8_init_5 rfl ?_
    refine g_max jm_X8_init e_X8_init_6 ⟨Nat.le_of_ble_eq_true rfl, Nat.le_of_ble_eq_true rfl, Nat.le_of_ble_eq_true rfl⟩ (Nat.le_of_ble_eq_true rfl) (by decide : inI 0) (by decide : inI 8) ?_
    rw [if_pos (by decide : (0 : Int) < 8)]
    refine g_istore_n (L' := [some (.ref a), some (vI 8), some (vI 8)]) e_X8_init_9 rfl rfl ?_
    refine g_aload_n e_X8_init_10 rfl ?_
    refine g_iload_n e_X8_init_11 rfl ?_
    refine c_newI (N := 8) rfl (Nat.le_of_ble_eq_true rfl) w_arrI e_X8_init_12 ⟨Nat.le_of_ble_eq_true rfl, Nat.le_of_ble_eq_true rfl⟩ 1 rfl (by omega) ?_
    refine c_put (a := a) 0 0 (es' := [.inr (8, [.ref (a + 1), .null, .null, vI 0]), IA E 8 (fun _ => 0)]) (by omega) rfl (Nat.le_of_ble_eq_true rfl) rfl rfl fw_X8_13 (fun _ => rfl) ⟨rfl, rfl⟩ e_X8_init_14 ?_
    refine g_aload_n e_X8_init_17 rfl ?_
    refine g_iload_n e_X8_init_18 rfl ?_
    refine c_newI (N := 8) rfl (Nat.le_of_ble_eq_true rfl) w_arrI e_X8_init_19 ⟨Nat.le_of_ble_eq_true rfl, Nat.le_of_ble_eq_true rfl⟩ 2 rfl (by omega) ?_
    refine c_put (a := a) 0 1 (es' := [.inr (8, [.ref (a + 1), .ref (a + 2), .null, vI 0]), IA E 8 (fun _ => 0), IA E 8 (fun _ => 0)]) (by omega) rfl (Nat.le_of_ble_eq_true rfl) rfl rfl fw_X8_19 (fun _ => rfl) ⟨rfl, rfl⟩ e_X8_init_21 ?_
    refine g_aload_n e_X8_init_24 rfl ?_
    refine g_iload_n e_X8_init_25 rfl ?_
    refine c_newI (N := 8) rfl (Nat.le_of_ble_eq_true rfl) w_arrI e_X8_init_26 ⟨Nat.le_of_ble_eq_true rfl, Nat.le_of_ble_eq_true rfl⟩ 3 rfl (by omega) ?_
    refine c_put (a := a) 0 2 (es' := [.inr (8, [.ref (a + 1), .ref (a + 2), .ref (a + 3), vI 0]), IA E 8 (fun _ => 0), IA E 8 (fun _ => 0), IA E 8 (fun _ => 0)]) (by omega) rfl (Nat.le_of_ble_eq_true rfl) rfl rfl fw_X8_22 (fun _ => rfl) ⟨rfl, rfl⟩ e_X8_init_28 ?_
    exact g_vret rfl trivial e_X8_init_31
  rw [lay_one hb] at hg
  exact Ct_of [some (.ref a), some (vI 8), none] ⟨by decide +kernel, rfl⟩ rfl (Nat.le_of_ble_eq_true rfl) hg
def blkX8_16 (E : EE) (a : Nat) : List va_E := [.inr (8, fsX8 a 0), IA E 16 (fun _ => 0), IA E 16 (fun _ => 0), IA E 16 (fun _ => 0)]
theorem blkX8_16_len {E : EE} {a : Nat} : (blkX8_16 E a).length = 4 := rfl
def M_X8_16_init : MB := (yX8_init, cX8_init, 3, none, ({ frames := 2, cells := 3, slots := 48, locals := 60 } : Room), RX8)
theorem ct_X8_16_init {l : Launch} {E : EE} {b0 a k : Nat} {h : AH} (ha : a = b0 + k) (hb : h a = .inr (8, [.null, .null, .null, vI 0])) : Ct l E b0 M_X8_16_init 3 48 [.ref a, vI 16] h (k + 1) none (lay a (blkX8_16 E a) h) (k + 4) True := by
  have hg : G l E b0 M_X8_16_init (fun _ => True) (ZM E b0 none (lay a (blkX8_16 E a) h) (k + 4) True 3 48) 0 0 (k + 1) (lay a [.inr (8, [.null, .null, .null, vI 0])] h) 0 [some (.ref a), some (vI 16), none] [] := by
    refine g_aload_n e_X8_init_0 rfl ?_
    refine g_objInit oi_X8 e_X8_init_1 (Nat.le_of_ble_eq_true rfl) (Nat.le_of_ble_eq_true rfl) ?_
    refine g_iconst e_X8_init_4 ?_
    refine g_iload_n e_X8_init_5 rfl ?_
    refine g_max jm_X8_init e_X8_init_6 ⟨Nat.le_of_ble_eq_true rfl, Nat.le_of_ble_eq_true rfl, Nat.le_of_ble_eq_true rfl⟩ (Nat.le_of_ble_eq_true rfl) (by decide : inI 0) (by decide : inI 16) ?_
    rw [if_pos (by decide : (0 : Int) < 16)]
    refine g_istore_n (L' := [some (.ref a), some (vI 16), some (vI 16)]) e_X8_init_9 rfl rfl ?_
    refine g_aload_n e_X8_init_10 rfl ?_
    refine g_iload_n e_X8_init_11 rfl ?_
    refine c_newI (N := 16) rfl (Nat.le_of_ble_eq_true rfl) w_arrI e_X8_init_12 ⟨Nat.le_of_ble_eq_true rfl, Nat.le_of_ble_eq_true rfl⟩ 1 rfl (by omega) ?_
    refine c_put (a := a) 0 0 (es' := [.inr (8, [.ref (a + 1), .null, .null, vI 0]), IA E 16 (fun _ => 0)]) (by omega) rfl (Nat.le_of_ble_eq_true rfl) rfl rfl fw_X8_13 (fun _ => rfl) ⟨rfl, rfl⟩ e_X8_init_14 ?_
    refine g_aload_n e_X8_init_17 rfl ?_
    refine g_iload_n e_X8_init_18 rfl ?_
    refine c_newI (N := 16) rfl (Nat.le_of_ble_eq_true rfl) w_arrI e_X8_init_19 ⟨Nat.le_of_ble_eq_true rfl, Nat.le_of_ble_eq_true rfl⟩ 2 rfl (by omega) ?_
    refine c_put (a := a) 0 1 (es' := [.inr (8, [.ref (a + 1), .ref (a + 2), .null, vI 0]), IA E 16 (fun _ => 0), IA E 16 (fun _ => 0)]) (by omega) rfl (Nat.le_of_ble_eq_true rfl) rfl rfl fw_X8_19 (fun _ => rfl) ⟨rfl, rfl⟩ e_X8_init_21 ?_
    refine g_aload_n e_X8_init_24 rfl ?_
    refine g_iload_n e_X8_init_25 rfl ?_
    refine c_newI (N := 16) rfl (Nat.le_of_ble_eq_true rfl) w_arrI e_X8_init_26 ⟨Nat.le_of_ble_eq_true rfl, Nat.le_of_ble_eq_true rfl⟩ 3 rfl (by omega) ?_
    refine c_put (a := a) 0 2 (es' := [.inr (8, [.ref (a + 1), .ref (a + 2), .ref (a + 3), vI 0]), IA E 16 (fun _ => 0), IA E 16 (fun _ => 0), IA E 16 (fun _ => 0)]) (by omega) rfl (Nat.le_of_ble_eq_true rfl) rfl rfl fw_X8_22 (fun _ => rfl) ⟨rfl, rfl⟩ e_X8_init_28 ?_
    exact g_vret rfl trivial e_X8_init_31
  rw [lay_one hb] at hg
  exact Ct_of [some (.ref a), some (vI 16), none] ⟨by decide +kernel, rfl⟩ rfl (Nat.le_of_ble_eq_true rfl) hg
def blkX8_120 (E : EE) (a : Nat) : List va_E := [.inr (8, fsX8 a 0), IA E 120 (fun _ => 0), IA E 120 (fun _ => 0), IA E 120 (fun _ => 0)]
theorem blkX8_120_len {E : EE} {a : Nat} : (blkX8_120 E a).length = 4 := rfl
def M_X8_120_init : MB := (yX8_init, cX8_init, 3, none, ({ frames := 2, cells := 3, slots := 360, locals := 60 } : Room), RX8)
theorem ct_X8_120_init {l : Launch} {E : EE} {b0 a k : Nat} {h : AH} (ha : a = b0 + k) (hb : h a = .inr (8, [.null, .null, .null, vI 0])) : Ct l E b0 M_X8_120_init 3 360 [.ref a, vI 120] h (k + 1) none (lay a (blkX8_120 E a) h) (k + 4) True := by
  have hg : G l E b0 M_X8_120_init (fun _ => True) (ZM E b0 none (lay a (blkX8_120 E a) h) (k + 4) True 3 360) 0 0 (k + 1) (lay a [.inr (8, [.null, .null, .null, vI 0])] h) 0 [some (.ref a), some (vI 120), none] [] := by
    refine g_aload_n e_X8_init_0 rfl ?_
    refine g_objInit oi_X8 e_X8_init_1 (Nat.le_of_ble_eq_true rfl) (Nat.le_of_ble_eq_true rfl) ?_
    refine g_iconst e_X8_init_4 ?_
    refine g_iload_n e_X8_init_5 rfl ?_
    refine g_max jm_X8_init e_X8_init_6 ⟨Nat.le_of_ble_eq_true rfl, Nat.le_of_ble_eq_true rfl, Nat.le_of_ble_eq_true rfl⟩ (Nat.le_of_ble_eq_true rfl) (by decide : inI 0) (by decide : inI 120) ?_
    rw [if_pos (by decide : (0 : Int) < 120)]
    refine g_istore_n (L' := [some (.ref a), some (vI 120), some (vI 120)]) e_X8_init_9 rfl rfl ?_
    refine g_aload_n e_X8_init_10 rfl ?_
    refine g_iload_n e_X8_init_11 rfl ?_
    refine c_newI (N := 120) rfl (Nat.le_of_ble_eq_true rfl) w_arrI e_X8_init_12 ⟨Nat.le_of_ble_eq_true rfl, Nat.le_of_ble_eq_true rfl⟩ 1 rfl (by omega) ?_
    refine c_put (a := a) 0 0 (es' := [.inr (8, [.ref (a + 1), .null, .null, vI 0]), IA E 120 (fun _ => 0)]) (by omega) rfl (Nat.le_of_ble_eq_true rfl) rfl rfl fw_X8_13 (fun _ => rfl) ⟨rfl, rfl⟩ e_X8_init_14 ?_
    refine g_aload_n e_X8_init_17 rfl ?_
    refine g_iload_n e_X8_init_18 rfl ?_
    refine c_newI (N := 120) rfl (Nat.le_of_ble_eq_true rfl) w_arrI e_X8_init_19 ⟨Nat.le_of_ble_eq_true rfl, Nat.le_of_ble_eq_true rfl⟩ 2 rfl (by omega) ?_
    refine c_put (a := a) 0 1 (es' := [.inr (8, [.ref (a + 1), .ref (a + 2), .null, vI 0]), IA E 120 (fun _ => 0), IA E 120 (fun _ => 0)]) (by omega) rfl (Nat.le_of_ble_eq_true rfl) rfl rfl fw_X8_19 (fun _ => rfl) ⟨rfl, rfl⟩ e_X8_init_21 ?_
    refine g_aload_n e_X8_init_24 rfl ?_
    refine g_iload_n e_X8_init_25 rfl ?_
    refine c_newI (N := 120) rfl (Nat.le_of_ble_eq_true rfl) w_arrI e_X8_init_26 ⟨Nat.le_of_ble_eq_true rfl, Nat.le_of_ble_eq_true rfl⟩ 3 rfl (by omega) ?_
    refine c_put (a := a) 0 2 (es' := [.inr (8, [.ref (a + 1), .ref (a + 2), .ref (a + 3), vI 0]), IA E 120 (fun _ => 0), IA E 120 (fun _ => 0), IA E 120 (fun _ => 0)]) (by omega) rfl (Nat.le_of_ble_eq_true rfl) rfl rfl fw_X8_22 (fun _ => rfl) ⟨rfl, rfl⟩ e_X8_init_28 ?_
    exact g_vret rfl trivial e_X8_init_31
  rw [lay_one hb] at hg
  exact Ct_of [some (.ref a), some (vI 120), none] ⟨by decide +kernel, rfl⟩ rfl (Nat.le_of_ble_eq_true rfl) hg
def blkX8_256 (E : EE) (a : Nat) : List va_E := [.inr (8, fsX8 a 0), IA E 256 (fun _ => 0), IA E 256 (fun _ => 0), IA E 256 (fun _ => 0)]
theorem blkX8_256_len {E : EE} {a : Nat} : (blkX8_256 E a).length = 4 := rfl
def M_X8_256_init : MB := (yX8_init, cX8_init, 3, none, ({ frames := 2, cells := 3, slots := 768, locals := 60 } : Room), RX8)
theorem ct_X8_256_init {l : Launch} {E : EE} {b0 a k : Nat} {h : AH} (ha : a = b0 + k) (hb : h a = .inr (8, [.null, .null, .null, vI 0])) : Ct l E b0 M_X8_256_init 3 768 [.ref a, vI 256] h (k + 1) none (lay a (blkX8_256 E a) h) (k + 4) True := by
  have hg : G l E b0 M_X8_256_init (fun _ => True) (ZM E b0 none (lay a (blkX8_256 E a) h) (k + 4) True 3 768) 0 0 (k + 1) (lay a [.inr (8, [.null, .null, .null, vI 0])] h) 0 [some (.ref a), some (vI 256), none] [] := by
    refine g_aload_n e_X8_init_0 rfl ?_
    refine g_objInit oi_X8 e_X8_init_1 (Nat.le_of_ble_eq_true rfl) (Nat.le_of_ble_eq_true rfl) ?_
    refine g_iconst e_X8_init_4 ?_
    refine g_iload_n e_X8_init_5 rfl ?_
    refine g_max jm_X8_init e_X8_init_6 ⟨Nat.le_of_ble_eq_true rfl, Nat.le_of_ble_eq_true rfl, Nat.le_of_ble_eq_true rfl⟩ (Nat.le_of_ble_eq_true rfl) (by decide : inI 0) (by decide : inI 256) ?_
    rw [if_pos (by decide : (0 : Int) < 256)]
    refine g_istore_n (L' := [some (.ref a), some (vI 256), some (vI 256)]) e_X8_init_9 rfl rfl ?_
    refine g_aload_n e_X8_init_10 rfl ?_
    refine g_iload_n e_X8_init_11 rfl ?_
    refine c_newI (N := 256) rfl (Nat.le_of_ble_eq_true rfl) w_arrI e_X8_init_12 ⟨Nat.le_of_ble_eq_true rfl, Nat.le_of_ble_eq_true rfl⟩ 1 rfl (by omega) ?_
    refine c_put (a := a) 0 0 (es' := [.inr (8, [.ref (a + 1), .null, .null, vI 0]), IA E 256 (fun _ => 0)]) (by omega) rfl (Nat.le_of_ble_eq_true rfl) rfl rfl fw_X8_13 (fun _ => rfl) ⟨rfl, rfl⟩ e_X8_init_14 ?_
    refine g_aload_n e_X8_init_17 rfl ?_
    refine g_iload_n e_X8_init_18 rfl ?_
    refine c_newI (N := 256) rfl (Nat.le_of_ble_eq_true rfl) w_arrI e_X8_init_19 ⟨Nat.le_of_ble_eq_true rfl, Nat.le_of_ble_eq_true rfl⟩ 2 rfl (by omega) ?_
    refine c_put (a := a) 0 1 (es' := [.inr (8, [.ref (a + 1), .ref (a + 2), .null, vI 0]), IA E 256 (fun _ => 0), IA E 256 (fun _ => 0)]) (by omega) rfl (Nat.le_of_ble_eq_true rfl) rfl rfl fw_X8_19 (fun _ => rfl) ⟨rfl, rfl⟩ e_X8_init_21 ?_
    refine g_aload_n e_X8_init_24 rfl ?_
    refine g_iload_n e_X8_init_25 rfl ?_
    refine c_newI (N := 256) rfl (Nat.le_of_ble_eq_true rfl) w_arrI e_X8_init_26 ⟨Nat.le_of_ble_eq_true rfl, Nat.le_of_ble_eq_true rfl⟩ 3 rfl (by omega) ?_
    refine c_put (a := a) 0 2 (es' := [.inr (8, [.ref (a + 1), .ref (a + 2), .ref (a + 3), vI 0]), IA E 256 (fun _ => 0), IA E 256 (fun _ => 0), IA E 256 (fun _ => 0)]) (by omega) rfl (Nat.le_of_ble_eq_true rfl) rfl rfl fw_X8_22 (fun _ => rfl) ⟨rfl, rfl⟩ e_X8_init_28 ?_
    exact g_vret rfl trivial e_X8_init_31
  rw [lay_one hb] at hg
  exact Ct_of [some (.ref a), some (vI 256), none] ⟨by decide +kernel, rfl⟩ rfl (Nat.le_of_ble_eq_true rfl) hg
theorem oi_X9 : Cond.methodLink RX9 3 Lib.objectInit ∈ GW ∧ Cond.instanceMethod Lib.objectInit ∈ GW ∧ Cond.code Lib.objectInit ⟨#[0xb1]⟩ 1 none ∈ GW := ⟨GW_of 139 (by decide +kernel) (by decide +kernel), GW_of 109 (by decide +kernel) (by decide +kernel), GW_of 110 (by decide +kernel) (by decide +kernel)⟩
theorem nw_X9_22 : NW RX9 22 8 4 [.null, .null, .null, vI 0] := ⟨RX8, TX8, tyX8, rfl, GW_of 140 (by decide +kernel) (by decide +kernel), GW_of 141 (by decide +kernel) (by decide +kernel), GW_of 87 (by decide +kernel) (by decide +kernel), tyX8_ok, by decide +kernel⟩
def M_X9_init : MB := (yX9_init, cX9_init, 1, none, ({ frames := 3, cells := 17, slots := 2340, locals := 82 } : Room), RX9)
theorem e_X9_init_0 : DC cX9_init 0 (.aload_n 0) 1 1 := ⟨by decide +kernel, rfl⟩
theorem e_X9_init_1 : DC cX9_init 1 (.invokespecial 3) 3 4 := ⟨by decide +kernel, rfl⟩
theorem e_X9_init_4 : DC cX9_init 4 (.aload_n 0) 1 5 := ⟨by decide +kernel, rfl⟩
theorem e_X9_init_5 : DC cX9_init 5 (.bipush 60) 2 7 := ⟨by decide +kernel, rfl⟩
theorem e_X9_init_7 : DC cX9_init 7 (.newarray .boolean) 2 9 := ⟨by decide +kernel, rfl⟩
theorem e_X9_init_9 : DC cX9_init 9 (.putfield 9) 3 12 := ⟨by decide +kernel, rfl⟩
theorem e_X9_init_12 : DC cX9_init 12 (.aload_n 0) 1 13 := ⟨by decide +kernel, rfl⟩
theorem e_X9_init_13 : DC cX9_init 13 (.bipush 120) 2 15 := ⟨by decide +kernel, rfl⟩
theorem e_X9_init_15 : DC cX9_init 15 (.newarray .int) 2 17 := ⟨by decide +kernel, rfl⟩
theorem e_X9_init_17 : DC cX9_init 17 (.putfield 15) 3 20 := ⟨by decide +kernel, rfl⟩
theorem e_X9_init_20 : DC cX9_init 20 (.aload_n 0) 1 21 := ⟨by decide +kernel, rfl⟩
theorem e_X9_init_21 : DC cX9_init 21 (.bipush 120) 2 23 := ⟨by decide +kernel, rfl⟩
theorem e_X9_init_23 : DC cX9_init 23 (.newarray .int) 2 25 := ⟨by decide +kernel, rfl⟩
theorem e_X9_init_25 : DC cX9_init 25 (.putfield 19) 3 28 := ⟨by decide +kernel, rfl⟩
theorem e_X9_init_28 : DC cX9_init 28 (.aload_n 0) 1 29 := ⟨by decide +kernel, rfl⟩
theorem e_X9_init_29 : DC cX9_init 29 (.new 22) 3 32 := ⟨by decide +kernel, rfl⟩
theorem e_X9_init_32 : DC cX9_init 32 (.dup) 1 33 := ⟨by decide +kernel, rfl⟩
theorem e_X9_init_33 : DC cX9_init 33 (.bipush 120) 2 35 := ⟨by decide +kernel, rfl⟩
theorem e_X9_init_35 : DC cX9_init 35 (.invokespecial 24) 3 38 := ⟨by decide +kernel, rfl⟩
theorem e_X9_init_38 : DC cX9_init 38 (.putfield 27) 3 41 := ⟨by decide +kernel, rfl⟩
theorem e_X9_init_41 : DC cX9_init 41 (.aload_n 0) 1 42 := ⟨by decide +kernel, rfl⟩
theorem e_X9_init_42 : DC cX9_init 42 (.bipush 120) 2 44 := ⟨by decide +kernel, rfl⟩
theorem e_X9_init_44 : DC cX9_init 44 (.newarray .boolean) 2 46 := ⟨by decide +kernel, rfl⟩
theorem e_X9_init_46 : DC cX9_init 46 (.putfield 31) 3 49 := ⟨by decide +kernel, rfl⟩
theorem e_X9_init_49 : DC cX9_init 49 (.aload_n 0) 1 50 := ⟨by decide +kernel, rfl⟩
theorem e_X9_init_50 : DC cX9_init 50 (.bipush 8) 2 52 := ⟨by decide +kernel, rfl⟩
theorem e_X9_init_52 : DC cX9_init 52 (.newarray .int) 2 54 := ⟨by decide +kernel, rfl⟩
theorem e_X9_init_54 : DC cX9_init 54 (.putfield 34) 3 57 := ⟨by decide +kernel, rfl⟩
theorem e_X9_init_57 : DC cX9_init 57 (.aload_n 0) 1 58 := ⟨by decide +kernel, rfl⟩
theorem e_X9_init_58 : DC cX9_init 58 (.bipush 8) 2 60 := ⟨by decide +kernel, rfl⟩
theorem e_X9_init_60 : DC cX9_init 60 (.newarray .int) 2 62 := ⟨by decide +kernel, rfl⟩
theorem e_X9_init_62 : DC cX9_init 62 (.putfield 37) 3 65 := ⟨by decide +kernel, rfl⟩
theorem e_X9_init_65 : DC cX9_init 65 (.aload_n 0) 1 66 := ⟨by decide +kernel, rfl⟩
theorem e_X9_init_66 : DC cX9_init 66 (.new 22) 3 69 := ⟨by decide +kernel, rfl⟩
theorem e_X9_init_69 : DC cX9_init 69 (.dup) 1 70 := ⟨by decide +kernel, rfl⟩
theorem e_X9_init_70 : DC cX9_init 70 (.sipush 256) 3 73 := ⟨by decide +kernel, rfl⟩
theorem e_X9_init_73 : DC cX9_init 73 (.invokespecial 24) 3 76 := ⟨by decide +kernel, rfl⟩
theorem e_X9_init_76 : DC cX9_init 76 (.putfield 40) 3 79 := ⟨by decide +kernel, rfl⟩
theorem e_X9_init_79 : DC cX9_init 79 (.aload_n 0) 1 80 := ⟨by decide +kernel, rfl⟩
theorem e_X9_init_80 : DC cX9_init 80 (.sipush 256) 3 83 := ⟨by decide +kernel, rfl⟩
theorem e_X9_init_83 : DC cX9_init 83 (.newarray .int) 2 85 := ⟨by decide +kernel, rfl⟩
theorem e_X9_init_85 : DC cX9_init 85 (.putfield 43) 3 88 := ⟨by decide +kernel, rfl⟩
theorem e_X9_init_88 : DC cX9_init 88 (.aload_n 0) 1 89 := ⟨by decide +kernel, rfl⟩
theorem e_X9_init_89 : DC cX9_init 89 (.sipush 256) 3 92 := ⟨by decide +kernel, rfl⟩
theorem e_X9_init_92 : DC cX9_init 92 (.newarray .int) 2 94 := ⟨by decide +kernel, rfl⟩
theorem e_X9_init_94 : DC cX9_init 94 (.putfield 46) 3 97 := ⟨by decide +kernel, rfl⟩
theorem e_X9_init_97 : DC cX9_init 97 (.aload_n 0) 1 98 := ⟨by decide +kernel, rfl⟩
theorem e_X9_init_98 : DC cX9_init 98 (.sipush 256) 3 101 := ⟨by decide +kernel, rfl⟩
theorem e_X9_init_101 : DC cX9_init 101 (.newarray .int) 2 103 := ⟨by decide +kernel, rfl⟩
theorem e_X9_init_103 : DC cX9_init 103 (.putfield 49) 3 106 := ⟨by decide +kernel, rfl⟩
theorem e_X9_init_106 : DC cX9_init 106 (.return_) 1 107 := ⟨by decide +kernel, rfl⟩
theorem fw_X9_9 : FW RX9 9 9 0 true (.array .boolean) := ⟨RX9, TX9, 14, rfl, by decide, rfl, rfl, by decide +kernel, Or.inl (GW_of 167 (by decide +kernel) (by decide +kernel)), fun _ => ⟨rfl, GW_of 167 (by decide +kernel) (by decide +kernel)⟩⟩
theorem fw_X9_15 : FW RX9 15 9 1 true (.array .int) := ⟨RX9, TX9, 14, rfl, by decide, rfl, rfl, by decide +kernel, Or.inl (GW_of 168 (by decide +kernel) (by decide +kernel)), fun _ => ⟨rfl, GW_of 168 (by decide +kernel) (by decide +kernel)⟩⟩
theorem fw_X9_19 : FW RX9 19 9 2 true (.array .int) := ⟨RX9, TX9, 14, rfl, by decide, rfl, rfl, by decide +kernel, Or.inl (GW_of 169 (by decide +kernel) (by decide +kernel)), fun _ => ⟨rfl, GW_of 169 (by decide +kernel) (by decide +kernel)⟩⟩
theorem cb_X8_init_X8_120 : CB M_X8_120_init 1 := ⟨GW_of 144 (by decide +kernel) (by decide +kernel), GW_of 87 (by decide +kernel) (by decide +kernel), by decide +kernel, by decide +kernel, by decide +kernel⟩
theorem ci_X9_24_X8_120 : CI RX9 24 M_X8_120_init 1 := ⟨cb_X8_init_X8_120, Or.inl (GW_of 142 (by decide +kernel) (by decide +kernel)), GW_of 143 (by decide +kernel) (by decide +kernel), rfl, rfl⟩
theorem fw_X9_27 : FW RX9 27 9 3 true (.object "SlidingFlaws$Ways") := ⟨RX9, TX9, 14, rfl, by decide, rfl, rfl, by decide +kernel, Or.inl (GW_of 170 (by decide +kernel) (by decide +kernel)), fun _ => ⟨rfl, GW_of 170 (by decide +kernel) (by decide +kernel)⟩⟩
theorem fw_X9_31 : FW RX9 31 9 4 true (.array .boolean) := ⟨RX9, TX9, 14, rfl, by decide, rfl, rfl, by decide +kernel, Or.inl (GW_of 172 (by decide +kernel) (by decide +kernel)), fun _ => ⟨rfl, GW_of 172 (by decide +kernel) (by decide +kernel)⟩⟩
theorem fw_X9_34 : FW RX9 34 9 7 true (.array .int) := ⟨RX9, TX9, 14, rfl, by decide, rfl, rfl, by decide +kernel, Or.inl (GW_of 177 (by decide +kernel) (by decide +kernel)), fun _ => ⟨rfl, GW_of 177 (by decide +kernel) (by decide +kernel)⟩⟩
theorem fw_X9_37 : FW RX9 37 9 8 true (.array .int) := ⟨RX9, TX9, 14, rfl, by decide, rfl, rfl, by decide +kernel, Or.inl (GW_of 178 (by decide +kernel) (by decide +kernel)), fun _ => ⟨rfl, GW_of 178 (by decide +kernel) (by decide +kernel)⟩⟩
theorem cb_X8_init_X8_256 : CB M_X8_256_init 1 := ⟨GW_of 144 (by decide +kernel) (by decide +kernel), GW_of 87 (by decide +kernel) (by decide +kernel), by decide +kernel, by decide +kernel, by decide +kernel⟩
theorem ci_X9_24_X8_256 : CI RX9 24 M_X8_256_init 1 := ⟨cb_X8_init_X8_256, Or.inl (GW_of 142 (by decide +kernel) (by decide +kernel)), GW_of 143 (by decide +kernel) (by decide +kernel), rfl, rfl⟩
theorem fw_X9_40 : FW RX9 40 9 9 true (.object "SlidingFlaws$Ways") := ⟨RX9, TX9, 14, rfl, by decide, rfl, rfl, by decide +kernel, Or.inl (GW_of 179 (by decide +kernel) (by decide +kernel)), fun _ => ⟨rfl, GW_of 179 (by decide +kernel) (by decide +kernel)⟩⟩
theorem fw_X9_43 : FW RX9 43 9 10 true (.array .int) := ⟨RX9, TX9, 14, rfl, by decide, rfl, rfl, by decide +kernel, Or.inl (GW_of 180 (by decide +kernel) (by decide +kernel)), fun _ => ⟨rfl, GW_of 180 (by decide +kernel) (by decide +kernel)⟩⟩
theorem fw_X9_46 : FW RX9 46 9 11 true (.array .int) := ⟨RX9, TX9, 14, rfl, by decide, rfl, rfl, by decide +kernel, Or.inl (GW_of 181 (by decide +kernel) (by decide +kernel)), fun _ => ⟨rfl, GW_of 181 (by decide +kernel) (by decide +kernel)⟩⟩
theorem fw_X9_49 : FW RX9 49 9 12 true (.array .int) := ⟨RX9, TX9, 14, rfl, by decide, rfl, rfl, by decide +kernel, Or.inl (GW_of 182 (by decide +kernel) (by decide +kernel)), fun _ => ⟨rfl, GW_of 182 (by decide +kernel) (by decide +kernel)⟩⟩
def blkX9 (E : EE) (a : Nat) : List va_E := ((((((((((([.inr (9, [.ref (a + 1), .ref (a + 2), .ref (a + 3), .ref (a + 4), .ref (a + 8), vI 0, vI 0, .ref (a + 9), .ref (a + 10), .ref (a + 11), .ref (a + 15), .ref (a + 16), .ref (a + 17), vI 0])] ++ [ZA E 60 (fun _ => 0)]) ++ [IA E 120 (fun _ => 0)]) ++ [IA E 120 (fun _ => 0)]) ++ blkX8_120 E (a + 4)) ++ [ZA E 120 (fun _ => 0)]) ++ [IA E 8 (fun _ => 0)]) ++ [IA E 8 (fun _ => 0)]) ++ blkX8_256 E (a + 11)) ++ [IA E 256 (fun _ => 0)]) ++ [IA E 256 (fun _ => 0)]) ++ [IA E 256 (fun _ => 0)])
theorem blkX9_len {E : EE} {a : Nat} : (blkX9 E a).length = 18 := by
  unfold blkX9
  simp only [List.length_append, List.length_cons, List.length_nil, blkX6_len, blkX3_len, blkX5_len, blkX4_len, blkX8_len, blkX8_8_len, blkX8_16_len, blkX8_120_len, blkX8_256_len]
theorem ct_X9_init {l : Launch} {E : EE} {b0 a k : Nat} {h : AH} (ha : a = b0 + k) (hb : h a = .inr (9, [.null, .null, .null, .null, .null, vI 0, vI 0, .null, .null, .null, .null, .null, .null, vI 0])) : Ct l E b0 M_X9_init 17 2340 [.ref a] h (k + 1) none (lay a (blkX9 E a) h) (k + 18) True := by
  have hg : G l E b0 M_X9_init (fun _ => True) (ZM E b0 none (lay a (blkX9 E a) h) (k + 18) True 17 2340) 0 0 (k + 1) (lay a [.inr (9, [.null, .null, .null, .null, .null, vI 0, vI 0, .null, .null, .null, .null, .null, .null, vI 0])] h) 0 [some (.ref a)] [] := by
    refine g_aload_n e_X9_init_0 rfl ?_
    refine g_objInit oi_X9 e_X9_init_1 (Nat.le_of_ble_eq_true rfl) (Nat.le_of_ble_eq_true rfl) ?_
    refine g_aload_n e_X9_init_4 rfl ?_
    refine g_bipush e_X9_init_5 bp_60 ?_
    refine c_newZ (N := 60) rfl (Nat.le_of_ble_eq_true rfl) w_arrZ e_X9_init_7 ⟨Nat.le_of_ble_eq_true rfl, Nat.le_of_ble_eq_true rfl⟩ 1 (by simp [List.length_append, List.length_cons, List.length_nil, blkX6_len, blkX3_len, blkX5_len, blkX4_len, blkX8_len, blkX8_8_len, blkX8_16_len, blkX8_120_len, blkX8_256_len]) (by omega) ?_
    refine c_put (a := a) 0 0 (es' := ([.inr (9, [.ref (a + 1), .null, .null, .null, .null, vI 0, vI 0, .null, .null, .null, .null, .null, .null, vI 0])] ++ [ZA E 60 (fun _ => 0)])) (by omega) rfl (Nat.le_of_ble_eq_true rfl) rfl rfl fw_X9_9 (fun _ => rfl) ⟨rfl, rfl⟩ e_X9_init_9 ?_
    refine g_aload_n e_X9_init_12 rfl ?_
    refine g_bipush e_X9_init_13 bp_120 ?_
    refine c_newI (N := 120) rfl (Nat.le_of_ble_eq_true rfl) w_arrI e_X9_init_15 ⟨Nat.le_of_ble_eq_true rfl, Nat.le_of_ble_eq_true rfl⟩ 2 (by simp [List.length_append, List.length_cons, List.length_nil, blkX6_len, blkX3_len, blkX5_len, blkX4_len, blkX8_len, blkX8_8_len, blkX8_16_len, blkX8_120_len, blkX8_256_len]) (by omega) ?_
    refine c_put (a := a) 0 1 (es' := (([.inr (9, [.ref (a + 1), .ref (a + 2), .null, .null, .null, vI 0, vI 0, .null, .null, .null, .null, .null, .null, vI 0])] ++ [ZA E 60 (fun _ => 0)]) ++ [IA E 120 (fun _ => 0)])) (by omega) rfl (Nat.le_of_ble_eq_true rfl) rfl rfl fw_X9_15 (fun _ => rfl) ⟨rfl, rfl⟩ e_X9_init_17 ?_
    refine g_aload_n e_X9_init_20 rfl ?_
    refine g_bipush e_X9_init_21 bp_120 ?_
    refine c_newI (N := 120) rfl (Nat.le_of_ble_eq_true rfl) w_arrI e_X9_init_23 ⟨Nat.le_of_ble_eq_true rfl, Nat.le_of_ble_eq_true rfl⟩ 3 (by simp [List.length_append, List.length_cons, List.length_nil, blkX6_len, blkX3_len, blkX5_len, blkX4_len, blkX8_len, blkX8_8_len, blkX8_16_len, blkX8_120_len, blkX8_256_len]) (by omega) ?_
    refine c_put (a := a) 0 2 (es' := ((([.inr (9, [.ref (a + 1), .ref (a + 2), .ref (a + 3), .null, .null, vI 0, vI 0, .null, .null, .null, .null, .null, .null, vI 0])] ++ [ZA E 60 (fun _ => 0)]) ++ [IA E 120 (fun _ => 0)]) ++ [IA E 120 (fun _ => 0)])) (by omega) rfl (Nat.le_of_ble_eq_true rfl) rfl rfl fw_X9_19 (fun _ => rfl) ⟨rfl, rfl⟩ e_X9_init_25 ?_
    refine g_aload_n e_X9_init_28 rfl ?_
    refine c_new nw_X9_22 e_X9_init_29 ⟨Nat.le_of_ble_eq_true rfl, Nat.le_of_ble_eq_true rfl⟩ 4 (by simp [List.length_append, List.length_cons, List.length_nil, blkX6_len, blkX3_len, blkX5_len, blkX4_len, blkX8_len, blkX8_8_len, blkX8_16_len, blkX8_120_len, blkX8_256_len]) (by omega) ?_
    refine g_dup e_X9_init_32 rfl ?_
    refine g_bipush e_X9_init_33 bp_120 ?_
    refine c_call [vI 120] ci_X9_24_X8_120 ⟨rfl, rfl, Nat.le_of_ble_eq_true rfl, Nat.le_of_ble_eq_true rfl⟩ (by simp [List.length_append, List.length_cons, List.length_nil, blkX6_len, blkX3_len, blkX5_len, blkX4_len, blkX8_len, blkX8_8_len, blkX8_16_len, blkX8_120_len, blkX8_256_len]) (by simp [List.length_append, List.length_cons, List.length_nil, blkX6_len, blkX3_len, blkX5_len, blkX4_len, blkX8_len, blkX8_8_len, blkX8_16_len, blkX8_120_len, blkX8_256_len]) (ct_X8_120_init (a := a + 4) (k := k + 4) (by omega) (lay_at (i := 4) ((getE_at (by simp [List.length_append, List.length_cons, List.length_nil, blkX6_len, blkX3_len, blkX5_len, blkX4_len, blkX8_len, blkX8_8_len, blkX8_16_len, blkX8_120_len, blkX8_256_len])).trans rfl))) e_X9_init_35 rfl rfl (Nat.le_of_ble_eq_true rfl) ⟨Nat.le_of_ble_eq_true rfl, Nat.le_of_ble_eq_true rfl⟩ ?_
    refine c_put (a := a) 0 3 (es' := (((([.inr (9, [.ref (a + 1), .ref (a + 2), .ref (a + 3), .ref (a + 4), .null, vI 0, vI 0, .null, .null, .null, .null, .null, .null, vI 0])] ++ [ZA E 60 (fun _ => 0)]) ++ [IA E 120 (fun _ => 0)]) ++ [IA E 120 (fun _ => 0)]) ++ blkX8_120 E (a + 4))) (by omega) rfl (Nat.le_of_ble_eq_true rfl) rfl rfl fw_X9_27 (fun _ => rfl) ⟨rfl, rfl⟩ e_X9_init_38 ?_
    refine g_aload_n e_X9_init_41 rfl ?_
    refine g_bipush e_X9_init_42 bp_120 ?_
    refine c_newZ (N := 120) rfl (Nat.le_of_ble_eq_true rfl) w_arrZ e_X9_init_44 ⟨Nat.le_of_ble_eq_true rfl, Nat.le_of_ble_eq_true rfl⟩ 8 (by simp [List.length_append, List.length_cons, List.length_nil, blkX6_len, blkX3_len, blkX5_len, blkX4_len, blkX8_len, blkX8_8_len, blkX8_16_len, blkX8_120_len, blkX8_256_len]) (by omega) ?_
    refine c_put (a := a) 0 4 (es' := ((((([.inr (9, [.ref (a + 1), .ref (a + 2), .ref (a + 3), .ref (a + 4), .ref (a + 8), vI 0, vI 0, .null, .null, .null, .null, .null, .null, vI 0])] ++ [ZA E 60 (fun _ => 0)]) ++ [IA E 120 (fun _ => 0)]) ++ [IA E 120 (fun _ => 0)]) ++ blkX8_120 E (a + 4)) ++ [ZA E 120 (fun _ => 0)])) (by omega) rfl (Nat.le_of_ble_eq_true rfl) rfl rfl fw_X9_31 (fun _ => rfl) ⟨rfl, rfl⟩ e_X9_init_46 ?_
    refine g_aload_n e_X9_init_49 rfl ?_
    refine g_bipush e_X9_init_50 bp_8 ?_
    refine c_newI (N := 8) rfl (Nat.le_of_ble_eq_true rfl) w_arrI e_X9_init_52 ⟨Nat.le_of_ble_eq_true rfl, Nat.le_of_ble_eq_true rfl⟩ 9 (by simp [List.length_append, List.length_cons, List.length_nil, blkX6_len, blkX3_len, blkX5_len, blkX4_len, blkX8_len, blkX8_8_len, blkX8_16_len, blkX8_120_len, blkX8_256_len]) (by omega) ?_
    refine c_put (a := a) 0 7 (es' := (((((([.inr (9, [.ref (a + 1), .ref (a + 2), .ref (a + 3), .ref (a + 4), .ref (a + 8), vI 0, vI 0, .ref (a + 9), .null, .null, .null, .null, .null, vI 0])] ++ [ZA E 60 (fun _ => 0)]) ++ [IA E 120 (fun _ => 0)]) ++ [IA E 120 (fun _ => 0)]) ++ blkX8_120 E (a + 4)) ++ [ZA E 120 (fun _ => 0)]) ++ [IA E 8 (fun _ => 0)])) (by omega) rfl (Nat.le_of_ble_eq_true rfl) rfl rfl fw_X9_34 (fun _ => rfl) ⟨rfl, rfl⟩ e_X9_init_54 ?_
    refine g_aload_n e_X9_init_57 rfl ?_
    refine g_bipush e_X9_init_58 bp_8 ?_
    refine c_newI (N := 8) rfl (Nat.le_of_ble_eq_true rfl) w_arrI e_X9_init_60 ⟨Nat.le_of_ble_eq_true rfl, Nat.le_of_ble_eq_true rfl⟩ 10 (by simp [List.length_append, List.length_cons, List.length_nil, blkX6_len, blkX3_len, blkX5_len, blkX4_len, blkX8_len, blkX8_8_len, blkX8_16_len, blkX8_120_len, blkX8_256_len]) (by omega) ?_
    refine c_put (a := a) 0 8 (es' := ((((((([.inr (9, [.ref (a + 1), .ref (a + 2), .ref (a + 3), .ref (a + 4), .ref (a + 8), vI 0, vI 0, .ref (a + 9), .ref (a + 10), .null, .null, .null, .null, vI 0])] ++ [ZA E 60 (fun _ => 0)]) ++ [IA E 120 (fun _ => 0)]) ++ [IA E 120 (fun _ => 0)]) ++ blkX8_120 E (a + 4)) ++ [ZA E 120 (fun _ => 0)]) ++ [IA E 8 (fun _ => 0)]) ++ [IA E 8 (fun _ => 0)])) (by omega) rfl (Nat.le_of_ble_eq_true rfl) rfl rfl fw_X9_37 (fun _ => rfl) ⟨rfl, rfl⟩ e_X9_init_62 ?_
    refine g_aload_n e_X9_init_65 rfl ?_
    refine c_new nw_X9_22 e_X9_init_66 ⟨Nat.le_of_ble_eq_true rfl, Nat.le_of_ble_eq_true rfl⟩ 11 (by simp [List.length_append, List.length_cons, List.length_nil, blkX6_len, blkX3_len, blkX5_len, blkX4_len, blkX8_len, blkX8_8_len, blkX8_16_len, blkX8_120_len, blkX8_256_len]) (by omega) ?_
    refine g_dup e_X9_init_69 rfl ?_
    refine g_sipush e_X9_init_70 sp_256 ?_
    refine c_call [vI 256] ci_X9_24_X8_256 ⟨rfl, rfl, Nat.le_of_ble_eq_true rfl, Nat.le_of_ble_eq_true rfl⟩ (by simp [List.length_append, List.length_cons, List.length_nil, blkX6_len, blkX3_len, blkX5_len, blkX4_len, blkX8_len, blkX8_8_len, blkX8_16_len, blkX8_120_len, blkX8_256_len]) (by simp [List.length_append, List.length_cons, List.length_nil, blkX6_len, blkX3_len, blkX5_len, blkX4_len, blkX8_len, blkX8_8_len, blkX8_16_len, blkX8_120_len, blkX8_256_len]) (ct_X8_256_init (a := a + 11) (k := k + 11) (by omega) (lay_at (i := 11) ((getE_at (by simp [List.length_append, List.length_cons, List.length_nil, blkX6_len, blkX3_len, blkX5_len, blkX4_len, blkX8_len, blkX8_8_len, blkX8_16_len, blkX8_120_len, blkX8_256_len])).trans rfl))) e_X9_init_73 rfl rfl (Nat.le_of_ble_eq_true rfl) ⟨Nat.le_of_ble_eq_true rfl, Nat.le_of_ble_eq_true rfl⟩ ?_
    refine c_put (a := a) 0 9 (es' := (((((((([.inr (9, [.ref (a + 1), .ref (a + 2), .ref (a + 3), .ref (a + 4), .ref (a + 8), vI 0, vI 0, .ref (a + 9), .ref (a + 10), .ref (a + 11), .null, .null, .null, vI 0])] ++ [ZA E 60 (fun _ => 0)]) ++ [IA E 120 (fun _ => 0)]) ++ [IA E 120 (fun _ => 0)]) ++ blkX8_120 E (a + 4)) ++ [ZA E 120 (fun _ => 0)]) ++ [IA E 8 (fun _ => 0)]) ++ [IA E 8 (fun _ => 0)]) ++ blkX8_256 E (a + 11))) (by omega) rfl (Nat.le_of_ble_eq_true rfl) rfl rfl fw_X9_40 (fun _ => rfl) ⟨rfl, rfl⟩ e_X9_init_76 ?_
    refine g_aload_n e_X9_init_79 rfl ?_
    refine g_sipush e_X9_init_80 sp_256 ?_
    refine c_newI (N := 256) rfl (Nat.le_of_ble_eq_true rfl) w_arrI e_X9_init_83 ⟨Nat.le_of_ble_eq_true rfl, Nat.le_of_ble_eq_true rfl⟩ 15 (by simp [List.length_append, List.length_cons, List.length_nil, blkX6_len, blkX3_len, blkX5_len, blkX4_len, blkX8_len, blkX8_8_len, blkX8_16_len, blkX8_120_len, blkX8_256_len]) (by omega) ?_
    refine c_put (a := a) 0 10 (es' := ((((((((([.inr (9, [.ref (a + 1), .ref (a + 2), .ref (a + 3), .ref (a + 4), .ref (a + 8), vI 0, vI 0, .ref (a + 9), .ref (a + 10), .ref (a + 11), .ref (a + 15), .null, .null, vI 0])] ++ [ZA E 60 (fun _ => 0)]) ++ [IA E 120 (fun _ => 0)]) ++ [IA E 120 (fun _ => 0)]) ++ blkX8_120 E (a + 4)) ++ [ZA E 120 (fun _ => 0)]) ++ [IA E 8 (fun _ => 0)]) ++ [IA E 8 (fun _ => 0)]) ++ blkX8_256 E (a + 11)) ++ [IA E 256 (fun _ => 0)])) (by omega) rfl (Nat.le_of_ble_eq_true rfl) rfl rfl fw_X9_43 (fun _ => rfl) ⟨rfl, rfl⟩ e_X9_init_85 ?_
    refine g_aload_n e_X9_init_88 rfl ?_
    refine g_sipush e_X9_init_89 sp_256 ?_
    refine c_newI (N := 256) rfl (Nat.le_of_ble_eq_true rfl) w_arrI e_X9_init_92 ⟨Nat.le_of_ble_eq_true rfl, Nat.le_of_ble_eq_true rfl⟩ 16 (by simp [List.length_append, List.length_cons, List.length_nil, blkX6_len, blkX3_len, blkX5_len, blkX4_len, blkX8_len, blkX8_8_len, blkX8_16_len, blkX8_120_len, blkX8_256_len]) (by omega) ?_
    refine c_put (a := a) 0 11 (es' := (((((((((([.inr (9, [.ref (a + 1), .ref (a + 2), .ref (a + 3), .ref (a + 4), .ref (a + 8), vI 0, vI 0, .ref (a + 9), .ref (a + 10), .ref (a + 11), .ref (a + 15), .ref (a + 16), .null, vI 0])] ++ [ZA E 60 (fun _ => 0)]) ++ [IA E 120 (fun _ => 0)]) ++ [IA E 120 (fun _ => 0)]) ++ blkX8_120 E (a + 4)) ++ [ZA E 120 (fun _ => 0)]) ++ [IA E 8 (fun _ => 0)]) ++ [IA E 8 (fun _ => 0)]) ++ blkX8_256 E (a + 11)) ++ [IA E 256 (fun _ => 0)]) ++ [IA E 256 (fun _ => 0)])) (by omega) rfl (Nat.le_of_ble_eq_true rfl) rfl rfl fw_X9_46 (fun _ => rfl) ⟨rfl, rfl⟩ e_X9_init_94 ?_
    refine g_aload_n e_X9_init_97 rfl ?_
    refine g_sipush e_X9_init_98 sp_256 ?_
    refine c_newI (N := 256) rfl (Nat.le_of_ble_eq_true rfl) w_arrI e_X9_init_101 ⟨Nat.le_of_ble_eq_true rfl, Nat.le_of_ble_eq_true rfl⟩ 17 (by simp [List.length_append, List.length_cons, List.length_nil, blkX6_len, blkX3_len, blkX5_len, blkX4_len, blkX8_len, blkX8_8_len, blkX8_16_len, blkX8_120_len, blkX8_256_len]) (by omega) ?_
    refine c_put (a := a) 0 12 (es' := ((((((((((([.inr (9, [.ref (a + 1), .ref (a + 2), .ref (a + 3), .ref (a + 4), .ref (a + 8), vI 0, vI 0, .ref (a + 9), .ref (a + 10), .ref (a + 11), .ref (a + 15), .ref (a + 16), .ref (a + 17), vI 0])] ++ [ZA E 60 (fun _ => 0)]) ++ [IA E 120 (fun _ => 0)]) ++ [IA E 120 (fun _ => 0)]) ++ blkX8_120 E (a + 4)) ++ [ZA E 120 (fun _ => 0)]) ++ [IA E 8 (fun _ => 0)]) ++ [IA E 8 (fun _ => 0)]) ++ blkX8_256 E (a + 11)) ++ [IA E 256 (fun _ => 0)]) ++ [IA E 256 (fun _ => 0)]) ++ [IA E 256 (fun _ => 0)])) (by omega) rfl (Nat.le_of_ble_eq_true rfl) rfl rfl fw_X9_49 (fun _ => rfl) ⟨rfl, rfl⟩ e_X9_init_103 ?_
    exact g_vret rfl trivial e_X9_init_106
  rw [lay_one hb] at hg
  exact Ct_of [some (.ref a)] ⟨by decide +kernel, rfl⟩ rfl (Nat.le_of_ble_eq_true rfl) hg
theorem oi_X1 : Cond.methodLink RX1 3 Lib.objectInit ∈ GW ∧ Cond.instanceMethod Lib.objectInit ∈ GW ∧ Cond.code Lib.objectInit ⟨#[0xb1]⟩ 1 none ∈ GW := ⟨GW_of 467 (by decide +kernel) (by decide +kernel), GW_of 109 (by decide +kernel) (by decide +kernel), GW_of 110 (by decide +kernel) (by decide +kernel)⟩
theorem nw_X1_9 : NW RX1 9 8 4 [.null, .null, .null, vI 0] := ⟨RX8, TX8, tyX8, rfl, GW_of 468 (by decide +kernel) (by decide +kernel), GW_of 141 (by decide +kernel) (by decide +kernel), GW_of 87 (by decide +kernel) (by decide +kernel), tyX8_ok, by decide +kernel⟩
theorem nw_X1_26 : NW RX1 26 3 14 [.null, .null, .null, .null, .null, .null, .null, .null, vI 0, vI 0, vI 0, vI 0, vI 0, vI 0] := ⟨RX3, TX3, tyX3, rfl, GW_of 470 (by decide +kernel) (by decide +kernel), GW_of 318 (by decide +kernel) (by decide +kernel), GW_of 93 (by decide +kernel) (by decide +kernel), tyX3_ok, by decide +kernel⟩
def M_X1_init : MB := (yX1_init, cX1_init, 1, none, ({ frames := 3, cells := 23, slots := 757, locals := 82 } : Room), RX1)
theorem e_X1_init_0 : DC cX1_init 0 (.aload_n 0) 1 1 := ⟨by decide +kernel, rfl⟩
theorem e_X1_init_1 : DC cX1_init 1 (.invokespecial 3) 3 4 := ⟨by decide +kernel, rfl⟩
theorem e_X1_init_4 : DC cX1_init 4 (.aload_n 0) 1 5 := ⟨by decide +kernel, rfl⟩
theorem e_X1_init_5 : DC cX1_init 5 (.new 9) 3 8 := ⟨by decide +kernel, rfl⟩
theorem e_X1_init_8 : DC cX1_init 8 (.dup) 1 9 := ⟨by decide +kernel, rfl⟩
theorem e_X1_init_9 : DC cX1_init 9 (.bipush 16) 2 11 := ⟨by decide +kernel, rfl⟩
theorem e_X1_init_11 : DC cX1_init 11 (.invokespecial 11) 3 14 := ⟨by decide +kernel, rfl⟩
theorem e_X1_init_14 : DC cX1_init 14 (.putfield 14) 3 17 := ⟨by decide +kernel, rfl⟩
theorem e_X1_init_17 : DC cX1_init 17 (.aload_n 0) 1 18 := ⟨by decide +kernel, rfl⟩
theorem e_X1_init_18 : DC cX1_init 18 (.new 9) 3 21 := ⟨by decide +kernel, rfl⟩
theorem e_X1_init_21 : DC cX1_init 21 (.dup) 1 22 := ⟨by decide +kernel, rfl⟩
theorem e_X1_init_22 : DC cX1_init 22 (.bipush 16) 2 24 := ⟨by decide +kernel, rfl⟩
theorem e_X1_init_24 : DC cX1_init 24 (.invokespecial 11) 3 27 := ⟨by decide +kernel, rfl⟩
theorem e_X1_init_27 : DC cX1_init 27 (.putfield 20) 3 30 := ⟨by decide +kernel, rfl⟩
theorem e_X1_init_30 : DC cX1_init 30 (.aload_n 0) 1 31 := ⟨by decide +kernel, rfl⟩
theorem e_X1_init_31 : DC cX1_init 31 (.new 9) 3 34 := ⟨by decide +kernel, rfl⟩
theorem e_X1_init_34 : DC cX1_init 34 (.dup) 1 35 := ⟨by decide +kernel, rfl⟩
theorem e_X1_init_35 : DC cX1_init 35 (.bipush 16) 2 37 := ⟨by decide +kernel, rfl⟩
theorem e_X1_init_37 : DC cX1_init 37 (.invokespecial 11) 3 40 := ⟨by decide +kernel, rfl⟩
theorem e_X1_init_40 : DC cX1_init 40 (.putfield 23) 3 43 := ⟨by decide +kernel, rfl⟩
theorem e_X1_init_43 : DC cX1_init 43 (.aload_n 0) 1 44 := ⟨by decide +kernel, rfl⟩
theorem e_X1_init_44 : DC cX1_init 44 (.new 26) 3 47 := ⟨by decide +kernel, rfl⟩
theorem e_X1_init_47 : DC cX1_init 47 (.dup) 1 48 := ⟨by decide +kernel, rfl⟩
theorem e_X1_init_48 : DC cX1_init 48 (.invokespecial 28) 3 51 := ⟨by decide +kernel, rfl⟩
theorem e_X1_init_51 : DC cX1_init 51 (.putfield 29) 3 54 := ⟨by decide +kernel, rfl⟩
theorem e_X1_init_54 : DC cX1_init 54 (.aload_n 0) 1 55 := ⟨by decide +kernel, rfl⟩
theorem e_X1_init_55 : DC cX1_init 55 (.bipush 20) 2 57 := ⟨by decide +kernel, rfl⟩
theorem e_X1_init_57 : DC cX1_init 57 (.newarray .int) 2 59 := ⟨by decide +kernel, rfl⟩
theorem e_X1_init_59 : DC cX1_init 59 (.putfield 33) 3 62 := ⟨by decide +kernel, rfl⟩
theorem e_X1_init_62 : DC cX1_init 62 (.aload_n 0) 1 63 := ⟨by decide +kernel, rfl⟩
theorem e_X1_init_63 : DC cX1_init 63 (.bipush 20) 2 65 := ⟨by decide +kernel, rfl⟩
theorem e_X1_init_65 : DC cX1_init 65 (.newarray .boolean) 2 67 := ⟨by decide +kernel, rfl⟩
theorem e_X1_init_67 : DC cX1_init 67 (.putfield 37) 3 70 := ⟨by decide +kernel, rfl⟩
theorem e_X1_init_70 : DC cX1_init 70 (.return_) 1 71 := ⟨by decide +kernel, rfl⟩
theorem cb_X8_init_X8_16 : CB M_X8_16_init 1 := ⟨GW_of 144 (by decide +kernel) (by decide +kernel), GW_of 87 (by decide +kernel) (by decide +kernel), by decide +kernel, by decide +kernel, by decide +kernel⟩
theorem ci_X1_11_X8_16 : CI RX1 11 M_X8_16_init 1 := ⟨cb_X8_init_X8_16, Or.inl (GW_of 469 (by decide +kernel) (by decide +kernel)), GW_of 143 (by decide +kernel) (by decide +kernel), rfl, rfl⟩
theorem fw_X1_14 : FW RX1 14 1 0 true (.object "SlidingFlaws$Ways") := ⟨RX1, TX1, 7, rfl, by decide, rfl, rfl, by decide +kernel, Or.inl (GW_of 472 (by decide +kernel) (by decide +kernel)), fun _ => ⟨rfl, GW_of 472 (by decide +kernel) (by decide +kernel)⟩⟩
theorem fw_X1_20 : FW RX1 20 1 1 true (.object "SlidingFlaws$Ways") := ⟨RX1, TX1, 7, rfl, by decide, rfl, rfl, by decide +kernel, Or.inl (GW_of 477 (by decide +kernel) (by decide +kernel)), fun _ => ⟨rfl, GW_of 477 (by decide +kernel) (by decide +kernel)⟩⟩
theorem fw_X1_23 : FW RX1 23 1 2 true (.object "SlidingFlaws$Ways") := ⟨RX1, TX1, 7, rfl, by decide, rfl, rfl, by decide +kernel, Or.inl (GW_of 482 (by decide +kernel) (by decide +kernel)), fun _ => ⟨rfl, GW_of 482 (by decide +kernel) (by decide +kernel)⟩⟩
theorem cb_X3_init : CB M_X3_init 0 := ⟨GW_of 321 (by decide +kernel) (by decide +kernel), GW_of 93 (by decide +kernel) (by decide +kernel), by decide +kernel, by decide +kernel, by decide +kernel⟩
theorem ci_X1_28 : CI RX1 28 M_X3_init 0 := ⟨cb_X3_init, Or.inr (List.mem_of_getElem? (i := 9) (by decide +kernel)), GW_of 320 (by decide +kernel) (by decide +kernel), rfl, rfl⟩
theorem fw_X1_29 : FW RX1 29 1 3 true (.object "SlidingFlaws$Ground") := ⟨RX1, TX1, 7, rfl, by decide, rfl, rfl, by decide +kernel, Or.inl (GW_of 485 (by decide +kernel) (by decide +kernel)), fun _ => ⟨rfl, GW_of 485 (by decide +kernel) (by decide +kernel)⟩⟩
theorem fw_X1_33 : FW RX1 33 1 4 true (.array .int) := ⟨RX1, TX1, 7, rfl, by decide, rfl, rfl, by decide +kernel, Or.inl (GW_of 488 (by decide +kernel) (by decide +kernel)), fun _ => ⟨rfl, GW_of 488 (by decide +kernel) (by decide +kernel)⟩⟩
theorem fw_X1_37 : FW RX1 37 1 5 true (.array .boolean) := ⟨RX1, TX1, 7, rfl, by decide, rfl, rfl, by decide +kernel, Or.inl (GW_of 489 (by decide +kernel) (by decide +kernel)), fun _ => ⟨rfl, GW_of 489 (by decide +kernel) (by decide +kernel)⟩⟩
def blkX1 (E : EE) (a : Nat) : List va_E := (((((([.inr (1, [.ref (a + 1), .ref (a + 5), .ref (a + 9), .ref (a + 13), .ref (a + 22), .ref (a + 23), vI 0])] ++ blkX8_16 E (a + 1)) ++ blkX8_16 E (a + 5)) ++ blkX8_16 E (a + 9)) ++ blkX3 E (a + 13)) ++ [IA E 20 (fun _ => 0)]) ++ [ZA E 20 (fun _ => 0)])
theorem blkX1_len {E : EE} {a : Nat} : (blkX1 E a).length = 24 := by
  unfold blkX1
  simp only [List.length_append, List.length_cons, List.length_nil, blkX6_len, blkX3_len, blkX5_len, blkX4_len, blkX8_len, blkX8_8_len, blkX8_16_len, blkX8_120_len, blkX8_256_len, blkX9_len]
theorem ct_X1_init {l : Launch} {E : EE} {b0 a k : Nat} {h : AH} (ha : a = b0 + k) (hb : h a = .inr (1, [.null, .null, .null, .null, .null, .null, vI 0])) : Ct l E b0 M_X1_init 23 757 [.ref a] h (k + 1) none (lay a (blkX1 E a) h) (k + 24) True := by
  have hg : G l E b0 M_X1_init (fun _ => True) (ZM E b0 none (lay a (blkX1 E a) h) (k + 24) True 23 757) 0 0 (k + 1) (lay a [.inr (1, [.null, .null, .null, .null, .null, .null, vI 0])] h) 0 [some (.ref a)] [] := by
    refine g_aload_n e_X1_init_0 rfl ?_
    refine g_objInit oi_X1 e_X1_init_1 (Nat.le_of_ble_eq_true rfl) (Nat.le_of_ble_eq_true rfl) ?_
    refine g_aload_n e_X1_init_4 rfl ?_
    refine c_new nw_X1_9 e_X1_init_5 ⟨Nat.le_of_ble_eq_true rfl, Nat.le_of_ble_eq_true rfl⟩ 1 (by simp [List.length_append, List.length_cons, List.length_nil, blkX6_len, blkX3_len, blkX5_len, blkX4_len, blkX8_len, blkX8_8_len, blkX8_16_len, blkX8_120_len, blkX8_256_len, blkX9_len]) (by omega) ?_
    refine g_dup e_X1_init_8 rfl ?_
    refine g_bipush e_X1_init_9 bp_16 ?_
    refine c_call [vI 16] ci_X1_11_X8_16 ⟨rfl, rfl, Nat.le_of_ble_eq_true rfl, Nat.le_of_ble_eq_true rfl⟩ (by simp [List.length_append, List.length_cons, List.length_nil, blkX6_len, blkX3_len, blkX5_len, blkX4_len, blkX8_len, blkX8_8_len, blkX8_16_len, blkX8_120_len, blkX8_256_len, blkX9_len]) (by simp [List.length_append, List.length_cons, List.length_nil, blkX6_len, blkX3_len, blkX5_len, blkX4_len, blkX8_len, blkX8_8_len, blkX8_16_len, blkX8_120_len, blkX8_256_len, blkX9_len]) (ct_X8_16_init (a := a + 1) (k := k + 1) (by omega) (lay_at (i := 1) ((getE_at (by simp [List.length_append, List.length_cons, List.length_nil, blkX6_len, blkX3_len, blkX5_len, blkX4_len, blkX8_len, blkX8_8_len, blkX8_16_len, blkX8_120_len, blkX8_256_len, blkX9_len])).trans rfl))) e_X1_init_11 rfl rfl (Nat.le_of_ble_eq_true rfl) ⟨Nat.le_of_ble_eq_true rfl, Nat.le_of_ble_eq_true rfl⟩ ?_
    refine c_put (a := a) 0 0 (es' := ([.inr (1, [.ref (a + 1), .null, .null, .null, .null, .null, vI 0])] ++ blkX8_16 E (a + 1))) (by omega) rfl (Nat.le_of_ble_eq_true rfl) rfl rfl fw_X1_14 (fun _ => rfl) ⟨rfl, rfl⟩ e_X1_init_14 ?_
    refine g_aload_n e_X1_init_17 rfl ?_
    refine c_new nw_X1_9 e_X1_init_18 ⟨Nat.le_of_ble_eq_true rfl, Nat.le_of_ble_eq_true rfl⟩ 5 (by simp [List.length_append, List.length_cons, List.length_nil, blkX6_len, blkX3_len, blkX5_len, blkX4_len, blkX8_len, blkX8_8_len, blkX8_16_len, blkX8_120_len, blkX8_256_len, blkX9_len]) (by omega) ?_
    refine g_dup e_X1_init_21 rfl ?_
    refine g_bipush e_X1_init_22 bp_16 ?_
    refine c_call [vI 16] ci_X1_11_X8_16 ⟨rfl, rfl, Nat.le_of_ble_eq_true rfl, Nat.le_of_ble_eq_true rfl⟩ (by simp [List.length_append, List.length_cons, List.length_nil, blkX6_len, blkX3_len, blkX5_len, blkX4_len, blkX8_len, blkX8_8_len, blkX8_16_len, blkX8_120_len, blkX8_256_len, blkX9_len]) (by simp [List.length_append, List.length_cons, List.length_nil, blkX6_len, blkX3_len, blkX5_len, blkX4_len, blkX8_len, blkX8_8_len, blkX8_16_len, blkX8_120_len, blkX8_256_len, blkX9_len]) (ct_X8_16_init (a := a + 5) (k := k + 5) (by omega) (lay_at (i := 5) ((getE_at (by simp [List.length_append, List.length_cons, List.length_nil, blkX6_len, blkX3_len, blkX5_len, blkX4_len, blkX8_len, blkX8_8_len, blkX8_16_len, blkX8_120_len, blkX8_256_len, blkX9_len])).trans rfl))) e_X1_init_24 rfl rfl (Nat.le_of_ble_eq_true rfl) ⟨Nat.le_of_ble_eq_true rfl, Nat.le_of_ble_eq_true rfl⟩ ?_
    refine c_put (a := a) 0 1 (es' := (([.inr (1, [.ref (a + 1), .ref (a + 5), .null, .null, .null, .null, vI 0])] ++ blkX8_16 E (a + 1)) ++ blkX8_16 E (a + 5))) (by omega) rfl (Nat.le_of_ble_eq_true rfl) rfl rfl fw_X1_20 (fun _ => rfl) ⟨rfl, rfl⟩ e_X1_init_27 ?_
    refine g_aload_n e_X1_init_30 rfl ?_
    refine c_new nw_X1_9 e_X1_init_31 ⟨Nat.le_of_ble_eq_true rfl, Nat.le_of_ble_eq_true rfl⟩ 9 (by simp [List.length_append, List.length_cons, List.length_nil, blkX6_len, blkX3_len, blkX5_len, blkX4_len, blkX8_len, blkX8_8_len, blkX8_16_len, blkX8_120_len, blkX8_256_len, blkX9_len]) (by omega) ?_
    refine g_dup e_X1_init_34 rfl ?_
    refine g_bipush e_X1_init_35 bp_16 ?_
    refine c_call [vI 16] ci_X1_11_X8_16 ⟨rfl, rfl, Nat.le_of_ble_eq_true rfl, Nat.le_of_ble_eq_true rfl⟩ (by simp [List.length_append, List.length_cons, List.length_nil, blkX6_len, blkX3_len, blkX5_len, blkX4_len, blkX8_len, blkX8_8_len, blkX8_16_len, blkX8_120_len, blkX8_256_len, blkX9_len]) (by simp [List.length_append, List.length_cons, List.length_nil, blkX6_len, blkX3_len, blkX5_len, blkX4_len, blkX8_len, blkX8_8_len, blkX8_16_len, blkX8_120_len, blkX8_256_len, blkX9_len]) (ct_X8_16_init (a := a + 9) (k := k + 9) (by omega) (lay_at (i := 9) ((getE_at (by simp [List.length_append, List.length_cons, List.length_nil, blkX6_len, blkX3_len, blkX5_len, blkX4_len, blkX8_len, blkX8_8_len, blkX8_16_len, blkX8_120_len, blkX8_256_len, blkX9_len])).trans rfl))) e_X1_init_37 rfl rfl (Nat.le_of_ble_eq_true rfl) ⟨Nat.le_of_ble_eq_true rfl, Nat.le_of_ble_eq_true rfl⟩ ?_
    refine c_put (a := a) 0 2 (es' := ((([.inr (1, [.ref (a + 1), .ref (a + 5), .ref (a + 9), .null, .null, .null, vI 0])] ++ blkX8_16 E (a + 1)) ++ blkX8_16 E (a + 5)) ++ blkX8_16 E (a + 9))) (by omega) rfl (Nat.le_of_ble_eq_true rfl) rfl rfl fw_X1_23 (fun _ => rfl) ⟨rfl, rfl⟩ e_X1_init_40 ?_
    refine g_aload_n e_X1_init_43 rfl ?_
    refine c_new nw_X1_26 e_X1_init_44 ⟨Nat.le_of_ble_eq_true rfl, Nat.le_of_ble_eq_true rfl⟩ 13 (by simp [List.length_append, List.length_cons, List.length_nil, blkX6_len, blkX3_len, blkX5_len, blkX4_len, blkX8_len, blkX8_8_len, blkX8_16_len, blkX8_120_len, blkX8_256_len, blkX9_len]) (by omega) ?_
    refine g_dup e_X1_init_47 rfl ?_
    refine c_call [] ci_X1_28 ⟨rfl, rfl, Nat.le_of_ble_eq_true rfl, Nat.le_of_ble_eq_true rfl⟩ (by simp [List.length_append, List.length_cons, List.length_nil, blkX6_len, blkX3_len, blkX5_len, blkX4_len, blkX8_len, blkX8_8_len, blkX8_16_len, blkX8_120_len, blkX8_256_len, blkX9_len]) (by simp [List.length_append, List.length_cons, List.length_nil, blkX6_len, blkX3_len, blkX5_len, blkX4_len, blkX8_len, blkX8_8_len, blkX8_16_len, blkX8_120_len, blkX8_256_len, blkX9_len]) (ct_X3_init (a := a + 13) (k := k + 13) (by omega) (lay_at (i := 13) ((getE_at (by simp [List.length_append, List.length_cons, List.length_nil, blkX6_len, blkX3_len, blkX5_len, blkX4_len, blkX8_len, blkX8_8_len, blkX8_16_len, blkX8_120_len, blkX8_256_len, blkX9_len])).trans rfl))) e_X1_init_48 rfl rfl (Nat.le_of_ble_eq_true rfl) ⟨Nat.le_of_ble_eq_true rfl, Nat.le_of_ble_eq_true rfl⟩ ?_
    refine c_put (a := a) 0 3 (es' := (((([.inr (1, [.ref (a + 1), .ref (a + 5), .ref (a + 9), .ref (a + 13), .null, .null, vI 0])] ++ blkX8_16 E (a + 1)) ++ blkX8_16 E (a + 5)) ++ blkX8_16 E (a + 9)) ++ blkX3 E (a + 13))) (by omega) rfl (Nat.le_of_ble_eq_true rfl) rfl rfl fw_X1_29 (fun _ => rfl) ⟨rfl, rfl⟩ e_X1_init_51 ?_
    refine g_aload_n e_X1_init_54 rfl ?_
    refine g_bipush e_X1_init_55 bp_20 ?_
    refine c_newI (N := 20) rfl (Nat.le_of_ble_eq_true rfl) w_arrI e_X1_init_57 ⟨Nat.le_of_ble_eq_true rfl, Nat.le_of_ble_eq_true rfl⟩ 22 (by simp [List.length_append, List.length_cons, List.length_nil, blkX6_len, blkX3_len, blkX5_len, blkX4_len, blkX8_len, blkX8_8_len, blkX8_16_len, blkX8_120_len, blkX8_256_len, blkX9_len]) (by omega) ?_
    refine c_put (a := a) 0 4 (es' := ((((([.inr (1, [.ref (a + 1), .ref (a + 5), .ref (a + 9), .ref (a + 13), .ref (a + 22), .null, vI 0])] ++ blkX8_16 E (a + 1)) ++ blkX8_16 E (a + 5)) ++ blkX8_16 E (a + 9)) ++ blkX3 E (a + 13)) ++ [IA E 20 (fun _ => 0)])) (by omega) rfl (Nat.le_of_ble_eq_true rfl) rfl rfl fw_X1_33 (fun _ => rfl) ⟨rfl, rfl⟩ e_X1_init_59 ?_
    refine g_aload_n e_X1_init_62 rfl ?_
    refine g_bipush e_X1_init_63 bp_20 ?_
    refine c_newZ (N := 20) rfl (Nat.le_of_ble_eq_true rfl) w_arrZ e_X1_init_65 ⟨Nat.le_of_ble_eq_true rfl, Nat.le_of_ble_eq_true rfl⟩ 23 (by simp [List.length_append, List.length_cons, List.length_nil, blkX6_len, blkX3_len, blkX5_len, blkX4_len, blkX8_len, blkX8_8_len, blkX8_16_len, blkX8_120_len, blkX8_256_len, blkX9_len]) (by omega) ?_
    refine c_put (a := a) 0 5 (es' := (((((([.inr (1, [.ref (a + 1), .ref (a + 5), .ref (a + 9), .ref (a + 13), .ref (a + 22), .ref (a + 23), vI 0])] ++ blkX8_16 E (a + 1)) ++ blkX8_16 E (a + 5)) ++ blkX8_16 E (a + 9)) ++ blkX3 E (a + 13)) ++ [IA E 20 (fun _ => 0)]) ++ [ZA E 20 (fun _ => 0)])) (by omega) rfl (Nat.le_of_ble_eq_true rfl) rfl rfl fw_X1_37 (fun _ => rfl) ⟨rfl, rfl⟩ e_X1_init_67 ?_
    exact g_vret rfl trivial e_X1_init_70
  rw [lay_one hb] at hg
  exact Ct_of [some (.ref a)] ⟨by decide +kernel, rfl⟩ rfl (Nat.le_of_ble_eq_true rfl) hg
theorem G_eq {l : Launch} {E : EE} {b0 : Nat} {M : MB} {X : State → Prop} {Z : ZT} {c1 c2 n c1' c2' n' pc : Nat} {h h' : AH} {L L' : LL} {st : List Value} (e1 : c1' = c1) (e2 : c2' = c2) (e3 : n' = n) (e4 : h' = h) (e5 : L' = L) (k : G l E b0 M X Z c1' c2' n' h' pc L' st) : G l E b0 M X Z c1 c2 n h pc L st := by
  subst e1 e2 e3 e4 e5
  exact k
def kf (b j : Nat) : Nat → Option Nat := fun q => if q < j then some (b + 4 * q) else none
theorem kf_up {b j : Nat} : va_up (kf b j) j (some (b + 4 * j)) = kf b (j + 1) := by
  funext q
  show (if q = j then _ else _) = _
  by_cases h1 : q = j
  · subst h1
    rw [if_pos rfl]
    exact (if_pos (by omega)).symm
  · rw [if_neg h1]
    show (if _ then _ else _) = (if _ then _ else _)
    by_cases h2 : q < j
    · rw [if_pos h2, if_pos (by omega)]
    · rw [if_neg h2, if_neg (by omega)]
def rowsB (E : EE) (b : Nat) : Nat → List va_E
  | 0 => []
  | j + 1 => rowsB E b j ++ blkX6 E (b + 4 * j)
theorem rowsB_len {E : EE} {b : Nat} : ∀ j : Nat, (rowsB E b j).length = 4 * j
  | 0 => rfl
  | j + 1 => by
    show (rowsB E b j ++ blkX6 E (b + 4 * j)).length = _
    rw [List.length_append, rowsB_len j, blkX6_len]
    omega
theorem set_fst {p p' r bl : List va_E} {x : va_E} {i : Nat} (hi : i < p.length) (hp : p.set i x = p') : ((p ++ r) ++ bl).set i x = p' ++ (r ++ bl) := by
  rw [List.append_assoc, List.set_append_left _ _ hi, hp]
theorem kf_0 {b : Nat} : kf b 0 = fun _ => none := by
  funext q
  exact if_neg (by omega)
theorem oi_X0 : Cond.methodLink RX0 3 Lib.objectInit ∈ GW ∧ Cond.instanceMethod Lib.objectInit ∈ GW ∧ Cond.code Lib.objectInit ⟨#[0xb1]⟩ 1 none ∈ GW := ⟨GW_of 295 (by decide +kernel) (by decide +kernel), GW_of 109 (by decide +kernel) (by decide +kernel), GW_of 110 (by decide +kernel) (by decide +kernel)⟩
theorem nw_X0_9 : NW RX0 9 6 10 [.null, .null, .null, vI 0, vI 0, vI 0, vJ 0, vI 0, vI 0, vI 0] := ⟨RX6, TX6, tyX6, rfl, GW_of 296 (by decide +kernel) (by decide +kernel), GW_of 241 (by decide +kernel) (by decide +kernel), GW_of 90 (by decide +kernel) (by decide +kernel), tyX6_ok, by decide +kernel⟩
def M_X0_init : MB := (yX0_init, cX0_init, 2, none, ({ frames := 3, cells := 205, slots := 8721, locals := 80 } : Room), RX0)
theorem e_X0_init_0 : DC cX0_init 0 (.aload_n 0) 1 1 := ⟨by decide +kernel, rfl⟩
theorem e_X0_init_1 : DC cX0_init 1 (.invokespecial 3) 3 4 := ⟨by decide +kernel, rfl⟩
theorem e_X0_init_4 : DC cX0_init 4 (.aload_n 0) 1 5 := ⟨by decide +kernel, rfl⟩
theorem e_X0_init_5 : DC cX0_init 5 (.bipush 51) 2 7 := ⟨by decide +kernel, rfl⟩
theorem e_X0_init_7 : DC cX0_init 7 (.anewarray 9) 3 10 := ⟨by decide +kernel, rfl⟩
theorem e_X0_init_10 : DC cX0_init 10 (.putfield 11) 3 13 := ⟨by decide +kernel, rfl⟩
theorem e_X0_init_13 : DC cX0_init 13 (.iconst 0) 1 14 := ⟨by decide +kernel, rfl⟩
theorem e_X0_init_14 : DC cX0_init 14 (.istore_n 1) 1 15 := ⟨by decide +kernel, rfl⟩
theorem e_X0_init_15 : DC cX0_init 15 (.iload_n 1) 1 16 := ⟨by decide +kernel, rfl⟩
theorem e_X0_init_16 : DC cX0_init 16 (.aload_n 0) 1 17 := ⟨by decide +kernel, rfl⟩
theorem e_X0_init_17 : DC cX0_init 17 (.getfield 11) 3 20 := ⟨by decide +kernel, rfl⟩
theorem e_X0_init_20 : DC cX0_init 20 (.arraylength) 1 21 := ⟨by decide +kernel, rfl⟩
theorem e_X0_init_21 : DB cX0_init 21 (.if_icmp .ge 22) (22) 3 24 43 := ⟨by decide +kernel, rfl, rfl⟩
theorem e_X0_init_24 : DC cX0_init 24 (.aload_n 0) 1 25 := ⟨by decide +kernel, rfl⟩
theorem e_X0_init_25 : DC cX0_init 25 (.getfield 11) 3 28 := ⟨by decide +kernel, rfl⟩
theorem e_X0_init_28 : DC cX0_init 28 (.iload_n 1) 1 29 := ⟨by decide +kernel, rfl⟩
theorem e_X0_init_29 : DC cX0_init 29 (.new 9) 3 32 := ⟨by decide +kernel, rfl⟩
theorem e_X0_init_32 : DC cX0_init 32 (.dup) 1 33 := ⟨by decide +kernel, rfl⟩
theorem e_X0_init_33 : DC cX0_init 33 (.invokespecial 17) 3 36 := ⟨by decide +kernel, rfl⟩
theorem e_X0_init_36 : DC cX0_init 36 (.aastore) 1 37 := ⟨by decide +kernel, rfl⟩
theorem e_X0_init_37 : DC cX0_init 37 (.iinc 1 1) 3 40 := ⟨by decide +kernel, rfl⟩
theorem e_X0_init_40 : DB cX0_init 40 (.goto (-25)) (-25) 3 43 15 := ⟨by decide +kernel, rfl, rfl⟩
theorem e_X0_init_43 : DC cX0_init 43 (.return_) 1 44 := ⟨by decide +kernel, rfl⟩
theorem fw_X0_11 : FW RX0 11 0 0 true (.array (.object "SlidingFlaws$Row")) := ⟨RX0, TX0, 3, rfl, by decide, rfl, rfl, by decide +kernel, Or.inl (GW_of 299 (by decide +kernel) (by decide +kernel)), fun _ => ⟨rfl, GW_of 299 (by decide +kernel) (by decide +kernel)⟩⟩
theorem cb_X6_init : CB M_X6_init 0 := ⟨GW_of 244 (by decide +kernel) (by decide +kernel), GW_of 90 (by decide +kernel) (by decide +kernel), by decide +kernel, by decide +kernel, by decide +kernel⟩
theorem ci_X0_17 : CI RX0 17 M_X6_init 0 := ⟨cb_X6_init, Or.inr (List.mem_of_getElem? (i := 4) (by decide +kernel)), GW_of 243 (by decide +kernel) (by decide +kernel), rfl, rfl⟩
def preX0 (E : EE) (a : Nat) (f : Nat → Option Nat) : List va_E := ([.inr (0, [.ref (a + 1), vI 0, vI 0])] ++ [RA E 51 f])
theorem preX0_len {E : EE} {a : Nat} {f : Nat → Option Nat} : (preX0 E a f).length = 2 := by
  unfold preX0
  simp only [List.length_append, List.length_cons, List.length_nil, blkX6_len, blkX3_len, blkX5_len, blkX4_len, blkX8_len, blkX8_8_len, blkX8_16_len, blkX8_120_len, blkX8_256_len, blkX9_len, blkX1_len]
def bljX0 (E : EE) (a j : Nat) : List va_E := preX0 E a (kf (a + 2) j) ++ rowsB E (a + 2) j
theorem bljX0_len {E : EE} {a j : Nat} : (bljX0 E a j).length = 2 + 4 * j := by
  unfold bljX0
  rw [List.length_append, preX0_len, rowsB_len]
def blkX0 (E : EE) (a : Nat) : List va_E := bljX0 E a 51
theorem blkX0_len {E : EE} {a : Nat} : (blkX0 E a).length = 206 := bljX0_len
theorem lp_X0_init {l : Launch} {E : EE} {b0 a k : Nat} {h : AH} (ha : a = b0 + k) : ∀ d j : Nat, j + d = 51 → G l E b0 M_X0_init (fun _ => True) (ZM E b0 none (lay a (blkX0 E a) h) (k + 206) True 205 8721) (1 + 4 * j) (51 + 170 * j) (k + 2 + 4 * j) (lay a (bljX0 E a j) h) 15 [some (.ref a), some (vI ((j : Nat) : Int))] []
  | 0, j, hj => by
    have hj : j = 51 := by omega
    subst hj
    refine g_iload_n e_X0_init_15 rfl ?_
    refine g_aload_n e_X0_init_16 rfl ?_
    refine c_get (a := a) 0 0 (by omega) rfl rfl fl_X0_11 e_X0_init_17 ?_
    refine c_alenR 1 (by omega) rfl e_X0_init_20 ?_
    refine g_icmp_geT e_X0_init_21 ⟨by omega, by omega⟩ ⟨by omega, by omega⟩ (by omega) ?_
    exact g_vret rfl trivial e_X0_init_43
  | d + 1, j, hj => by
    have ih := lp_X0_init ha d (j + 1) (by omega) (h := h) (l := l) (E := E)
    refine g_iload_n e_X0_init_15 rfl ?_
    refine g_aload_n e_X0_init_16 rfl ?_
    refine c_get (a := a) 0 0 (by omega) rfl rfl fl_X0_11 e_X0_init_17 ?_
    refine c_alenR 1 (by omega) rfl e_X0_init_20 ?_
    refine g_icmp_geF e_X0_init_21 ⟨by omega, by omega⟩ ⟨by omega, by omega⟩ (by omega) ?_
    refine g_aload_n e_X0_init_24 rfl ?_
    refine c_get (a := a) 0 0 (by omega) rfl rfl fl_X0_11 e_X0_init_25 ?_
    refine g_iload_n e_X0_init_28 rfl ?_
    refine c_new nw_X0_9 e_X0_init_29 ⟨by show _ ≤ (205 : Nat); omega, by show _ ≤ (8721 : Nat); omega⟩ (2 + 4 * j) bljX0_len (by omega) ?_
    refine g_dup e_X0_init_32 rfl ?_
    refine c_call (k1 := 3) (k2 := 160) [] ci_X0_17 ⟨rfl, rfl, Nat.le_of_ble_eq_true rfl, Nat.le_of_ble_eq_true rfl⟩ bljX0_len (Nat.le_of_ble_eq_true rfl) (ct_X6_init (a := a + (2 + 4 * j)) (k := k + 2 + 4 * j) (by omega) (lay_at (i := 2 + 4 * j) ((getE_at bljX0_len).trans rfl))) e_X0_init_33 rfl rfl (Nat.le_of_ble_eq_true rfl) ⟨by show _ ≤ (205 : Nat); omega, by show _ ≤ (8721 : Nat); omega⟩ ?_
    refine c_ast (a := a) 1 (2 + 4 * j) (N' := 51) (f := kf (a + 2) j) (es' := bljX0 E a (j + 1)) (by omega) rfl (by omega) ((getE_at bljX0_len).trans rfl) ?_ (Nat.le_of_ble_eq_true rfl) e_X0_init_36 ⟨by omega, by omega⟩ ?_
    · have q : a + (2 + 4 * j) = a + 2 + 4 * j := by omega
      rw [q, show (Int.toNat (j : Int)) = j from rfl, kf_up]
      exact set_fst (p := preX0 E a (kf (a + 2) j)) (p' := preX0 E a (kf (a + 2) (j + 1))) (by rw [preX0_len]; exact Nat.le_of_ble_eq_true rfl) rfl
    refine g_iinc (L' := [some (.ref a), some (vI ((j : Int) + 1))]) e_X0_init_37 rfl rfl rfl ?_
    refine g_goto e_X0_init_40 ?_
    exact G_eq (by omega) (by omega) (by omega) rfl (by rw [show ((j + 1 : Nat) : Int) = (j : Int) + 1 from rfl]) ih
theorem ct_X0_init {l : Launch} {E : EE} {b0 a k : Nat} {h : AH} (ha : a = b0 + k) (hb : h a = .inr (0, [.null, vI 0, vI 0])) : Ct l E b0 M_X0_init 205 8721 [.ref a] h (k + 1) none (lay a (blkX0 E a) h) (k + 206) True := by
  have hg : G l E b0 M_X0_init (fun _ => True) (ZM E b0 none (lay a (blkX0 E a) h) (k + 206) True 205 8721) 0 0 (k + 1) (lay a [.inr (0, [.null, vI 0, vI 0])] h) 0 [some (.ref a), none] [] := by
    refine g_aload_n e_X0_init_0 rfl ?_
    refine g_objInit oi_X0 e_X0_init_1 (Nat.le_of_ble_eq_true rfl) (Nat.le_of_ble_eq_true rfl) ?_
    refine g_aload_n e_X0_init_4 rfl ?_
    refine g_bipush e_X0_init_5 bp_51 ?_
    refine c_newR (N := 51) rfl (Nat.le_of_ble_eq_true rfl) (GW_of 296 (by decide +kernel) (by decide +kernel)) e_X0_init_7 ⟨Nat.le_of_ble_eq_true rfl, Nat.le_of_ble_eq_true rfl⟩ 1 (by simp [List.length_append, List.length_cons, List.length_nil, blkX6_len, blkX3_len, blkX5_len, blkX4_len, blkX8_len, blkX8_8_len, blkX8_16_len, blkX8_120_len, blkX8_256_len, blkX9_len, blkX1_len]) (by omega) ?_
    refine c_put (a := a) 0 0 (es' := ([.inr (0, [.ref (a + 1), vI 0, vI 0])] ++ [RA E 51 (fun _ => none)])) (by omega) rfl (Nat.le_of_ble_eq_true rfl) rfl rfl fw_X0_11 (fun _ => rfl) ⟨rfl, rfl⟩ e_X0_init_10 ?_
    refine g_iconst e_X0_init_13 ?_
    refine g_istore_n (L' := [some (.ref a), some (vI 0)]) e_X0_init_14 rfl rfl ?_
    refine G_eq rfl rfl (by omega) ?_ rfl (lp_X0_init ha 51 0 (by omega))
    show lay a (preX0 E a (kf (a + 2) 0) ++ []) h = _
    rw [kf_0, List.append_nil]
    rfl
  rw [lay_one hb] at hg
  exact Ct_of [some (.ref a), none] ⟨by decide +kernel, rfl⟩ rfl (Nat.le_of_ble_eq_true rfl) hg
theorem oi_X7 : Cond.methodLink RX7 3 Lib.objectInit ∈ GW ∧ Cond.instanceMethod Lib.objectInit ∈ GW ∧ Cond.code Lib.objectInit ⟨#[0xb1]⟩ 1 none ∈ GW := ⟨GW_of 315 (by decide +kernel) (by decide +kernel), GW_of 109 (by decide +kernel) (by decide +kernel), GW_of 110 (by decide +kernel) (by decide +kernel)⟩
theorem nw_X7_17 : NW RX7 17 3 14 [.null, .null, .null, .null, .null, .null, .null, .null, vI 0, vI 0, vI 0, vI 0, vI 0, vI 0] := ⟨RX3, TX3, tyX3, rfl, GW_of 317 (by decide +kernel) (by decide +kernel), GW_of 318 (by decide +kernel) (by decide +kernel), GW_of 93 (by decide +kernel) (by decide +kernel), tyX3_ok, by decide +kernel⟩
theorem nw_X7_9 : NW RX7 9 6 10 [.null, .null, .null, vI 0, vI 0, vI 0, vJ 0, vI 0, vI 0, vI 0] := ⟨RX6, TX6, tyX6, rfl, GW_of 316 (by decide +kernel) (by decide +kernel), GW_of 241 (by decide +kernel) (by decide +kernel), GW_of 90 (by decide +kernel) (by decide +kernel), tyX6_ok, by decide +kernel⟩
def M_X7_init : MB := (yX7_init, cX7_init, 2, none, ({ frames := 3, cells := 39, slots := 2116, locals := 80 } : Room), RX7)
theorem e_X7_init_0 : DC cX7_init 0 (.aload_n 0) 1 1 := ⟨by decide +kernel, rfl⟩
theorem e_X7_init_1 : DC cX7_init 1 (.invokespecial 3) 3 4 := ⟨by decide +kernel, rfl⟩
theorem e_X7_init_4 : DC cX7_init 4 (.aload_n 0) 1 5 := ⟨by decide +kernel, rfl⟩
theorem e_X7_init_5 : DC cX7_init 5 (.bipush 6) 2 7 := ⟨by decide +kernel, rfl⟩
theorem e_X7_init_7 : DC cX7_init 7 (.anewarray 9) 3 10 := ⟨by decide +kernel, rfl⟩
theorem e_X7_init_10 : DC cX7_init 10 (.putfield 11) 3 13 := ⟨by decide +kernel, rfl⟩
theorem e_X7_init_13 : DC cX7_init 13 (.aload_n 0) 1 14 := ⟨by decide +kernel, rfl⟩
theorem e_X7_init_14 : DC cX7_init 14 (.new 17) 3 17 := ⟨by decide +kernel, rfl⟩
theorem e_X7_init_17 : DC cX7_init 17 (.dup) 1 18 := ⟨by decide +kernel, rfl⟩
theorem e_X7_init_18 : DC cX7_init 18 (.invokespecial 19) 3 21 := ⟨by decide +kernel, rfl⟩
theorem e_X7_init_21 : DC cX7_init 21 (.putfield 20) 3 24 := ⟨by decide +kernel, rfl⟩
theorem e_X7_init_24 : DC cX7_init 24 (.aload_n 0) 1 25 := ⟨by decide +kernel, rfl⟩
theorem e_X7_init_25 : DC cX7_init 25 (.iconst 4) 1 26 := ⟨by decide +kernel, rfl⟩
theorem e_X7_init_26 : DC cX7_init 26 (.newarray .int) 2 28 := ⟨by decide +kernel, rfl⟩
theorem e_X7_init_28 : DC cX7_init 28 (.putfield 24) 3 31 := ⟨by decide +kernel, rfl⟩
theorem e_X7_init_31 : DC cX7_init 31 (.aload_n 0) 1 32 := ⟨by decide +kernel, rfl⟩
theorem e_X7_init_32 : DC cX7_init 32 (.iconst 5) 1 33 := ⟨by decide +kernel, rfl⟩
theorem e_X7_init_33 : DC cX7_init 33 (.newarray .int) 2 35 := ⟨by decide +kernel, rfl⟩
theorem e_X7_init_35 : DC cX7_init 35 (.putfield 28) 3 38 := ⟨by decide +kernel, rfl⟩
theorem e_X7_init_38 : DC cX7_init 38 (.aload_n 0) 1 39 := ⟨by decide +kernel, rfl⟩
theorem e_X7_init_39 : DC cX7_init 39 (.iconst 5) 1 40 := ⟨by decide +kernel, rfl⟩
theorem e_X7_init_40 : DC cX7_init 40 (.newarray .int) 2 42 := ⟨by decide +kernel, rfl⟩
theorem e_X7_init_42 : DC cX7_init 42 (.putfield 31) 3 45 := ⟨by decide +kernel, rfl⟩
theorem e_X7_init_45 : DC cX7_init 45 (.aload_n 0) 1 46 := ⟨by decide +kernel, rfl⟩
theorem e_X7_init_46 : DC cX7_init 46 (.iconst 3) 1 47 := ⟨by decide +kernel, rfl⟩
theorem e_X7_init_47 : DC cX7_init 47 (.newarray .int) 2 49 := ⟨by decide +kernel, rfl⟩
theorem e_X7_init_49 : DC cX7_init 49 (.putfield 34) 3 52 := ⟨by decide +kernel, rfl⟩
theorem e_X7_init_52 : DC cX7_init 52 (.aload_n 0) 1 53 := ⟨by decide +kernel, rfl⟩
theorem e_X7_init_53 : DC cX7_init 53 (.sipush 512) 3 56 := ⟨by decide +kernel, rfl⟩
theorem e_X7_init_56 : DC cX7_init 56 (.newarray .int) 2 58 := ⟨by decide +kernel, rfl⟩
theorem e_X7_init_58 : DC cX7_init 58 (.putfield 37) 3 61 := ⟨by decide +kernel, rfl⟩
theorem e_X7_init_61 : DC cX7_init 61 (.iconst 0) 1 62 := ⟨by decide +kernel, rfl⟩
theorem e_X7_init_62 : DC cX7_init 62 (.istore_n 1) 1 63 := ⟨by decide +kernel, rfl⟩
theorem e_X7_init_63 : DC cX7_init 63 (.iload_n 1) 1 64 := ⟨by decide +kernel, rfl⟩
theorem e_X7_init_64 : DC cX7_init 64 (.aload_n 0) 1 65 := ⟨by decide +kernel, rfl⟩
theorem e_X7_init_65 : DC cX7_init 65 (.getfield 11) 3 68 := ⟨by decide +kernel, rfl⟩
theorem e_X7_init_68 : DC cX7_init 68 (.arraylength) 1 69 := ⟨by decide +kernel, rfl⟩
theorem e_X7_init_69 : DB cX7_init 69 (.if_icmp .ge 22) (22) 3 72 91 := ⟨by decide +kernel, rfl, rfl⟩
theorem e_X7_init_72 : DC cX7_init 72 (.aload_n 0) 1 73 := ⟨by decide +kernel, rfl⟩
theorem e_X7_init_73 : DC cX7_init 73 (.getfield 11) 3 76 := ⟨by decide +kernel, rfl⟩
theorem e_X7_init_76 : DC cX7_init 76 (.iload_n 1) 1 77 := ⟨by decide +kernel, rfl⟩
theorem e_X7_init_77 : DC cX7_init 77 (.new 9) 3 80 := ⟨by decide +kernel, rfl⟩
theorem e_X7_init_80 : DC cX7_init 80 (.dup) 1 81 := ⟨by decide +kernel, rfl⟩
theorem e_X7_init_81 : DC cX7_init 81 (.invokespecial 40) 3 84 := ⟨by decide +kernel, rfl⟩
theorem e_X7_init_84 : DC cX7_init 84 (.aastore) 1 85 := ⟨by decide +kernel, rfl⟩
theorem e_X7_init_85 : DC cX7_init 85 (.iinc 1 1) 3 88 := ⟨by decide +kernel, rfl⟩
theorem e_X7_init_88 : DB cX7_init 88 (.goto (-25)) (-25) 3 91 63 := ⟨by decide +kernel, rfl, rfl⟩
theorem e_X7_init_91 : DC cX7_init 91 (.return_) 1 92 := ⟨by decide +kernel, rfl⟩
theorem fw_X7_11 : FW RX7 11 7 0 true (.array (.object "SlidingFlaws$Row")) := ⟨RX7, TX7, 12, rfl, by decide, rfl, rfl, by decide +kernel, Or.inl (GW_of 375 (by decide +kernel) (by decide +kernel)), fun _ => ⟨rfl, GW_of 375 (by decide +kernel) (by decide +kernel)⟩⟩
theorem ci_X7_19 : CI RX7 19 M_X3_init 0 := ⟨cb_X3_init, Or.inr (List.mem_of_getElem? (i := 5) (by decide +kernel)), GW_of 320 (by decide +kernel) (by decide +kernel), rfl, rfl⟩
theorem fw_X7_20 : FW RX7 20 7 1 true (.object "SlidingFlaws$Ground") := ⟨RX7, TX7, 12, rfl, by decide, rfl, rfl, by decide +kernel, Or.inl (GW_of 376 (by decide +kernel) (by decide +kernel)), fun _ => ⟨rfl, GW_of 376 (by decide +kernel) (by decide +kernel)⟩⟩
theorem fw_X7_24 : FW RX7 24 7 2 true (.array .int) := ⟨RX7, TX7, 12, rfl, by decide, rfl, rfl, by decide +kernel, Or.inl (GW_of 377 (by decide +kernel) (by decide +kernel)), fun _ => ⟨rfl, GW_of 377 (by decide +kernel) (by decide +kernel)⟩⟩
theorem fw_X7_28 : FW RX7 28 7 3 true (.array .int) := ⟨RX7, TX7, 12, rfl, by decide, rfl, rfl, by decide +kernel, Or.inl (GW_of 378 (by decide +kernel) (by decide +kernel)), fun _ => ⟨rfl, GW_of 378 (by decide +kernel) (by decide +kernel)⟩⟩
theorem fw_X7_31 : FW RX7 31 7 4 true (.array .int) := ⟨RX7, TX7, 12, rfl, by decide, rfl, rfl, by decide +kernel, Or.inl (GW_of 379 (by decide +kernel) (by decide +kernel)), fun _ => ⟨rfl, GW_of 379 (by decide +kernel) (by decide +kernel)⟩⟩
theorem fw_X7_34 : FW RX7 34 7 7 true (.array .int) := ⟨RX7, TX7, 12, rfl, by decide, rfl, rfl, by decide +kernel, Or.inl (GW_of 382 (by decide +kernel) (by decide +kernel)), fun _ => ⟨rfl, GW_of 382 (by decide +kernel) (by decide +kernel)⟩⟩
theorem fw_X7_37 : FW RX7 37 7 8 true (.array .int) := ⟨RX7, TX7, 12, rfl, by decide, rfl, rfl, by decide +kernel, Or.inl (GW_of 383 (by decide +kernel) (by decide +kernel)), fun _ => ⟨rfl, GW_of 383 (by decide +kernel) (by decide +kernel)⟩⟩
theorem ci_X7_40 : CI RX7 40 M_X6_init 0 := ⟨cb_X6_init, Or.inr (List.mem_of_getElem? (i := 6) (by decide +kernel)), GW_of 243 (by decide +kernel) (by decide +kernel), rfl, rfl⟩
def preX7 (E : EE) (a : Nat) (f : Nat → Option Nat) : List va_E := ((((((([.inr (7, [.ref (a + 1), .ref (a + 2), .ref (a + 11), .ref (a + 12), .ref (a + 13), vI 0, vI 0, .ref (a + 14), .ref (a + 15), vI 0, vI 0, vI 0])] ++ [RA E 6 f]) ++ blkX3 E (a + 2)) ++ [IA E 4 (fun _ => 0)]) ++ [IA E 5 (fun _ => 0)]) ++ [IA E 5 (fun _ => 0)]) ++ [IA E 3 (fun _ => 0)]) ++ [IA E 512 (fun _ => 0)])
theorem preX7_len {E : EE} {a : Nat} {f : Nat → Option Nat} : (preX7 E a f).length = 16 := by
  unfold preX7
  simp only [List.length_append, List.length_cons, List.length_nil, blkX6_len, blkX3_len, blkX5_len, blkX4_len, blkX8_len, blkX8_8_len, blkX8_16_len, blkX8_120_len, blkX8_256_len, blkX9_len, blkX1_len, blkX0_len]
def bljX7 (E : EE) (a j : Nat) : List va_E := preX7 E a (kf (a + 16) j) ++ rowsB E (a + 16) j
theorem bljX7_len {E : EE} {a j : Nat} : (bljX7 E a j).length = 16 + 4 * j := by
  unfold bljX7
  rw [List.length_append, preX7_len, rowsB_len]
def blkX7 (E : EE) (a : Nat) : List va_E := bljX7 E a 6
theorem blkX7_len {E : EE} {a : Nat} : (blkX7 E a).length = 40 := bljX7_len
theorem lp_X7_init {l : Launch} {E : EE} {b0 a k : Nat} {h : AH} (ha : a = b0 + k) : ∀ d j : Nat, j + d = 6 → G l E b0 M_X7_init (fun _ => True) (ZM E b0 none (lay a (blkX7 E a) h) (k + 40) True 39 2116) (15 + 4 * j) (1096 + 170 * j) (k + 16 + 4 * j) (lay a (bljX7 E a j) h) 63 [some (.ref a), some (vI ((j : Nat) : Int))] []
  | 0, j, hj => by
    have hj : j = 6 := by omega
    subst hj
    refine g_iload_n e_X7_init_63 rfl ?_
    refine g_aload_n e_X7_init_64 rfl ?_
    refine c_get (a := a) 0 0 (by omega) rfl rfl fl_X7_11 e_X7_init_65 ?_
    refine c_alenR 1 (by omega) rfl e_X7_init_68 ?_
    refine g_icmp_geT e_X7_init_69 ⟨by omega, by omega⟩ ⟨by omega, by omega⟩ (by omega) ?_
    exact g_vret rfl trivial e_X7_init_91
  | d + 1, j, hj => by
    have ih := lp_X7_init ha d (j + 1) (by omega) (h := h) (l := l) (E := E)
    refine g_iload_n e_X7_init_63 rfl ?_
    refine g_aload_n e_X7_init_64 rfl ?_
    refine c_get (a := a) 0 0 (by omega) rfl rfl fl_X7_11 e_X7_init_65 ?_
    refine c_alenR 1 (by omega) rfl e_X7_init_68 ?_
    refine g_icmp_geF e_X7_init_69 ⟨by omega, by omega⟩ ⟨by omega, by omega⟩ (by omega) ?_
    refine g_aload_n e_X7_init_72 rfl ?_
    refine c_get (a := a) 0 0 (by omega) rfl rfl fl_X7_11 e_X7_init_73 ?_
    refine g_iload_n e_X7_init_76 rfl ?_
    refine c_new nw_X7_9 e_X7_init_77 ⟨by show _ ≤ (39 : Nat); omega, by show _ ≤ (2116 : Nat); omega⟩ (16 + 4 * j) bljX7_len (by omega) ?_
    refine g_dup e_X7_init_80 rfl ?_
    refine c_call (k1 := 3) (k2 := 160) [] ci_X7_40 ⟨rfl, rfl, Nat.le_of_ble_eq_true rfl, Nat.le_of_ble_eq_true rfl⟩ bljX7_len (Nat.le_of_ble_eq_true rfl) (ct_X6_init (a := a + (16 + 4 * j)) (k := k + 16 + 4 * j) (by omega) (lay_at (i := 16 + 4 * j) ((getE_at bljX7_len).trans rfl))) e_X7_init_81 rfl rfl (Nat.le_of_ble_eq_true rfl) ⟨by show _ ≤ (39 : Nat); omega, by show _ ≤ (2116 : Nat); omega⟩ ?_
    refine c_ast (a := a) 1 (16 + 4 * j) (N' := 6) (f := kf (a + 16) j) (es' := bljX7 E a (j + 1)) (by omega) rfl (by omega) ((getE_at bljX7_len).trans rfl) ?_ (Nat.le_of_ble_eq_true rfl) e_X7_init_84 ⟨by omega, by omega⟩ ?_
    · have q : a + (16 + 4 * j) = a + 16 + 4 * j := by omega
      rw [q, show (Int.toNat (j : Int)) = j from rfl, kf_up]
      exact set_fst (p := preX7 E a (kf (a + 16) j)) (p' := preX7 E a (kf (a + 16) (j + 1))) (by rw [preX7_len]; exact Nat.le_of_ble_eq_true rfl) rfl
    refine g_iinc (L' := [some (.ref a), some (vI ((j : Int) + 1))]) e_X7_init_85 rfl rfl rfl ?_
    refine g_goto e_X7_init_88 ?_
    exact G_eq (by omega) (by omega) (by omega) rfl (by rw [show ((j + 1 : Nat) : Int) = (j : Int) + 1 from rfl]) ih
theorem ct_X7_init {l : Launch} {E : EE} {b0 a k : Nat} {h : AH} (ha : a = b0 + k) (hb : h a = .inr (7, [.null, .null, .null, .null, .null, vI 0, vI 0, .null, .null, vI 0, vI 0, vI 0])) : Ct l E b0 M_X7_init 39 2116 [.ref a] h (k + 1) none (lay a (blkX7 E a) h) (k + 40) True := by
  have hg : G l E b0 M_X7_init (fun _ => True) (ZM E b0 none (lay a (blkX7 E a) h) (k + 40) True 39 2116) 0 0 (k + 1) (lay a [.inr (7, [.null, .null, .null, .null, .null, vI 0, vI 0, .null, .null, vI 0, vI 0, vI 0])] h) 0 [some (.ref a), none] [] := by
    refine g_aload_n e_X7_init_0 rfl ?_
    refine g_objInit oi_X7 e_X7_init_1 (Nat.le_of_ble_eq_true rfl) (Nat.le_of_ble_eq_true rfl) ?_
    refine g_aload_n e_X7_init_4 rfl ?_
    refine g_bipush e_X7_init_5 bp_6 ?_
    refine c_newR (N := 6) rfl (Nat.le_of_ble_eq_true rfl) (GW_of 316 (by decide +kernel) (by decide +kernel)) e_X7_init_7 ⟨Nat.le_of_ble_eq_true rfl, Nat.le_of_ble_eq_true rfl⟩ 1 (by simp [List.length_append, List.length_cons, List.length_nil, blkX6_len, blkX3_len, blkX5_len, blkX4_len, blkX8_len, blkX8_8_len, blkX8_16_len, blkX8_120_len, blkX8_256_len, blkX9_len, blkX1_len, blkX0_len]) (by omega) ?_
    refine c_put (a := a) 0 0 (es' := ([.inr (7, [.ref (a + 1), .null, .null, .null, .null, vI 0, vI 0, .null, .null, vI 0, vI 0, vI 0])] ++ [RA E 6 (fun _ => none)])) (by omega) rfl (Nat.le_of_ble_eq_true rfl) rfl rfl fw_X7_11 (fun _ => rfl) ⟨rfl, rfl⟩ e_X7_init_10 ?_
    refine g_aload_n e_X7_init_13 rfl ?_
    refine c_new nw_X7_17 e_X7_init_14 ⟨Nat.le_of_ble_eq_true rfl, Nat.le_of_ble_eq_true rfl⟩ 2 (by simp [List.length_append, List.length_cons, List.length_nil, blkX6_len, blkX3_len, blkX5_len, blkX4_len, blkX8_len, blkX8_8_len, blkX8_16_len, blkX8_120_len, blkX8_256_len, blkX9_len, blkX1_len, blkX0_len]) (by omega) ?_
    refine g_dup e_X7_init_17 rfl ?_
    refine c_call [] ci_X7_19 ⟨rfl, rfl, Nat.le_of_ble_eq_true rfl, Nat.le_of_ble_eq_true rfl⟩ (by simp [List.length_append, List.length_cons, List.length_nil, blkX6_len, blkX3_len, blkX5_len, blkX4_len, blkX8_len, blkX8_8_len, blkX8_16_len, blkX8_120_len, blkX8_256_len, blkX9_len, blkX1_len, blkX0_len]) (by simp [List.length_append, List.length_cons, List.length_nil, blkX6_len, blkX3_len, blkX5_len, blkX4_len, blkX8_len, blkX8_8_len, blkX8_16_len, blkX8_120_len, blkX8_256_len, blkX9_len, blkX1_len, blkX0_len]) (ct_X3_init (a := a + 2) (k := k + 2) (by omega) (lay_at (i := 2) ((getE_at (by simp [List.length_append, List.length_cons, List.length_nil, blkX6_len, blkX3_len, blkX5_len, blkX4_len, blkX8_len, blkX8_8_len, blkX8_16_len, blkX8_120_len, blkX8_256_len, blkX9_len, blkX1_len, blkX0_len])).trans rfl))) e_X7_init_18 rfl rfl (Nat.le_of_ble_eq_true rfl) ⟨Nat.le_of_ble_eq_true rfl, Nat.le_of_ble_eq_true rfl⟩ ?_
    refine c_put (a := a) 0 1 (es' := (([.inr (7, [.ref (a + 1), .ref (a + 2), .null, .null, .null, vI 0, vI 0, .null, .null, vI 0, vI 0, vI 0])] ++ [RA E 6 (fun _ => none)]) ++ blkX3 E (a + 2))) (by omega) rfl (Nat.le_of_ble_eq_true rfl) rfl rfl fw_X7_20 (fun _ => rfl) ⟨rfl, rfl⟩ e_X7_init_21 ?_
    refine g_aload_n e_X7_init_24 rfl ?_
    refine g_iconst e_X7_init_25 ?_
    refine c_newI (N := 4) rfl (Nat.le_of_ble_eq_true rfl) w_arrI e_X7_init_26 ⟨Nat.le_of_ble_eq_true rfl, Nat.le_of_ble_eq_true rfl⟩ 11 (by simp [List.length_append, List.length_cons, List.length_nil, blkX6_len, blkX3_len, blkX5_len, blkX4_len, blkX8_len, blkX8_8_len, blkX8_16_len, blkX8_120_len, blkX8_256_len, blkX9_len, blkX1_len, blkX0_len]) (by omega) ?_
    refine c_put (a := a) 0 2 (es' := ((([.inr (7, [.ref (a + 1), .ref (a + 2), .ref (a + 11), .null, .null, vI 0, vI 0, .null, .null, vI 0, vI 0, vI 0])] ++ [RA E 6 (fun _ => none)]) ++ blkX3 E (a + 2)) ++ [IA E 4 (fun _ => 0)])) (by omega) rfl (Nat.le_of_ble_eq_true rfl) rfl rfl fw_X7_24 (fun _ => rfl) ⟨rfl, rfl⟩ e_X7_init_28 ?_
    refine g_aload_n e_X7_init_31 rfl ?_
    refine g_iconst e_X7_init_32 ?_
    refine c_newI (N := 5) rfl (Nat.le_of_ble_eq_true rfl) w_arrI e_X7_init_33 ⟨Nat.le_of_ble_eq_true rfl, Nat.le_of_ble_eq_true rfl⟩ 12 (by simp [List.length_append, List.length_cons, List.length_nil, blkX6_len, blkX3_len, blkX5_len, blkX4_len, blkX8_len, blkX8_8_len, blkX8_16_len, blkX8_120_len, blkX8_256_len, blkX9_len, blkX1_len, blkX0_len]) (by omega) ?_
    refine c_put (a := a) 0 3 (es' := (((([.inr (7, [.ref (a + 1), .ref (a + 2), .ref (a + 11), .ref (a + 12), .null, vI 0, vI 0, .null, .null, vI 0, vI 0, vI 0])] ++ [RA E 6 (fun _ => none)]) ++ blkX3 E (a + 2)) ++ [IA E 4 (fun _ => 0)]) ++ [IA E 5 (fun _ => 0)])) (by omega) rfl (Nat.le_of_ble_eq_true rfl) rfl rfl fw_X7_28 (fun _ => rfl) ⟨rfl, rfl⟩ e_X7_init_35 ?_
    refine g_aload_n e_X7_init_38 rfl ?_
    refine g_iconst e_X7_init_39 ?_
    refine c_newI (N := 5) rfl (Nat.le_of_ble_eq_true rfl) w_arrI e_X7_init_40 ⟨Nat.le_of_ble_eq_true rfl, Nat.le_of_ble_eq_true rfl⟩ 13 (by simp [List.length_append, List.length_cons, List.length_nil, blkX6_len, blkX3_len, blkX5_len, blkX4_len, blkX8_len, blkX8_8_len, blkX8_16_len, blkX8_120_len, blkX8_256_len, blkX9_len, blkX1_len, blkX0_len]) (by omega) ?_
    refine c_put (a := a) 0 4 (es' := ((((([.inr (7, [.ref (a + 1), .ref (a + 2), .ref (a + 11), .ref (a + 12), .ref (a + 13), vI 0, vI 0, .null, .null, vI 0, vI 0, vI 0])] ++ [RA E 6 (fun _ => none)]) ++ blkX3 E (a + 2)) ++ [IA E 4 (fun _ => 0)]) ++ [IA E 5 (fun _ => 0)]) ++ [IA E 5 (fun _ => 0)])) (by omega) rfl (Nat.le_of_ble_eq_true rfl) rfl rfl fw_X7_31 (fun _ => rfl) ⟨rfl, rfl⟩ e_X7_init_42 ?_
    refine g_aload_n e_X7_init_45 rfl ?_
    refine g_iconst e_X7_init_46 ?_
    refine c_newI (N := 3) rfl (Nat.le_of_ble_eq_true rfl) w_arrI e_X7_init_47 ⟨Nat.le_of_ble_eq_true rfl, Nat.le_of_ble_eq_true rfl⟩ 14 (by simp [List.length_append, List.length_cons, List.length_nil, blkX6_len, blkX3_len, blkX5_len, blkX4_len, blkX8_len, blkX8_8_len, blkX8_16_len, blkX8_120_len, blkX8_256_len, blkX9_len, blkX1_len, blkX0_len]) (by omega) ?_
    refine c_put (a := a) 0 7 (es' := (((((([.inr (7, [.ref (a + 1), .ref (a + 2), .ref (a + 11), .ref (a + 12), .ref (a + 13), vI 0, vI 0, .ref (a + 14), .null, vI 0, vI 0, vI 0])] ++ [RA E 6 (fun _ => none)]) ++ blkX3 E (a + 2)) ++ [IA E 4 (fun _ => 0)]) ++ [IA E 5 (fun _ => 0)]) ++ [IA E 5 (fun _ => 0)]) ++ [IA E 3 (fun _ => 0)])) (by omega) rfl (Nat.le_of_ble_eq_true rfl) rfl rfl fw_X7_34 (fun _ => rfl) ⟨rfl, rfl⟩ e_X7_init_49 ?_
    refine g_aload_n e_X7_init_52 rfl ?_
    refine g_sipush e_X7_init_53 sp_512 ?_
    refine c_newI (N := 512) rfl (Nat.le_of_ble_eq_true rfl) w_arrI e_X7_init_56 ⟨Nat.le_of_ble_eq_true rfl, Nat.le_of_ble_eq_true rfl⟩ 15 (by simp [List.length_append, List.length_cons, List.length_nil, blkX6_len, blkX3_len, blkX5_len, blkX4_len, blkX8_len, blkX8_8_len, blkX8_16_len, blkX8_120_len, blkX8_256_len, blkX9_len, blkX1_len, blkX0_len]) (by omega) ?_
    refine c_put (a := a) 0 8 (es' := ((((((([.inr (7, [.ref (a + 1), .ref (a + 2), .ref (a + 11), .ref (a + 12), .ref (a + 13), vI 0, vI 0, .ref (a + 14), .ref (a + 15), vI 0, vI 0, vI 0])] ++ [RA E 6 (fun _ => none)]) ++ blkX3 E (a + 2)) ++ [IA E 4 (fun _ => 0)]) ++ [IA E 5 (fun _ => 0)]) ++ [IA E 5 (fun _ => 0)]) ++ [IA E 3 (fun _ => 0)]) ++ [IA E 512 (fun _ => 0)])) (by omega) rfl (Nat.le_of_ble_eq_true rfl) rfl rfl fw_X7_37 (fun _ => rfl) ⟨rfl, rfl⟩ e_X7_init_58 ?_
    refine g_iconst e_X7_init_61 ?_
    refine g_istore_n (L' := [some (.ref a), some (vI 0)]) e_X7_init_62 rfl rfl ?_
    refine G_eq rfl rfl (by omega) ?_ rfl (lp_X7_init ha 6 0 (by omega))
    show lay a (preX7 E a (kf (a + 16) 0) ++ []) h = _
    rw [kf_0, List.append_nil]
    rfl
  rw [lay_one hb] at hg
  exact Ct_of [some (.ref a), none] ⟨by decide +kernel, rfl⟩ rfl (Nat.le_of_ble_eq_true rfl) hg
theorem oi_X2 : Cond.methodLink RX2 3 Lib.objectInit ∈ GW ∧ Cond.instanceMethod Lib.objectInit ∈ GW ∧ Cond.code Lib.objectInit ⟨#[0xb1]⟩ 1 none ∈ GW := ⟨GW_of 417 (by decide +kernel) (by decide +kernel), GW_of 109 (by decide +kernel) (by decide +kernel), GW_of 110 (by decide +kernel) (by decide +kernel)⟩
theorem nw_X2_17 : NW RX2 17 8 4 [.null, .null, .null, vI 0] := ⟨RX8, TX8, tyX8, rfl, GW_of 419 (by decide +kernel) (by decide +kernel), GW_of 141 (by decide +kernel) (by decide +kernel), GW_of 87 (by decide +kernel) (by decide +kernel), tyX8_ok, by decide +kernel⟩
theorem nw_X2_9 : NW RX2 9 6 10 [.null, .null, .null, vI 0, vI 0, vI 0, vJ 0, vI 0, vI 0, vI 0] := ⟨RX6, TX6, tyX6, rfl, GW_of 418 (by decide +kernel) (by decide +kernel), GW_of 241 (by decide +kernel) (by decide +kernel), GW_of 90 (by decide +kernel) (by decide +kernel), tyX6_ok, by decide +kernel⟩
def M_X2_init : MB := (yX2_init, cX2_init, 2, none, ({ frames := 3, cells := 44, slots := 1460, locals := 82 } : Room), RX2)
theorem e_X2_init_0 : DC cX2_init 0 (.aload_n 0) 1 1 := ⟨by decide +kernel, rfl⟩
theorem e_X2_init_1 : DC cX2_init 1 (.invokespecial 3) 3 4 := ⟨by decide +kernel, rfl⟩
theorem e_X2_init_4 : DC cX2_init 4 (.aload_n 0) 1 5 := ⟨by decide +kernel, rfl⟩
theorem e_X2_init_5 : DC cX2_init 5 (.bipush 8) 2 7 := ⟨by decide +kernel, rfl⟩
theorem e_X2_init_7 : DC cX2_init 7 (.anewarray 9) 3 10 := ⟨by decide +kernel, rfl⟩
theorem e_X2_init_10 : DC cX2_init 10 (.putfield 11) 3 13 := ⟨by decide +kernel, rfl⟩
theorem e_X2_init_13 : DC cX2_init 13 (.aload_n 0) 1 14 := ⟨by decide +kernel, rfl⟩
theorem e_X2_init_14 : DC cX2_init 14 (.new 17) 3 17 := ⟨by decide +kernel, rfl⟩
theorem e_X2_init_17 : DC cX2_init 17 (.dup) 1 18 := ⟨by decide +kernel, rfl⟩
theorem e_X2_init_18 : DC cX2_init 18 (.bipush 8) 2 20 := ⟨by decide +kernel, rfl⟩
theorem e_X2_init_20 : DC cX2_init 20 (.invokespecial 19) 3 23 := ⟨by decide +kernel, rfl⟩
theorem e_X2_init_23 : DC cX2_init 23 (.putfield 22) 3 26 := ⟨by decide +kernel, rfl⟩
theorem e_X2_init_26 : DC cX2_init 26 (.aload_n 0) 1 27 := ⟨by decide +kernel, rfl⟩
theorem e_X2_init_27 : DC cX2_init 27 (.new 17) 3 30 := ⟨by decide +kernel, rfl⟩
theorem e_X2_init_30 : DC cX2_init 30 (.dup) 1 31 := ⟨by decide +kernel, rfl⟩
theorem e_X2_init_31 : DC cX2_init 31 (.bipush 8) 2 33 := ⟨by decide +kernel, rfl⟩
theorem e_X2_init_33 : DC cX2_init 33 (.invokespecial 19) 3 36 := ⟨by decide +kernel, rfl⟩
theorem e_X2_init_36 : DC cX2_init 36 (.putfield 26) 3 39 := ⟨by decide +kernel, rfl⟩
theorem e_X2_init_39 : DC cX2_init 39 (.aload_n 0) 1 40 := ⟨by decide +kernel, rfl⟩
theorem e_X2_init_40 : DC cX2_init 40 (.bipush 8) 2 42 := ⟨by decide +kernel, rfl⟩
theorem e_X2_init_42 : DC cX2_init 42 (.newarray .long) 2 44 := ⟨by decide +kernel, rfl⟩
theorem e_X2_init_44 : DC cX2_init 44 (.putfield 29) 3 47 := ⟨by decide +kernel, rfl⟩
theorem e_X2_init_47 : DC cX2_init 47 (.aload_n 0) 1 48 := ⟨by decide +kernel, rfl⟩
theorem e_X2_init_48 : DC cX2_init 48 (.bipush 8) 2 50 := ⟨by decide +kernel, rfl⟩
theorem e_X2_init_50 : DC cX2_init 50 (.newarray .int) 2 52 := ⟨by decide +kernel, rfl⟩
theorem e_X2_init_52 : DC cX2_init 52 (.putfield 33) 3 55 := ⟨by decide +kernel, rfl⟩
theorem e_X2_init_55 : DC cX2_init 55 (.aload_n 0) 1 56 := ⟨by decide +kernel, rfl⟩
theorem e_X2_init_56 : DC cX2_init 56 (.bipush 20) 2 58 := ⟨by decide +kernel, rfl⟩
theorem e_X2_init_58 : DC cX2_init 58 (.newarray .long) 2 60 := ⟨by decide +kernel, rfl⟩
theorem e_X2_init_60 : DC cX2_init 60 (.putfield 37) 3 63 := ⟨by decide +kernel, rfl⟩
theorem e_X2_init_63 : DC cX2_init 63 (.iconst 0) 1 64 := ⟨by decide +kernel, rfl⟩
theorem e_X2_init_64 : DC cX2_init 64 (.istore_n 1) 1 65 := ⟨by decide +kernel, rfl⟩
theorem e_X2_init_65 : DC cX2_init 65 (.iload_n 1) 1 66 := ⟨by decide +kernel, rfl⟩
theorem e_X2_init_66 : DC cX2_init 66 (.aload_n 0) 1 67 := ⟨by decide +kernel, rfl⟩
theorem e_X2_init_67 : DC cX2_init 67 (.getfield 11) 3 70 := ⟨by decide +kernel, rfl⟩
theorem e_X2_init_70 : DC cX2_init 70 (.arraylength) 1 71 := ⟨by decide +kernel, rfl⟩
theorem e_X2_init_71 : DB cX2_init 71 (.if_icmp .ge 22) (22) 3 74 93 := ⟨by decide +kernel, rfl, rfl⟩
theorem e_X2_init_74 : DC cX2_init 74 (.aload_n 0) 1 75 := ⟨by decide +kernel, rfl⟩
theorem e_X2_init_75 : DC cX2_init 75 (.getfield 11) 3 78 := ⟨by decide +kernel, rfl⟩
theorem e_X2_init_78 : DC cX2_init 78 (.iload_n 1) 1 79 := ⟨by decide +kernel, rfl⟩
theorem e_X2_init_79 : DC cX2_init 79 (.new 9) 3 82 := ⟨by decide +kernel, rfl⟩
theorem e_X2_init_82 : DC cX2_init 82 (.dup) 1 83 := ⟨by decide +kernel, rfl⟩
theorem e_X2_init_83 : DC cX2_init 83 (.invokespecial 40) 3 86 := ⟨by decide +kernel, rfl⟩
theorem e_X2_init_86 : DC cX2_init 86 (.aastore) 1 87 := ⟨by decide +kernel, rfl⟩
theorem e_X2_init_87 : DC cX2_init 87 (.iinc 1 1) 3 90 := ⟨by decide +kernel, rfl⟩
theorem e_X2_init_90 : DB cX2_init 90 (.goto (-25)) (-25) 3 93 65 := ⟨by decide +kernel, rfl, rfl⟩
theorem e_X2_init_93 : DC cX2_init 93 (.return_) 1 94 := ⟨by decide +kernel, rfl⟩
theorem fw_X2_11 : FW RX2 11 2 0 true (.array (.object "SlidingFlaws$Row")) := ⟨RX2, TX2, 12, rfl, by decide, rfl, rfl, by decide +kernel, Or.inl (GW_of 422 (by decide +kernel) (by decide +kernel)), fun _ => ⟨rfl, GW_of 422 (by decide +kernel) (by decide +kernel)⟩⟩
theorem cb_X8_init_X8_8 : CB M_X8_8_init 1 := ⟨GW_of 144 (by decide +kernel) (by decide +kernel), GW_of 87 (by decide +kernel) (by decide +kernel), by decide +kernel, by decide +kernel, by decide +kernel⟩
theorem ci_X2_19_X8_8 : CI RX2 19 M_X8_8_init 1 := ⟨cb_X8_init_X8_8, Or.inl (GW_of 420 (by decide +kernel) (by decide +kernel)), GW_of 143 (by decide +kernel) (by decide +kernel), rfl, rfl⟩
theorem fw_X2_22 : FW RX2 22 2 1 true (.object "SlidingFlaws$Ways") := ⟨RX2, TX2, 12, rfl, by decide, rfl, rfl, by decide +kernel, Or.inl (GW_of 423 (by decide +kernel) (by decide +kernel)), fun _ => ⟨rfl, GW_of 423 (by decide +kernel) (by decide +kernel)⟩⟩
theorem fw_X2_26 : FW RX2 26 2 2 true (.object "SlidingFlaws$Ways") := ⟨RX2, TX2, 12, rfl, by decide, rfl, rfl, by decide +kernel, Or.inl (GW_of 424 (by decide +kernel) (by decide +kernel)), fun _ => ⟨rfl, GW_of 424 (by decide +kernel) (by decide +kernel)⟩⟩
theorem fw_X2_29 : FW RX2 29 2 3 true (.array .long) := ⟨RX2, TX2, 12, rfl, by decide, rfl, rfl, by decide +kernel, Or.inl (GW_of 425 (by decide +kernel) (by decide +kernel)), fun _ => ⟨rfl, GW_of 425 (by decide +kernel) (by decide +kernel)⟩⟩
theorem fw_X2_33 : FW RX2 33 2 4 true (.array .int) := ⟨RX2, TX2, 12, rfl, by decide, rfl, rfl, by decide +kernel, Or.inl (GW_of 426 (by decide +kernel) (by decide +kernel)), fun _ => ⟨rfl, GW_of 426 (by decide +kernel) (by decide +kernel)⟩⟩
theorem fw_X2_37 : FW RX2 37 2 5 true (.array .long) := ⟨RX2, TX2, 12, rfl, by decide, rfl, rfl, by decide +kernel, Or.inl (GW_of 427 (by decide +kernel) (by decide +kernel)), fun _ => ⟨rfl, GW_of 427 (by decide +kernel) (by decide +kernel)⟩⟩
theorem ci_X2_40 : CI RX2 40 M_X6_init 0 := ⟨cb_X6_init, Or.inr (List.mem_of_getElem? (i := 7) (by decide +kernel)), GW_of 243 (by decide +kernel) (by decide +kernel), rfl, rfl⟩
def preX2 (E : EE) (a : Nat) (f : Nat → Option Nat) : List va_E := (((((([.inr (2, [.ref (a + 1), .ref (a + 2), .ref (a + 6), .ref (a + 10), .ref (a + 11), .ref (a + 12), vI 0, vI 0, vI 0, vI 0, vI 0, vI 0])] ++ [RA E 8 f]) ++ blkX8_8 E (a + 2)) ++ blkX8_8 E (a + 6)) ++ [JA E 8 (fun _ => 0)]) ++ [IA E 8 (fun _ => 0)]) ++ [JA E 20 (fun _ => 0)])
theorem preX2_len {E : EE} {a : Nat} {f : Nat → Option Nat} : (preX2 E a f).length = 13 := by
  unfold preX2
  simp only [List.length_append, List.length_cons, List.length_nil, blkX6_len, blkX3_len, blkX5_len, blkX4_len, blkX8_len, blkX8_8_len, blkX8_16_len, blkX8_120_len, blkX8_256_len, blkX9_len, blkX1_len, blkX0_len, blkX7_len]
def bljX2 (E : EE) (a j : Nat) : List va_E := preX2 E a (kf (a + 13) j) ++ rowsB E (a + 13) j
theorem bljX2_len {E : EE} {a j : Nat} : (bljX2 E a j).length = 13 + 4 * j := by
  unfold bljX2
  rw [List.length_append, preX2_len, rowsB_len]
def blkX2 (E : EE) (a : Nat) : List va_E := bljX2 E a 8
theorem blkX2_len {E : EE} {a : Nat} : (blkX2 E a).length = 45 := bljX2_len
theorem lp_X2_init {l : Launch} {E : EE} {b0 a k : Nat} {h : AH} (ha : a = b0 + k) : ∀ d j : Nat, j + d = 8 → G l E b0 M_X2_init (fun _ => True) (ZM E b0 none (lay a (blkX2 E a) h) (k + 45) True 44 1460) (12 + 4 * j) (100 + 170 * j) (k + 13 + 4 * j) (lay a (bljX2 E a j) h) 65 [some (.ref a), some (vI ((j : Nat) : Int))] []
  | 0, j, hj => by
    have hj : j = 8 := by omega
    subst hj
    refine g_iload_n e_X2_init_65 rfl ?_
    refine g_aload_n e_X2_init_66 rfl ?_
    refine c_get (a := a) 0 0 (by omega) rfl rfl fl_X2_11 e_X2_init_67 ?_
    refine c_alenR 1 (by omega) rfl e_X2_init_70 ?_
    refine g_icmp_geT e_X2_init_71 ⟨by omega, by omega⟩ ⟨by omega, by omega⟩ (by omega) ?_
    exact g_vret rfl trivial e_X2_init_93
  | d + 1, j, hj => by
    have ih := lp_X2_init ha d (j + 1) (by omega) (h := h) (l := l) (E := E)
    refine g_iload_n e_X2_init_65 rfl ?_
    refine g_aload_n e_X2_init_66 rfl ?_
    refine c_get (a := a) 0 0 (by omega) rfl rfl fl_X2_11 e_X2_init_67 ?_
    refine c_alenR 1 (by omega) rfl e_X2_init_70 ?_
    refine g_icmp_geF e_X2_init_71 ⟨by omega, by omega⟩ ⟨by omega, by omega⟩ (by omega) ?_
    refine g_aload_n e_X2_init_74 rfl ?_
    refine c_get (a := a) 0 0 (by omega) rfl rfl fl_X2_11 e_X2_init_75 ?_
    refine g_iload_n e_X2_init_78 rfl ?_
    refine c_new nw_X2_9 e_X2_init_79 ⟨by show _ ≤ (44 : Nat); omega, by show _ ≤ (1460 : Nat); omega⟩ (13 + 4 * j) bljX2_len (by omega) ?_
    refine g_dup e_X2_init_82 rfl ?_
    refine c_call (k1 := 3) (k2 := 160) [] ci_X2_40 ⟨rfl, rfl, Nat.le_of_ble_eq_true rfl, Nat.le_of_ble_eq_true rfl⟩ bljX2_len (Nat.le_of_ble_eq_true rfl) (ct_X6_init (a := a + (13 + 4 * j)) (k := k + 13 + 4 * j) (by omega) (lay_at (i := 13 + 4 * j) ((getE_at bljX2_len).trans rfl))) e_X2_init_83 rfl rfl (Nat.le_of_ble_eq_true rfl) ⟨by show _ ≤ (44 : Nat); omega, by show _ ≤ (1460 : Nat); omega⟩ ?_
    refine c_ast (a := a) 1 (13 + 4 * j) (N' := 8) (f := kf (a + 13) j) (es' := bljX2 E a (j + 1)) (by omega) rfl (by omega) ((getE_at bljX2_len).trans rfl) ?_ (Nat.le_of_ble_eq_true rfl) e_X2_init_86 ⟨by omega, by omega⟩ ?_
    · have q : a + (13 + 4 * j) = a + 13 + 4 * j := by omega
      rw [q, show (Int.toNat (j : Int)) = j from rfl, kf_up]
      exact set_fst (p := preX2 E a (kf (a + 13) j)) (p' := preX2 E a (kf (a + 13) (j + 1))) (by rw [preX2_len]; exact Nat.le_of_ble_eq_true rfl) rfl
    refine g_iinc (L' := [some (.ref a), some (vI ((j : Int) + 1))]) e_X2_init_87 rfl rfl rfl ?_
    refine g_goto e_X2_init_90 ?_
    exact G_eq (by omega) (by omega) (by omega) rfl (by rw [show ((j + 1 : Nat) : Int) = (j : Int) + 1 from rfl]) ih
theorem ct_X2_init {l : Launch} {E : EE} {b0 a k : Nat} {h : AH} (ha : a = b0 + k) (hb : h a = .inr (2, [.null, .null, .null, .null, .null, .null, vI 0, vI 0, vI 0, vI 0, vI 0, vI 0])) : Ct l E b0 M_X2_init 44 1460 [.ref a] h (k + 1) none (lay a (blkX2 E a) h) (k + 45) True := by
  have hg : G l E b0 M_X2_init (fun _ => True) (ZM E b0 none (lay a (blkX2 E a) h) (k + 45) True 44 1460) 0 0 (k + 1) (lay a [.inr (2, [.null, .null, .null, .null, .null, .null, vI 0, vI 0, vI 0, vI 0, vI 0, vI 0])] h) 0 [some (.ref a), none] [] := by
    refine g_aload_n e_X2_init_0 rfl ?_
    refine g_objInit oi_X2 e_X2_init_1 (Nat.le_of_ble_eq_true rfl) (Nat.le_of_ble_eq_true rfl) ?_
    refine g_aload_n e_X2_init_4 rfl ?_
    refine g_bipush e_X2_init_5 bp_8 ?_
    refine c_newR (N := 8) rfl (Nat.le_of_ble_eq_true rfl) (GW_of 418 (by decide +kernel) (by decide +kernel)) e_X2_init_7 ⟨Nat.le_of_ble_eq_true rfl, Nat.le_of_ble_eq_true rfl⟩ 1 (by simp [List.length_append, List.length_cons, List.length_nil, blkX6_len, blkX3_len, blkX5_len, blkX4_len, blkX8_len, blkX8_8_len, blkX8_16_len, blkX8_120_len, blkX8_256_len, blkX9_len, blkX1_len, blkX0_len, blkX7_len]) (by omega) ?_
    refine c_put (a := a) 0 0 (es' := ([.inr (2, [.ref (a + 1), .null, .null, .null, .null, .null, vI 0, vI 0, vI 0, vI 0, vI 0, vI 0])] ++ [RA E 8 (fun _ => none)])) (by omega) rfl (Nat.le_of_ble_eq_true rfl) rfl rfl fw_X2_11 (fun _ => rfl) ⟨rfl, rfl⟩ e_X2_init_10 ?_
    refine g_aload_n e_X2_init_13 rfl ?_
    refine c_new nw_X2_17 e_X2_init_14 ⟨Nat.le_of_ble_eq_true rfl, Nat.le_of_ble_eq_true rfl⟩ 2 (by simp [List.length_append, List.length_cons, List.length_nil, blkX6_len, blkX3_len, blkX5_len, blkX4_len, blkX8_len, blkX8_8_len, blkX8_16_len, blkX8_120_len, blkX8_256_len, blkX9_len, blkX1_len, blkX0_len, blkX7_len]) (by omega) ?_
    refine g_dup e_X2_init_17 rfl ?_
    refine g_bipush e_X2_init_18 bp_8 ?_
    refine c_call [vI 8] ci_X2_19_X8_8 ⟨rfl, rfl, Nat.le_of_ble_eq_true rfl, Nat.le_of_ble_eq_true rfl⟩ (by simp [List.length_append, List.length_cons, List.length_nil, blkX6_len, blkX3_len, blkX5_len, blkX4_len, blkX8_len, blkX8_8_len, blkX8_16_len, blkX8_120_len, blkX8_256_len, blkX9_len, blkX1_len, blkX0_len, blkX7_len]) (by simp [List.length_append, List.length_cons, List.length_nil, blkX6_len, blkX3_len, blkX5_len, blkX4_len, blkX8_len, blkX8_8_len, blkX8_16_len, blkX8_120_len, blkX8_256_len, blkX9_len, blkX1_len, blkX0_len, blkX7_len]) (ct_X8_8_init (a := a + 2) (k := k + 2) (by omega) (lay_at (i := 2) ((getE_at (by simp [List.length_append, List.length_cons, List.length_nil, blkX6_len, blkX3_len, blkX5_len, blkX4_len, blkX8_len, blkX8_8_len, blkX8_16_len, blkX8_120_len, blkX8_256_len, blkX9_len, blkX1_len, blkX0_len, blkX7_len])).trans rfl))) e_X2_init_20 rfl rfl (Nat.le_of_ble_eq_true rfl) ⟨Nat.le_of_ble_eq_true rfl, Nat.le_of_ble_eq_true rfl⟩ ?_
    refine c_put (a := a) 0 1 (es' := (([.inr (2, [.ref (a + 1), .ref (a + 2), .null, .null, .null, .null, vI 0, vI 0, vI 0, vI 0, vI 0, vI 0])] ++ [RA E 8 (fun _ => none)]) ++ blkX8_8 E (a + 2))) (by omega) rfl (Nat.le_of_ble_eq_true rfl) rfl rfl fw_X2_22 (fun _ => rfl) ⟨rfl, rfl⟩ e_X2_init_23 ?_
    refine g_aload_n e_X2_init_26 rfl ?_
    refine c_new nw_X2_17 e_X2_init_27 ⟨Nat.le_of_ble_eq_true rfl, Nat.le_of_ble_eq_true rfl⟩ 6 (by simp [List.length_append, List.length_cons, List.length_nil, blkX6_len, blkX3_len, blkX5_len, blkX4_len, blkX8_len, blkX8_8_len, blkX8_16_len, blkX8_120_len, blkX8_256_len, blkX9_len, blkX1_len, blkX0_len, blkX7_len]) (by omega) ?_
    refine g_dup e_X2_init_30 rfl ?_
    refine g_bipush e_X2_init_31 bp_8 ?_
    refine c_call [vI 8] ci_X2_19_X8_8 ⟨rfl, rfl, Nat.le_of_ble_eq_true rfl, Nat.le_of_ble_eq_true rfl⟩ (by simp [List.length_append, List.length_cons, List.length_nil, blkX6_len, blkX3_len, blkX5_len, blkX4_len, blkX8_len, blkX8_8_len, blkX8_16_len, blkX8_120_len, blkX8_256_len, blkX9_len, blkX1_len, blkX0_len, blkX7_len]) (by simp [List.length_append, List.length_cons, List.length_nil, blkX6_len, blkX3_len, blkX5_len, blkX4_len, blkX8_len, blkX8_8_len, blkX8_16_len, blkX8_120_len, blkX8_256_len, blkX9_len, blkX1_len, blkX0_len, blkX7_len]) (ct_X8_8_init (a := a + 6) (k := k + 6) (by omega) (lay_at (i := 6) ((getE_at (by simp [List.length_append, List.length_cons, List.length_nil, blkX6_len, blkX3_len, blkX5_len, blkX4_len, blkX8_len, blkX8_8_len, blkX8_16_len, blkX8_120_len, blkX8_256_len, blkX9_len, blkX1_len, blkX0_len, blkX7_len])).trans rfl))) e_X2_init_33 rfl rfl (Nat.le_of_ble_eq_true rfl) ⟨Nat.le_of_ble_eq_true rfl, Nat.le_of_ble_eq_true rfl⟩ ?_
    refine c_put (a := a) 0 2 (es' := ((([.inr (2, [.ref (a + 1), .ref (a + 2), .ref (a + 6), .null, .null, .null, vI 0, vI 0, vI 0, vI 0, vI 0, vI 0])] ++ [RA E 8 (fun _ => none)]) ++ blkX8_8 E (a + 2)) ++ blkX8_8 E (a + 6))) (by omega) rfl (Nat.le_of_ble_eq_true rfl) rfl rfl fw_X2_26 (fun _ => rfl) ⟨rfl, rfl⟩ e_X2_init_36 ?_
    refine g_aload_n e_X2_init_39 rfl ?_
    refine g_bipush e_X2_init_40 bp_8 ?_
    refine c_newJ (N := 8) rfl (Nat.le_of_ble_eq_true rfl) w_arrJ e_X2_init_42 ⟨Nat.le_of_ble_eq_true rfl, Nat.le_of_ble_eq_true rfl⟩ 10 (by simp [List.length_append, List.length_cons, List.length_nil, blkX6_len, blkX3_len, blkX5_len, blkX4_len, blkX8_len, blkX8_8_len, blkX8_16_len, blkX8_120_len, blkX8_256_len, blkX9_len, blkX1_len, blkX0_len, blkX7_len]) (by omega) ?_
    refine c_put (a := a) 0 3 (es' := (((([.inr (2, [.ref (a + 1), .ref (a + 2), .ref (a + 6), .ref (a + 10), .null, .null, vI 0, vI 0, vI 0, vI 0, vI 0, vI 0])] ++ [RA E 8 (fun _ => none)]) ++ blkX8_8 E (a + 2)) ++ blkX8_8 E (a + 6)) ++ [JA E 8 (fun _ => 0)])) (by omega) rfl (Nat.le_of_ble_eq_true rfl) rfl rfl fw_X2_29 (fun _ => rfl) ⟨rfl, rfl⟩ e_X2_init_44 ?_
    refine g_aload_n e_X2_init_47 rfl ?_
    refine g_bipush e_X2_init_48 bp_8 ?_
    refine c_newI (N := 8) rfl (Nat.le_of_ble_eq_true rfl) w_arrI e_X2_init_50 ⟨Nat.le_of_ble_eq_true rfl, Nat.le_of_ble_eq_true rfl⟩ 11 (by simp [List.length_append, List.length_cons, List.length_nil, blkX6_len, blkX3_len, blkX5_len, blkX4_len, blkX8_len, blkX8_8_len, blkX8_16_len, blkX8_120_len, blkX8_256_len, blkX9_len, blkX1_len, blkX0_len, blkX7_len]) (by omega) ?_
    refine c_put (a := a) 0 4 (es' := ((((([.inr (2, [.ref (a + 1), .ref (a + 2), .ref (a + 6), .ref (a + 10), .ref (a + 11), .null, vI 0, vI 0, vI 0, vI 0, vI 0, vI 0])] ++ [RA E 8 (fun _ => none)]) ++ blkX8_8 E (a + 2)) ++ blkX8_8 E (a + 6)) ++ [JA E 8 (fun _ => 0)]) ++ [IA E 8 (fun _ => 0)])) (by omega) rfl (Nat.le_of_ble_eq_true rfl) rfl rfl fw_X2_33 (fun _ => rfl) ⟨rfl, rfl⟩ e_X2_init_52 ?_
    refine g_aload_n e_X2_init_55 rfl ?_
    refine g_bipush e_X2_init_56 bp_20 ?_
    refine c_newJ (N := 20) rfl (Nat.le_of_ble_eq_true rfl) w_arrJ e_X2_init_58 ⟨Nat.le_of_ble_eq_true rfl, Nat.le_of_ble_eq_true rfl⟩ 12 (by simp [List.length_append, List.length_cons, List.length_nil, blkX6_len, blkX3_len, blkX5_len, blkX4_len, blkX8_len, blkX8_8_len, blkX8_16_len, blkX8_120_len, blkX8_256_len, blkX9_len, blkX1_len, blkX0_len, blkX7_len]) (by omega) ?_
    refine c_put (a := a) 0 5 (es' := (((((([.inr (2, [.ref (a + 1), .ref (a + 2), .ref (a + 6), .ref (a + 10), .ref (a + 11), .ref (a + 12), vI 0, vI 0, vI 0, vI 0, vI 0, vI 0])] ++ [RA E 8 (fun _ => none)]) ++ blkX8_8 E (a + 2)) ++ blkX8_8 E (a + 6)) ++ [JA E 8 (fun _ => 0)]) ++ [IA E 8 (fun _ => 0)]) ++ [JA E 20 (fun _ => 0)])) (by omega) rfl (Nat.le_of_ble_eq_true rfl) rfl rfl fw_X2_37 (fun _ => rfl) ⟨rfl, rfl⟩ e_X2_init_60 ?_
    refine g_iconst e_X2_init_63 ?_
    refine g_istore_n (L' := [some (.ref a), some (vI 0)]) e_X2_init_64 rfl rfl ?_
    refine G_eq rfl rfl (by omega) ?_ rfl (lp_X2_init ha 8 0 (by omega))
    show lay a (preX2 E a (kf (a + 13) 0) ++ []) h = _
    rw [kf_0, List.append_nil]
    rfl
  rw [lay_one hb] at hg
  exact Ct_of [some (.ref a), none] ⟨by decide +kernel, rfl⟩ rfl (Nat.le_of_ble_eq_true rfl) hg

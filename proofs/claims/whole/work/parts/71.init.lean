theorem w_arrI : Cond.arrayClass .int ∈ GW := GW_of 133 (by decide +kernel) (by decide +kernel)
theorem w_arrJ : Cond.arrayClass .long ∈ GW := GW_of 461 (by decide +kernel) (by decide +kernel)
theorem w_arrZ : Cond.arrayClass .boolean ∈ GW := GW_of 166 (by decide +kernel) (by decide +kernel)
theorem w_arrY : Cond.arrayClass .byte ∈ GW := GW_of 759 (by decide +kernel) (by decide +kernel)
theorem c_alenR {l : Launch} {E : EE} {b0 : Nat} {M : MB} {X : State → Prop} {Z : ZT} {c1 c2 n pc pc' a : Nat} {h : AH} {L : LL} {st : List Value} {es : List va_E} (i : Nat) {N : Nat} {f : Nat → Option Nat} (hb : b0 ≤ a + i ∧ a + i < b0 + n) (he : es[i]? = some (RA E N f)) (hd : DC M.2.1 pc .arraylength 1 pc') (kk : G l E b0 M X Z c1 c2 n (lay a es h) pc' L (vI (N : Int) :: st)) : G l E b0 M X Z c1 c2 n (lay a es h) pc L (.ref (a + i) :: st) := by
  have ao : AO b0 n [a + i] := ⟨by simp, fun j q hq => by
    cases j with
    | zero => cases hq; exact hb
    | succ j => simp at hq⟩
  have h1 : ov [a + i] [RA E N f] (lay a es h) = lay a es h := FA_id fun j q e hq hqe => by
    cases j with
    | zero => cases hq; cases hqe; exact lay_at he
    | succ j => simp at hq
  rw [← h1]
  refine g_alenR 0 ao rfl rfl hd ?_
  rw [h1]
  exact kk
def blkX8 (E : EE) (a N : Nat) : List va_E := [.inr (8, fsX8 a 0), IA E N (fun _ => 0), IA E N (fun _ => 0), IA E N (fun _ => 0)]
theorem blkX8_len {E : EE} {a N : Nat} : (blkX8 E a N).length = 4 := rfl
theorem oi_X6 : Cond.methodLink RX6 3 Lib.objectInit ∈ GW ∧ Cond.instanceMethod Lib.objectInit ∈ GW ∧ Cond.code Lib.objectInit ⟨#[0xb1]⟩ 1 none ∈ GW := ⟨GW_of 245 (by decide +kernel) (by decide +kernel), GW_of 109 (by decide +kernel) (by decide +kernel), GW_of 110 (by decide +kernel) (by decide +kernel)⟩
def M_X6_init : MB := (yX6_init, cX6_init, 1, none, ({ frames := 2, cells := 3, slots := 160, locals := 60 } : Room), RX6)
theorem e_X6_init_0 : DC cX6_init 0 (.aload_n 0) 1 1 := ⟨by decide +kernel, rfl⟩
theorem e_X6_init_1 : DC cX6_init 1 (.invokespecial 3) 3 4 := ⟨by decide +kernel, rfl⟩
theorem e_X6_init_4 : DC cX6_init 4 (.aload_n 0) 1 5 := ⟨by decide +kernel, rfl⟩
theorem e_X6_init_5 : DC cX6_init 5 (.bipush 100) 2 7 := ⟨by decide +kernel, rfl⟩
theorem e_X6_init_7 : DC cX6_init 7 (.newarray .int) 2 9 := ⟨by decide +kernel, rfl⟩
theorem e_X6_init_9 : DC cX6_init 9 (.putfield 9) 3 12 := ⟨by decide +kernel, rfl⟩
theorem e_X6_init_12 : DC cX6_init 12 (.aload_n 0) 1 13 := ⟨by decide +kernel, rfl⟩
theorem e_X6_init_13 : DC cX6_init 13 (.bipush 30) 2 15 := ⟨by decide +kernel, rfl⟩
theorem e_X6_init_15 : DC cX6_init 15 (.newarray .int) 2 17 := ⟨by decide +kernel, rfl⟩
theorem e_X6_init_17 : DC cX6_init 17 (.putfield 15) 3 20 := ⟨by decide +kernel, rfl⟩
theorem e_X6_init_20 : DC cX6_init 20 (.aload_n 0) 1 21 := ⟨by decide +kernel, rfl⟩
theorem e_X6_init_21 : DC cX6_init 21 (.bipush 30) 2 23 := ⟨by decide +kernel, rfl⟩
theorem e_X6_init_23 : DC cX6_init 23 (.newarray .int) 2 25 := ⟨by decide +kernel, rfl⟩
theorem e_X6_init_25 : DC cX6_init 25 (.putfield 18) 3 28 := ⟨by decide +kernel, rfl⟩
theorem e_X6_init_28 : DC cX6_init 28 (.return_) 1 29 := ⟨by decide +kernel, rfl⟩
theorem fw_X6_9 : FW RX6 9 6 0 true (.array .int) := ⟨RX6, TX6, 10, rfl, by decide, rfl, rfl, by decide +kernel, Or.inl (GW_of 246 (by decide +kernel) (by decide +kernel)), fun _ => ⟨rfl, GW_of 246 (by decide +kernel) (by decide +kernel)⟩⟩
theorem fw_X6_15 : FW RX6 15 6 1 true (.array .int) := ⟨RX6, TX6, 10, rfl, by decide, rfl, rfl, by decide +kernel, Or.inl (GW_of 247 (by decide +kernel) (by decide +kernel)), fun _ => ⟨rfl, GW_of 247 (by decide +kernel) (by decide +kernel)⟩⟩
theorem fw_X6_18 : FW RX6 18 6 2 true (.array .int) := ⟨RX6, TX6, 10, rfl, by decide, rfl, rfl, by decide +kernel, Or.inl (GW_of 248 (by decide +kernel) (by decide +kernel)), fun _ => ⟨rfl, GW_of 248 (by decide +kernel) (by decide +kernel)⟩⟩
def blkX6 (E : EE) (a : Nat) : List va_E := ((([.inr (6, [.ref (a + 1), .ref (a + 2), .ref (a + 3), vI 0, vI 0, vI 0, vJ 0, vI 0, vI 0, vI 0])] ++ [IA E 100 (fun _ => 0)]) ++ [IA E 30 (fun _ => 0)]) ++ [IA E 30 (fun _ => 0)])
theorem blkX6_len {E : EE} {a : Nat} : (blkX6 E a).length = 4 := by
  unfold blkX6
  simp only [List.length_append, List.length_cons, List.length_nil, blkX8_len]
theorem ct_X6_init {l : Launch} {E : EE} {b0 a k : Nat} {h : AH} (ha : a = b0 + k) (hb : h a = .inr (6, [.null, .null, .null, vI 0, vI 0, vI 0, vJ 0, vI 0, vI 0, vI 0])) : Ct l E b0 M_X6_init 3 160 [.ref a] h (k + 1) none (lay a (blkX6 E a) h) (k + 4) True := by
  have hg : G l E b0 M_X6_init (fun _ => True) (ZM E b0 none (lay a (blkX6 E a) h) (k + 4) True 3 160) 0 0 (k + 1) (lay a [.inr (6, [.null, .null, .null, vI 0, vI 0, vI 0, vJ 0, vI 0, vI 0, vI 0])] h) 0 [some (.ref a)] [] := by
    refine g_aload_n e_X6_init_0 rfl ?_
    refine g_objInit oi_X6 e_X6_init_1 (Nat.le_of_ble_eq_true rfl) (Nat.le_of_ble_eq_true rfl) ?_
    refine g_aload_n e_X6_init_4 rfl ?_
    refine g_bipush e_X6_init_5 bp_100 ?_
    refine c_newI (N := 100) rfl (Nat.le_of_ble_eq_true rfl) w_arrI e_X6_init_7 ⟨Nat.le_of_ble_eq_true rfl, Nat.le_of_ble_eq_true rfl⟩ 1 (by simp [List.length_append, List.length_cons, List.length_nil, blkX8_len]) (by omega) ?_
    refine c_put (a := a) 0 0 (es' := ([.inr (6, [.ref (a + 1), .null, .null, vI 0, vI 0, vI 0, vJ 0, vI 0, vI 0, vI 0])] ++ [IA E 100 (fun _ => 0)])) (by omega) rfl (Nat.le_of_ble_eq_true rfl) rfl rfl fw_X6_9 (fun _ => rfl) ⟨rfl, rfl⟩ e_X6_init_9 ?_
    refine g_aload_n e_X6_init_12 rfl ?_
    refine g_bipush e_X6_init_13 bp_30 ?_
    refine c_newI (N := 30) rfl (Nat.le_of_ble_eq_true rfl) w_arrI e_X6_init_15 ⟨Nat.le_of_ble_eq_true rfl, Nat.le_of_ble_eq_true rfl⟩ 2 (by simp [List.length_append, List.length_cons, List.length_nil, blkX8_len]) (by omega) ?_
    refine c_put (a := a) 0 1 (es' := (([.inr (6, [.ref (a + 1), .ref (a + 2), .null, vI 0, vI 0, vI 0, vJ 0, vI 0, vI 0, vI 0])] ++ [IA E 100 (fun _ => 0)]) ++ [IA E 30 (fun _ => 0)])) (by omega) rfl (Nat.le_of_ble_eq_true rfl) rfl rfl fw_X6_15 (fun _ => rfl) ⟨rfl, rfl⟩ e_X6_init_17 ?_
    refine g_aload_n e_X6_init_20 rfl ?_
    refine g_bipush e_X6_init_21 bp_30 ?_
    refine c_newI (N := 30) rfl (Nat.le_of_ble_eq_true rfl) w_arrI e_X6_init_23 ⟨Nat.le_of_ble_eq_true rfl, Nat.le_of_ble_eq_true rfl⟩ 3 (by simp [List.length_append, List.length_cons, List.length_nil, blkX8_len]) (by omega) ?_
    refine c_put (a := a) 0 2 (es' := ((([.inr (6, [.ref (a + 1), .ref (a + 2), .ref (a + 3), vI 0, vI 0, vI 0, vJ 0, vI 0, vI 0, vI 0])] ++ [IA E 100 (fun _ => 0)]) ++ [IA E 30 (fun _ => 0)]) ++ [IA E 30 (fun _ => 0)])) (by omega) rfl (Nat.le_of_ble_eq_true rfl) rfl rfl fw_X6_18 (fun _ => rfl) ⟨rfl, rfl⟩ e_X6_init_25 ?_
    exact g_vret rfl trivial e_X6_init_28
  rw [lay_one hb] at hg
  exact Ct_of [some (.ref a)] ⟨by decide +kernel, rfl⟩ rfl (Nat.le_of_ble_eq_true rfl) hg
theorem oi_X3 : Cond.methodLink RX3 3 Lib.objectInit ∈ GW ∧ Cond.instanceMethod Lib.objectInit ∈ GW ∧ Cond.code Lib.objectInit ⟨#[0xb1]⟩ 1 none ∈ GW := ⟨GW_of 322 (by decide +kernel) (by decide +kernel), GW_of 109 (by decide +kernel) (by decide +kernel), GW_of 110 (by decide +kernel) (by decide +kernel)⟩
def M_X3_init : MB := (yX3_init, cX3_init, 1, none, ({ frames := 2, cells := 8, slots := 547, locals := 60 } : Room), RX3)
theorem e_X3_init_0 : DC cX3_init 0 (.aload_n 0) 1 1 := ⟨by decide +kernel, rfl⟩
theorem e_X3_init_1 : DC cX3_init 1 (.invokespecial 3) 3 4 := ⟨by decide +kernel, rfl⟩
theorem e_X3_init_4 : DC cX3_init 4 (.aload_n 0) 1 5 := ⟨by decide +kernel, rfl⟩
theorem e_X3_init_5 : DC cX3_init 5 (.bipush 21) 2 7 := ⟨by decide +kernel, rfl⟩
theorem e_X3_init_7 : DC cX3_init 7 (.newarray .int) 2 9 := ⟨by decide +kernel, rfl⟩
theorem e_X3_init_9 : DC cX3_init 9 (.putfield 9) 3 12 := ⟨by decide +kernel, rfl⟩
theorem e_X3_init_12 : DC cX3_init 12 (.aload_n 0) 1 13 := ⟨by decide +kernel, rfl⟩
theorem e_X3_init_13 : DC cX3_init 13 (.bipush 21) 2 15 := ⟨by decide +kernel, rfl⟩
theorem e_X3_init_15 : DC cX3_init 15 (.newarray .boolean) 2 17 := ⟨by decide +kernel, rfl⟩
theorem e_X3_init_17 : DC cX3_init 17 (.putfield 15) 3 20 := ⟨by decide +kernel, rfl⟩
theorem e_X3_init_20 : DC cX3_init 20 (.aload_n 0) 1 21 := ⟨by decide +kernel, rfl⟩
theorem e_X3_init_21 : DC cX3_init 21 (.bipush 100) 2 23 := ⟨by decide +kernel, rfl⟩
theorem e_X3_init_23 : DC cX3_init 23 (.newarray .int) 2 25 := ⟨by decide +kernel, rfl⟩
theorem e_X3_init_25 : DC cX3_init 25 (.putfield 19) 3 28 := ⟨by decide +kernel, rfl⟩
theorem e_X3_init_28 : DC cX3_init 28 (.aload_n 0) 1 29 := ⟨by decide +kernel, rfl⟩
theorem e_X3_init_29 : DC cX3_init 29 (.bipush 100) 2 31 := ⟨by decide +kernel, rfl⟩
theorem e_X3_init_31 : DC cX3_init 31 (.newarray .int) 2 33 := ⟨by decide +kernel, rfl⟩
theorem e_X3_init_33 : DC cX3_init 33 (.putfield 22) 3 36 := ⟨by decide +kernel, rfl⟩
theorem e_X3_init_36 : DC cX3_init 36 (.aload_n 0) 1 37 := ⟨by decide +kernel, rfl⟩
theorem e_X3_init_37 : DC cX3_init 37 (.bipush 100) 2 39 := ⟨by decide +kernel, rfl⟩
theorem e_X3_init_39 : DC cX3_init 39 (.newarray .boolean) 2 41 := ⟨by decide +kernel, rfl⟩
theorem e_X3_init_41 : DC cX3_init 41 (.putfield 25) 3 44 := ⟨by decide +kernel, rfl⟩
theorem e_X3_init_44 : DC cX3_init 44 (.aload_n 0) 1 45 := ⟨by decide +kernel, rfl⟩
theorem e_X3_init_45 : DC cX3_init 45 (.bipush 100) 2 47 := ⟨by decide +kernel, rfl⟩
theorem e_X3_init_47 : DC cX3_init 47 (.newarray .int) 2 49 := ⟨by decide +kernel, rfl⟩
theorem e_X3_init_49 : DC cX3_init 49 (.putfield 28) 3 52 := ⟨by decide +kernel, rfl⟩
theorem e_X3_init_52 : DC cX3_init 52 (.aload_n 0) 1 53 := ⟨by decide +kernel, rfl⟩
theorem e_X3_init_53 : DC cX3_init 53 (.bipush 100) 2 55 := ⟨by decide +kernel, rfl⟩
theorem e_X3_init_55 : DC cX3_init 55 (.newarray .boolean) 2 57 := ⟨by decide +kernel, rfl⟩
theorem e_X3_init_57 : DC cX3_init 57 (.putfield 31) 3 60 := ⟨by decide +kernel, rfl⟩
theorem e_X3_init_60 : DC cX3_init 60 (.aload_n 0) 1 61 := ⟨by decide +kernel, rfl⟩
theorem e_X3_init_61 : DC cX3_init 61 (.iconst 5) 1 62 := ⟨by decide +kernel, rfl⟩
theorem e_X3_init_62 : DC cX3_init 62 (.newarray .int) 2 64 := ⟨by decide +kernel, rfl⟩
theorem e_X3_init_64 : DC cX3_init 64 (.putfield 34) 3 67 := ⟨by decide +kernel, rfl⟩
theorem e_X3_init_67 : DC cX3_init 67 (.return_) 1 68 := ⟨by decide +kernel, rfl⟩
theorem fw_X3_9 : FW RX3 9 3 0 true (.array .int) := ⟨RX3, TX3, 14, rfl, by decide, rfl, rfl, by decide +kernel, Or.inl (GW_of 323 (by decide +kernel) (by decide +kernel)), fun _ => ⟨rfl, GW_of 323 (by decide +kernel) (by decide +kernel)⟩⟩
theorem fw_X3_15 : FW RX3 15 3 1 true (.array .boolean) := ⟨RX3, TX3, 14, rfl, by decide, rfl, rfl, by decide +kernel, Or.inl (GW_of 325 (by decide +kernel) (by decide +kernel)), fun _ => ⟨rfl, GW_of 325 (by decide +kernel) (by decide +kernel)⟩⟩
theorem fw_X3_19 : FW RX3 19 3 2 true (.array .int) := ⟨RX3, TX3, 14, rfl, by decide, rfl, rfl, by decide +kernel, Or.inl (GW_of 326 (by decide +kernel) (by decide +kernel)), fun _ => ⟨rfl, GW_of 326 (by decide +kernel) (by decide +kernel)⟩⟩
theorem fw_X3_22 : FW RX3 22 3 3 true (.array .int) := ⟨RX3, TX3, 14, rfl, by decide, rfl, rfl, by decide +kernel, Or.inl (GW_of 327 (by decide +kernel) (by decide +kernel)), fun _ => ⟨rfl, GW_of 327 (by decide +kernel) (by decide +kernel)⟩⟩
theorem fw_X3_25 : FW RX3 25 3 4 true (.array .boolean) := ⟨RX3, TX3, 14, rfl, by decide, rfl, rfl, by decide +kernel, Or.inl (GW_of 328 (by decide +kernel) (by decide +kernel)), fun _ => ⟨rfl, GW_of 328 (by decide +kernel) (by decide +kernel)⟩⟩
theorem fw_X3_28 : FW RX3 28 3 5 true (.array .int) := ⟨RX3, TX3, 14, rfl, by decide, rfl, rfl, by decide +kernel, Or.inl (GW_of 329 (by decide +kernel) (by decide +kernel)), fun _ => ⟨rfl, GW_of 329 (by decide +kernel) (by decide +kernel)⟩⟩
theorem fw_X3_31 : FW RX3 31 3 6 true (.array .boolean) := ⟨RX3, TX3, 14, rfl, by decide, rfl, rfl, by decide +kernel, Or.inl (GW_of 331 (by decide +kernel) (by decide +kernel)), fun _ => ⟨rfl, GW_of 331 (by decide +kernel) (by decide +kernel)⟩⟩
theorem fw_X3_34 : FW RX3 34 3 7 true (.array .int) := ⟨RX3, TX3, 14, rfl, by decide, rfl, rfl, by decide +kernel, Or.inl (GW_of 332 (by decide +kernel) (by decide +kernel)), fun _ => ⟨rfl, GW_of 332 (by decide +kernel) (by decide +kernel)⟩⟩
def blkX3 (E : EE) (a : Nat) : List va_E := (((((((([.inr (3, [.ref (a + 1), .ref (a + 2), .ref (a + 3), .ref (a + 4), .ref (a + 5), .ref (a + 6), .ref (a + 7), .ref (a + 8), vI 0, vI 0, vI 0, vI 0, vI 0, vI 0])] ++ [IA E 21 (fun _ => 0)]) ++ [ZA E 21 (fun _ => 0)]) ++ [IA E 100 (fun _ => 0)]) ++ [IA E 100 (fun _ => 0)]) ++ [ZA E 100 (fun _ => 0)]) ++ [IA E 100 (fun _ => 0)]) ++ [ZA E 100 (fun _ => 0)]) ++ [IA E 5 (fun _ => 0)])
theorem blkX3_len {E : EE} {a : Nat} : (blkX3 E a).length = 9 := by
  unfold blkX3
  simp only [List.length_append, List.length_cons, List.length_nil, blkX8_len, blkX6_len]
theorem ct_X3_init {l : Launch} {E : EE} {b0 a k : Nat} {h : AH} (ha : a = b0 + k) (hb : h a = .inr (3, [.null, .null, .null, .null, .null, .null, .null, .null, vI 0, vI 0, vI 0, vI 0, vI 0, vI 0])) : Ct l E b0 M_X3_init 8 547 [.ref a] h (k + 1) none (lay a (blkX3 E a) h) (k + 9) True := by
  have hg : G l E b0 M_X3_init (fun _ => True) (ZM E b0 none (lay a (blkX3 E a) h) (k + 9) True 8 547) 0 0 (k + 1) (lay a [.inr (3, [.null, .null, .null, .null, .null, .null, .null, .null, vI 0, vI 0, vI 0, vI 0, vI 0, vI 0])] h) 0 [some (.ref a)] [] := by
    refine g_aload_n e_X3_init_0 rfl ?_
    refine g_objInit oi_X3 e_X3_init_1 (Nat.le_of_ble_eq_true rfl) (Nat.le_of_ble_eq_true rfl) ?_
    refine g_aload_n e_X3_init_4 rfl ?_
    refine g_bipush e_X3_init_5 bp_21 ?_
    refine c_newI (N := 21) rfl (Nat.le_of_ble_eq_true rfl) w_arrI e_X3_init_7 ⟨Nat.le_of_ble_eq_true rfl, Nat.le_of_ble_eq_true rfl⟩ 1 (by simp [List.length_append, List.length_cons, List.length_nil, blkX8_len, blkX6_len]) (by omega) ?_
    refine c_put (a := a) 0 0 (es' := ([.inr (3, [.ref (a + 1), .null, .null, .null, .null, .null, .null, .null, vI 0, vI 0, vI 0, vI 0, vI 0, vI 0])] ++ [IA E 21 (fun _ => 0)])) (by omega) rfl (Nat.le_of_ble_eq_true rfl) rfl rfl fw_X3_9 (fun _ => rfl) ⟨rfl, rfl⟩ e_X3_init_9 ?_
    refine g_aload_n e_X3_init_12 rfl ?_
    refine g_bipush e_X3_init_13 bp_21 ?_
    refine c_newZ (N := 21) rfl (Nat.le_of_ble_eq_true rfl) w_arrZ e_X3_init_15 ⟨Nat.le_of_ble_eq_true rfl, Nat.le_of_ble_eq_true rfl⟩ 2 (by simp [List.length_append, List.length_cons, List.length_nil, blkX8_len, blkX6_len]) (by omega) ?_
    refine c_put (a := a) 0 1 (es' := (([.inr (3, [.ref (a + 1), .ref (a + 2), .null, .null, .null, .null, .null, .null, vI 0, vI 0, vI 0, vI 0, vI 0, vI 0])] ++ [IA E 21 (fun _ => 0)]) ++ [ZA E 21 (fun _ => 0)])) (by omega) rfl (Nat.le_of_ble_eq_true rfl) rfl rfl fw_X3_15 (fun _ => rfl) ⟨rfl, rfl⟩ e_X3_init_17 ?_
    refine g_aload_n e_X3_init_20 rfl ?_
    refine g_bipush e_X3_init_21 bp_100 ?_
    refine c_newI (N := 100) rfl (Nat.le_of_ble_eq_true rfl) w_arrI e_X3_init_23 ⟨Nat.le_of_ble_eq_true rfl, Nat.le_of_ble_eq_true rfl⟩ 3 (by simp [List.length_append, List.length_cons, List.length_nil, blkX8_len, blkX6_len]) (by omega) ?_
    refine c_put (a := a) 0 2 (es' := ((([.inr (3, [.ref (a + 1), .ref (a + 2), .ref (a + 3), .null, .null, .null, .null, .null, vI 0, vI 0, vI 0, vI 0, vI 0, vI 0])] ++ [IA E 21 (fun _ => 0)]) ++ [ZA E 21 (fun _ => 0)]) ++ [IA E 100 (fun _ => 0)])) (by omega) rfl (Nat.le_of_ble_eq_true rfl) rfl rfl fw_X3_19 (fun _ => rfl) ⟨rfl, rfl⟩ e_X3_init_25 ?_
    refine g_aload_n e_X3_init_28 rfl ?_
    refine g_bipush e_X3_init_29 bp_100 ?_
    refine c_newI (N := 100) rfl (Nat.le_of_ble_eq_true rfl) w_arrI e_X3_init_31 ⟨Nat.le_of_ble_eq_true rfl, Nat.le_of_ble_eq_true rfl⟩ 4 (by simp [List.length_append, List.length_cons, List.length_nil, blkX8_len, blkX6_len]) (by omega) ?_
    refine c_put (a := a) 0 3 (es' := (((([.inr (3, [.ref (a + 1), .ref (a + 2), .ref (a + 3), .ref (a + 4), .null, .null, .null, .null, vI 0, vI 0, vI 0, vI 0, vI 0, vI 0])] ++ [IA E 21 (fun _ => 0)]) ++ [ZA E 21 (fun _ => 0)]) ++ [IA E 100 (fun _ => 0)]) ++ [IA E 100 (fun _ => 0)])) (by omega) rfl (Nat.le_of_ble_eq_true rfl) rfl rfl fw_X3_22 (fun _ => rfl) ⟨rfl, rfl⟩ e_X3_init_33 ?_
    refine g_aload_n e_X3_init_36 rfl ?_
    refine g_bipush e_X3_init_37 bp_100 ?_
    refine c_newZ (N := 100) rfl (Nat.le_of_ble_eq_true rfl) w_arrZ e_X3_init_39 ⟨Nat.le_of_ble_eq_true rfl, Nat.le_of_ble_eq_true rfl⟩ 5 (by simp [List.length_append, List.length_cons, List.length_nil, blkX8_len, blkX6_len]) (by omega) ?_
    refine c_put (a := a) 0 4 (es' := ((((([.inr (3, [.ref (a + 1), .ref (a + 2), .ref (a + 3), .ref (a + 4), .ref (a + 5), .null, .null, .null, vI 0, vI 0, vI 0, vI 0, vI 0, vI 0])] ++ [IA E 21 (fun _ => 0)]) ++ [ZA E 21 (fun _ => 0)]) ++ [IA E 100 (fun _ => 0)]) ++ [IA E 100 (fun _ => 0)]) ++ [ZA E 100 (fun _ => 0)])) (by omega) rfl (Nat.le_of_ble_eq_true rfl) rfl rfl fw_X3_25 (fun _ => rfl) ⟨rfl, rfl⟩ e_X3_init_41 ?_
    refine g_aload_n e_X3_init_44 rfl ?_
    refine g_bipush e_X3_init_45 bp_100 ?_
    refine c_newI (N := 100) rfl (Nat.le_of_ble_eq_true rfl) w_arrI e_X3_init_47 ⟨Nat.le_of_ble_eq_true rfl, Nat.le_of_ble_eq_true rfl⟩ 6 (by simp [List.length_append, List.length_cons, List.length_nil, blkX8_len, blkX6_len]) (by omega) ?_
    refine c_put (a := a) 0 5 (es' := (((((([.inr (3, [.ref (a + 1), .ref (a + 2), .ref (a + 3), .ref (a + 4), .ref (a + 5), .ref (a + 6), .null, .null, vI 0, vI 0, vI 0, vI 0, vI 0, vI 0])] ++ [IA E 21 (fun _ => 0)]) ++ [ZA E 21 (fun _ => 0)]) ++ [IA E 100 (fun _ => 0)]) ++ [IA E 100 (fun _ => 0)]) ++ [ZA E 100 (fun _ => 0)]) ++ [IA E 100 (fun _ => 0)])) (by omega) rfl (Nat.le_of_ble_eq_true rfl) rfl rfl fw_X3_28 (fun _ => rfl) ⟨rfl, rfl⟩ e_X3_init_49 ?_
    refine g_aload_n e_X3_init_52 rfl ?_
    refine g_bipush e_X3_init_53 bp_100 ?_
    refine c_newZ (N := 100) rfl (Nat.le_of_ble_eq_true rfl) w_arrZ e_X3_init_55 ⟨Nat.le_of_ble_eq_true rfl, Nat.le_of_ble_eq_true rfl⟩ 7 (by simp [List.length_append, List.length_cons, List.length_nil, blkX8_len, blkX6_len]) (by omega) ?_
    refine c_put (a := a) 0 6 (es' := ((((((([.inr (3, [.ref (a + 1), .ref (a + 2), .ref (a + 3), .ref (a + 4), .ref (a + 5), .ref (a + 6), .ref (a + 7), .null, vI 0, vI 0, vI 0, vI 0, vI 0, vI 0])] ++ [IA E 21 (fun _ => 0)]) ++ [ZA E 21 (fun _ => 0)]) ++ [IA E 100 (fun _ => 0)]) ++ [IA E 100 (fun _ => 0)]) ++ [ZA E 100 (fun _ => 0)]) ++ [IA E 100 (fun _ => 0)]) ++ [ZA E 100 (fun _ => 0)])) (by omega) rfl (Nat.le_of_ble_eq_true rfl) rfl rfl fw_X3_31 (fun _ => rfl) ⟨rfl, rfl⟩ e_X3_init_57 ?_
    refine g_aload_n e_X3_init_60 rfl ?_
    refine g_iconst e_X3_init_61 ?_
    refine c_newI (N := 5) rfl (Nat.le_of_ble_eq_true rfl) w_arrI e_X3_init_62 ⟨Nat.le_of_ble_eq_true rfl, Nat.le_of_ble_eq_true rfl⟩ 8 (by simp [List.length_append, List.length_cons, List.length_nil, blkX8_len, blkX6_len]) (by omega) ?_
    refine c_put (a := a) 0 7 (es' := (((((((([.inr (3, [.ref (a + 1), .ref (a + 2), .ref (a + 3), .ref (a + 4), .ref (a + 5), .ref (a + 6), .ref (a + 7), .ref (a + 8), vI 0, vI 0, vI 0, vI 0, vI 0, vI 0])] ++ [IA E 21 (fun _ => 0)]) ++ [ZA E 21 (fun _ => 0)]) ++ [IA E 100 (fun _ => 0)]) ++ [IA E 100 (fun _ => 0)]) ++ [ZA E 100 (fun _ => 0)]) ++ [IA E 100 (fun _ => 0)]) ++ [ZA E 100 (fun _ => 0)]) ++ [IA E 5 (fun _ => 0)])) (by omega) rfl (Nat.le_of_ble_eq_true rfl) rfl rfl fw_X3_34 (fun _ => rfl) ⟨rfl, rfl⟩ e_X3_init_64 ?_
    exact g_vret rfl trivial e_X3_init_67
  rw [lay_one hb] at hg
  exact Ct_of [some (.ref a)] ⟨by decide +kernel, rfl⟩ rfl (Nat.le_of_ble_eq_true rfl) hg
theorem oi_X5 : Cond.methodLink RX5 3 Lib.objectInit ∈ GW ∧ Cond.instanceMethod Lib.objectInit ∈ GW ∧ Cond.code Lib.objectInit ⟨#[0xb1]⟩ 1 none ∈ GW := ⟨GW_of 116 (by decide +kernel) (by decide +kernel), GW_of 109 (by decide +kernel) (by decide +kernel), GW_of 110 (by decide +kernel) (by decide +kernel)⟩
def M_X5_init : MB := (yX5_init, cX5_init, 1, none, ({ frames := 2, cells := 1, slots := 400, locals := 60 } : Room), RX5)
theorem e_X5_init_0 : DC cX5_init 0 (.aload_n 0) 1 1 := ⟨by decide +kernel, rfl⟩
theorem e_X5_init_1 : DC cX5_init 1 (.invokespecial 3) 3 4 := ⟨by decide +kernel, rfl⟩
theorem e_X5_init_4 : DC cX5_init 4 (.aload_n 0) 1 5 := ⟨by decide +kernel, rfl⟩
theorem e_X5_init_5 : DC cX5_init 5 (.sipush 400) 3 8 := ⟨by decide +kernel, rfl⟩
theorem e_X5_init_8 : DC cX5_init 8 (.newarray .int) 2 10 := ⟨by decide +kernel, rfl⟩
theorem e_X5_init_10 : DC cX5_init 10 (.putfield 9) 3 13 := ⟨by decide +kernel, rfl⟩
theorem e_X5_init_13 : DC cX5_init 13 (.return_) 1 14 := ⟨by decide +kernel, rfl⟩
theorem fw_X5_9 : FW RX5 9 5 0 true (.array .int) := ⟨RX5, TX5, 5, rfl, by decide, rfl, rfl, by decide +kernel, Or.inl (GW_of 117 (by decide +kernel) (by decide +kernel)), fun _ => ⟨rfl, GW_of 117 (by decide +kernel) (by decide +kernel)⟩⟩
def blkX5 (E : EE) (a : Nat) : List va_E := ([.inr (5, [.ref (a + 1), vI 0, vI 0, vI 0, vI 0])] ++ [IA E 400 (fun _ => 0)])
theorem blkX5_len {E : EE} {a : Nat} : (blkX5 E a).length = 2 := by
  unfold blkX5
  simp only [List.length_append, List.length_cons, List.length_nil, blkX8_len, blkX6_len, blkX3_len]
theorem ct_X5_init {l : Launch} {E : EE} {b0 a k : Nat} {h : AH} (ha : a = b0 + k) (hb : h a = .inr (5, [.null, vI 0, vI 0, vI 0, vI 0])) : Ct l E b0 M_X5_init 1 400 [.ref a] h (k + 1) none (lay a (blkX5 E a) h) (k + 2) True := by
  have hg : G l E b0 M_X5_init (fun _ => True) (ZM E b0 none (lay a (blkX5 E a) h) (k + 2) True 1 400) 0 0 (k + 1) (lay a [.inr (5, [.null, vI 0, vI 0, vI 0, vI 0])] h) 0 [some (.ref a)] [] := by
    refine g_aload_n e_X5_init_0 rfl ?_
    refine g_objInit oi_X5 e_X5_init_1 (Nat.le_of_ble_eq_true rfl) (Nat.le_of_ble_eq_true rfl) ?_
    refine g_aload_n e_X5_init_4 rfl ?_
    refine g_sipush e_X5_init_5 sp_400 ?_
    refine c_newI (N := 400) rfl (Nat.le_of_ble_eq_true rfl) w_arrI e_X5_init_8 ⟨Nat.le_of_ble_eq_true rfl, Nat.le_of_ble_eq_true rfl⟩ 1 (by simp [List.length_append, List.length_cons, List.length_nil, blkX8_len, blkX6_len, blkX3_len]) (by omega) ?_
    refine c_put (a := a) 0 0 (es' := ([.inr (5, [.ref (a + 1), vI 0, vI 0, vI 0, vI 0])] ++ [IA E 400 (fun _ => 0)])) (by omega) rfl (Nat.le_of_ble_eq_true rfl) rfl rfl fw_X5_9 (fun _ => rfl) ⟨rfl, rfl⟩ e_X5_init_10 ?_
    exact g_vret rfl trivial e_X5_init_13
  rw [lay_one hb] at hg
  exact Ct_of [some (.ref a)] ⟨by decide +kernel, rfl⟩ rfl (Nat.le_of_ble_eq_true rfl) hg
theorem oi_X4 : Cond.methodLink RX4 3 Lib.objectInit ∈ GW ∧ Cond.instanceMethod Lib.objectInit ∈ GW ∧ Cond.code Lib.objectInit ⟨#[0xb1]⟩ 1 none ∈ GW := ⟨GW_of 218 (by decide +kernel) (by decide +kernel), GW_of 109 (by decide +kernel) (by decide +kernel), GW_of 110 (by decide +kernel) (by decide +kernel)⟩
def M_X4_init : MB := (yX4_init, cX4_init, 1, none, ({ frames := 2, cells := 0, slots := 0, locals := 60 } : Room), RX4)
theorem e_X4_init_0 : DC cX4_init 0 (.aload_n 0) 1 1 := ⟨by decide +kernel, rfl⟩
theorem e_X4_init_1 : DC cX4_init 1 (.invokespecial 3) 3 4 := ⟨by decide +kernel, rfl⟩
theorem e_X4_init_4 : DC cX4_init 4 (.aload_n 0) 1 5 := ⟨by decide +kernel, rfl⟩
theorem e_X4_init_5 : DC cX4_init 5 (.lconst 1) 1 6 := ⟨by decide +kernel, rfl⟩
theorem e_X4_init_6 : DC cX4_init 6 (.putfield 9) 3 9 := ⟨by decide +kernel, rfl⟩
theorem e_X4_init_9 : DC cX4_init 9 (.return_) 1 10 := ⟨by decide +kernel, rfl⟩
def blkX4 (E : EE) (a : Nat) : List va_E := [.inr (4, [vI 0, vI 0, vI 0, vJ 0, vJ 0, vJ 1])]
theorem blkX4_len {E : EE} {a : Nat} : (blkX4 E a).length = 1 := by
  unfold blkX4
  simp only [List.length_append, List.length_cons, List.length_nil, blkX8_len, blkX6_len, blkX3_len, blkX5_len]
theorem ct_X4_init {l : Launch} {E : EE} {b0 a k : Nat} {h : AH} (ha : a = b0 + k) (hb : h a = .inr (4, [vI 0, vI 0, vI 0, vJ 0, vJ 0, vJ 0])) : Ct l E b0 M_X4_init 0 0 [.ref a] h (k + 1) none (lay a (blkX4 E a) h) (k + 1) True := by
  have hg : G l E b0 M_X4_init (fun _ => True) (ZM E b0 none (lay a (blkX4 E a) h) (k + 1) True 0 0) 0 0 (k + 1) (lay a [.inr (4, [vI 0, vI 0, vI 0, vJ 0, vJ 0, vJ 0])] h) 0 [some (.ref a)] [] := by
    refine g_aload_n e_X4_init_0 rfl ?_
    refine g_objInit oi_X4 e_X4_init_1 (Nat.le_of_ble_eq_true rfl) (Nat.le_of_ble_eq_true rfl) ?_
    refine g_aload_n e_X4_init_4 rfl ?_
    refine g_lconst (a := 1) e_X4_init_5 rfl ?_
    refine c_put (a := a) 0 5 (es' := [.inr (4, [vI 0, vI 0, vI 0, vJ 0, vJ 0, vJ 1])]) (by omega) rfl (Nat.le_of_ble_eq_true rfl) rfl rfl fw_X4_9 (fun _ => rfl) ⟨rfl, rfl⟩ e_X4_init_6 ?_
    exact g_vret rfl trivial e_X4_init_9
  rw [lay_one hb] at hg
  exact Ct_of [some (.ref a)] ⟨by decide +kernel, rfl⟩ rfl (Nat.le_of_ble_eq_true rfl) hg

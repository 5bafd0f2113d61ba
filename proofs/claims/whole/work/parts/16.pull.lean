def M_X4_commonOf : MB := (yX4_commonOf, cX4_commonOf, 11, (some .long), ({ frames := 1, cells := 0, slots := 0, locals := 40 } : Room), RX4)
def M_X4_overcomes : MB := (yX4_overcomes, cX4_overcomes, 3, (some .boolean), ({ frames := 1, cells := 0, slots := 0, locals := 40 } : Room), RX4)
def M_X4_forceOf : MB := (yX4_forceOf, cX4_forceOf, 8, (some .int), ({ frames := 1, cells := 0, slots := 0, locals := 40 } : Room), RX4)
def M_X4_isWayPart : MB := (yX4_isWayPart, cX4_isWayPart, 1, (some .boolean), ({ frames := 2, cells := 0, slots := 0, locals := 62 } : Room), RX4)
def M_X4_productOn : MB := (yX4_productOn, cX4_productOn, 5, (some .long), ({ frames := 2, cells := 0, slots := 0, locals := 64 } : Room), RX4)
def M_X4_shareOn : MB := (yX4_shareOn, cX4_shareOn, 13, (some .boolean), ({ frames := 3, cells := 0, slots := 0, locals := 88 } : Room), RX4)
def M_X4_greatestShares : MB := (yX4_greatestShares, cX4_greatestShares, 13, (some .int), ({ frames := 4, cells := 0, slots := 0, locals := 120 } : Room), RX4)
def M_X4_tell : MB := (yX4_tell, cX4_tell, 4, (some .boolean), ({ frames := 3, cells := 0, slots := 0, locals := 82 } : Room), RX4)
theorem cb_X4_commonOf : CB M_X4_commonOf 2 := ⟨GW_of 970 (by decide +kernel) (by decide +kernel), GW_of 89 (by decide +kernel) (by decide +kernel), by decide +kernel, by decide +kernel, by decide +kernel⟩
theorem cb_X4_isWayPart : CB M_X4_isWayPart 1 := ⟨GW_of 948 (by decide +kernel) (by decide +kernel), GW_of 89 (by decide +kernel) (by decide +kernel), by decide +kernel, by decide +kernel, by decide +kernel⟩
theorem cb_X4_productOn : CB M_X4_productOn 4 := ⟨GW_of 962 (by decide +kernel) (by decide +kernel), GW_of 89 (by decide +kernel) (by decide +kernel), by decide +kernel, by decide +kernel, by decide +kernel⟩
theorem cb_X4_shareOn : CB M_X4_shareOn 4 := ⟨GW_of 953 (by decide +kernel) (by decide +kernel), GW_of 89 (by decide +kernel) (by decide +kernel), by decide +kernel, by decide +kernel, by decide +kernel⟩
theorem cb_X8_productWith : CB M_X8_productWith 4 := ⟨GW_of 966 (by decide +kernel) (by decide +kernel), GW_of 87 (by decide +kernel) (by decide +kernel), by decide +kernel, by decide +kernel, by decide +kernel⟩
theorem k_X4_79 : Cond.constantLong RX4 79 (Int64.ofInt (16384)) ∈ GW := GW_of 1313 (by decide +kernel) (by decide +kernel)
theorem fl_X4_60 : FL RX4 60 4 4 := ⟨RX4, TX4, 6, rfl, by decide, rfl, Or.inl (GW_of 223 (by decide +kernel) (by decide +kernel))⟩
theorem fl_X4_9 : FL RX4 9 4 5 := ⟨RX4, TX4, 6, rfl, by decide, rfl, Or.inl (GW_of 225 (by decide +kernel) (by decide +kernel))⟩
theorem fl_X4_50 : FL RX4 50 4 3 := ⟨RX4, TX4, 6, rfl, by decide, rfl, Or.inl (GW_of 222 (by decide +kernel) (by decide +kernel))⟩
theorem fl_X4_19 : FL RX4 19 4 0 := ⟨RX4, TX4, 6, rfl, by decide, rfl, Or.inl (GW_of 219 (by decide +kernel) (by decide +kernel))⟩
theorem fl_X4_23 : FL RX4 23 4 1 := ⟨RX4, TX4, 6, rfl, by decide, rfl, Or.inl (GW_of 220 (by decide +kernel) (by decide +kernel))⟩
theorem fl_X4_26 : FL RX4 26 4 2 := ⟨RX4, TX4, 6, rfl, by decide, rfl, Or.inl (GW_of 221 (by decide +kernel) (by decide +kernel))⟩
theorem fw_X4_50 : FW RX4 50 4 3 false .long := ⟨RX4, TX4, 6, rfl, by decide, rfl, rfl, by decide +kernel, Or.inl (GW_of 222 (by decide +kernel) (by decide +kernel)), fun h => by cases h⟩
theorem fw_X4_60 : FW RX4 60 4 4 false .long := ⟨RX4, TX4, 6, rfl, by decide, rfl, rfl, by decide +kernel, Or.inl (GW_of 223 (by decide +kernel) (by decide +kernel)), fun h => by cases h⟩
theorem fw_X4_9 : FW RX4 9 4 5 false .long := ⟨RX4, TX4, 6, rfl, by decide, rfl, rfl, by decide +kernel, Or.inl (GW_of 225 (by decide +kernel) (by decide +kernel)), fun h => by cases h⟩
theorem fl_X4_63 : FL RX4 63 1 1 := ⟨RX1, TX1, 7, rfl, by decide, rfl, Or.inr (List.mem_of_getElem? (i := 38) (by decide +kernel))⟩
theorem fl_X4_69 : FL RX4 69 8 3 := ⟨RX8, TX8, 4, rfl, by decide, rfl, Or.inr (List.mem_of_getElem? (i := 2) (by decide +kernel))⟩
theorem fl_X4_72 : FL RX4 72 1 0 := ⟨RX1, TX1, 7, rfl, by decide, rfl, Or.inr (List.mem_of_getElem? (i := 34) (by decide +kernel))⟩
theorem fw_X4_19 : FW RX4 19 4 0 false .int := ⟨RX4, TX4, 6, rfl, by decide, rfl, rfl, by decide +kernel, Or.inl (GW_of 219 (by decide +kernel) (by decide +kernel)), fun h => by cases h⟩
theorem fw_X4_23 : FW RX4 23 4 1 false .int := ⟨RX4, TX4, 6, rfl, by decide, rfl, rfl, by decide +kernel, Or.inl (GW_of 220 (by decide +kernel) (by decide +kernel)), fun h => by cases h⟩
theorem fw_X4_26 : FW RX4 26 4 2 false .int := ⟨RX4, TX4, 6, rfl, by decide, rfl, rfl, by decide +kernel, Or.inl (GW_of 221 (by decide +kernel) (by decide +kernel)), fun h => by cases h⟩
theorem cs_X4_29 : CS RX4 29 M_X10_within 3 := ⟨cb_X10_within, Or.inr (List.mem_of_getElem? (i := 14) (by decide +kernel)), GW_of 563 (by decide +kernel) (by decide +kernel)⟩
theorem cv_X4_33 : CV RX4 33 M_X8_productWith 4 := ⟨cb_X8_productWith, Or.inl (GW_of 963 (by decide +kernel) (by decide +kernel)), GW_of 964 (by decide +kernel) (by decide +kernel), GW_of 965 (by decide +kernel) (by decide +kernel)⟩
theorem cv_X4_39 : CV RX4 39 M_X8_has 1 := ⟨cb_X8_has, Or.inl (GW_of 954 (by decide +kernel) (by decide +kernel)), GW_of 769 (by decide +kernel) (by decide +kernel), GW_of 770 (by decide +kernel) (by decide +kernel)⟩
theorem cv_X4_42 : CV RX4 42 M_X8_product 3 := ⟨cb_X8_product, Or.inl (GW_of 955 (by decide +kernel) (by decide +kernel)), GW_of 956 (by decide +kernel) (by decide +kernel), GW_of 957 (by decide +kernel) (by decide +kernel)⟩
theorem cv_X4_46 : CV RX4 46 M_X4_productOn 4 := ⟨cb_X4_productOn, Or.inl (GW_of 959 (by decide +kernel) (by decide +kernel)), GW_of 960 (by decide +kernel) (by decide +kernel), GW_of 961 (by decide +kernel) (by decide +kernel)⟩
theorem cv_X4_52 : CV RX4 52 M_X8_worthOf 1 := ⟨cb_X8_worthOf, Or.inl (GW_of 967 (by decide +kernel) (by decide +kernel)), GW_of 842 (by decide +kernel) (by decide +kernel), GW_of 843 (by decide +kernel) (by decide +kernel)⟩
theorem cs_X4_56 : CS RX4 56 M_X4_commonOf 2 := ⟨cb_X4_commonOf, Or.inl (GW_of 968 (by decide +kernel) (by decide +kernel)), GW_of 969 (by decide +kernel) (by decide +kernel)⟩
theorem cv_X4_75 : CV RX4 75 M_X4_shareOn 4 := ⟨cb_X4_shareOn, Or.inl (GW_of 991 (by decide +kernel) (by decide +kernel)), GW_of 951 (by decide +kernel) (by decide +kernel), GW_of 952 (by decide +kernel) (by decide +kernel)⟩
theorem cs_X4_15 : CS RX4 15 M_X4_isWayPart 1 := ⟨cb_X4_isWayPart, Or.inl (GW_of 946 (by decide +kernel) (by decide +kernel)), GW_of 947 (by decide +kernel) (by decide +kernel)⟩
/-! ===== X4_commonOf ===== -/
theorem e_X4_commonOf_0 : DC cX4_commonOf 0 (.lload_n 0) 1 1 := ⟨by decide +kernel, rfl⟩
theorem e_X4_commonOf_1 : DC cX4_commonOf 1 (.lstore 4) 2 3 := ⟨by decide +kernel, rfl⟩
theorem e_X4_commonOf_3 : DC cX4_commonOf 3 (.lload_n 2) 1 4 := ⟨by decide +kernel, rfl⟩
theorem e_X4_commonOf_4 : DC cX4_commonOf 4 (.lstore 6) 2 6 := ⟨by decide +kernel, rfl⟩
theorem e_X4_commonOf_6 : DC cX4_commonOf 6 (.iconst 0) 1 7 := ⟨by decide +kernel, rfl⟩
theorem e_X4_commonOf_7 : DC cX4_commonOf 7 (.istore 8) 2 9 := ⟨by decide +kernel, rfl⟩
theorem e_X4_commonOf_9 : DC cX4_commonOf 9 (.iload 8) 2 11 := ⟨by decide +kernel, rfl⟩
theorem e_X4_commonOf_11 : DC cX4_commonOf 11 (.sipush 1000) 3 14 := ⟨by decide +kernel, rfl⟩
theorem e_X4_commonOf_14 : DB cX4_commonOf 14 (.if_icmp .ge 31) (31) 3 17 45 := ⟨by decide +kernel, rfl, rfl⟩
theorem e_X4_commonOf_17 : DC cX4_commonOf 17 (.lload 6) 2 19 := ⟨by decide +kernel, rfl⟩
theorem e_X4_commonOf_19 : DC cX4_commonOf 19 (.lconst 0) 1 20 := ⟨by decide +kernel, rfl⟩
theorem e_X4_commonOf_20 : DC cX4_commonOf 20 (.lcmp) 1 21 := ⟨by decide +kernel, rfl⟩
theorem e_X4_commonOf_21 : DB cX4_commonOf 21 (.ifCond .eq 24) (24) 3 24 45 := ⟨by decide +kernel, rfl, rfl⟩
theorem e_X4_commonOf_24 : DC cX4_commonOf 24 (.lload 4) 2 26 := ⟨by decide +kernel, rfl⟩
theorem e_X4_commonOf_26 : DC cX4_commonOf 26 (.lload 6) 2 28 := ⟨by decide +kernel, rfl⟩
theorem e_X4_commonOf_28 : DC cX4_commonOf 28 (.lrem) 1 29 := ⟨by decide +kernel, rfl⟩
theorem e_X4_commonOf_29 : DC cX4_commonOf 29 (.lstore 9) 2 31 := ⟨by decide +kernel, rfl⟩
theorem e_X4_commonOf_31 : DC cX4_commonOf 31 (.lload 6) 2 33 := ⟨by decide +kernel, rfl⟩
theorem e_X4_commonOf_33 : DC cX4_commonOf 33 (.lstore 4) 2 35 := ⟨by decide +kernel, rfl⟩
theorem e_X4_commonOf_35 : DC cX4_commonOf 35 (.lload 9) 2 37 := ⟨by decide +kernel, rfl⟩
theorem e_X4_commonOf_37 : DC cX4_commonOf 37 (.lstore 6) 2 39 := ⟨by decide +kernel, rfl⟩
theorem e_X4_commonOf_39 : DC cX4_commonOf 39 (.iinc 8 1) 3 42 := ⟨by decide +kernel, rfl⟩
theorem e_X4_commonOf_42 : DB cX4_commonOf 42 (.goto (-33)) (-33) 3 45 9 := ⟨by decide +kernel, rfl, rfl⟩
theorem e_X4_commonOf_45 : DC cX4_commonOf 45 (.lload 4) 2 47 := ⟨by decide +kernel, rfl⟩
theorem e_X4_commonOf_47 : DC cX4_commonOf 47 (.lreturn) 1 48 := ⟨by decide +kernel, rfl⟩
noncomputable def m_X4_commonOf_9 (k_45 : Int → Int → Int → Option (Int)) : Nat → Int → Int → Int → Option (Int)
  | 0, _, _, _ => none
  | F + 1, v4, v6, v8 => if 1000 ≤ v8 then (some (v4)) else (if v6 = 0 then (some (v4)) else (chk (v6 ≠ 0) (chk (inJ (Int.tmod v4 v6)) (chk (inI (v8 + 1)) (m_X4_commonOf_9 k_45 F v6 (Int.tmod v4 v6) (v8 + 1))))))

set_option maxRecDepth 10000 in
theorem g_X4_commonOf_9 {l : Launch} {E : EE} {b0 n : Nat} {h : AH} {r : Int} {k_45 : Int → Int → Int → Option (Int)} (ao : AO b0 n []) (hk_45 : ∀ (v4_ : Int) (v6_ : Int) (v8_ : Int), inJ v4_ → inJ v6_ → inI v8_ → k_45 v4_ v6_ v8_ = some r → G l E b0 M_X4_commonOf (fun _ => True) (ZM E b0 (some (vJ r)) (ov [] [] h) n (inJ r) 0 0) 0 0 n (ov [] [] h) 45 [none, none, none, none, some (vJ v4_), none, none, none, none, none, none] []) :
    ∀ (F : Nat) (v4 : Int) (v6 : Int) (v8 : Int), inJ v4 → inJ v6 → inI v8 → m_X4_commonOf_9 k_45 F v4 v6 v8 = some r → G l E b0 M_X4_commonOf (fun _ => True) (ZM E b0 (some (vJ r)) (ov [] [] h) n (inJ r) 0 0) 0 0 n (ov [] [] h) 9 [none, none, none, none, some (vJ v4), none, some (vJ v6), none, some (vI v8), none, none] [] := by
  intro F
  induction F with
  | zero =>
    intro v4 v6 v8 ok_v4 ok_v6 ok_v8 hs
    rw [m_X4_commonOf_9] at hs
    cases hs
  | succ F ih =>
    intro v4 v6 v8 ok_v4 ok_v6 ok_v8 hs
    rw [m_X4_commonOf_9] at hs
    refine g_iload e_X4_commonOf_9 rfl ?_
    refine g_sipush e_X4_commonOf_11 sp_1000 ?_
    refine g_icmp_ge e_X4_commonOf_14 ok_v8 (by decide : inI 1000) hs (fun c14 hs => ?_) (fun c14 hs => ?_)
    · refine g_lload e_X4_commonOf_45 rfl ?_
      obtain rfl := Option.some.inj hs
      exact g_lret rfl ok_v4 e_X4_commonOf_47
    · refine g_lload e_X4_commonOf_17 rfl ?_
      refine g_lconst (a := 0) e_X4_commonOf_19 rfl ?_
      refine g_lcmp_eq e_X4_commonOf_20 e_X4_commonOf_21 ok_v6 (by decide : inJ 0) hs (fun c20 hs => ?_) (fun c20 hs => ?_)
      · refine g_lload e_X4_commonOf_45 rfl ?_
        obtain rfl := Option.some.inj hs
        exact g_lret rfl ok_v4 e_X4_commonOf_47
      · refine g_lload e_X4_commonOf_24 rfl ?_
        refine g_lload e_X4_commonOf_26 rfl ?_
        refine g_lrem e_X4_commonOf_28 ok_v4 ok_v6 hs (fun hs => ?_)
        refine g_lstore e_X4_commonOf_29 st2_9 rfl ?_
        refine g_lload e_X4_commonOf_31 rfl ?_
        refine g_lstore e_X4_commonOf_33 st2_4 rfl ?_
        refine g_lload e_X4_commonOf_35 rfl ?_
        refine g_lstore e_X4_commonOf_37 st2_6 rfl ?_
        refine g_iinc e_X4_commonOf_39 rfl st1_8 rfl ?_
        refine g_goto e_X4_commonOf_42 ?_
        obtain ⟨hc1, hs⟩ := chk_elim hs
        obtain ⟨hc2, hs⟩ := chk_elim hs
        exact g_mask [true, true, true, true, true, true, true, true, true, false, true] (ih _ _ _ ok_v6 hc1 hc2 hs)

noncomputable def m_X4_commonOf_45 (v4 : Int) : Option (Int) :=
  some (v4)

set_option maxRecDepth 10000 in
theorem g_X4_commonOf_45 {l : Launch} {E : EE} {b0 n : Nat} {h : AH} {v4 : Int} {r : Int} (ao : AO b0 n []) (ok_v4 : inJ v4) (hs : m_X4_commonOf_45 v4 = some r) : G l E b0 M_X4_commonOf (fun _ => True) (ZM E b0 (some (vJ r)) (ov [] [] h) n (inJ r) 0 0) 0 0 n (ov [] [] h) 45 [none, none, none, none, some (vJ v4), none, none, none, none, none, none] [] := by
  rw [m_X4_commonOf_45] at hs
  refine g_lload e_X4_commonOf_45 rfl ?_
  obtain rfl := Option.some.inj hs
  exact g_lret rfl ok_v4 e_X4_commonOf_47

noncomputable def m_X4_commonOf_0 (v0 : Int) (v2 : Int) : Option (Int) :=
  m_X4_commonOf_9 (fun v4' v6' v8' => m_X4_commonOf_45 v4') FU v0 v2 0

set_option maxRecDepth 10000 in
theorem g_X4_commonOf_0 {l : Launch} {E : EE} {b0 n : Nat} {h : AH} {v0 v2 : Int} {r : Int} (ao : AO b0 n []) (ok_v0 : inJ v0) (ok_v2 : inJ v2) (hs : m_X4_commonOf_0 v0 v2 = some r) : G l E b0 M_X4_commonOf (fun _ => True) (ZM E b0 (some (vJ r)) (ov [] [] h) n (inJ r) 0 0) 0 0 n (ov [] [] h) 0 [some (vJ v0), none, some (vJ v2), none, none, none, none, none, none, none, none] [] := by
  rw [m_X4_commonOf_0] at hs
  refine g_lload_n e_X4_commonOf_0 rfl ?_
  refine g_lstore e_X4_commonOf_1 st2_4 rfl ?_
  refine g_lload_n e_X4_commonOf_3 rfl ?_
  refine g_lstore e_X4_commonOf_4 st2_6 rfl ?_
  refine g_iconst e_X4_commonOf_6 ?_
  refine g_istore e_X4_commonOf_7 st1_8 rfl ?_
  exact g_mask [false, true, false, true, true, true, true, true, true, true, true] (g_X4_commonOf_9 ao  (hk_45 := by
      intro v4' v6' v8' ok_v4' ok_v6' ok_v8' hs
      exact g_X4_commonOf_45 ao ok_v4' hs) FU _ _ _ ok_v0 ok_v2 (by decide : inI 0) hs)

noncomputable def m_X4_commonOf (v0 : Int) (v2 : Int) : Option (Int) := m_X4_commonOf_0 v0 v2

set_option maxRecDepth 10000 in
theorem ct_X4_commonOf {l : Launch} {E : EE} {b0 n : Nat} {h : AH} {v0 v2 : Int} (ao : AO b0 n []) (hf : FA h [] []) (ok_v0 : inJ v0) (ok_v2 : inJ v2) {r : Int} (hm : m_X4_commonOf v0 v2 = some r) : Ct l E b0 M_X4_commonOf 0 0 [vJ v0, vJ v2] h n (some (vJ r)) h n (inJ r) := by
  rw [m_X4_commonOf] at hm
  have hg : G l E b0 M_X4_commonOf (fun _ => True) (ZM E b0 (some (vJ r)) (ov [] [] h) n (inJ r) 0 0) 0 0 n (ov [] [] h) 0 [some (vJ v0), none, some (vJ v2), none, none, none, none, none, none, none, none] [] := by
    have hs := hm
    exact g_X4_commonOf_0 ao ok_v0 ok_v2 hs
  rw [FA_id hf] at hg
  exact Ct_of [some (vJ v0), none, some (vJ v2), none, none, none, none, none, none, none, none] ⟨by decide +kernel, rfl⟩ rfl (Nat.le_of_ble_eq_true rfl) hg

/-! ===== X4_overcomes ===== -/
theorem e_X4_overcomes_0 : DC cX4_overcomes 0 (.iload_n 1) 1 1 := ⟨by decide +kernel, rfl⟩
theorem e_X4_overcomes_1 : DC cX4_overcomes 1 (.i2l) 1 2 := ⟨by decide +kernel, rfl⟩
theorem e_X4_overcomes_2 : DC cX4_overcomes 2 (.iload_n 1) 1 3 := ⟨by decide +kernel, rfl⟩
theorem e_X4_overcomes_3 : DC cX4_overcomes 3 (.i2l) 1 4 := ⟨by decide +kernel, rfl⟩
theorem e_X4_overcomes_4 : DC cX4_overcomes 4 (.lmul) 1 5 := ⟨by decide +kernel, rfl⟩
theorem e_X4_overcomes_5 : DC cX4_overcomes 5 (.aload_n 0) 1 6 := ⟨by decide +kernel, rfl⟩
theorem e_X4_overcomes_6 : DC cX4_overcomes 6 (.getfield 60) 3 9 := ⟨by decide +kernel, rfl⟩
theorem e_X4_overcomes_9 : DC cX4_overcomes 9 (.lmul) 1 10 := ⟨by decide +kernel, rfl⟩
theorem e_X4_overcomes_10 : DC cX4_overcomes 10 (.iload_n 2) 1 11 := ⟨by decide +kernel, rfl⟩
theorem e_X4_overcomes_11 : DC cX4_overcomes 11 (.i2l) 1 12 := ⟨by decide +kernel, rfl⟩
theorem e_X4_overcomes_12 : DC cX4_overcomes 12 (.iload_n 2) 1 13 := ⟨by decide +kernel, rfl⟩
theorem e_X4_overcomes_13 : DC cX4_overcomes 13 (.i2l) 1 14 := ⟨by decide +kernel, rfl⟩
theorem e_X4_overcomes_14 : DC cX4_overcomes 14 (.lmul) 1 15 := ⟨by decide +kernel, rfl⟩
theorem e_X4_overcomes_15 : DC cX4_overcomes 15 (.aload_n 0) 1 16 := ⟨by decide +kernel, rfl⟩
theorem e_X4_overcomes_16 : DC cX4_overcomes 16 (.getfield 9) 3 19 := ⟨by decide +kernel, rfl⟩
theorem e_X4_overcomes_19 : DC cX4_overcomes 19 (.lmul) 1 20 := ⟨by decide +kernel, rfl⟩
theorem e_X4_overcomes_20 : DC cX4_overcomes 20 (.lcmp) 1 21 := ⟨by decide +kernel, rfl⟩
theorem e_X4_overcomes_21 : DB cX4_overcomes 21 (.ifCond .le 7) (7) 3 24 28 := ⟨by decide +kernel, rfl, rfl⟩
theorem e_X4_overcomes_24 : DC cX4_overcomes 24 (.iconst 1) 1 25 := ⟨by decide +kernel, rfl⟩
theorem e_X4_overcomes_25 : DB cX4_overcomes 25 (.goto 4) (4) 3 28 29 := ⟨by decide +kernel, rfl, rfl⟩
theorem e_X4_overcomes_28 : DC cX4_overcomes 28 (.iconst 0) 1 29 := ⟨by decide +kernel, rfl⟩
theorem e_X4_overcomes_29 : DC cX4_overcomes 29 (.ireturn) 1 30 := ⟨by decide +kernel, rfl⟩
noncomputable def m_X4_overcomes_0 (t_above : Int) (t_below : Int) (v1 : Int) (v2 : Int) : Option (Int) :=
  chk (inJ ((v1 * v1) * t_above)) (chk (inJ ((v2 * v2) * t_below)) (if ((v1 * v1) * t_above) ≤ ((v2 * v2) * t_below) then (some (0)) else (some (1))))

set_option maxRecDepth 10000 in
theorem g_X4_overcomes_0 {l : Launch} {E : EE} {b0 n : Nat} {h : AH} {a_t : Nat} {t_x t_y t_z t_product t_above t_below v1 v2 : Int} {r : Int} (ao : AO b0 n [a_t]) (ok_t_above : inJ t_above) (ok_t_below : inJ t_below) (ok_v1 : inI v1) (ok_v2 : inI v2) (hs : m_X4_overcomes_0 t_above t_below v1 v2 = some r) : G l E b0 M_X4_overcomes (fun _ => True) (ZM E b0 (some (vI r)) (ov [a_t] [.inr (4, fsX4 a_t t_x t_y t_z t_product t_above t_below)] h) n (inZ r) 0 0) 0 0 n (ov [a_t] [.inr (4, fsX4 a_t t_x t_y t_z t_product t_above t_below)] h) 0 [some (.ref a_t), some (vI v1), some (vI v2)] [] := by
  rw [m_X4_overcomes_0] at hs
  refine g_iload_n e_X4_overcomes_0 rfl ?_
  refine g_i2l e_X4_overcomes_1 ok_v1 ?_
  refine g_iload_n e_X4_overcomes_2 rfl ?_
  refine g_i2l e_X4_overcomes_3 ok_v1 ?_
  refine g_lmul e_X4_overcomes_4 ?_
  refine g_aload_n e_X4_overcomes_5 rfl ?_
  refine g_get 0 4 ao rfl rfl fsX4_g4 fl_X4_60 e_X4_overcomes_6 ?_
  refine g_lmul e_X4_overcomes_9 ?_
  refine g_iload_n e_X4_overcomes_10 rfl ?_
  refine g_i2l e_X4_overcomes_11 ok_v2 ?_
  refine g_iload_n e_X4_overcomes_12 rfl ?_
  refine g_i2l e_X4_overcomes_13 ok_v2 ?_
  refine g_lmul e_X4_overcomes_14 ?_
  refine g_aload_n e_X4_overcomes_15 rfl ?_
  refine g_get 0 5 ao rfl rfl fsX4_g5 fl_X4_9 e_X4_overcomes_16 ?_
  refine g_lmul e_X4_overcomes_19 ?_
  obtain ⟨hc1, hs⟩ := chk_elim hs
  obtain ⟨hc2, hs⟩ := chk_elim hs
  refine g_lcmp_le e_X4_overcomes_20 e_X4_overcomes_21 hc1 hc2 hs (fun c20 hs => ?_) (fun c20 hs => ?_)
  · refine g_iconst e_X4_overcomes_28 ?_
    obtain rfl := Option.some.inj hs
    exact g_zret rfl (by decide : inZ 0) (by decide : inZ 0) e_X4_overcomes_29
  · refine g_iconst e_X4_overcomes_24 ?_
    refine g_goto e_X4_overcomes_25 ?_
    obtain rfl := Option.some.inj hs
    exact g_zret rfl (by decide : inZ 1) (by decide : inZ 1) e_X4_overcomes_29

noncomputable def m_X4_overcomes (t_above : Int) (t_below : Int) (v1 : Int) (v2 : Int) : Option (Int) := m_X4_overcomes_0 t_above t_below v1 v2

set_option maxRecDepth 10000 in
theorem ct_X4_overcomes {l : Launch} {E : EE} {b0 n : Nat} {h : AH} {a_t : Nat} {t_x t_y t_z t_product t_above t_below : Int} {v1 v2 : Int} (ao : AO b0 n [a_t]) (hf : FA h [a_t] [.inr (4, fsX4 a_t t_x t_y t_z t_product t_above t_below)]) (ok_t_above : inJ t_above) (ok_t_below : inJ t_below) (ok_v1 : inI v1) (ok_v2 : inI v2) {r : Int} (hm : m_X4_overcomes t_above t_below v1 v2 = some r) : Ct l E b0 M_X4_overcomes 0 0 [.ref a_t, vI v1, vI v2] h n (some (vI r)) h n (inZ r) := by
  rw [m_X4_overcomes] at hm
  have hg : G l E b0 M_X4_overcomes (fun _ => True) (ZM E b0 (some (vI r)) (ov [a_t] [.inr (4, fsX4 a_t t_x t_y t_z t_product t_above t_below)] h) n (inZ r) 0 0) 0 0 n (ov [a_t] [.inr (4, fsX4 a_t t_x t_y t_z t_product t_above t_below)] h) 0 [some (.ref a_t), some (vI v1), some (vI v2)] [] := by
    have hs := hm
    exact g_X4_overcomes_0 ao ok_t_above ok_t_below ok_v1 ok_v2 hs
  rw [FA_id hf] at hg
  exact Ct_of [some (.ref a_t), some (vI v1), some (vI v2)] ⟨by decide +kernel, rfl⟩ rfl (Nat.le_of_ble_eq_true rfl) hg

/-! ===== X4_forceOf ===== -/
theorem e_X4_forceOf_0 : DC cX4_forceOf 0 (.aload_n 0) 1 1 := ⟨by decide +kernel, rfl⟩
theorem e_X4_forceOf_1 : DC cX4_forceOf 1 (.getfield 9) 3 4 := ⟨by decide +kernel, rfl⟩
theorem e_X4_forceOf_4 : DC cX4_forceOf 4 (.lconst 0) 1 5 := ⟨by decide +kernel, rfl⟩
theorem e_X4_forceOf_5 : DC cX4_forceOf 5 (.lcmp) 1 6 := ⟨by decide +kernel, rfl⟩
theorem e_X4_forceOf_6 : DB cX4_forceOf 6 (.ifCond .gt 5) (5) 3 9 11 := ⟨by decide +kernel, rfl, rfl⟩
theorem e_X4_forceOf_9 : DC cX4_forceOf 9 (.iconst 0) 1 10 := ⟨by decide +kernel, rfl⟩
theorem e_X4_forceOf_10 : DC cX4_forceOf 10 (.ireturn) 1 11 := ⟨by decide +kernel, rfl⟩
theorem e_X4_forceOf_11 : DC cX4_forceOf 11 (.iload_n 1) 1 12 := ⟨by decide +kernel, rfl⟩
theorem e_X4_forceOf_12 : DC cX4_forceOf 12 (.i2l) 1 13 := ⟨by decide +kernel, rfl⟩
theorem e_X4_forceOf_13 : DC cX4_forceOf 13 (.iload_n 1) 1 14 := ⟨by decide +kernel, rfl⟩
theorem e_X4_forceOf_14 : DC cX4_forceOf 14 (.i2l) 1 15 := ⟨by decide +kernel, rfl⟩
theorem e_X4_forceOf_15 : DC cX4_forceOf 15 (.lmul) 1 16 := ⟨by decide +kernel, rfl⟩
theorem e_X4_forceOf_16 : DC cX4_forceOf 16 (.aload_n 0) 1 17 := ⟨by decide +kernel, rfl⟩
theorem e_X4_forceOf_17 : DC cX4_forceOf 17 (.getfield 60) 3 20 := ⟨by decide +kernel, rfl⟩
theorem e_X4_forceOf_20 : DC cX4_forceOf 20 (.lmul) 1 21 := ⟨by decide +kernel, rfl⟩
theorem e_X4_forceOf_21 : DC cX4_forceOf 21 (.aload_n 0) 1 22 := ⟨by decide +kernel, rfl⟩
theorem e_X4_forceOf_22 : DC cX4_forceOf 22 (.getfield 9) 3 25 := ⟨by decide +kernel, rfl⟩
theorem e_X4_forceOf_25 : DC cX4_forceOf 25 (.ldiv) 1 26 := ⟨by decide +kernel, rfl⟩
theorem e_X4_forceOf_26 : DC cX4_forceOf 26 (.lstore_n 2) 1 27 := ⟨by decide +kernel, rfl⟩
theorem e_X4_forceOf_27 : DC cX4_forceOf 27 (.lconst 0) 1 28 := ⟨by decide +kernel, rfl⟩
theorem e_X4_forceOf_28 : DC cX4_forceOf 28 (.lstore 4) 2 30 := ⟨by decide +kernel, rfl⟩
theorem e_X4_forceOf_30 : DC cX4_forceOf 30 (.ldc2_w 79) 3 33 := ⟨by decide +kernel, rfl⟩
theorem e_X4_forceOf_33 : DC cX4_forceOf 33 (.lstore 6) 2 35 := ⟨by decide +kernel, rfl⟩
theorem e_X4_forceOf_35 : DC cX4_forceOf 35 (.lload 6) 2 37 := ⟨by decide +kernel, rfl⟩
theorem e_X4_forceOf_37 : DC cX4_forceOf 37 (.lconst 0) 1 38 := ⟨by decide +kernel, rfl⟩
theorem e_X4_forceOf_38 : DC cX4_forceOf 38 (.lcmp) 1 39 := ⟨by decide +kernel, rfl⟩
theorem e_X4_forceOf_39 : DB cX4_forceOf 39 (.ifCond .le 35) (35) 3 42 74 := ⟨by decide +kernel, rfl, rfl⟩
theorem e_X4_forceOf_42 : DC cX4_forceOf 42 (.lload 4) 2 44 := ⟨by decide +kernel, rfl⟩
theorem e_X4_forceOf_44 : DC cX4_forceOf 44 (.lload 6) 2 46 := ⟨by decide +kernel, rfl⟩
theorem e_X4_forceOf_46 : DC cX4_forceOf 46 (.ladd) 1 47 := ⟨by decide +kernel, rfl⟩
theorem e_X4_forceOf_47 : DC cX4_forceOf 47 (.lload 4) 2 49 := ⟨by decide +kernel, rfl⟩
theorem e_X4_forceOf_49 : DC cX4_forceOf 49 (.lload 6) 2 51 := ⟨by decide +kernel, rfl⟩
theorem e_X4_forceOf_51 : DC cX4_forceOf 51 (.ladd) 1 52 := ⟨by decide +kernel, rfl⟩
theorem e_X4_forceOf_52 : DC cX4_forceOf 52 (.lmul) 1 53 := ⟨by decide +kernel, rfl⟩
theorem e_X4_forceOf_53 : DC cX4_forceOf 53 (.lload_n 2) 1 54 := ⟨by decide +kernel, rfl⟩
theorem e_X4_forceOf_54 : DC cX4_forceOf 54 (.lcmp) 1 55 := ⟨by decide +kernel, rfl⟩
theorem e_X4_forceOf_55 : DB cX4_forceOf 55 (.ifCond .gt 10) (10) 3 58 65 := ⟨by decide +kernel, rfl, rfl⟩
theorem e_X4_forceOf_58 : DC cX4_forceOf 58 (.lload 4) 2 60 := ⟨by decide +kernel, rfl⟩
theorem e_X4_forceOf_60 : DC cX4_forceOf 60 (.lload 6) 2 62 := ⟨by decide +kernel, rfl⟩
theorem e_X4_forceOf_62 : DC cX4_forceOf 62 (.ladd) 1 63 := ⟨by decide +kernel, rfl⟩
theorem e_X4_forceOf_63 : DC cX4_forceOf 63 (.lstore 4) 2 65 := ⟨by decide +kernel, rfl⟩
theorem e_X4_forceOf_65 : DC cX4_forceOf 65 (.lload 6) 2 67 := ⟨by decide +kernel, rfl⟩
theorem e_X4_forceOf_67 : DC cX4_forceOf 67 (.iconst 1) 1 68 := ⟨by decide +kernel, rfl⟩
theorem e_X4_forceOf_68 : DC cX4_forceOf 68 (.lshr) 1 69 := ⟨by decide +kernel, rfl⟩
theorem e_X4_forceOf_69 : DC cX4_forceOf 69 (.lstore 6) 2 71 := ⟨by decide +kernel, rfl⟩
theorem e_X4_forceOf_71 : DB cX4_forceOf 71 (.goto (-36)) (-36) 3 74 35 := ⟨by decide +kernel, rfl, rfl⟩
theorem e_X4_forceOf_74 : DC cX4_forceOf 74 (.aload_n 0) 1 75 := ⟨by decide +kernel, rfl⟩
theorem e_X4_forceOf_75 : DC cX4_forceOf 75 (.getfield 50) 3 78 := ⟨by decide +kernel, rfl⟩
theorem e_X4_forceOf_78 : DC cX4_forceOf 78 (.lconst 0) 1 79 := ⟨by decide +kernel, rfl⟩
theorem e_X4_forceOf_79 : DC cX4_forceOf 79 (.lcmp) 1 80 := ⟨by decide +kernel, rfl⟩
theorem e_X4_forceOf_80 : DB cX4_forceOf 80 (.ifCond .ge 9) (9) 3 83 89 := ⟨by decide +kernel, rfl, rfl⟩
theorem e_X4_forceOf_83 : DC cX4_forceOf 83 (.lload 4) 2 85 := ⟨by decide +kernel, rfl⟩
theorem e_X4_forceOf_85 : DC cX4_forceOf 85 (.lneg) 1 86 := ⟨by decide +kernel, rfl⟩
theorem e_X4_forceOf_86 : DB cX4_forceOf 86 (.goto 5) (5) 3 89 91 := ⟨by decide +kernel, rfl, rfl⟩
theorem e_X4_forceOf_89 : DC cX4_forceOf 89 (.lload 4) 2 91 := ⟨by decide +kernel, rfl⟩
theorem e_X4_forceOf_91 : DC cX4_forceOf 91 (.l2i) 1 92 := ⟨by decide +kernel, rfl⟩
theorem e_X4_forceOf_92 : DC cX4_forceOf 92 (.ireturn) 1 93 := ⟨by decide +kernel, rfl⟩
noncomputable def m_X4_forceOf_65 (v2 : Int) (v4 : Int) (v6 : Int) (ag : Int → Int → Option (Int)) (k_74 : Int → Int → Option (Int)) : Option (Int) :=
  ag v4 (jShr v6 1)

set_option maxRecDepth 10000 in
theorem g_X4_forceOf_65 {l : Launch} {E : EE} {b0 n : Nat} {h : AH} {a_t : Nat} {t_x t_y t_z t_product t_above t_below v2 v4 v6 : Int} {r : Int} {ag : Int → Int → Option (Int)} {k_74 : Int → Int → Option (Int)} (ao : AO b0 n [a_t]) (ok_t_product : inJ t_product) (ok_t_above : inJ t_above) (ok_t_below : inJ t_below) (ok_v2 : inJ v2) (ok_v4 : inJ v4) (ok_v6 : inJ v6) (hag : ∀ (v4_ : Int) (v6_ : Int), inJ v4_ → inJ v6_ → ag v4_ v6_ = some r → G l E b0 M_X4_forceOf (fun _ => True) (ZM E b0 (some (vI r)) (ov [a_t] [.inr (4, fsX4 a_t t_x t_y t_z t_product t_above t_below)] h) n (inI r) 0 0) 0 0 n (ov [a_t] [.inr (4, fsX4 a_t t_x t_y t_z t_product t_above t_below)] h) 35 [some (.ref a_t), none, some (vJ v2), none, some (vJ v4_), none, some (vJ v6_), none] []) (hk_74 : ∀ (v4_ : Int) (v6_ : Int), inJ v4_ → inJ v6_ → k_74 v4_ v6_ = some r → G l E b0 M_X4_forceOf (fun _ => True) (ZM E b0 (some (vI r)) (ov [a_t] [.inr (4, fsX4 a_t t_x t_y t_z t_product t_above t_below)] h) n (inI r) 0 0) 0 0 n (ov [a_t] [.inr (4, fsX4 a_t t_x t_y t_z t_product t_above t_below)] h) 74 [some (.ref a_t), none, none, none, some (vJ v4_), none, none, none] []) (hs : m_X4_forceOf_65 v2 v4 v6 ag k_74 = some r) : G l E b0 M_X4_forceOf (fun _ => True) (ZM E b0 (some (vI r)) (ov [a_t] [.inr (4, fsX4 a_t t_x t_y t_z t_product t_above t_below)] h) n (inI r) 0 0) 0 0 n (ov [a_t] [.inr (4, fsX4 a_t t_x t_y t_z t_product t_above t_below)] h) 65 [some (.ref a_t), none, some (vJ v2), none, some (vJ v4), none, some (vJ v6), none] [] := by
  rw [m_X4_forceOf_65] at hs
  refine g_lload e_X4_forceOf_65 rfl ?_
  refine g_iconst e_X4_forceOf_67 ?_
  refine g_lshr e_X4_forceOf_68 ?_
  refine g_lstore e_X4_forceOf_69 st2_6 rfl ?_
  refine g_goto e_X4_forceOf_71 ?_
  exact hag _ _ ok_v4 (jShr_J _ _) hs

noncomputable def m_X4_forceOf_35 (v2 : Int) (k_74 : Int → Int → Option (Int)) : Nat → Int → Int → Option (Int)
  | 0, _, _ => none
  | F + 1, v4, v6 => if v6 ≤ 0 then (k_74 v4 v6) else (chk (inJ ((v4 + v6) * (v4 + v6))) (if v2 < ((v4 + v6) * (v4 + v6)) then (m_X4_forceOf_65 v2 v4 v6 (m_X4_forceOf_35 v2 k_74 F) k_74) else (chk (inJ (v4 + v6)) (m_X4_forceOf_65 v2 (v4 + v6) v6 (m_X4_forceOf_35 v2 k_74 F) k_74))))

set_option maxRecDepth 10000 in
theorem g_X4_forceOf_35 {l : Launch} {E : EE} {b0 n : Nat} {h : AH} {a_t : Nat} {t_x t_y t_z t_product t_above t_below v2 : Int} {r : Int} {k_74 : Int → Int → Option (Int)} (ao : AO b0 n [a_t]) (ok_t_product : inJ t_product) (ok_t_above : inJ t_above) (ok_t_below : inJ t_below) (ok_v2 : inJ v2) (hk_74 : ∀ (v4_ : Int) (v6_ : Int), inJ v4_ → inJ v6_ → k_74 v4_ v6_ = some r → G l E b0 M_X4_forceOf (fun _ => True) (ZM E b0 (some (vI r)) (ov [a_t] [.inr (4, fsX4 a_t t_x t_y t_z t_product t_above t_below)] h) n (inI r) 0 0) 0 0 n (ov [a_t] [.inr (4, fsX4 a_t t_x t_y t_z t_product t_above t_below)] h) 74 [some (.ref a_t), none, none, none, some (vJ v4_), none, none, none] []) :
    ∀ (F : Nat) (v4 : Int) (v6 : Int), inJ v4 → inJ v6 → m_X4_forceOf_35 v2 k_74 F v4 v6 = some r → G l E b0 M_X4_forceOf (fun _ => True) (ZM E b0 (some (vI r)) (ov [a_t] [.inr (4, fsX4 a_t t_x t_y t_z t_product t_above t_below)] h) n (inI r) 0 0) 0 0 n (ov [a_t] [.inr (4, fsX4 a_t t_x t_y t_z t_product t_above t_below)] h) 35 [some (.ref a_t), none, some (vJ v2), none, some (vJ v4), none, some (vJ v6), none] [] := by
  intro F
  induction F with
  | zero =>
    intro v4 v6 ok_v4 ok_v6 hs
    rw [m_X4_forceOf_35] at hs
    cases hs
  | succ F ih =>
    intro v4 v6 ok_v4 ok_v6 hs
    rw [m_X4_forceOf_35] at hs
    refine g_lload e_X4_forceOf_35 rfl ?_
    refine g_lconst (a := 0) e_X4_forceOf_37 rfl ?_
    refine g_lcmp_le e_X4_forceOf_38 e_X4_forceOf_39 ok_v6 (by decide : inJ 0) hs (fun c38 hs => ?_) (fun c38 hs => ?_)
    · exact g_mask [true, true, false, true, true, true, false, true] (hk_74 _ _ ok_v4 ok_v6 hs)
    · refine g_lload e_X4_forceOf_42 rfl ?_
      refine g_lload e_X4_forceOf_44 rfl ?_
      refine g_ladd e_X4_forceOf_46 ?_
      refine g_lload e_X4_forceOf_47 rfl ?_
      refine g_lload e_X4_forceOf_49 rfl ?_
      refine g_ladd e_X4_forceOf_51 ?_
      refine g_lmul e_X4_forceOf_52 ?_
      refine g_lload_n e_X4_forceOf_53 rfl ?_
      obtain ⟨hc2, hs⟩ := chk_elim hs
      refine g_lcmp_gt e_X4_forceOf_54 e_X4_forceOf_55 hc2 ok_v2 hs (fun c54 hs => ?_) (fun c54 hs => ?_)
      · exact g_X4_forceOf_65 ao ok_t_product ok_t_above ok_t_below ok_v2 ok_v4 ok_v6 ih hk_74 hs
      · refine g_lload e_X4_forceOf_58 rfl ?_
        refine g_lload e_X4_forceOf_60 rfl ?_
        refine g_ladd e_X4_forceOf_62 ?_
        refine g_lstore e_X4_forceOf_63 st2_4 rfl ?_
        obtain ⟨hc3, hs⟩ := chk_elim hs
        exact g_X4_forceOf_65 ao ok_t_product ok_t_above ok_t_below ok_v2 hc3 ok_v6 ih hk_74 hs

noncomputable def m_X4_forceOf_74 (t_product : Int) (v4 : Int) : Option (Int) :=
  if 0 ≤ t_product then (chk (inI v4) (some (v4))) else (chk (inI (-v4)) (some (-v4)))

set_option maxRecDepth 10000 in
theorem g_X4_forceOf_74 {l : Launch} {E : EE} {b0 n : Nat} {h : AH} {a_t : Nat} {t_x t_y t_z t_product t_above t_below v4 : Int} {r : Int} (ao : AO b0 n [a_t]) (ok_t_product : inJ t_product) (ok_t_above : inJ t_above) (ok_t_below : inJ t_below) (ok_v4 : inJ v4) (hs : m_X4_forceOf_74 t_product v4 = some r) : G l E b0 M_X4_forceOf (fun _ => True) (ZM E b0 (some (vI r)) (ov [a_t] [.inr (4, fsX4 a_t t_x t_y t_z t_product t_above t_below)] h) n (inI r) 0 0) 0 0 n (ov [a_t] [.inr (4, fsX4 a_t t_x t_y t_z t_product t_above t_below)] h) 74 [some (.ref a_t), none, none, none, some (vJ v4), none, none, none] [] := by
  rw [m_X4_forceOf_74] at hs
  refine g_aload_n e_X4_forceOf_74 rfl ?_
  refine g_get 0 3 ao rfl rfl fsX4_g3 fl_X4_50 e_X4_forceOf_75 ?_
  refine g_lconst (a := 0) e_X4_forceOf_78 rfl ?_
  refine g_lcmp_ge e_X4_forceOf_79 e_X4_forceOf_80 ok_t_product (by decide : inJ 0) hs (fun c79 hs => ?_) (fun c79 hs => ?_)
  · refine g_lload e_X4_forceOf_89 rfl ?_
    refine g_l2i e_X4_forceOf_91 ?_
    obtain ⟨hc5, hs⟩ := chk_elim hs
    obtain rfl := Option.some.inj hs
    exact g_iret rfl hc5 e_X4_forceOf_92
  · refine g_lload e_X4_forceOf_83 rfl ?_
    refine g_lneg e_X4_forceOf_85 ?_
    refine g_goto e_X4_forceOf_86 ?_
    refine g_l2i e_X4_forceOf_91 ?_
    obtain ⟨hc6, hs⟩ := chk_elim hs
    obtain rfl := Option.some.inj hs
    exact g_iret rfl hc6 e_X4_forceOf_92

noncomputable def m_X4_forceOf_0 (t_product : Int) (t_above : Int) (t_below : Int) (v1 : Int) : Option (Int) :=
  if 0 < t_below then (chk (inJ ((v1 * v1) * t_above)) (chk (t_below ≠ 0) (chk (inJ (Int.tdiv ((v1 * v1) * t_above) t_below)) (m_X4_forceOf_35 (Int.tdiv ((v1 * v1) * t_above) t_below) (fun v4' v6' => m_X4_forceOf_74 t_product v4') FU 0 16384)))) else (some (0))

set_option maxRecDepth 10000 in
theorem g_X4_forceOf_0 {l : Launch} {E : EE} {b0 n : Nat} {h : AH} {a_t : Nat} {t_x t_y t_z t_product t_above t_below v1 : Int} {r : Int} (ao : AO b0 n [a_t]) (ok_t_product : inJ t_product) (ok_t_above : inJ t_above) (ok_t_below : inJ t_below) (ok_v1 : inI v1) (hs : m_X4_forceOf_0 t_product t_above t_below v1 = some r) : G l E b0 M_X4_forceOf (fun _ => True) (ZM E b0 (some (vI r)) (ov [a_t] [.inr (4, fsX4 a_t t_x t_y t_z t_product t_above t_below)] h) n (inI r) 0 0) 0 0 n (ov [a_t] [.inr (4, fsX4 a_t t_x t_y t_z t_product t_above t_below)] h) 0 [some (.ref a_t), some (vI v1), none, none, none, none, none, none] [] := by
  rw [m_X4_forceOf_0] at hs
  refine g_aload_n e_X4_forceOf_0 rfl ?_
  refine g_get 0 5 ao rfl rfl fsX4_g5 fl_X4_9 e_X4_forceOf_1 ?_
  refine g_lconst (a := 0) e_X4_forceOf_4 rfl ?_
  refine g_lcmp_gt e_X4_forceOf_5 e_X4_forceOf_6 ok_t_below (by decide : inJ 0) hs (fun c5 hs => ?_) (fun c5 hs => ?_)
  · refine g_iload_n e_X4_forceOf_11 rfl ?_
    refine g_i2l e_X4_forceOf_12 ok_v1 ?_
    refine g_iload_n e_X4_forceOf_13 rfl ?_
    refine g_i2l e_X4_forceOf_14 ok_v1 ?_
    refine g_lmul e_X4_forceOf_15 ?_
    refine g_aload_n e_X4_forceOf_16 rfl ?_
    refine g_get 0 4 ao rfl rfl fsX4_g4 fl_X4_60 e_X4_forceOf_17 ?_
    refine g_lmul e_X4_forceOf_20 ?_
    refine g_aload_n e_X4_forceOf_21 rfl ?_
    refine g_get 0 5 ao rfl rfl fsX4_g5 fl_X4_9 e_X4_forceOf_22 ?_
    obtain ⟨hc1, hs⟩ := chk_elim hs
    refine g_ldiv e_X4_forceOf_25 hc1 ok_t_below hs (fun hs => ?_)
    refine g_lstore_n e_X4_forceOf_26 st2_2 rfl ?_
    refine g_lconst (a := 0) e_X4_forceOf_27 rfl ?_
    refine g_lstore e_X4_forceOf_28 st2_4 rfl ?_
    refine g_ldc2 (a := 16384) e_X4_forceOf_30 k_X4_79 ?_
    refine g_lstore e_X4_forceOf_33 st2_6 rfl ?_
    obtain ⟨hc4, hs⟩ := chk_elim hs
    exact g_mask [true, false, true, true, true, true, true, true] (g_X4_forceOf_35 ao ok_t_product ok_t_above ok_t_below hc4 (hk_74 := by
      intro v4' v6' ok_v4' ok_v6' hs
      exact g_X4_forceOf_74 ao ok_t_product ok_t_above ok_t_below ok_v4' hs) FU _ _ (by decide : inJ 0) (by decide : inJ 16384) hs)
  · refine g_iconst e_X4_forceOf_9 ?_
    obtain rfl := Option.some.inj hs
    exact g_iret rfl (by decide : inI 0) e_X4_forceOf_10

noncomputable def m_X4_forceOf (t_product : Int) (t_above : Int) (t_below : Int) (v1 : Int) : Option (Int) := m_X4_forceOf_0 t_product t_above t_below v1

set_option maxRecDepth 10000 in
theorem ct_X4_forceOf {l : Launch} {E : EE} {b0 n : Nat} {h : AH} {a_t : Nat} {t_x t_y t_z t_product t_above t_below : Int} {v1 : Int} (ao : AO b0 n [a_t]) (hf : FA h [a_t] [.inr (4, fsX4 a_t t_x t_y t_z t_product t_above t_below)]) (ok_t_product : inJ t_product) (ok_t_above : inJ t_above) (ok_t_below : inJ t_below) (ok_v1 : inI v1) {r : Int} (hm : m_X4_forceOf t_product t_above t_below v1 = some r) : Ct l E b0 M_X4_forceOf 0 0 [.ref a_t, vI v1] h n (some (vI r)) h n (inI r) := by
  rw [m_X4_forceOf] at hm
  have hg : G l E b0 M_X4_forceOf (fun _ => True) (ZM E b0 (some (vI r)) (ov [a_t] [.inr (4, fsX4 a_t t_x t_y t_z t_product t_above t_below)] h) n (inI r) 0 0) 0 0 n (ov [a_t] [.inr (4, fsX4 a_t t_x t_y t_z t_product t_above t_below)] h) 0 [some (.ref a_t), some (vI v1), none, none, none, none, none, none] [] := by
    have hs := hm
    exact g_X4_forceOf_0 ao ok_t_product ok_t_above ok_t_below ok_v1 hs
  rw [FA_id hf] at hg
  exact Ct_of [some (.ref a_t), some (vI v1), none, none, none, none, none, none] ⟨by decide +kernel, rfl⟩ rfl (Nat.le_of_ble_eq_true rfl) hg

/-! ===== X4_isWayPart ===== -/
theorem e_X4_isWayPart_0 : DC cX4_isWayPart 0 (.iload_n 0) 1 1 := ⟨by decide +kernel, rfl⟩
theorem e_X4_isWayPart_1 : DC cX4_isWayPart 1 (.bipush (-9)) 2 3 := ⟨by decide +kernel, rfl⟩
theorem e_X4_isWayPart_3 : DC cX4_isWayPart 3 (.bipush 9) 2 5 := ⟨by decide +kernel, rfl⟩
theorem e_X4_isWayPart_5 : DC cX4_isWayPart 5 (.invokestatic 29) 3 8 := ⟨by decide +kernel, rfl⟩
theorem e_X4_isWayPart_8 : DC cX4_isWayPart 8 (.ireturn) 1 9 := ⟨by decide +kernel, rfl⟩
noncomputable def m_X4_isWayPart_0 (v0 : Int) : Option (Int) :=
  (m_X10_within v0 (-9) 9).bind (fun y1 => some (y1))

set_option maxRecDepth 10000 in
theorem g_X4_isWayPart_0 {l : Launch} {E : EE} {b0 n : Nat} {h : AH} {v0 : Int} {r : Int} (ao : AO b0 n []) (ok_v0 : inI v0) (hs : m_X4_isWayPart_0 v0 = some r) : G l E b0 M_X4_isWayPart (fun _ => True) (ZM E b0 (some (vI r)) (ov [] [] h) n (inZ r) 0 0) 0 0 n (ov [] [] h) 0 [some (vI v0)] [] := by
  rw [m_X4_isWayPart_0] at hs
  refine g_iload_n e_X4_isWayPart_0 rfl ?_
  refine g_bipush e_X4_isWayPart_1 bp_m9 ?_
  refine g_bipush e_X4_isWayPart_3 bp_9 ?_
  obtain ⟨y1, hy1, hs⟩ := bind_elim hs
  refine g_callSr [vI v0, vI (-9), vI 9] cs_X4_29 ⟨rfl, rfl, Nat.le_of_ble_eq_true rfl, Nat.le_of_ble_eq_true rfl⟩ (ct_X10_within ⟨List.nodup_nil, fun i a h => by simp at h⟩ (fun i a e h => by simp at h) ok_v0 (by decide : inI (-9)) (by decide : inI 9) hy1) e_X4_isWayPart_5 rfl rfl (Nat.le_of_ble_eq_true rfl) ⟨Nat.le_refl _, Nat.le_refl _⟩ (fun Py1 => ?_)
  obtain rfl := Option.some.inj hs
  exact g_zret rfl Py1 Py1 e_X4_isWayPart_8

noncomputable def m_X4_isWayPart (v0 : Int) : Option (Int) := m_X4_isWayPart_0 v0

set_option maxRecDepth 10000 in
theorem ct_X4_isWayPart {l : Launch} {E : EE} {b0 n : Nat} {h : AH} {v0 : Int} (ao : AO b0 n []) (hf : FA h [] []) (ok_v0 : inI v0) {r : Int} (hm : m_X4_isWayPart v0 = some r) : Ct l E b0 M_X4_isWayPart 0 0 [vI v0] h n (some (vI r)) h n (inZ r) := by
  rw [m_X4_isWayPart] at hm
  have hg : G l E b0 M_X4_isWayPart (fun _ => True) (ZM E b0 (some (vI r)) (ov [] [] h) n (inZ r) 0 0) 0 0 n (ov [] [] h) 0 [some (vI v0)] [] := by
    have hs := hm
    exact g_X4_isWayPart_0 ao ok_v0 hs
  rw [FA_id hf] at hg
  exact Ct_of [some (vI v0)] ⟨by decide +kernel, rfl⟩ rfl (Nat.le_of_ble_eq_true rfl) hg

/-! ===== X4_productOn ===== -/
theorem e_X4_productOn_0 : DC cX4_productOn 0 (.aload_n 1) 1 1 := ⟨by decide +kernel, rfl⟩
theorem e_X4_productOn_1 : DC cX4_productOn 1 (.iload_n 2) 1 2 := ⟨by decide +kernel, rfl⟩
theorem e_X4_productOn_2 : DC cX4_productOn 2 (.aload_n 0) 1 3 := ⟨by decide +kernel, rfl⟩
theorem e_X4_productOn_3 : DC cX4_productOn 3 (.getfield 19) 3 6 := ⟨by decide +kernel, rfl⟩
theorem e_X4_productOn_6 : DC cX4_productOn 6 (.aload_n 0) 1 7 := ⟨by decide +kernel, rfl⟩
theorem e_X4_productOn_7 : DC cX4_productOn 7 (.getfield 23) 3 10 := ⟨by decide +kernel, rfl⟩
theorem e_X4_productOn_10 : DC cX4_productOn 10 (.aload_n 0) 1 11 := ⟨by decide +kernel, rfl⟩
theorem e_X4_productOn_11 : DC cX4_productOn 11 (.getfield 26) 3 14 := ⟨by decide +kernel, rfl⟩
theorem e_X4_productOn_14 : DC cX4_productOn 14 (.invokevirtual 33) 3 17 := ⟨by decide +kernel, rfl⟩
theorem e_X4_productOn_17 : DC cX4_productOn 17 (.i2l) 1 18 := ⟨by decide +kernel, rfl⟩
theorem e_X4_productOn_18 : DC cX4_productOn 18 (.aload_n 3) 1 19 := ⟨by decide +kernel, rfl⟩
theorem e_X4_productOn_19 : DC cX4_productOn 19 (.iload 4) 2 21 := ⟨by decide +kernel, rfl⟩
theorem e_X4_productOn_21 : DC cX4_productOn 21 (.aload_n 0) 1 22 := ⟨by decide +kernel, rfl⟩
theorem e_X4_productOn_22 : DC cX4_productOn 22 (.getfield 19) 3 25 := ⟨by decide +kernel, rfl⟩
theorem e_X4_productOn_25 : DC cX4_productOn 25 (.aload_n 0) 1 26 := ⟨by decide +kernel, rfl⟩
theorem e_X4_productOn_26 : DC cX4_productOn 26 (.getfield 23) 3 29 := ⟨by decide +kernel, rfl⟩
theorem e_X4_productOn_29 : DC cX4_productOn 29 (.aload_n 0) 1 30 := ⟨by decide +kernel, rfl⟩
theorem e_X4_productOn_30 : DC cX4_productOn 30 (.getfield 26) 3 33 := ⟨by decide +kernel, rfl⟩
theorem e_X4_productOn_33 : DC cX4_productOn 33 (.invokevirtual 33) 3 36 := ⟨by decide +kernel, rfl⟩
theorem e_X4_productOn_36 : DC cX4_productOn 36 (.i2l) 1 37 := ⟨by decide +kernel, rfl⟩
theorem e_X4_productOn_37 : DC cX4_productOn 37 (.lmul) 1 38 := ⟨by decide +kernel, rfl⟩
theorem e_X4_productOn_38 : DC cX4_productOn 38 (.lreturn) 1 39 := ⟨by decide +kernel, rfl⟩
noncomputable def m_X4_productOn_0 (N_p1 : Nat) (N_p3 : Nat) (t_x : Int) (t_y : Int) (t_z : Int) (p1_many : Int) (p1_xs : Nat → Int) (p1_ys : Nat → Int) (p1_zs : Nat → Int) (p3_many : Int) (p3_xs : Nat → Int) (p3_ys : Nat → Int) (p3_zs : Nat → Int) (v2 : Int) (v4 : Int) : Option (Int) :=
  (m_X8_productWith N_p1 p1_many p1_xs p1_ys p1_zs v2 t_x t_y t_z).bind (fun y1 => (m_X8_productWith N_p3 p3_many p3_xs p3_ys p3_zs v4 t_x t_y t_z).bind (fun y2 => chk (inJ (y1 * y2)) (some (y1 * y2))))

set_option maxRecDepth 10000 in
theorem g_X4_productOn_0 {l : Launch} {E : EE} {b0 n : Nat} {h : AH} {a_t a_p1 a_p3 : Nat} {N_p1 N_p3 : Nat} {t_x t_y t_z t_product t_above t_below p1_many p3_many v2 v4 : Int} {p1_xs p1_ys p1_zs p3_xs p3_ys p3_zs : Nat → Int} {r : Int} (ao : AO b0 n [a_t, a_p1, (a_p1 + 1), (a_p1 + 2), (a_p1 + 3), a_p3, (a_p3 + 1), (a_p3 + 2), (a_p3 + 3)]) (hN_p1 : N_p1 ≤ 100000) (hN_p3 : N_p3 ≤ 100000) (ok_t_x : inI t_x) (ok_t_y : inI t_y) (ok_t_z : inI t_z) (ok_p1_many : inI p1_many) (ok_p1_xs : okA p1_xs) (ok_p1_ys : okA p1_ys) (ok_p1_zs : okA p1_zs) (ok_p3_many : inI p3_many) (ok_p3_xs : okA p3_xs) (ok_p3_ys : okA p3_ys) (ok_p3_zs : okA p3_zs) (ok_v2 : inI v2) (ok_v4 : inI v4) (hs : m_X4_productOn_0 N_p1 N_p3 t_x t_y t_z p1_many p1_xs p1_ys p1_zs p3_many p3_xs p3_ys p3_zs v2 v4 = some r) : G l E b0 M_X4_productOn (fun _ => True) (ZM E b0 (some (vJ r)) (ov [a_t, a_p1, (a_p1 + 1), (a_p1 + 2), (a_p1 + 3), a_p3, (a_p3 + 1), (a_p3 + 2), (a_p3 + 3)] [.inr (4, fsX4 a_t t_x t_y t_z t_product t_above t_below), .inr (8, fsX8 a_p1 p1_many), IA E N_p1 p1_xs, IA E N_p1 p1_ys, IA E N_p1 p1_zs, .inr (8, fsX8 a_p3 p3_many), IA E N_p3 p3_xs, IA E N_p3 p3_ys, IA E N_p3 p3_zs] h) n (inJ r) 0 0) 0 0 n (ov [a_t, a_p1, (a_p1 + 1), (a_p1 + 2), (a_p1 + 3), a_p3, (a_p3 + 1), (a_p3 + 2), (a_p3 + 3)] [.inr (4, fsX4 a_t t_x t_y t_z t_product t_above t_below), .inr (8, fsX8 a_p1 p1_many), IA E N_p1 p1_xs, IA E N_p1 p1_ys, IA E N_p1 p1_zs, .inr (8, fsX8 a_p3 p3_many), IA E N_p3 p3_xs, IA E N_p3 p3_ys, IA E N_p3 p3_zs] h) 0 [some (.ref a_t), some (.ref a_p1), some (vI v2), some (.ref a_p3), some (vI v4)] [] := by
  rw [m_X4_productOn_0] at hs
  refine g_aload_n e_X4_productOn_0 rfl ?_
  refine g_iload_n e_X4_productOn_1 rfl ?_
  refine g_aload_n e_X4_productOn_2 rfl ?_
  refine g_get 0 0 ao rfl rfl fsX4_g0 fl_X4_19 e_X4_productOn_3 ?_
  refine g_aload_n e_X4_productOn_6 rfl ?_
  refine g_get 0 1 ao rfl rfl fsX4_g1 fl_X4_23 e_X4_productOn_7 ?_
  refine g_aload_n e_X4_productOn_10 rfl ?_
  refine g_get 0 2 ao rfl rfl fsX4_g2 fl_X4_26 e_X4_productOn_11 ?_
  obtain ⟨y1, hy1, hs⟩ := bind_elim hs
  refine g_callVr [vI v2, vI t_x, vI t_y, vI t_z] cv_X4_33 ⟨rfl, rfl, Nat.le_of_ble_eq_true rfl, Nat.le_of_ble_eq_true rfl⟩ (ct_X8_productWith (AO_call [1, 2, 3, 4] ao (by decide) rfl) hN_p1 (FA_call [1, 2, 3, 4] ao.1 rfl rfl) ok_p1_many ok_p1_xs ok_p1_ys ok_p1_zs ok_v2 ok_t_x ok_t_y ok_t_z hy1) e_X4_productOn_14 (ao.2 1 _ rfl) (ov_get 1 ao.1 rfl rfl) rfl rfl rfl (Nat.le_of_ble_eq_true rfl) ⟨Nat.le_refl _, Nat.le_refl _⟩ (fun Py1 => ?_)
  refine g_i2l e_X4_productOn_17 Py1 ?_
  refine g_aload_n e_X4_productOn_18 rfl ?_
  refine g_iload e_X4_productOn_19 rfl ?_
  refine g_aload_n e_X4_productOn_21 rfl ?_
  refine g_get 0 0 ao rfl rfl fsX4_g0 fl_X4_19 e_X4_productOn_22 ?_
  refine g_aload_n e_X4_productOn_25 rfl ?_
  refine g_get 0 1 ao rfl rfl fsX4_g1 fl_X4_23 e_X4_productOn_26 ?_
  refine g_aload_n e_X4_productOn_29 rfl ?_
  refine g_get 0 2 ao rfl rfl fsX4_g2 fl_X4_26 e_X4_productOn_30 ?_
  obtain ⟨y2, hy2, hs⟩ := bind_elim hs
  refine g_callVr [vI v4, vI t_x, vI t_y, vI t_z] cv_X4_33 ⟨rfl, rfl, Nat.le_of_ble_eq_true rfl, Nat.le_of_ble_eq_true rfl⟩ (ct_X8_productWith (AO_call [5, 6, 7, 8] ao (by decide) rfl) hN_p3 (FA_call [5, 6, 7, 8] ao.1 rfl rfl) ok_p3_many ok_p3_xs ok_p3_ys ok_p3_zs ok_v4 ok_t_x ok_t_y ok_t_z hy2) e_X4_productOn_33 (ao.2 5 _ rfl) (ov_get 5 ao.1 rfl rfl) rfl rfl rfl (Nat.le_of_ble_eq_true rfl) ⟨Nat.le_refl _, Nat.le_refl _⟩ (fun Py2 => ?_)
  refine g_i2l e_X4_productOn_36 Py2 ?_
  refine g_lmul e_X4_productOn_37 ?_
  obtain ⟨hc3, hs⟩ := chk_elim hs
  obtain rfl := Option.some.inj hs
  exact g_lret rfl hc3 e_X4_productOn_38

noncomputable def m_X4_productOn (N_p1 : Nat) (N_p3 : Nat) (t_x : Int) (t_y : Int) (t_z : Int) (p1_many : Int) (p1_xs : Nat → Int) (p1_ys : Nat → Int) (p1_zs : Nat → Int) (p3_many : Int) (p3_xs : Nat → Int) (p3_ys : Nat → Int) (p3_zs : Nat → Int) (v2 : Int) (v4 : Int) : Option (Int) := m_X4_productOn_0 N_p1 N_p3 t_x t_y t_z p1_many p1_xs p1_ys p1_zs p3_many p3_xs p3_ys p3_zs v2 v4

set_option maxRecDepth 10000 in
theorem ct_X4_productOn {l : Launch} {E : EE} {b0 n : Nat} {h : AH} {a_t a_p1 a_p3 : Nat} {N_p1 N_p3 : Nat} {t_x t_y t_z t_product t_above t_below p1_many p3_many : Int} {p1_xs p1_ys p1_zs p3_xs p3_ys p3_zs : Nat → Int} {v2 v4 : Int} (ao : AO b0 n [a_t, a_p1, (a_p1 + 1), (a_p1 + 2), (a_p1 + 3), a_p3, (a_p3 + 1), (a_p3 + 2), (a_p3 + 3)]) (hN_p1 : N_p1 ≤ 100000) (hN_p3 : N_p3 ≤ 100000) (hf : FA h [a_t, a_p1, (a_p1 + 1), (a_p1 + 2), (a_p1 + 3), a_p3, (a_p3 + 1), (a_p3 + 2), (a_p3 + 3)] [.inr (4, fsX4 a_t t_x t_y t_z t_product t_above t_below), .inr (8, fsX8 a_p1 p1_many), IA E N_p1 p1_xs, IA E N_p1 p1_ys, IA E N_p1 p1_zs, .inr (8, fsX8 a_p3 p3_many), IA E N_p3 p3_xs, IA E N_p3 p3_ys, IA E N_p3 p3_zs]) (ok_t_x : inI t_x) (ok_t_y : inI t_y) (ok_t_z : inI t_z) (ok_p1_many : inI p1_many) (ok_p1_xs : okA p1_xs) (ok_p1_ys : okA p1_ys) (ok_p1_zs : okA p1_zs) (ok_p3_many : inI p3_many) (ok_p3_xs : okA p3_xs) (ok_p3_ys : okA p3_ys) (ok_p3_zs : okA p3_zs) (ok_v2 : inI v2) (ok_v4 : inI v4) {r : Int} (hm : m_X4_productOn N_p1 N_p3 t_x t_y t_z p1_many p1_xs p1_ys p1_zs p3_many p3_xs p3_ys p3_zs v2 v4 = some r) : Ct l E b0 M_X4_productOn 0 0 [.ref a_t, .ref a_p1, vI v2, .ref a_p3, vI v4] h n (some (vJ r)) h n (inJ r) := by
  rw [m_X4_productOn] at hm
  have hg : G l E b0 M_X4_productOn (fun _ => True) (ZM E b0 (some (vJ r)) (ov [a_t, a_p1, (a_p1 + 1), (a_p1 + 2), (a_p1 + 3), a_p3, (a_p3 + 1), (a_p3 + 2), (a_p3 + 3)] [.inr (4, fsX4 a_t t_x t_y t_z t_product t_above t_below), .inr (8, fsX8 a_p1 p1_many), IA E N_p1 p1_xs, IA E N_p1 p1_ys, IA E N_p1 p1_zs, .inr (8, fsX8 a_p3 p3_many), IA E N_p3 p3_xs, IA E N_p3 p3_ys, IA E N_p3 p3_zs] h) n (inJ r) 0 0) 0 0 n (ov [a_t, a_p1, (a_p1 + 1), (a_p1 + 2), (a_p1 + 3), a_p3, (a_p3 + 1), (a_p3 + 2), (a_p3 + 3)] [.inr (4, fsX4 a_t t_x t_y t_z t_product t_above t_below), .inr (8, fsX8 a_p1 p1_many), IA E N_p1 p1_xs, IA E N_p1 p1_ys, IA E N_p1 p1_zs, .inr (8, fsX8 a_p3 p3_many), IA E N_p3 p3_xs, IA E N_p3 p3_ys, IA E N_p3 p3_zs] h) 0 [some (.ref a_t), some (.ref a_p1), some (vI v2), some (.ref a_p3), some (vI v4)] [] := by
    have hs := hm
    exact g_X4_productOn_0 ao hN_p1 hN_p3 ok_t_x ok_t_y ok_t_z ok_p1_many ok_p1_xs ok_p1_ys ok_p1_zs ok_p3_many ok_p3_xs ok_p3_ys ok_p3_zs ok_v2 ok_v4 hs
  rw [FA_id hf] at hg
  exact Ct_of [some (.ref a_t), some (.ref a_p1), some (vI v2), some (.ref a_p3), some (vI v4)] ⟨by decide +kernel, rfl⟩ rfl (Nat.le_of_ble_eq_true rfl) hg

/-! ===== X4_shareOn ===== -/
theorem e_X4_shareOn_0 : DC cX4_shareOn 0 (.aload_n 1) 1 1 := ⟨by decide +kernel, rfl⟩
theorem e_X4_shareOn_1 : DC cX4_shareOn 1 (.iload_n 2) 1 2 := ⟨by decide +kernel, rfl⟩
theorem e_X4_shareOn_2 : DC cX4_shareOn 2 (.invokevirtual 39) 3 5 := ⟨by decide +kernel, rfl⟩
theorem e_X4_shareOn_5 : DB cX4_shareOn 5 (.ifCond .eq 23) (23) 3 8 28 := ⟨by decide +kernel, rfl, rfl⟩
theorem e_X4_shareOn_8 : DC cX4_shareOn 8 (.aload_n 3) 1 9 := ⟨by decide +kernel, rfl⟩
theorem e_X4_shareOn_9 : DC cX4_shareOn 9 (.iload 4) 2 11 := ⟨by decide +kernel, rfl⟩
theorem e_X4_shareOn_11 : DC cX4_shareOn 11 (.invokevirtual 39) 3 14 := ⟨by decide +kernel, rfl⟩
theorem e_X4_shareOn_14 : DB cX4_shareOn 14 (.ifCond .eq 14) (14) 3 17 28 := ⟨by decide +kernel, rfl, rfl⟩
theorem e_X4_shareOn_17 : DC cX4_shareOn 17 (.aload_n 1) 1 18 := ⟨by decide +kernel, rfl⟩
theorem e_X4_shareOn_18 : DC cX4_shareOn 18 (.iload_n 2) 1 19 := ⟨by decide +kernel, rfl⟩
theorem e_X4_shareOn_19 : DC cX4_shareOn 19 (.aload_n 3) 1 20 := ⟨by decide +kernel, rfl⟩
theorem e_X4_shareOn_20 : DC cX4_shareOn 20 (.iload 4) 2 22 := ⟨by decide +kernel, rfl⟩
theorem e_X4_shareOn_22 : DC cX4_shareOn 22 (.invokevirtual 42) 3 25 := ⟨by decide +kernel, rfl⟩
theorem e_X4_shareOn_25 : DB cX4_shareOn 25 (.ifCond .eq 5) (5) 3 28 30 := ⟨by decide +kernel, rfl, rfl⟩
theorem e_X4_shareOn_28 : DC cX4_shareOn 28 (.iconst 0) 1 29 := ⟨by decide +kernel, rfl⟩
theorem e_X4_shareOn_29 : DC cX4_shareOn 29 (.ireturn) 1 30 := ⟨by decide +kernel, rfl⟩
theorem e_X4_shareOn_30 : DC cX4_shareOn 30 (.aload_n 0) 1 31 := ⟨by decide +kernel, rfl⟩
theorem e_X4_shareOn_31 : DC cX4_shareOn 31 (.aload_n 0) 1 32 := ⟨by decide +kernel, rfl⟩
theorem e_X4_shareOn_32 : DC cX4_shareOn 32 (.aload_n 1) 1 33 := ⟨by decide +kernel, rfl⟩
theorem e_X4_shareOn_33 : DC cX4_shareOn 33 (.iload_n 2) 1 34 := ⟨by decide +kernel, rfl⟩
theorem e_X4_shareOn_34 : DC cX4_shareOn 34 (.aload_n 3) 1 35 := ⟨by decide +kernel, rfl⟩
theorem e_X4_shareOn_35 : DC cX4_shareOn 35 (.iload 4) 2 37 := ⟨by decide +kernel, rfl⟩
theorem e_X4_shareOn_37 : DC cX4_shareOn 37 (.invokevirtual 46) 3 40 := ⟨by decide +kernel, rfl⟩
theorem e_X4_shareOn_40 : DC cX4_shareOn 40 (.putfield 50) 3 43 := ⟨by decide +kernel, rfl⟩
theorem e_X4_shareOn_43 : DC cX4_shareOn 43 (.aload_n 0) 1 44 := ⟨by decide +kernel, rfl⟩
theorem e_X4_shareOn_44 : DC cX4_shareOn 44 (.getfield 19) 3 47 := ⟨by decide +kernel, rfl⟩
theorem e_X4_shareOn_47 : DC cX4_shareOn 47 (.aload_n 0) 1 48 := ⟨by decide +kernel, rfl⟩
theorem e_X4_shareOn_48 : DC cX4_shareOn 48 (.getfield 19) 3 51 := ⟨by decide +kernel, rfl⟩
theorem e_X4_shareOn_51 : DC cX4_shareOn 51 (.imul) 1 52 := ⟨by decide +kernel, rfl⟩
theorem e_X4_shareOn_52 : DC cX4_shareOn 52 (.aload_n 0) 1 53 := ⟨by decide +kernel, rfl⟩
theorem e_X4_shareOn_53 : DC cX4_shareOn 53 (.getfield 23) 3 56 := ⟨by decide +kernel, rfl⟩
theorem e_X4_shareOn_56 : DC cX4_shareOn 56 (.aload_n 0) 1 57 := ⟨by decide +kernel, rfl⟩
theorem e_X4_shareOn_57 : DC cX4_shareOn 57 (.getfield 23) 3 60 := ⟨by decide +kernel, rfl⟩
theorem e_X4_shareOn_60 : DC cX4_shareOn 60 (.imul) 1 61 := ⟨by decide +kernel, rfl⟩
theorem e_X4_shareOn_61 : DC cX4_shareOn 61 (.iadd) 1 62 := ⟨by decide +kernel, rfl⟩
theorem e_X4_shareOn_62 : DC cX4_shareOn 62 (.aload_n 0) 1 63 := ⟨by decide +kernel, rfl⟩
theorem e_X4_shareOn_63 : DC cX4_shareOn 63 (.getfield 26) 3 66 := ⟨by decide +kernel, rfl⟩
theorem e_X4_shareOn_66 : DC cX4_shareOn 66 (.aload_n 0) 1 67 := ⟨by decide +kernel, rfl⟩
theorem e_X4_shareOn_67 : DC cX4_shareOn 67 (.getfield 26) 3 70 := ⟨by decide +kernel, rfl⟩
theorem e_X4_shareOn_70 : DC cX4_shareOn 70 (.imul) 1 71 := ⟨by decide +kernel, rfl⟩
theorem e_X4_shareOn_71 : DC cX4_shareOn 71 (.iadd) 1 72 := ⟨by decide +kernel, rfl⟩
theorem e_X4_shareOn_72 : DC cX4_shareOn 72 (.i2l) 1 73 := ⟨by decide +kernel, rfl⟩
theorem e_X4_shareOn_73 : DC cX4_shareOn 73 (.lstore 5) 2 75 := ⟨by decide +kernel, rfl⟩
theorem e_X4_shareOn_75 : DC cX4_shareOn 75 (.aload_n 0) 1 76 := ⟨by decide +kernel, rfl⟩
theorem e_X4_shareOn_76 : DC cX4_shareOn 76 (.getfield 50) 3 79 := ⟨by decide +kernel, rfl⟩
theorem e_X4_shareOn_79 : DC cX4_shareOn 79 (.aload_n 0) 1 80 := ⟨by decide +kernel, rfl⟩
theorem e_X4_shareOn_80 : DC cX4_shareOn 80 (.getfield 50) 3 83 := ⟨by decide +kernel, rfl⟩
theorem e_X4_shareOn_83 : DC cX4_shareOn 83 (.lmul) 1 84 := ⟨by decide +kernel, rfl⟩
theorem e_X4_shareOn_84 : DC cX4_shareOn 84 (.lstore 7) 2 86 := ⟨by decide +kernel, rfl⟩
theorem e_X4_shareOn_86 : DC cX4_shareOn 86 (.lload 5) 2 88 := ⟨by decide +kernel, rfl⟩
theorem e_X4_shareOn_88 : DC cX4_shareOn 88 (.lload 5) 2 90 := ⟨by decide +kernel, rfl⟩
theorem e_X4_shareOn_90 : DC cX4_shareOn 90 (.lmul) 1 91 := ⟨by decide +kernel, rfl⟩
theorem e_X4_shareOn_91 : DC cX4_shareOn 91 (.aload_n 1) 1 92 := ⟨by decide +kernel, rfl⟩
theorem e_X4_shareOn_92 : DC cX4_shareOn 92 (.iload_n 2) 1 93 := ⟨by decide +kernel, rfl⟩
theorem e_X4_shareOn_93 : DC cX4_shareOn 93 (.invokevirtual 52) 3 96 := ⟨by decide +kernel, rfl⟩
theorem e_X4_shareOn_96 : DC cX4_shareOn 96 (.i2l) 1 97 := ⟨by decide +kernel, rfl⟩
theorem e_X4_shareOn_97 : DC cX4_shareOn 97 (.lmul) 1 98 := ⟨by decide +kernel, rfl⟩
theorem e_X4_shareOn_98 : DC cX4_shareOn 98 (.aload_n 3) 1 99 := ⟨by decide +kernel, rfl⟩
theorem e_X4_shareOn_99 : DC cX4_shareOn 99 (.iload 4) 2 101 := ⟨by decide +kernel, rfl⟩
theorem e_X4_shareOn_101 : DC cX4_shareOn 101 (.invokevirtual 52) 3 104 := ⟨by decide +kernel, rfl⟩
theorem e_X4_shareOn_104 : DC cX4_shareOn 104 (.i2l) 1 105 := ⟨by decide +kernel, rfl⟩
theorem e_X4_shareOn_105 : DC cX4_shareOn 105 (.lmul) 1 106 := ⟨by decide +kernel, rfl⟩
theorem e_X4_shareOn_106 : DC cX4_shareOn 106 (.lstore 9) 2 108 := ⟨by decide +kernel, rfl⟩
theorem e_X4_shareOn_108 : DC cX4_shareOn 108 (.lload 7) 2 110 := ⟨by decide +kernel, rfl⟩
theorem e_X4_shareOn_110 : DC cX4_shareOn 110 (.lload 9) 2 112 := ⟨by decide +kernel, rfl⟩
theorem e_X4_shareOn_112 : DC cX4_shareOn 112 (.invokestatic 56) 3 115 := ⟨by decide +kernel, rfl⟩
theorem e_X4_shareOn_115 : DC cX4_shareOn 115 (.lstore 11) 2 117 := ⟨by decide +kernel, rfl⟩
theorem e_X4_shareOn_117 : DC cX4_shareOn 117 (.lload 11) 2 119 := ⟨by decide +kernel, rfl⟩
theorem e_X4_shareOn_119 : DC cX4_shareOn 119 (.lconst 0) 1 120 := ⟨by decide +kernel, rfl⟩
theorem e_X4_shareOn_120 : DC cX4_shareOn 120 (.lcmp) 1 121 := ⟨by decide +kernel, rfl⟩
theorem e_X4_shareOn_121 : DB cX4_shareOn 121 (.ifCond .gt 5) (5) 3 124 126 := ⟨by decide +kernel, rfl, rfl⟩
theorem e_X4_shareOn_124 : DC cX4_shareOn 124 (.iconst 0) 1 125 := ⟨by decide +kernel, rfl⟩
theorem e_X4_shareOn_125 : DC cX4_shareOn 125 (.ireturn) 1 126 := ⟨by decide +kernel, rfl⟩
theorem e_X4_shareOn_126 : DC cX4_shareOn 126 (.aload_n 0) 1 127 := ⟨by decide +kernel, rfl⟩
theorem e_X4_shareOn_127 : DC cX4_shareOn 127 (.lload 7) 2 129 := ⟨by decide +kernel, rfl⟩
theorem e_X4_shareOn_129 : DC cX4_shareOn 129 (.lload 11) 2 131 := ⟨by decide +kernel, rfl⟩
theorem e_X4_shareOn_131 : DC cX4_shareOn 131 (.ldiv) 1 132 := ⟨by decide +kernel, rfl⟩
theorem e_X4_shareOn_132 : DC cX4_shareOn 132 (.putfield 60) 3 135 := ⟨by decide +kernel, rfl⟩
theorem e_X4_shareOn_135 : DC cX4_shareOn 135 (.aload_n 0) 1 136 := ⟨by decide +kernel, rfl⟩
theorem e_X4_shareOn_136 : DC cX4_shareOn 136 (.lload 9) 2 138 := ⟨by decide +kernel, rfl⟩
theorem e_X4_shareOn_138 : DC cX4_shareOn 138 (.lload 11) 2 140 := ⟨by decide +kernel, rfl⟩
theorem e_X4_shareOn_140 : DC cX4_shareOn 140 (.ldiv) 1 141 := ⟨by decide +kernel, rfl⟩
theorem e_X4_shareOn_141 : DC cX4_shareOn 141 (.putfield 9) 3 144 := ⟨by decide +kernel, rfl⟩
theorem e_X4_shareOn_144 : DC cX4_shareOn 144 (.iconst 1) 1 145 := ⟨by decide +kernel, rfl⟩
theorem e_X4_shareOn_145 : DC cX4_shareOn 145 (.ireturn) 1 146 := ⟨by decide +kernel, rfl⟩
noncomputable def m_X4_shareOn_0 (N_p1 : Nat) (N_p3 : Nat) (t_x : Int) (t_y : Int) (t_z : Int) (t_product : Int) (t_above : Int) (t_below : Int) (p1_many : Int) (p1_xs : Nat → Int) (p1_ys : Nat → Int) (p1_zs : Nat → Int) (p3_many : Int) (p3_xs : Nat → Int) (p3_ys : Nat → Int) (p3_zs : Nat → Int) (v2 : Int) (v4 : Int) : Option (Int × Int × Int × Int) :=
  (m_X8_has p1_many v2).bind (fun y1 => if y1 = 0 then (some (0, t_product, t_above, t_below)) else ((m_X8_has p3_many v4).bind (fun y2 => if y2 = 0 then (some (0, t_product, t_above, t_below)) else ((m_X8_product N_p3 N_p1 p1_many p1_xs p1_ys p1_zs p3_many p3_xs p3_ys p3_zs v2 v4).bind (fun y3 => if y3 = 0 then ((m_X4_productOn N_p1 N_p3 t_x t_y t_z p1_many p1_xs p1_ys p1_zs p3_many p3_xs p3_ys p3_zs v2 v4).bind (fun y4 => chk (inI (((t_x * t_x) + (t_y * t_y)) + (t_z * t_z))) ((m_X8_worthOf N_p1 p1_many p1_xs p1_ys p1_zs v2).bind (fun y6 => (m_X8_worthOf N_p3 p3_many p3_xs p3_ys p3_zs v4).bind (fun y7 => chk (inJ (y4 * y4)) (chk (inJ ((((((t_x * t_x) + (t_y * t_y)) + (t_z * t_z)) * (((t_x * t_x) + (t_y * t_y)) + (t_z * t_z))) * y6) * y7)) ((m_X4_commonOf (y4 * y4) ((((((t_x * t_x) + (t_y * t_y)) + (t_z * t_z)) * (((t_x * t_x) + (t_y * t_y)) + (t_z * t_z))) * y6) * y7)).bind (fun y10 => if 0 < y10 then (chk (y10 ≠ 0) (chk (inJ (Int.tdiv (y4 * y4) y10)) (chk (y10 ≠ 0) (chk (inJ (Int.tdiv ((((((t_x * t_x) + (t_y * t_y)) + (t_z * t_z)) * (((t_x * t_x) + (t_y * t_y)) + (t_z * t_z))) * y6) * y7) y10)) (some (1, y4, Int.tdiv (y4 * y4) y10, Int.tdiv ((((((t_x * t_x) + (t_y * t_y)) + (t_z * t_z)) * (((t_x * t_x) + (t_y * t_y)) + (t_z * t_z))) * y6) * y7) y10)))))) else (some (0, y4, t_above, t_below)))))))))) else (some (0, t_product, t_above, t_below)))))))

set_option maxRecDepth 10000 in
theorem g_X4_shareOn_0 {l : Launch} {E : EE} {b0 n : Nat} {h : AH} {a_t a_p1 a_p3 : Nat} {N_p1 N_p3 : Nat} {t_x t_y t_z t_product t_above t_below p1_many p3_many v2 v4 : Int} {p1_xs p1_ys p1_zs p3_xs p3_ys p3_zs : Nat → Int} {r : Int × Int × Int × Int} (ao : AO b0 n [a_t, a_p1, (a_p1 + 1), (a_p1 + 2), (a_p1 + 3), a_p3, (a_p3 + 1), (a_p3 + 2), (a_p3 + 3)]) (hN_p1 : N_p1 ≤ 100000) (hN_p3 : N_p3 ≤ 100000) (ok_t_x : inI t_x) (ok_t_y : inI t_y) (ok_t_z : inI t_z) (ok_t_product : inJ t_product) (ok_t_above : inJ t_above) (ok_t_below : inJ t_below) (ok_p1_many : inI p1_many) (ok_p1_xs : okA p1_xs) (ok_p1_ys : okA p1_ys) (ok_p1_zs : okA p1_zs) (ok_p3_many : inI p3_many) (ok_p3_xs : okA p3_xs) (ok_p3_ys : okA p3_ys) (ok_p3_zs : okA p3_zs) (ok_v2 : inI v2) (ok_v4 : inI v4) (hs : m_X4_shareOn_0 N_p1 N_p3 t_x t_y t_z t_product t_above t_below p1_many p1_xs p1_ys p1_zs p3_many p3_xs p3_ys p3_zs v2 v4 = some r) : G l E b0 M_X4_shareOn (fun _ => True) (ZM E b0 (some (vI r.1)) (ov [a_t, a_p1, (a_p1 + 1), (a_p1 + 2), (a_p1 + 3), a_p3, (a_p3 + 1), (a_p3 + 2), (a_p3 + 3)] [.inr (4, fsX4 a_t t_x t_y t_z r.2.1 r.2.2.1 r.2.2.2), .inr (8, fsX8 a_p1 p1_many), IA E N_p1 p1_xs, IA E N_p1 p1_ys, IA E N_p1 p1_zs, .inr (8, fsX8 a_p3 p3_many), IA E N_p3 p3_xs, IA E N_p3 p3_ys, IA E N_p3 p3_zs] h) n (inZ r.1 ∧ inJ r.2.1 ∧ inJ r.2.2.1 ∧ inJ r.2.2.2) 0 0) 0 0 n (ov [a_t, a_p1, (a_p1 + 1), (a_p1 + 2), (a_p1 + 3), a_p3, (a_p3 + 1), (a_p3 + 2), (a_p3 + 3)] [.inr (4, fsX4 a_t t_x t_y t_z t_product t_above t_below), .inr (8, fsX8 a_p1 p1_many), IA E N_p1 p1_xs, IA E N_p1 p1_ys, IA E N_p1 p1_zs, .inr (8, fsX8 a_p3 p3_many), IA E N_p3 p3_xs, IA E N_p3 p3_ys, IA E N_p3 p3_zs] h) 0 [some (.ref a_t), some (.ref a_p1), some (vI v2), some (.ref a_p3), some (vI v4), none, none, none, none, none, none, none, none] [] := by
  rw [m_X4_shareOn_0] at hs
  refine g_aload_n e_X4_shareOn_0 rfl ?_
  refine g_iload_n e_X4_shareOn_1 rfl ?_
  obtain ⟨y1, hy1, hs⟩ := bind_elim hs
  refine g_callVr [vI v2] cv_X4_39 ⟨rfl, rfl, Nat.le_of_ble_eq_true rfl, Nat.le_of_ble_eq_true rfl⟩ (ct_X8_has (AO_call [1] ao (by decide) rfl) (FA_call [1] ao.1 rfl rfl) ok_p1_many ok_v2 hy1) e_X4_shareOn_2 (ao.2 1 _ rfl) (ov_get 1 ao.1 rfl rfl) rfl rfl rfl (Nat.le_of_ble_eq_true rfl) ⟨Nat.le_refl _, Nat.le_refl _⟩ (fun Py1 => ?_)
  refine g_if_eq e_X4_shareOn_5 (inZ_I Py1) hs (fun c5 hs => ?_) (fun c5 hs => ?_)
  · refine g_iconst e_X4_shareOn_28 ?_
    obtain rfl := Option.some.inj hs
    exact g_zret rfl (by decide : inZ 0) ⟨(by decide : inZ 0), ok_t_product, ok_t_above, ok_t_below⟩ e_X4_shareOn_29
  · refine g_aload_n e_X4_shareOn_8 rfl ?_
    refine g_iload e_X4_shareOn_9 rfl ?_
    obtain ⟨y2, hy2, hs⟩ := bind_elim hs
    refine g_callVr [vI v4] cv_X4_39 ⟨rfl, rfl, Nat.le_of_ble_eq_true rfl, Nat.le_of_ble_eq_true rfl⟩ (ct_X8_has (AO_call [5] ao (by decide) rfl) (FA_call [5] ao.1 rfl rfl) ok_p3_many ok_v4 hy2) e_X4_shareOn_11 (ao.2 5 _ rfl) (ov_get 5 ao.1 rfl rfl) rfl rfl rfl (Nat.le_of_ble_eq_true rfl) ⟨Nat.le_refl _, Nat.le_refl _⟩ (fun Py2 => ?_)
    refine g_if_eq e_X4_shareOn_14 (inZ_I Py2) hs (fun c14 hs => ?_) (fun c14 hs => ?_)
    · refine g_iconst e_X4_shareOn_28 ?_
      obtain rfl := Option.some.inj hs
      exact g_zret rfl (by decide : inZ 0) ⟨(by decide : inZ 0), ok_t_product, ok_t_above, ok_t_below⟩ e_X4_shareOn_29
    · refine g_aload_n e_X4_shareOn_17 rfl ?_
      refine g_iload_n e_X4_shareOn_18 rfl ?_
      refine g_aload_n e_X4_shareOn_19 rfl ?_
      refine g_iload e_X4_shareOn_20 rfl ?_
      obtain ⟨y3, hy3, hs⟩ := bind_elim hs
      refine g_callVr [vI v2, .ref a_p3, vI v4] cv_X4_42 ⟨rfl, rfl, Nat.le_of_ble_eq_true rfl, Nat.le_of_ble_eq_true rfl⟩ (ct_X8_product (AO_call [1, 2, 3, 4, 5, 6, 7, 8] ao (by decide) rfl) hN_p3 hN_p1 (FA_call [1, 2, 3, 4, 5, 6, 7, 8] ao.1 rfl rfl) ok_p1_many ok_p1_xs ok_p1_ys ok_p1_zs ok_p3_many ok_p3_xs ok_p3_ys ok_p3_zs ok_v2 ok_v4 hy3) e_X4_shareOn_22 (ao.2 1 _ rfl) (ov_get 1 ao.1 rfl rfl) rfl rfl rfl (Nat.le_of_ble_eq_true rfl) ⟨Nat.le_refl _, Nat.le_refl _⟩ (fun Py3 => ?_)
      refine g_if_eq e_X4_shareOn_25 Py3 hs (fun c25 hs => ?_) (fun c25 hs => ?_)
      · refine g_aload_n e_X4_shareOn_30 rfl ?_
        refine g_aload_n e_X4_shareOn_31 rfl ?_
        refine g_aload_n e_X4_shareOn_32 rfl ?_
        refine g_iload_n e_X4_shareOn_33 rfl ?_
        refine g_aload_n e_X4_shareOn_34 rfl ?_
        refine g_iload e_X4_shareOn_35 rfl ?_
        obtain ⟨y4, hy4, hs⟩ := bind_elim hs
        refine g_callVr [.ref a_p1, vI v2, .ref a_p3, vI v4] cv_X4_46 ⟨rfl, rfl, Nat.le_of_ble_eq_true rfl, Nat.le_of_ble_eq_true rfl⟩ (ct_X4_productOn (AO_call [0, 1, 2, 3, 4, 5, 6, 7, 8] ao (by decide) rfl) hN_p1 hN_p3 (FA_call [0, 1, 2, 3, 4, 5, 6, 7, 8] ao.1 rfl rfl) ok_t_x ok_t_y ok_t_z ok_p1_many ok_p1_xs ok_p1_ys ok_p1_zs ok_p3_many ok_p3_xs ok_p3_ys ok_p3_zs ok_v2 ok_v4 hy4) e_X4_shareOn_37 (ao.2 0 _ rfl) (ov_get 0 ao.1 rfl rfl) rfl rfl rfl (Nat.le_of_ble_eq_true rfl) ⟨Nat.le_refl _, Nat.le_refl _⟩ (fun Py4 => ?_)
        refine g_put 0 3 ao rfl rfl fsX4_k3 fsX4_s3 ls_0 fw_X4_50 (fun h => by cases h) ⟨rfl, rfl⟩ e_X4_shareOn_40 ?_
        refine g_aload_n e_X4_shareOn_43 rfl ?_
        refine g_get 0 0 ao rfl rfl fsX4_g0 fl_X4_19 e_X4_shareOn_44 ?_
        refine g_aload_n e_X4_shareOn_47 rfl ?_
        refine g_get 0 0 ao rfl rfl fsX4_g0 fl_X4_19 e_X4_shareOn_48 ?_
        refine g_imul e_X4_shareOn_51 ?_
        refine g_aload_n e_X4_shareOn_52 rfl ?_
        refine g_get 0 1 ao rfl rfl fsX4_g1 fl_X4_23 e_X4_shareOn_53 ?_
        refine g_aload_n e_X4_shareOn_56 rfl ?_
        refine g_get 0 1 ao rfl rfl fsX4_g1 fl_X4_23 e_X4_shareOn_57 ?_
        refine g_imul e_X4_shareOn_60 ?_
        refine g_iadd e_X4_shareOn_61 ?_
        refine g_aload_n e_X4_shareOn_62 rfl ?_
        refine g_get 0 2 ao rfl rfl fsX4_g2 fl_X4_26 e_X4_shareOn_63 ?_
        refine g_aload_n e_X4_shareOn_66 rfl ?_
        refine g_get 0 2 ao rfl rfl fsX4_g2 fl_X4_26 e_X4_shareOn_67 ?_
        refine g_imul e_X4_shareOn_70 ?_
        refine g_iadd e_X4_shareOn_71 ?_
        obtain ⟨hc5, hs⟩ := chk_elim hs
        refine g_i2l e_X4_shareOn_72 hc5 ?_
        refine g_lstore e_X4_shareOn_73 st2_5 rfl ?_
        refine g_aload_n e_X4_shareOn_75 rfl ?_
        refine g_get 0 3 ao rfl rfl fsX4_g3 fl_X4_50 e_X4_shareOn_76 ?_
        refine g_aload_n e_X4_shareOn_79 rfl ?_
        refine g_get 0 3 ao rfl rfl fsX4_g3 fl_X4_50 e_X4_shareOn_80 ?_
        refine g_lmul e_X4_shareOn_83 ?_
        refine g_lstore e_X4_shareOn_84 st2_7 rfl ?_
        refine g_lload e_X4_shareOn_86 rfl ?_
        refine g_lload e_X4_shareOn_88 rfl ?_
        refine g_lmul e_X4_shareOn_90 ?_
        refine g_aload_n e_X4_shareOn_91 rfl ?_
        refine g_iload_n e_X4_shareOn_92 rfl ?_
        obtain ⟨y6, hy6, hs⟩ := bind_elim hs
        refine g_callVr [vI v2] cv_X4_52 ⟨rfl, rfl, Nat.le_of_ble_eq_true rfl, Nat.le_of_ble_eq_true rfl⟩ (ct_X8_worthOf (AO_call [1, 2, 3, 4] ao (by decide) rfl) hN_p1 (FA_call [1, 2, 3, 4] ao.1 rfl rfl) ok_p1_many ok_p1_xs ok_p1_ys ok_p1_zs ok_v2 hy6) e_X4_shareOn_93 (ao.2 1 _ rfl) (ov_get 1 ao.1 rfl rfl) rfl rfl rfl (Nat.le_of_ble_eq_true rfl) ⟨Nat.le_refl _, Nat.le_refl _⟩ (fun Py6 => ?_)
        refine g_i2l e_X4_shareOn_96 Py6 ?_
        refine g_lmul e_X4_shareOn_97 ?_
        refine g_aload_n e_X4_shareOn_98 rfl ?_
        refine g_iload e_X4_shareOn_99 rfl ?_
        obtain ⟨y7, hy7, hs⟩ := bind_elim hs
        refine g_callVr [vI v4] cv_X4_52 ⟨rfl, rfl, Nat.le_of_ble_eq_true rfl, Nat.le_of_ble_eq_true rfl⟩ (ct_X8_worthOf (AO_call [5, 6, 7, 8] ao (by decide) rfl) hN_p3 (FA_call [5, 6, 7, 8] ao.1 rfl rfl) ok_p3_many ok_p3_xs ok_p3_ys ok_p3_zs ok_v4 hy7) e_X4_shareOn_101 (ao.2 5 _ rfl) (ov_get 5 ao.1 rfl rfl) rfl rfl rfl (Nat.le_of_ble_eq_true rfl) ⟨Nat.le_refl _, Nat.le_refl _⟩ (fun Py7 => ?_)
        refine g_i2l e_X4_shareOn_104 Py7 ?_
        refine g_lmul e_X4_shareOn_105 ?_
        refine g_lstore e_X4_shareOn_106 st2_9 rfl ?_
        refine g_lload e_X4_shareOn_108 rfl ?_
        refine g_lload e_X4_shareOn_110 rfl ?_
        obtain ⟨hc8, hs⟩ := chk_elim hs
        obtain ⟨hc9, hs⟩ := chk_elim hs
        obtain ⟨y10, hy10, hs⟩ := bind_elim hs
        refine g_callSr [vJ (y4 * y4), vJ ((((((t_x * t_x) + (t_y * t_y)) + (t_z * t_z)) * (((t_x * t_x) + (t_y * t_y)) + (t_z * t_z))) * y6) * y7)] cs_X4_56 ⟨rfl, rfl, Nat.le_of_ble_eq_true rfl, Nat.le_of_ble_eq_true rfl⟩ (ct_X4_commonOf ⟨List.nodup_nil, fun i a h => by simp at h⟩ (fun i a e h => by simp at h) hc8 hc9 hy10) e_X4_shareOn_112 rfl rfl (Nat.le_of_ble_eq_true rfl) ⟨Nat.le_refl _, Nat.le_refl _⟩ (fun Py10 => ?_)
        refine g_lstore e_X4_shareOn_115 st2_11 rfl ?_
        refine g_lload e_X4_shareOn_117 rfl ?_
        refine g_lconst (a := 0) e_X4_shareOn_119 rfl ?_
        refine g_lcmp_gt e_X4_shareOn_120 e_X4_shareOn_121 Py10 (by decide : inJ 0) hs (fun c120 hs => ?_) (fun c120 hs => ?_)
        · refine g_aload_n e_X4_shareOn_126 rfl ?_
          refine g_lload e_X4_shareOn_127 rfl ?_
          refine g_lload e_X4_shareOn_129 rfl ?_
          refine g_ldiv e_X4_shareOn_131 hc8 Py10 hs (fun hs => ?_)
          obtain ⟨hc11, hs⟩ := chk_elim hs
          refine g_put 0 4 ao rfl rfl fsX4_k4 fsX4_s4 ls_0 fw_X4_60 (fun h => by cases h) ⟨rfl, rfl⟩ e_X4_shareOn_132 ?_
          refine g_aload_n e_X4_shareOn_135 rfl ?_
          refine g_lload e_X4_shareOn_136 rfl ?_
          refine g_lload e_X4_shareOn_138 rfl ?_
          refine g_ldiv e_X4_shareOn_140 hc9 Py10 hs (fun hs => ?_)
          obtain ⟨hc12, hs⟩ := chk_elim hs
          refine g_put 0 5 ao rfl rfl fsX4_k5 fsX4_s5 ls_0 fw_X4_9 (fun h => by cases h) ⟨rfl, rfl⟩ e_X4_shareOn_141 ?_
          refine g_iconst e_X4_shareOn_144 ?_
          obtain rfl := Option.some.inj hs
          exact g_zret rfl (by decide : inZ 1) ⟨(by decide : inZ 1), Py4, hc11, hc12⟩ e_X4_shareOn_145
        · refine g_iconst e_X4_shareOn_124 ?_
          obtain rfl := Option.some.inj hs
          exact g_zret rfl (by decide : inZ 0) ⟨(by decide : inZ 0), Py4, ok_t_above, ok_t_below⟩ e_X4_shareOn_125
      · refine g_iconst e_X4_shareOn_28 ?_
        obtain rfl := Option.some.inj hs
        exact g_zret rfl (by decide : inZ 0) ⟨(by decide : inZ 0), ok_t_product, ok_t_above, ok_t_below⟩ e_X4_shareOn_29

noncomputable def m_X4_shareOn (N_p1 : Nat) (N_p3 : Nat) (t_x : Int) (t_y : Int) (t_z : Int) (t_product : Int) (t_above : Int) (t_below : Int) (p1_many : Int) (p1_xs : Nat → Int) (p1_ys : Nat → Int) (p1_zs : Nat → Int) (p3_many : Int) (p3_xs : Nat → Int) (p3_ys : Nat → Int) (p3_zs : Nat → Int) (v2 : Int) (v4 : Int) : Option (Int × Int × Int × Int) := m_X4_shareOn_0 N_p1 N_p3 t_x t_y t_z t_product t_above t_below p1_many p1_xs p1_ys p1_zs p3_many p3_xs p3_ys p3_zs v2 v4

set_option maxRecDepth 10000 in
theorem ct_X4_shareOn {l : Launch} {E : EE} {b0 n : Nat} {h : AH} {a_t a_p1 a_p3 : Nat} {N_p1 N_p3 : Nat} {t_x t_y t_z t_product t_above t_below p1_many p3_many : Int} {p1_xs p1_ys p1_zs p3_xs p3_ys p3_zs : Nat → Int} {v2 v4 : Int} (ao : AO b0 n [a_t, a_p1, (a_p1 + 1), (a_p1 + 2), (a_p1 + 3), a_p3, (a_p3 + 1), (a_p3 + 2), (a_p3 + 3)]) (hN_p1 : N_p1 ≤ 100000) (hN_p3 : N_p3 ≤ 100000) (hf : FA h [a_t, a_p1, (a_p1 + 1), (a_p1 + 2), (a_p1 + 3), a_p3, (a_p3 + 1), (a_p3 + 2), (a_p3 + 3)] [.inr (4, fsX4 a_t t_x t_y t_z t_product t_above t_below), .inr (8, fsX8 a_p1 p1_many), IA E N_p1 p1_xs, IA E N_p1 p1_ys, IA E N_p1 p1_zs, .inr (8, fsX8 a_p3 p3_many), IA E N_p3 p3_xs, IA E N_p3 p3_ys, IA E N_p3 p3_zs]) (ok_t_x : inI t_x) (ok_t_y : inI t_y) (ok_t_z : inI t_z) (ok_t_product : inJ t_product) (ok_t_above : inJ t_above) (ok_t_below : inJ t_below) (ok_p1_many : inI p1_many) (ok_p1_xs : okA p1_xs) (ok_p1_ys : okA p1_ys) (ok_p1_zs : okA p1_zs) (ok_p3_many : inI p3_many) (ok_p3_xs : okA p3_xs) (ok_p3_ys : okA p3_ys) (ok_p3_zs : okA p3_zs) (ok_v2 : inI v2) (ok_v4 : inI v4) {r : Int × Int × Int × Int} (hm : m_X4_shareOn N_p1 N_p3 t_x t_y t_z t_product t_above t_below p1_many p1_xs p1_ys p1_zs p3_many p3_xs p3_ys p3_zs v2 v4 = some r) : Ct l E b0 M_X4_shareOn 0 0 [.ref a_t, .ref a_p1, vI v2, .ref a_p3, vI v4] h n (some (vI r.1)) (ov [a_t, a_p1, (a_p1 + 1), (a_p1 + 2), (a_p1 + 3), a_p3, (a_p3 + 1), (a_p3 + 2), (a_p3 + 3)] [.inr (4, fsX4 a_t t_x t_y t_z r.2.1 r.2.2.1 r.2.2.2), .inr (8, fsX8 a_p1 p1_many), IA E N_p1 p1_xs, IA E N_p1 p1_ys, IA E N_p1 p1_zs, .inr (8, fsX8 a_p3 p3_many), IA E N_p3 p3_xs, IA E N_p3 p3_ys, IA E N_p3 p3_zs] h) n (inZ r.1 ∧ inJ r.2.1 ∧ inJ r.2.2.1 ∧ inJ r.2.2.2) := by
  rw [m_X4_shareOn] at hm
  have hg : G l E b0 M_X4_shareOn (fun _ => True) (ZM E b0 (some (vI r.1)) (ov [a_t, a_p1, (a_p1 + 1), (a_p1 + 2), (a_p1 + 3), a_p3, (a_p3 + 1), (a_p3 + 2), (a_p3 + 3)] [.inr (4, fsX4 a_t t_x t_y t_z r.2.1 r.2.2.1 r.2.2.2), .inr (8, fsX8 a_p1 p1_many), IA E N_p1 p1_xs, IA E N_p1 p1_ys, IA E N_p1 p1_zs, .inr (8, fsX8 a_p3 p3_many), IA E N_p3 p3_xs, IA E N_p3 p3_ys, IA E N_p3 p3_zs] h) n (inZ r.1 ∧ inJ r.2.1 ∧ inJ r.2.2.1 ∧ inJ r.2.2.2) 0 0) 0 0 n (ov [a_t, a_p1, (a_p1 + 1), (a_p1 + 2), (a_p1 + 3), a_p3, (a_p3 + 1), (a_p3 + 2), (a_p3 + 3)] [.inr (4, fsX4 a_t t_x t_y t_z t_product t_above t_below), .inr (8, fsX8 a_p1 p1_many), IA E N_p1 p1_xs, IA E N_p1 p1_ys, IA E N_p1 p1_zs, .inr (8, fsX8 a_p3 p3_many), IA E N_p3 p3_xs, IA E N_p3 p3_ys, IA E N_p3 p3_zs] h) 0 [some (.ref a_t), some (.ref a_p1), some (vI v2), some (.ref a_p3), some (vI v4), none, none, none, none, none, none, none, none] [] := by
    have hs := hm
    exact g_X4_shareOn_0 ao hN_p1 hN_p3 ok_t_x ok_t_y ok_t_z ok_t_product ok_t_above ok_t_below ok_p1_many ok_p1_xs ok_p1_ys ok_p1_zs ok_p3_many ok_p3_xs ok_p3_ys ok_p3_zs ok_v2 ok_v4 hs
  rw [FA_id hf] at hg
  exact Ct_of [some (.ref a_t), some (.ref a_p1), some (vI v2), some (.ref a_p3), some (vI v4), none, none, none, none, none, none, none, none] ⟨by decide +kernel, rfl⟩ rfl (Nat.le_of_ble_eq_true rfl) hg

/-! ===== X4_greatestShares ===== -/
theorem e_X4_greatestShares_0 : DC cX4_greatestShares 0 (.lconst 0) 1 1 := ⟨by decide +kernel, rfl⟩
theorem e_X4_greatestShares_1 : DC cX4_greatestShares 1 (.lstore_n 3) 1 2 := ⟨by decide +kernel, rfl⟩
theorem e_X4_greatestShares_2 : DC cX4_greatestShares 2 (.lconst 1) 1 3 := ⟨by decide +kernel, rfl⟩
theorem e_X4_greatestShares_3 : DC cX4_greatestShares 3 (.lstore 5) 2 5 := ⟨by decide +kernel, rfl⟩
theorem e_X4_greatestShares_5 : DC cX4_greatestShares 5 (.iconst 0) 1 6 := ⟨by decide +kernel, rfl⟩
theorem e_X4_greatestShares_6 : DC cX4_greatestShares 6 (.istore 7) 2 8 := ⟨by decide +kernel, rfl⟩
theorem e_X4_greatestShares_8 : DC cX4_greatestShares 8 (.iconst (-1)) 1 9 := ⟨by decide +kernel, rfl⟩
theorem e_X4_greatestShares_9 : DC cX4_greatestShares 9 (.istore 8) 2 11 := ⟨by decide +kernel, rfl⟩
theorem e_X4_greatestShares_11 : DC cX4_greatestShares 11 (.iconst 0) 1 12 := ⟨by decide +kernel, rfl⟩
theorem e_X4_greatestShares_12 : DC cX4_greatestShares 12 (.istore 9) 2 14 := ⟨by decide +kernel, rfl⟩
theorem e_X4_greatestShares_14 : DC cX4_greatestShares 14 (.iload 9) 2 16 := ⟨by decide +kernel, rfl⟩
theorem e_X4_greatestShares_16 : DC cX4_greatestShares 16 (.aload_n 1) 1 17 := ⟨by decide +kernel, rfl⟩
theorem e_X4_greatestShares_17 : DC cX4_greatestShares 17 (.getfield 63) 3 20 := ⟨by decide +kernel, rfl⟩
theorem e_X4_greatestShares_20 : DC cX4_greatestShares 20 (.getfield 69) 3 23 := ⟨by decide +kernel, rfl⟩
theorem e_X4_greatestShares_23 : DB cX4_greatestShares 23 (.if_icmp .ge 132) (132) 3 26 155 := ⟨by decide +kernel, rfl, rfl⟩
theorem e_X4_greatestShares_26 : DC cX4_greatestShares 26 (.iconst 0) 1 27 := ⟨by decide +kernel, rfl⟩
theorem e_X4_greatestShares_27 : DC cX4_greatestShares 27 (.istore 10) 2 29 := ⟨by decide +kernel, rfl⟩
theorem e_X4_greatestShares_29 : DC cX4_greatestShares 29 (.iload 10) 2 31 := ⟨by decide +kernel, rfl⟩
theorem e_X4_greatestShares_31 : DC cX4_greatestShares 31 (.aload_n 1) 1 32 := ⟨by decide +kernel, rfl⟩
theorem e_X4_greatestShares_32 : DC cX4_greatestShares 32 (.getfield 72) 3 35 := ⟨by decide +kernel, rfl⟩
theorem e_X4_greatestShares_35 : DC cX4_greatestShares 35 (.getfield 69) 3 38 := ⟨by decide +kernel, rfl⟩
theorem e_X4_greatestShares_38 : DB cX4_greatestShares 38 (.if_icmp .ge 111) (111) 3 41 149 := ⟨by decide +kernel, rfl, rfl⟩
theorem e_X4_greatestShares_41 : DC cX4_greatestShares 41 (.aload_n 0) 1 42 := ⟨by decide +kernel, rfl⟩
theorem e_X4_greatestShares_42 : DC cX4_greatestShares 42 (.aload_n 1) 1 43 := ⟨by decide +kernel, rfl⟩
theorem e_X4_greatestShares_43 : DC cX4_greatestShares 43 (.getfield 63) 3 46 := ⟨by decide +kernel, rfl⟩
theorem e_X4_greatestShares_46 : DC cX4_greatestShares 46 (.iload 9) 2 48 := ⟨by decide +kernel, rfl⟩
theorem e_X4_greatestShares_48 : DC cX4_greatestShares 48 (.aload_n 1) 1 49 := ⟨by decide +kernel, rfl⟩
theorem e_X4_greatestShares_49 : DC cX4_greatestShares 49 (.getfield 72) 3 52 := ⟨by decide +kernel, rfl⟩
theorem e_X4_greatestShares_52 : DC cX4_greatestShares 52 (.iload 10) 2 54 := ⟨by decide +kernel, rfl⟩
theorem e_X4_greatestShares_54 : DC cX4_greatestShares 54 (.invokevirtual 75) 3 57 := ⟨by decide +kernel, rfl⟩
theorem e_X4_greatestShares_57 : DB cX4_greatestShares 57 (.ifCond .eq 86) (86) 3 60 143 := ⟨by decide +kernel, rfl, rfl⟩
theorem e_X4_greatestShares_60 : DC cX4_greatestShares 60 (.aload_n 0) 1 61 := ⟨by decide +kernel, rfl⟩
theorem e_X4_greatestShares_61 : DC cX4_greatestShares 61 (.getfield 60) 3 64 := ⟨by decide +kernel, rfl⟩
theorem e_X4_greatestShares_64 : DC cX4_greatestShares 64 (.lconst 0) 1 65 := ⟨by decide +kernel, rfl⟩
theorem e_X4_greatestShares_65 : DC cX4_greatestShares 65 (.lcmp) 1 66 := ⟨by decide +kernel, rfl⟩
theorem e_X4_greatestShares_66 : DB cX4_greatestShares 66 (.ifCond .ne 6) (6) 3 69 72 := ⟨by decide +kernel, rfl, rfl⟩
theorem e_X4_greatestShares_69 : DB cX4_greatestShares 69 (.goto 74) (74) 3 72 143 := ⟨by decide +kernel, rfl, rfl⟩
theorem e_X4_greatestShares_72 : DC cX4_greatestShares 72 (.aload_n 0) 1 73 := ⟨by decide +kernel, rfl⟩
theorem e_X4_greatestShares_73 : DC cX4_greatestShares 73 (.getfield 60) 3 76 := ⟨by decide +kernel, rfl⟩
theorem e_X4_greatestShares_76 : DC cX4_greatestShares 76 (.lload 5) 2 78 := ⟨by decide +kernel, rfl⟩
theorem e_X4_greatestShares_78 : DC cX4_greatestShares 78 (.lmul) 1 79 := ⟨by decide +kernel, rfl⟩
theorem e_X4_greatestShares_79 : DC cX4_greatestShares 79 (.lload_n 3) 1 80 := ⟨by decide +kernel, rfl⟩
theorem e_X4_greatestShares_80 : DC cX4_greatestShares 80 (.aload_n 0) 1 81 := ⟨by decide +kernel, rfl⟩
theorem e_X4_greatestShares_81 : DC cX4_greatestShares 81 (.getfield 9) 3 84 := ⟨by decide +kernel, rfl⟩
theorem e_X4_greatestShares_84 : DC cX4_greatestShares 84 (.lmul) 1 85 := ⟨by decide +kernel, rfl⟩
theorem e_X4_greatestShares_85 : DC cX4_greatestShares 85 (.lsub) 1 86 := ⟨by decide +kernel, rfl⟩
theorem e_X4_greatestShares_86 : DC cX4_greatestShares 86 (.lstore 11) 2 88 := ⟨by decide +kernel, rfl⟩
theorem e_X4_greatestShares_88 : DC cX4_greatestShares 88 (.lload 11) 2 90 := ⟨by decide +kernel, rfl⟩
theorem e_X4_greatestShares_90 : DC cX4_greatestShares 90 (.lconst 0) 1 91 := ⟨by decide +kernel, rfl⟩
theorem e_X4_greatestShares_91 : DC cX4_greatestShares 91 (.lcmp) 1 92 := ⟨by decide +kernel, rfl⟩
theorem e_X4_greatestShares_92 : DB cX4_greatestShares 92 (.ifCond .le 20) (20) 3 95 112 := ⟨by decide +kernel, rfl, rfl⟩
theorem e_X4_greatestShares_95 : DC cX4_greatestShares 95 (.aload_n 0) 1 96 := ⟨by decide +kernel, rfl⟩
theorem e_X4_greatestShares_96 : DC cX4_greatestShares 96 (.getfield 60) 3 99 := ⟨by decide +kernel, rfl⟩
theorem e_X4_greatestShares_99 : DC cX4_greatestShares 99 (.lstore_n 3) 1 100 := ⟨by decide +kernel, rfl⟩
theorem e_X4_greatestShares_100 : DC cX4_greatestShares 100 (.aload_n 0) 1 101 := ⟨by decide +kernel, rfl⟩
theorem e_X4_greatestShares_101 : DC cX4_greatestShares 101 (.getfield 9) 3 104 := ⟨by decide +kernel, rfl⟩
theorem e_X4_greatestShares_104 : DC cX4_greatestShares 104 (.lstore 5) 2 106 := ⟨by decide +kernel, rfl⟩
theorem e_X4_greatestShares_106 : DC cX4_greatestShares 106 (.iconst 0) 1 107 := ⟨by decide +kernel, rfl⟩
theorem e_X4_greatestShares_107 : DC cX4_greatestShares 107 (.istore 7) 2 109 := ⟨by decide +kernel, rfl⟩
theorem e_X4_greatestShares_109 : DC cX4_greatestShares 109 (.iconst (-1)) 1 110 := ⟨by decide +kernel, rfl⟩
theorem e_X4_greatestShares_110 : DC cX4_greatestShares 110 (.istore 8) 2 112 := ⟨by decide +kernel, rfl⟩
theorem e_X4_greatestShares_112 : DC cX4_greatestShares 112 (.lload 11) 2 114 := ⟨by decide +kernel, rfl⟩
theorem e_X4_greatestShares_114 : DC cX4_greatestShares 114 (.lconst 0) 1 115 := ⟨by decide +kernel, rfl⟩
theorem e_X4_greatestShares_115 : DC cX4_greatestShares 115 (.lcmp) 1 116 := ⟨by decide +kernel, rfl⟩
theorem e_X4_greatestShares_116 : DB cX4_greatestShares 116 (.ifCond .lt 27) (27) 3 119 143 := ⟨by decide +kernel, rfl, rfl⟩
theorem e_X4_greatestShares_119 : DC cX4_greatestShares 119 (.iload 7) 2 121 := ⟨by decide +kernel, rfl⟩
theorem e_X4_greatestShares_121 : DC cX4_greatestShares 121 (.iload_n 2) 1 122 := ⟨by decide +kernel, rfl⟩
theorem e_X4_greatestShares_122 : DB cX4_greatestShares 122 (.if_icmp .ne 14) (14) 3 125 136 := ⟨by decide +kernel, rfl, rfl⟩
theorem e_X4_greatestShares_125 : DC cX4_greatestShares 125 (.bipush 16) 2 127 := ⟨by decide +kernel, rfl⟩
theorem e_X4_greatestShares_127 : DC cX4_greatestShares 127 (.iload 9) 2 129 := ⟨by decide +kernel, rfl⟩
theorem e_X4_greatestShares_129 : DC cX4_greatestShares 129 (.imul) 1 130 := ⟨by decide +kernel, rfl⟩
theorem e_X4_greatestShares_130 : DC cX4_greatestShares 130 (.iload 10) 2 132 := ⟨by decide +kernel, rfl⟩
theorem e_X4_greatestShares_132 : DC cX4_greatestShares 132 (.iadd) 1 133 := ⟨by decide +kernel, rfl⟩
theorem e_X4_greatestShares_133 : DB cX4_greatestShares 133 (.goto 5) (5) 3 136 138 := ⟨by decide +kernel, rfl, rfl⟩
theorem e_X4_greatestShares_136 : DC cX4_greatestShares 136 (.iload 8) 2 138 := ⟨by decide +kernel, rfl⟩
theorem e_X4_greatestShares_138 : DC cX4_greatestShares 138 (.istore 8) 2 140 := ⟨by decide +kernel, rfl⟩
theorem e_X4_greatestShares_140 : DC cX4_greatestShares 140 (.iinc 7 1) 3 143 := ⟨by decide +kernel, rfl⟩
theorem e_X4_greatestShares_143 : DC cX4_greatestShares 143 (.iinc 10 1) 3 146 := ⟨by decide +kernel, rfl⟩
theorem e_X4_greatestShares_146 : DB cX4_greatestShares 146 (.goto (-117)) (-117) 3 149 29 := ⟨by decide +kernel, rfl, rfl⟩
theorem e_X4_greatestShares_149 : DC cX4_greatestShares 149 (.iinc 9 1) 3 152 := ⟨by decide +kernel, rfl⟩
theorem e_X4_greatestShares_152 : DB cX4_greatestShares 152 (.goto (-138)) (-138) 3 155 14 := ⟨by decide +kernel, rfl, rfl⟩
theorem e_X4_greatestShares_155 : DC cX4_greatestShares 155 (.iload_n 2) 1 156 := ⟨by decide +kernel, rfl⟩
theorem e_X4_greatestShares_156 : DC cX4_greatestShares 156 (.iconst (-1)) 1 157 := ⟨by decide +kernel, rfl⟩
theorem e_X4_greatestShares_157 : DB cX4_greatestShares 157 (.if_icmp .ne 8) (8) 3 160 165 := ⟨by decide +kernel, rfl, rfl⟩
theorem e_X4_greatestShares_160 : DC cX4_greatestShares 160 (.iload 7) 2 162 := ⟨by decide +kernel, rfl⟩
theorem e_X4_greatestShares_162 : DB cX4_greatestShares 162 (.goto 5) (5) 3 165 167 := ⟨by decide +kernel, rfl, rfl⟩
theorem e_X4_greatestShares_165 : DC cX4_greatestShares 165 (.iload 8) 2 167 := ⟨by decide +kernel, rfl⟩
theorem e_X4_greatestShares_167 : DC cX4_greatestShares 167 (.ireturn) 1 168 := ⟨by decide +kernel, rfl⟩
noncomputable def m_X4_greatestShares_143 (t_x : Int) (t_y : Int) (t_z : Int) (t_product : Int) (t_above : Int) (t_below : Int) (p1_steps_many : Int) (p1_steps_xs : Nat → Int) (p1_steps_ys : Nat → Int) (p1_steps_zs : Nat → Int) (p1_planes_many : Int) (p1_planes_xs : Nat → Int) (p1_planes_ys : Nat → Int) (p1_planes_zs : Nat → Int) (v2 : Int) (v3 : Int) (v5 : Int) (v7 : Int) (v8 : Int) (v9 : Int) (v10 : Int) (ag : Int → Int → Int → Int → Int → Int → Int → Int → Option (Int × Int × Int × Int)) (k_149 : Int → Int → Int → Int → Int → Int → Int → Int → Option (Int × Int × Int × Int)) : Option (Int × Int × Int × Int) :=
  chk (inI (v10 + 1)) (ag t_product t_above t_below v3 v5 v7 v8 (v10 + 1))

set_option maxRecDepth 10000 in
theorem g_X4_greatestShares_143 {l : Launch} {E : EE} {b0 n : Nat} {h : AH} {a_t a_p1 : Nat} {t_x t_y t_z t_product t_above t_below p1_sightMany p1_steps_many p1_planes_many v2 v3 v5 v7 v8 v9 v10 : Int} {p1_steps_xs p1_steps_ys p1_steps_zs p1_planes_xs p1_planes_ys p1_planes_zs : Nat → Int} {r : Int × Int × Int × Int} {ag : Int → Int → Int → Int → Int → Int → Int → Int → Option (Int × Int × Int × Int)} {k_149 : Int → Int → Int → Int → Int → Int → Int → Int → Option (Int × Int × Int × Int)} (ao : AO b0 n [a_t, a_p1, (a_p1 + 1), (a_p1 + 2), (a_p1 + 3), (a_p1 + 4), (a_p1 + 5), (a_p1 + 6), (a_p1 + 7), (a_p1 + 8)]) (ok_t_x : inI t_x) (ok_t_y : inI t_y) (ok_t_z : inI t_z) (ok_t_product : inJ t_product) (ok_t_above : inJ t_above) (ok_t_below : inJ t_below) (ok_p1_steps_many : inI p1_steps_many) (ok_p1_steps_xs : okA p1_steps_xs) (ok_p1_steps_ys : okA p1_steps_ys) (ok_p1_steps_zs : okA p1_steps_zs) (ok_p1_planes_many : inI p1_planes_many) (ok_p1_planes_xs : okA p1_planes_xs) (ok_p1_planes_ys : okA p1_planes_ys) (ok_p1_planes_zs : okA p1_planes_zs) (ok_v2 : inI v2) (ok_v3 : inJ v3) (ok_v5 : inJ v5) (ok_v7 : inI v7) (ok_v8 : inI v8) (ok_v9 : inI v9) (ok_v10 : inI v10) (hag : ∀ (t_product_ : Int) (t_above_ : Int) (t_below_ : Int) (v3_ : Int) (v5_ : Int) (v7_ : Int) (v8_ : Int) (v10_ : Int), inJ t_product_ → inJ t_above_ → inJ t_below_ → inJ v3_ → inJ v5_ → inI v7_ → inI v8_ → inI v10_ → ag t_product_ t_above_ t_below_ v3_ v5_ v7_ v8_ v10_ = some r → G l E b0 M_X4_greatestShares (fun _ => True) (ZM E b0 (some (vI r.1)) (ov [a_t, a_p1, (a_p1 + 1), (a_p1 + 2), (a_p1 + 3), (a_p1 + 4), (a_p1 + 5), (a_p1 + 6), (a_p1 + 7), (a_p1 + 8)] [.inr (4, fsX4 a_t t_x t_y t_z r.2.1 r.2.2.1 r.2.2.2), .inr (1, fsX1 a_p1 p1_sightMany), .inr (8, fsX8 (a_p1 + 1) p1_steps_many), IA E 16 p1_steps_xs, IA E 16 p1_steps_ys, IA E 16 p1_steps_zs, .inr (8, fsX8 (a_p1 + 5) p1_planes_many), IA E 16 p1_planes_xs, IA E 16 p1_planes_ys, IA E 16 p1_planes_zs] h) n (inI r.1 ∧ inJ r.2.1 ∧ inJ r.2.2.1 ∧ inJ r.2.2.2) 0 0) 0 0 n (ov [a_t, a_p1, (a_p1 + 1), (a_p1 + 2), (a_p1 + 3), (a_p1 + 4), (a_p1 + 5), (a_p1 + 6), (a_p1 + 7), (a_p1 + 8)] [.inr (4, fsX4 a_t t_x t_y t_z t_product_ t_above_ t_below_), .inr (1, fsX1 a_p1 p1_sightMany), .inr (8, fsX8 (a_p1 + 1) p1_steps_many), IA E 16 p1_steps_xs, IA E 16 p1_steps_ys, IA E 16 p1_steps_zs, .inr (8, fsX8 (a_p1 + 5) p1_planes_many), IA E 16 p1_planes_xs, IA E 16 p1_planes_ys, IA E 16 p1_planes_zs] h) 29 [some (.ref a_t), some (.ref a_p1), some (vI v2), some (vJ v3_), none, some (vJ v5_), none, some (vI v7_), some (vI v8_), some (vI v9), some (vI v10_), none, none] []) (hk_149 : ∀ (t_product_ : Int) (t_above_ : Int) (t_below_ : Int) (v3_ : Int) (v5_ : Int) (v7_ : Int) (v8_ : Int) (v10_ : Int), inJ t_product_ → inJ t_above_ → inJ t_below_ → inJ v3_ → inJ v5_ → inI v7_ → inI v8_ → inI v10_ → k_149 t_product_ t_above_ t_below_ v3_ v5_ v7_ v8_ v10_ = some r → G l E b0 M_X4_greatestShares (fun _ => True) (ZM E b0 (some (vI r.1)) (ov [a_t, a_p1, (a_p1 + 1), (a_p1 + 2), (a_p1 + 3), (a_p1 + 4), (a_p1 + 5), (a_p1 + 6), (a_p1 + 7), (a_p1 + 8)] [.inr (4, fsX4 a_t t_x t_y t_z r.2.1 r.2.2.1 r.2.2.2), .inr (1, fsX1 a_p1 p1_sightMany), .inr (8, fsX8 (a_p1 + 1) p1_steps_many), IA E 16 p1_steps_xs, IA E 16 p1_steps_ys, IA E 16 p1_steps_zs, .inr (8, fsX8 (a_p1 + 5) p1_planes_many), IA E 16 p1_planes_xs, IA E 16 p1_planes_ys, IA E 16 p1_planes_zs] h) n (inI r.1 ∧ inJ r.2.1 ∧ inJ r.2.2.1 ∧ inJ r.2.2.2) 0 0) 0 0 n (ov [a_t, a_p1, (a_p1 + 1), (a_p1 + 2), (a_p1 + 3), (a_p1 + 4), (a_p1 + 5), (a_p1 + 6), (a_p1 + 7), (a_p1 + 8)] [.inr (4, fsX4 a_t t_x t_y t_z t_product_ t_above_ t_below_), .inr (1, fsX1 a_p1 p1_sightMany), .inr (8, fsX8 (a_p1 + 1) p1_steps_many), IA E 16 p1_steps_xs, IA E 16 p1_steps_ys, IA E 16 p1_steps_zs, .inr (8, fsX8 (a_p1 + 5) p1_planes_many), IA E 16 p1_planes_xs, IA E 16 p1_planes_ys, IA E 16 p1_planes_zs] h) 149 [some (.ref a_t), some (.ref a_p1), some (vI v2), some (vJ v3_), none, some (vJ v5_), none, some (vI v7_), some (vI v8_), some (vI v9), none, none, none] []) (hs : m_X4_greatestShares_143 t_x t_y t_z t_product t_above t_below p1_steps_many p1_steps_xs p1_steps_ys p1_steps_zs p1_planes_many p1_planes_xs p1_planes_ys p1_planes_zs v2 v3 v5 v7 v8 v9 v10 ag k_149 = some r) : G l E b0 M_X4_greatestShares (fun _ => True) (ZM E b0 (some (vI r.1)) (ov [a_t, a_p1, (a_p1 + 1), (a_p1 + 2), (a_p1 + 3), (a_p1 + 4), (a_p1 + 5), (a_p1 + 6), (a_p1 + 7), (a_p1 + 8)] [.inr (4, fsX4 a_t t_x t_y t_z r.2.1 r.2.2.1 r.2.2.2), .inr (1, fsX1 a_p1 p1_sightMany), .inr (8, fsX8 (a_p1 + 1) p1_steps_many), IA E 16 p1_steps_xs, IA E 16 p1_steps_ys, IA E 16 p1_steps_zs, .inr (8, fsX8 (a_p1 + 5) p1_planes_many), IA E 16 p1_planes_xs, IA E 16 p1_planes_ys, IA E 16 p1_planes_zs] h) n (inI r.1 ∧ inJ r.2.1 ∧ inJ r.2.2.1 ∧ inJ r.2.2.2) 0 0) 0 0 n (ov [a_t, a_p1, (a_p1 + 1), (a_p1 + 2), (a_p1 + 3), (a_p1 + 4), (a_p1 + 5), (a_p1 + 6), (a_p1 + 7), (a_p1 + 8)] [.inr (4, fsX4 a_t t_x t_y t_z t_product t_above t_below), .inr (1, fsX1 a_p1 p1_sightMany), .inr (8, fsX8 (a_p1 + 1) p1_steps_many), IA E 16 p1_steps_xs, IA E 16 p1_steps_ys, IA E 16 p1_steps_zs, .inr (8, fsX8 (a_p1 + 5) p1_planes_many), IA E 16 p1_planes_xs, IA E 16 p1_planes_ys, IA E 16 p1_planes_zs] h) 143 [some (.ref a_t), some (.ref a_p1), some (vI v2), some (vJ v3), none, some (vJ v5), none, some (vI v7), some (vI v8), some (vI v9), some (vI v10), none, none] [] := by
  rw [m_X4_greatestShares_143] at hs
  refine g_iinc e_X4_greatestShares_143 rfl st1_10 rfl ?_
  refine g_goto e_X4_greatestShares_146 ?_
  obtain ⟨hc2, hs⟩ := chk_elim hs
  exact hag _ _ _ _ _ _ _ _ ok_t_product ok_t_above ok_t_below ok_v3 ok_v5 ok_v7 ok_v8 hc2 hs

noncomputable def m_X4_greatestShares_138 (t_x : Int) (t_y : Int) (t_z : Int) (t_product : Int) (t_above : Int) (t_below : Int) (p1_steps_many : Int) (p1_steps_xs : Nat → Int) (p1_steps_ys : Nat → Int) (p1_steps_zs : Nat → Int) (p1_planes_many : Int) (p1_planes_xs : Nat → Int) (p1_planes_ys : Nat → Int) (p1_planes_zs : Nat → Int) (v2 : Int) (v3 : Int) (v5 : Int) (v7 : Int) (v9 : Int) (v10 : Int) (s0 : Int) (ag : Int → Int → Int → Int → Int → Int → Int → Int → Option (Int × Int × Int × Int)) (k_149 : Int → Int → Int → Int → Int → Int → Int → Int → Option (Int × Int × Int × Int)) : Option (Int × Int × Int × Int) :=
  chk (inI (v7 + 1)) (m_X4_greatestShares_143 t_x t_y t_z t_product t_above t_below p1_steps_many p1_steps_xs p1_steps_ys p1_steps_zs p1_planes_many p1_planes_xs p1_planes_ys p1_planes_zs v2 v3 v5 (v7 + 1) s0 v9 v10 ag k_149)

set_option maxRecDepth 10000 in
theorem g_X4_greatestShares_138 {l : Launch} {E : EE} {b0 n : Nat} {h : AH} {a_t a_p1 : Nat} {t_x t_y t_z t_product t_above t_below p1_sightMany p1_steps_many p1_planes_many v2 v3 v5 v7 v9 v10 s0 : Int} {p1_steps_xs p1_steps_ys p1_steps_zs p1_planes_xs p1_planes_ys p1_planes_zs : Nat → Int} {r : Int × Int × Int × Int} {ag : Int → Int → Int → Int → Int → Int → Int → Int → Option (Int × Int × Int × Int)} {k_149 : Int → Int → Int → Int → Int → Int → Int → Int → Option (Int × Int × Int × Int)} (ao : AO b0 n [a_t, a_p1, (a_p1 + 1), (a_p1 + 2), (a_p1 + 3), (a_p1 + 4), (a_p1 + 5), (a_p1 + 6), (a_p1 + 7), (a_p1 + 8)]) (ok_t_x : inI t_x) (ok_t_y : inI t_y) (ok_t_z : inI t_z) (ok_t_product : inJ t_product) (ok_t_above : inJ t_above) (ok_t_below : inJ t_below) (ok_p1_steps_many : inI p1_steps_many) (ok_p1_steps_xs : okA p1_steps_xs) (ok_p1_steps_ys : okA p1_steps_ys) (ok_p1_steps_zs : okA p1_steps_zs) (ok_p1_planes_many : inI p1_planes_many) (ok_p1_planes_xs : okA p1_planes_xs) (ok_p1_planes_ys : okA p1_planes_ys) (ok_p1_planes_zs : okA p1_planes_zs) (ok_v2 : inI v2) (ok_v3 : inJ v3) (ok_v5 : inJ v5) (ok_v7 : inI v7) (ok_v9 : inI v9) (ok_v10 : inI v10) (ok_s0 : inI s0) (hag : ∀ (t_product_ : Int) (t_above_ : Int) (t_below_ : Int) (v3_ : Int) (v5_ : Int) (v7_ : Int) (v8_ : Int) (v10_ : Int), inJ t_product_ → inJ t_above_ → inJ t_below_ → inJ v3_ → inJ v5_ → inI v7_ → inI v8_ → inI v10_ → ag t_product_ t_above_ t_below_ v3_ v5_ v7_ v8_ v10_ = some r → G l E b0 M_X4_greatestShares (fun _ => True) (ZM E b0 (some (vI r.1)) (ov [a_t, a_p1, (a_p1 + 1), (a_p1 + 2), (a_p1 + 3), (a_p1 + 4), (a_p1 + 5), (a_p1 + 6), (a_p1 + 7), (a_p1 + 8)] [.inr (4, fsX4 a_t t_x t_y t_z r.2.1 r.2.2.1 r.2.2.2), .inr (1, fsX1 a_p1 p1_sightMany), .inr (8, fsX8 (a_p1 + 1) p1_steps_many), IA E 16 p1_steps_xs, IA E 16 p1_steps_ys, IA E 16 p1_steps_zs, .inr (8, fsX8 (a_p1 + 5) p1_planes_many), IA E 16 p1_planes_xs, IA E 16 p1_planes_ys, IA E 16 p1_planes_zs] h) n (inI r.1 ∧ inJ r.2.1 ∧ inJ r.2.2.1 ∧ inJ r.2.2.2) 0 0) 0 0 n (ov [a_t, a_p1, (a_p1 + 1), (a_p1 + 2), (a_p1 + 3), (a_p1 + 4), (a_p1 + 5), (a_p1 + 6), (a_p1 + 7), (a_p1 + 8)] [.inr (4, fsX4 a_t t_x t_y t_z t_product_ t_above_ t_below_), .inr (1, fsX1 a_p1 p1_sightMany), .inr (8, fsX8 (a_p1 + 1) p1_steps_many), IA E 16 p1_steps_xs, IA E 16 p1_steps_ys, IA E 16 p1_steps_zs, .inr (8, fsX8 (a_p1 + 5) p1_planes_many), IA E 16 p1_planes_xs, IA E 16 p1_planes_ys, IA E 16 p1_planes_zs] h) 29 [some (.ref a_t), some (.ref a_p1), some (vI v2), some (vJ v3_), none, some (vJ v5_), none, some (vI v7_), some (vI v8_), some (vI v9), some (vI v10_), none, none] []) (hk_149 : ∀ (t_product_ : Int) (t_above_ : Int) (t_below_ : Int) (v3_ : Int) (v5_ : Int) (v7_ : Int) (v8_ : Int) (v10_ : Int), inJ t_product_ → inJ t_above_ → inJ t_below_ → inJ v3_ → inJ v5_ → inI v7_ → inI v8_ → inI v10_ → k_149 t_product_ t_above_ t_below_ v3_ v5_ v7_ v8_ v10_ = some r → G l E b0 M_X4_greatestShares (fun _ => True) (ZM E b0 (some (vI r.1)) (ov [a_t, a_p1, (a_p1 + 1), (a_p1 + 2), (a_p1 + 3), (a_p1 + 4), (a_p1 + 5), (a_p1 + 6), (a_p1 + 7), (a_p1 + 8)] [.inr (4, fsX4 a_t t_x t_y t_z r.2.1 r.2.2.1 r.2.2.2), .inr (1, fsX1 a_p1 p1_sightMany), .inr (8, fsX8 (a_p1 + 1) p1_steps_many), IA E 16 p1_steps_xs, IA E 16 p1_steps_ys, IA E 16 p1_steps_zs, .inr (8, fsX8 (a_p1 + 5) p1_planes_many), IA E 16 p1_planes_xs, IA E 16 p1_planes_ys, IA E 16 p1_planes_zs] h) n (inI r.1 ∧ inJ r.2.1 ∧ inJ r.2.2.1 ∧ inJ r.2.2.2) 0 0) 0 0 n (ov [a_t, a_p1, (a_p1 + 1), (a_p1 + 2), (a_p1 + 3), (a_p1 + 4), (a_p1 + 5), (a_p1 + 6), (a_p1 + 7), (a_p1 + 8)] [.inr (4, fsX4 a_t t_x t_y t_z t_product_ t_above_ t_below_), .inr (1, fsX1 a_p1 p1_sightMany), .inr (8, fsX8 (a_p1 + 1) p1_steps_many), IA E 16 p1_steps_xs, IA E 16 p1_steps_ys, IA E 16 p1_steps_zs, .inr (8, fsX8 (a_p1 + 5) p1_planes_many), IA E 16 p1_planes_xs, IA E 16 p1_planes_ys, IA E 16 p1_planes_zs] h) 149 [some (.ref a_t), some (.ref a_p1), some (vI v2), some (vJ v3_), none, some (vJ v5_), none, some (vI v7_), some (vI v8_), some (vI v9), none, none, none] []) (hs : m_X4_greatestShares_138 t_x t_y t_z t_product t_above t_below p1_steps_many p1_steps_xs p1_steps_ys p1_steps_zs p1_planes_many p1_planes_xs p1_planes_ys p1_planes_zs v2 v3 v5 v7 v9 v10 s0 ag k_149 = some r) : G l E b0 M_X4_greatestShares (fun _ => True) (ZM E b0 (some (vI r.1)) (ov [a_t, a_p1, (a_p1 + 1), (a_p1 + 2), (a_p1 + 3), (a_p1 + 4), (a_p1 + 5), (a_p1 + 6), (a_p1 + 7), (a_p1 + 8)] [.inr (4, fsX4 a_t t_x t_y t_z r.2.1 r.2.2.1 r.2.2.2), .inr (1, fsX1 a_p1 p1_sightMany), .inr (8, fsX8 (a_p1 + 1) p1_steps_many), IA E 16 p1_steps_xs, IA E 16 p1_steps_ys, IA E 16 p1_steps_zs, .inr (8, fsX8 (a_p1 + 5) p1_planes_many), IA E 16 p1_planes_xs, IA E 16 p1_planes_ys, IA E 16 p1_planes_zs] h) n (inI r.1 ∧ inJ r.2.1 ∧ inJ r.2.2.1 ∧ inJ r.2.2.2) 0 0) 0 0 n (ov [a_t, a_p1, (a_p1 + 1), (a_p1 + 2), (a_p1 + 3), (a_p1 + 4), (a_p1 + 5), (a_p1 + 6), (a_p1 + 7), (a_p1 + 8)] [.inr (4, fsX4 a_t t_x t_y t_z t_product t_above t_below), .inr (1, fsX1 a_p1 p1_sightMany), .inr (8, fsX8 (a_p1 + 1) p1_steps_many), IA E 16 p1_steps_xs, IA E 16 p1_steps_ys, IA E 16 p1_steps_zs, .inr (8, fsX8 (a_p1 + 5) p1_planes_many), IA E 16 p1_planes_xs, IA E 16 p1_planes_ys, IA E 16 p1_planes_zs] h) 138 [some (.ref a_t), some (.ref a_p1), some (vI v2), some (vJ v3), none, some (vJ v5), none, some (vI v7), none, some (vI v9), some (vI v10), none, none] [vI s0] := by
  rw [m_X4_greatestShares_138] at hs
  refine g_istore e_X4_greatestShares_138 st1_8 rfl ?_
  refine g_iinc e_X4_greatestShares_140 rfl st1_7 rfl ?_
  obtain ⟨hc4, hs⟩ := chk_elim hs
  exact g_X4_greatestShares_143 ao ok_t_x ok_t_y ok_t_z ok_t_product ok_t_above ok_t_below ok_p1_steps_many ok_p1_steps_xs ok_p1_steps_ys ok_p1_steps_zs ok_p1_planes_many ok_p1_planes_xs ok_p1_planes_ys ok_p1_planes_zs ok_v2 ok_v3 ok_v5 hc4 ok_s0 ok_v9 ok_v10 hag hk_149 hs

noncomputable def m_X4_greatestShares_112 (t_x : Int) (t_y : Int) (t_z : Int) (t_product : Int) (t_above : Int) (t_below : Int) (p1_steps_many : Int) (p1_steps_xs : Nat → Int) (p1_steps_ys : Nat → Int) (p1_steps_zs : Nat → Int) (p1_planes_many : Int) (p1_planes_xs : Nat → Int) (p1_planes_ys : Nat → Int) (p1_planes_zs : Nat → Int) (v2 : Int) (v3 : Int) (v5 : Int) (v7 : Int) (v8 : Int) (v9 : Int) (v10 : Int) (v11 : Int) (ag : Int → Int → Int → Int → Int → Int → Int → Int → Option (Int × Int × Int × Int)) (k_149 : Int → Int → Int → Int → Int → Int → Int → Int → Option (Int × Int × Int × Int)) : Option (Int × Int × Int × Int) :=
  if v11 < 0 then (m_X4_greatestShares_143 t_x t_y t_z t_product t_above t_below p1_steps_many p1_steps_xs p1_steps_ys p1_steps_zs p1_planes_many p1_planes_xs p1_planes_ys p1_planes_zs v2 v3 v5 v7 v8 v9 v10 ag k_149) else (if v7 = v2 then (chk (inI ((16 * v9) + v10)) (m_X4_greatestShares_138 t_x t_y t_z t_product t_above t_below p1_steps_many p1_steps_xs p1_steps_ys p1_steps_zs p1_planes_many p1_planes_xs p1_planes_ys p1_planes_zs v2 v3 v5 v7 v9 v10 ((16 * v9) + v10) ag k_149)) else (m_X4_greatestShares_138 t_x t_y t_z t_product t_above t_below p1_steps_many p1_steps_xs p1_steps_ys p1_steps_zs p1_planes_many p1_planes_xs p1_planes_ys p1_planes_zs v2 v3 v5 v7 v9 v10 v8 ag k_149))

set_option maxRecDepth 10000 in
theorem g_X4_greatestShares_112 {l : Launch} {E : EE} {b0 n : Nat} {h : AH} {a_t a_p1 : Nat} {t_x t_y t_z t_product t_above t_below p1_sightMany p1_steps_many p1_planes_many v2 v3 v5 v7 v8 v9 v10 v11 : Int} {p1_steps_xs p1_steps_ys p1_steps_zs p1_planes_xs p1_planes_ys p1_planes_zs : Nat → Int} {r : Int × Int × Int × Int} {ag : Int → Int → Int → Int → Int → Int → Int → Int → Option (Int × Int × Int × Int)} {k_149 : Int → Int → Int → Int → Int → Int → Int → Int → Option (Int × Int × Int × Int)} (ao : AO b0 n [a_t, a_p1, (a_p1 + 1), (a_p1 + 2), (a_p1 + 3), (a_p1 + 4), (a_p1 + 5), (a_p1 + 6), (a_p1 + 7), (a_p1 + 8)]) (ok_t_x : inI t_x) (ok_t_y : inI t_y) (ok_t_z : inI t_z) (ok_t_product : inJ t_product) (ok_t_above : inJ t_above) (ok_t_below : inJ t_below) (ok_p1_steps_many : inI p1_steps_many) (ok_p1_steps_xs : okA p1_steps_xs) (ok_p1_steps_ys : okA p1_steps_ys) (ok_p1_steps_zs : okA p1_steps_zs) (ok_p1_planes_many : inI p1_planes_many) (ok_p1_planes_xs : okA p1_planes_xs) (ok_p1_planes_ys : okA p1_planes_ys) (ok_p1_planes_zs : okA p1_planes_zs) (ok_v2 : inI v2) (ok_v3 : inJ v3) (ok_v5 : inJ v5) (ok_v7 : inI v7) (ok_v8 : inI v8) (ok_v9 : inI v9) (ok_v10 : inI v10) (ok_v11 : inJ v11) (hag : ∀ (t_product_ : Int) (t_above_ : Int) (t_below_ : Int) (v3_ : Int) (v5_ : Int) (v7_ : Int) (v8_ : Int) (v10_ : Int), inJ t_product_ → inJ t_above_ → inJ t_below_ → inJ v3_ → inJ v5_ → inI v7_ → inI v8_ → inI v10_ → ag t_product_ t_above_ t_below_ v3_ v5_ v7_ v8_ v10_ = some r → G l E b0 M_X4_greatestShares (fun _ => True) (ZM E b0 (some (vI r.1)) (ov [a_t, a_p1, (a_p1 + 1), (a_p1 + 2), (a_p1 + 3), (a_p1 + 4), (a_p1 + 5), (a_p1 + 6), (a_p1 + 7), (a_p1 + 8)] [.inr (4, fsX4 a_t t_x t_y t_z r.2.1 r.2.2.1 r.2.2.2), .inr (1, fsX1 a_p1 p1_sightMany), .inr (8, fsX8 (a_p1 + 1) p1_steps_many), IA E 16 p1_steps_xs, IA E 16 p1_steps_ys, IA E 16 p1_steps_zs, .inr (8, fsX8 (a_p1 + 5) p1_planes_many), IA E 16 p1_planes_xs, IA E 16 p1_planes_ys, IA E 16 p1_planes_zs] h) n (inI r.1 ∧ inJ r.2.1 ∧ inJ r.2.2.1 ∧ inJ r.2.2.2) 0 0) 0 0 n (ov [a_t, a_p1, (a_p1 + 1), (a_p1 + 2), (a_p1 + 3), (a_p1 + 4), (a_p1 + 5), (a_p1 + 6), (a_p1 + 7), (a_p1 + 8)] [.inr (4, fsX4 a_t t_x t_y t_z t_product_ t_above_ t_below_), .inr (1, fsX1 a_p1 p1_sightMany), .inr (8, fsX8 (a_p1 + 1) p1_steps_many), IA E 16 p1_steps_xs, IA E 16 p1_steps_ys, IA E 16 p1_steps_zs, .inr (8, fsX8 (a_p1 + 5) p1_planes_many), IA E 16 p1_planes_xs, IA E 16 p1_planes_ys, IA E 16 p1_planes_zs] h) 29 [some (.ref a_t), some (.ref a_p1), some (vI v2), some (vJ v3_), none, some (vJ v5_), none, some (vI v7_), some (vI v8_), some (vI v9), some (vI v10_), none, none] []) (hk_149 : ∀ (t_product_ : Int) (t_above_ : Int) (t_below_ : Int) (v3_ : Int) (v5_ : Int) (v7_ : Int) (v8_ : Int) (v10_ : Int), inJ t_product_ → inJ t_above_ → inJ t_below_ → inJ v3_ → inJ v5_ → inI v7_ → inI v8_ → inI v10_ → k_149 t_product_ t_above_ t_below_ v3_ v5_ v7_ v8_ v10_ = some r → G l E b0 M_X4_greatestShares (fun _ => True) (ZM E b0 (some (vI r.1)) (ov [a_t, a_p1, (a_p1 + 1), (a_p1 + 2), (a_p1 + 3), (a_p1 + 4), (a_p1 + 5), (a_p1 + 6), (a_p1 + 7), (a_p1 + 8)] [.inr (4, fsX4 a_t t_x t_y t_z r.2.1 r.2.2.1 r.2.2.2), .inr (1, fsX1 a_p1 p1_sightMany), .inr (8, fsX8 (a_p1 + 1) p1_steps_many), IA E 16 p1_steps_xs, IA E 16 p1_steps_ys, IA E 16 p1_steps_zs, .inr (8, fsX8 (a_p1 + 5) p1_planes_many), IA E 16 p1_planes_xs, IA E 16 p1_planes_ys, IA E 16 p1_planes_zs] h) n (inI r.1 ∧ inJ r.2.1 ∧ inJ r.2.2.1 ∧ inJ r.2.2.2) 0 0) 0 0 n (ov [a_t, a_p1, (a_p1 + 1), (a_p1 + 2), (a_p1 + 3), (a_p1 + 4), (a_p1 + 5), (a_p1 + 6), (a_p1 + 7), (a_p1 + 8)] [.inr (4, fsX4 a_t t_x t_y t_z t_product_ t_above_ t_below_), .inr (1, fsX1 a_p1 p1_sightMany), .inr (8, fsX8 (a_p1 + 1) p1_steps_many), IA E 16 p1_steps_xs, IA E 16 p1_steps_ys, IA E 16 p1_steps_zs, .inr (8, fsX8 (a_p1 + 5) p1_planes_many), IA E 16 p1_planes_xs, IA E 16 p1_planes_ys, IA E 16 p1_planes_zs] h) 149 [some (.ref a_t), some (.ref a_p1), some (vI v2), some (vJ v3_), none, some (vJ v5_), none, some (vI v7_), some (vI v8_), some (vI v9), none, none, none] []) (hs : m_X4_greatestShares_112 t_x t_y t_z t_product t_above t_below p1_steps_many p1_steps_xs p1_steps_ys p1_steps_zs p1_planes_many p1_planes_xs p1_planes_ys p1_planes_zs v2 v3 v5 v7 v8 v9 v10 v11 ag k_149 = some r) : G l E b0 M_X4_greatestShares (fun _ => True) (ZM E b0 (some (vI r.1)) (ov [a_t, a_p1, (a_p1 + 1), (a_p1 + 2), (a_p1 + 3), (a_p1 + 4), (a_p1 + 5), (a_p1 + 6), (a_p1 + 7), (a_p1 + 8)] [.inr (4, fsX4 a_t t_x t_y t_z r.2.1 r.2.2.1 r.2.2.2), .inr (1, fsX1 a_p1 p1_sightMany), .inr (8, fsX8 (a_p1 + 1) p1_steps_many), IA E 16 p1_steps_xs, IA E 16 p1_steps_ys, IA E 16 p1_steps_zs, .inr (8, fsX8 (a_p1 + 5) p1_planes_many), IA E 16 p1_planes_xs, IA E 16 p1_planes_ys, IA E 16 p1_planes_zs] h) n (inI r.1 ∧ inJ r.2.1 ∧ inJ r.2.2.1 ∧ inJ r.2.2.2) 0 0) 0 0 n (ov [a_t, a_p1, (a_p1 + 1), (a_p1 + 2), (a_p1 + 3), (a_p1 + 4), (a_p1 + 5), (a_p1 + 6), (a_p1 + 7), (a_p1 + 8)] [.inr (4, fsX4 a_t t_x t_y t_z t_product t_above t_below), .inr (1, fsX1 a_p1 p1_sightMany), .inr (8, fsX8 (a_p1 + 1) p1_steps_many), IA E 16 p1_steps_xs, IA E 16 p1_steps_ys, IA E 16 p1_steps_zs, .inr (8, fsX8 (a_p1 + 5) p1_planes_many), IA E 16 p1_planes_xs, IA E 16 p1_planes_ys, IA E 16 p1_planes_zs] h) 112 [some (.ref a_t), some (.ref a_p1), some (vI v2), some (vJ v3), none, some (vJ v5), none, some (vI v7), some (vI v8), some (vI v9), some (vI v10), some (vJ v11), none] [] := by
  rw [m_X4_greatestShares_112] at hs
  refine g_lload e_X4_greatestShares_112 rfl ?_
  refine g_lconst (a := 0) e_X4_greatestShares_114 rfl ?_
  refine g_lcmp_lt e_X4_greatestShares_115 e_X4_greatestShares_116 ok_v11 (by decide : inJ 0) hs (fun c115 hs => ?_) (fun c115 hs => ?_)
  · exact g_mask [true, true, true, true, true, true, true, true, true, true, true, false, true] (g_X4_greatestShares_143 ao ok_t_x ok_t_y ok_t_z ok_t_product ok_t_above ok_t_below ok_p1_steps_many ok_p1_steps_xs ok_p1_steps_ys ok_p1_steps_zs ok_p1_planes_many ok_p1_planes_xs ok_p1_planes_ys ok_p1_planes_zs ok_v2 ok_v3 ok_v5 ok_v7 ok_v8 ok_v9 ok_v10 hag hk_149 hs)
  · refine g_iload e_X4_greatestShares_119 rfl ?_
    refine g_iload_n e_X4_greatestShares_121 rfl ?_
    refine g_icmp_ne e_X4_greatestShares_122 ok_v7 ok_v2 hs (fun c122 hs => ?_) (fun c122 hs => ?_)
    · refine g_bipush e_X4_greatestShares_125 bp_16 ?_
      refine g_iload e_X4_greatestShares_127 rfl ?_
      refine g_imul e_X4_greatestShares_129 ?_
      refine g_iload e_X4_greatestShares_130 rfl ?_
      refine g_iadd e_X4_greatestShares_132 ?_
      refine g_goto e_X4_greatestShares_133 ?_
      obtain ⟨hc5, hs⟩ := chk_elim hs
      exact g_mask [true, true, true, true, true, true, true, true, false, true, true, false, true] (g_X4_greatestShares_138 ao ok_t_x ok_t_y ok_t_z ok_t_product ok_t_above ok_t_below ok_p1_steps_many ok_p1_steps_xs ok_p1_steps_ys ok_p1_steps_zs ok_p1_planes_many ok_p1_planes_xs ok_p1_planes_ys ok_p1_planes_zs ok_v2 ok_v3 ok_v5 ok_v7 ok_v9 ok_v10 hc5 hag hk_149 hs)
    · refine g_iload e_X4_greatestShares_136 rfl ?_
      exact g_mask [true, true, true, true, true, true, true, true, false, true, true, false, true] (g_X4_greatestShares_138 ao ok_t_x ok_t_y ok_t_z ok_t_product ok_t_above ok_t_below ok_p1_steps_many ok_p1_steps_xs ok_p1_steps_ys ok_p1_steps_zs ok_p1_planes_many ok_p1_planes_xs ok_p1_planes_ys ok_p1_planes_zs ok_v2 ok_v3 ok_v5 ok_v7 ok_v9 ok_v10 ok_v8 hag hk_149 hs)

noncomputable def m_X4_greatestShares_29 (t_x : Int) (t_y : Int) (t_z : Int) (p1_steps_many : Int) (p1_steps_xs : Nat → Int) (p1_steps_ys : Nat → Int) (p1_steps_zs : Nat → Int) (p1_planes_many : Int) (p1_planes_xs : Nat → Int) (p1_planes_ys : Nat → Int) (p1_planes_zs : Nat → Int) (v2 : Int) (v9 : Int) (k_149 : Int → Int → Int → Int → Int → Int → Int → Int → Option (Int × Int × Int × Int)) : Nat → Int → Int → Int → Int → Int → Int → Int → Int → Option (Int × Int × Int × Int)
  | 0, _, _, _, _, _, _, _, _ => none
  | F + 1, t_product, t_above, t_below, v3, v5, v7, v8, v10 => if p1_steps_many ≤ v10 then (k_149 t_product t_above t_below v3 v5 v7 v8 v10) else ((m_X4_shareOn 16 16 t_x t_y t_z t_product t_above t_below p1_planes_many p1_planes_xs p1_planes_ys p1_planes_zs p1_steps_many p1_steps_xs p1_steps_ys p1_steps_zs v9 v10).bind (fun y1 => if y1.1 = 0 then (m_X4_greatestShares_143 t_x t_y t_z y1.2.1 y1.2.2.1 y1.2.2.2 p1_steps_many p1_steps_xs p1_steps_ys p1_steps_zs p1_planes_many p1_planes_xs p1_planes_ys p1_planes_zs v2 v3 v5 v7 v8 v9 v10 (m_X4_greatestShares_29 t_x t_y t_z p1_steps_many p1_steps_xs p1_steps_ys p1_steps_zs p1_planes_many p1_planes_xs p1_planes_ys p1_planes_zs v2 v9 k_149 F) k_149) else (if y1.2.2.1 = 0 then (m_X4_greatestShares_143 t_x t_y t_z y1.2.1 y1.2.2.1 y1.2.2.2 p1_steps_many p1_steps_xs p1_steps_ys p1_steps_zs p1_planes_many p1_planes_xs p1_planes_ys p1_planes_zs v2 v3 v5 v7 v8 v9 v10 (m_X4_greatestShares_29 t_x t_y t_z p1_steps_many p1_steps_xs p1_steps_ys p1_steps_zs p1_planes_many p1_planes_xs p1_planes_ys p1_planes_zs v2 v9 k_149 F) k_149) else (chk (inJ ((y1.2.2.1 * v5) - (v3 * y1.2.2.2))) (if ((y1.2.2.1 * v5) - (v3 * y1.2.2.2)) ≤ 0 then (m_X4_greatestShares_112 t_x t_y t_z y1.2.1 y1.2.2.1 y1.2.2.2 p1_steps_many p1_steps_xs p1_steps_ys p1_steps_zs p1_planes_many p1_planes_xs p1_planes_ys p1_planes_zs v2 v3 v5 v7 v8 v9 v10 ((y1.2.2.1 * v5) - (v3 * y1.2.2.2)) (m_X4_greatestShares_29 t_x t_y t_z p1_steps_many p1_steps_xs p1_steps_ys p1_steps_zs p1_planes_many p1_planes_xs p1_planes_ys p1_planes_zs v2 v9 k_149 F) k_149) else (m_X4_greatestShares_112 t_x t_y t_z y1.2.1 y1.2.2.1 y1.2.2.2 p1_steps_many p1_steps_xs p1_steps_ys p1_steps_zs p1_planes_many p1_planes_xs p1_planes_ys p1_planes_zs v2 y1.2.2.1 y1.2.2.2 0 (-1) v9 v10 ((y1.2.2.1 * v5) - (v3 * y1.2.2.2)) (m_X4_greatestShares_29 t_x t_y t_z p1_steps_many p1_steps_xs p1_steps_ys p1_steps_zs p1_planes_many p1_planes_xs p1_planes_ys p1_planes_zs v2 v9 k_149 F) k_149))))))

set_option maxRecDepth 10000 in
theorem g_X4_greatestShares_29 {l : Launch} {E : EE} {b0 n : Nat} {h : AH} {a_t a_p1 : Nat} {t_x t_y t_z p1_sightMany p1_steps_many p1_planes_many v2 v9 : Int} {p1_steps_xs p1_steps_ys p1_steps_zs p1_planes_xs p1_planes_ys p1_planes_zs : Nat → Int} {r : Int × Int × Int × Int} {k_149 : Int → Int → Int → Int → Int → Int → Int → Int → Option (Int × Int × Int × Int)} (ao : AO b0 n [a_t, a_p1, (a_p1 + 1), (a_p1 + 2), (a_p1 + 3), (a_p1 + 4), (a_p1 + 5), (a_p1 + 6), (a_p1 + 7), (a_p1 + 8)]) (ok_t_x : inI t_x) (ok_t_y : inI t_y) (ok_t_z : inI t_z) (ok_p1_steps_many : inI p1_steps_many) (ok_p1_steps_xs : okA p1_steps_xs) (ok_p1_steps_ys : okA p1_steps_ys) (ok_p1_steps_zs : okA p1_steps_zs) (ok_p1_planes_many : inI p1_planes_many) (ok_p1_planes_xs : okA p1_planes_xs) (ok_p1_planes_ys : okA p1_planes_ys) (ok_p1_planes_zs : okA p1_planes_zs) (ok_v2 : inI v2) (ok_v9 : inI v9) (hk_149 : ∀ (t_product_ : Int) (t_above_ : Int) (t_below_ : Int) (v3_ : Int) (v5_ : Int) (v7_ : Int) (v8_ : Int) (v10_ : Int), inJ t_product_ → inJ t_above_ → inJ t_below_ → inJ v3_ → inJ v5_ → inI v7_ → inI v8_ → inI v10_ → k_149 t_product_ t_above_ t_below_ v3_ v5_ v7_ v8_ v10_ = some r → G l E b0 M_X4_greatestShares (fun _ => True) (ZM E b0 (some (vI r.1)) (ov [a_t, a_p1, (a_p1 + 1), (a_p1 + 2), (a_p1 + 3), (a_p1 + 4), (a_p1 + 5), (a_p1 + 6), (a_p1 + 7), (a_p1 + 8)] [.inr (4, fsX4 a_t t_x t_y t_z r.2.1 r.2.2.1 r.2.2.2), .inr (1, fsX1 a_p1 p1_sightMany), .inr (8, fsX8 (a_p1 + 1) p1_steps_many), IA E 16 p1_steps_xs, IA E 16 p1_steps_ys, IA E 16 p1_steps_zs, .inr (8, fsX8 (a_p1 + 5) p1_planes_many), IA E 16 p1_planes_xs, IA E 16 p1_planes_ys, IA E 16 p1_planes_zs] h) n (inI r.1 ∧ inJ r.2.1 ∧ inJ r.2.2.1 ∧ inJ r.2.2.2) 0 0) 0 0 n (ov [a_t, a_p1, (a_p1 + 1), (a_p1 + 2), (a_p1 + 3), (a_p1 + 4), (a_p1 + 5), (a_p1 + 6), (a_p1 + 7), (a_p1 + 8)] [.inr (4, fsX4 a_t t_x t_y t_z t_product_ t_above_ t_below_), .inr (1, fsX1 a_p1 p1_sightMany), .inr (8, fsX8 (a_p1 + 1) p1_steps_many), IA E 16 p1_steps_xs, IA E 16 p1_steps_ys, IA E 16 p1_steps_zs, .inr (8, fsX8 (a_p1 + 5) p1_planes_many), IA E 16 p1_planes_xs, IA E 16 p1_planes_ys, IA E 16 p1_planes_zs] h) 149 [some (.ref a_t), some (.ref a_p1), some (vI v2), some (vJ v3_), none, some (vJ v5_), none, some (vI v7_), some (vI v8_), some (vI v9), none, none, none] []) :
    ∀ (F : Nat) (t_product : Int) (t_above : Int) (t_below : Int) (v3 : Int) (v5 : Int) (v7 : Int) (v8 : Int) (v10 : Int), inJ t_product → inJ t_above → inJ t_below → inJ v3 → inJ v5 → inI v7 → inI v8 → inI v10 → m_X4_greatestShares_29 t_x t_y t_z p1_steps_many p1_steps_xs p1_steps_ys p1_steps_zs p1_planes_many p1_planes_xs p1_planes_ys p1_planes_zs v2 v9 k_149 F t_product t_above t_below v3 v5 v7 v8 v10 = some r → G l E b0 M_X4_greatestShares (fun _ => True) (ZM E b0 (some (vI r.1)) (ov [a_t, a_p1, (a_p1 + 1), (a_p1 + 2), (a_p1 + 3), (a_p1 + 4), (a_p1 + 5), (a_p1 + 6), (a_p1 + 7), (a_p1 + 8)] [.inr (4, fsX4 a_t t_x t_y t_z r.2.1 r.2.2.1 r.2.2.2), .inr (1, fsX1 a_p1 p1_sightMany), .inr (8, fsX8 (a_p1 + 1) p1_steps_many), IA E 16 p1_steps_xs, IA E 16 p1_steps_ys, IA E 16 p1_steps_zs, .inr (8, fsX8 (a_p1 + 5) p1_planes_many), IA E 16 p1_planes_xs, IA E 16 p1_planes_ys, IA E 16 p1_planes_zs] h) n (inI r.1 ∧ inJ r.2.1 ∧ inJ r.2.2.1 ∧ inJ r.2.2.2) 0 0) 0 0 n (ov [a_t, a_p1, (a_p1 + 1), (a_p1 + 2), (a_p1 + 3), (a_p1 + 4), (a_p1 + 5), (a_p1 + 6), (a_p1 + 7), (a_p1 + 8)] [.inr (4, fsX4 a_t t_x t_y t_z t_product t_above t_below), .inr (1, fsX1 a_p1 p1_sightMany), .inr (8, fsX8 (a_p1 + 1) p1_steps_many), IA E 16 p1_steps_xs, IA E 16 p1_steps_ys, IA E 16 p1_steps_zs, .inr (8, fsX8 (a_p1 + 5) p1_planes_many), IA E 16 p1_planes_xs, IA E 16 p1_planes_ys, IA E 16 p1_planes_zs] h) 29 [some (.ref a_t), some (.ref a_p1), some (vI v2), some (vJ v3), none, some (vJ v5), none, some (vI v7), some (vI v8), some (vI v9), some (vI v10), none, none] [] := by
  intro F
  induction F with
  | zero =>
    intro t_product t_above t_below v3 v5 v7 v8 v10 ok_t_product ok_t_above ok_t_below ok_v3 ok_v5 ok_v7 ok_v8 ok_v10 hs
    rw [m_X4_greatestShares_29] at hs
    cases hs
  | succ F ih =>
    intro t_product t_above t_below v3 v5 v7 v8 v10 ok_t_product ok_t_above ok_t_below ok_v3 ok_v5 ok_v7 ok_v8 ok_v10 hs
    rw [m_X4_greatestShares_29] at hs
    refine g_iload e_X4_greatestShares_29 rfl ?_
    refine g_aload_n e_X4_greatestShares_31 rfl ?_
    refine g_get 1 0 ao rfl rfl fsX1_g0 fl_X4_72 e_X4_greatestShares_32 ?_
    refine g_get 2 3 ao rfl rfl fsX8_g3 fl_X4_69 e_X4_greatestShares_35 ?_
    refine g_icmp_ge e_X4_greatestShares_38 ok_v10 ok_p1_steps_many hs (fun c38 hs => ?_) (fun c38 hs => ?_)
    · exact g_mask [true, true, true, true, true, true, true, true, true, true, false, true, true] (hk_149 _ _ _ _ _ _ _ _ ok_t_product ok_t_above ok_t_below ok_v3 ok_v5 ok_v7 ok_v8 ok_v10 hs)
    · refine g_aload_n e_X4_greatestShares_41 rfl ?_
      refine g_aload_n e_X4_greatestShares_42 rfl ?_
      refine g_get 1 1 ao rfl rfl fsX1_g1 fl_X4_63 e_X4_greatestShares_43 ?_
      refine g_iload e_X4_greatestShares_46 rfl ?_
      refine g_aload_n e_X4_greatestShares_48 rfl ?_
      refine g_get 1 0 ao rfl rfl fsX1_g0 fl_X4_72 e_X4_greatestShares_49 ?_
      refine g_iload e_X4_greatestShares_52 rfl ?_
      obtain ⟨y1, hy1, hs⟩ := bind_elim hs
      refine g_callVr [.ref (a_p1 + 5), vI v9, .ref (a_p1 + 1), vI v10] cv_X4_75 ⟨rfl, rfl, Nat.le_of_ble_eq_true rfl, Nat.le_of_ble_eq_true rfl⟩ (Ct_heap (ct_X4_shareOn (AO_call [0, 6, 7, 8, 9, 2, 3, 4, 5] ao (by decide) rfl) (by omega) (by omega) (FA_call [0, 6, 7, 8, 9, 2, 3, 4, 5] ao.1 rfl rfl) ok_t_x ok_t_y ok_t_z ok_t_product ok_t_above ok_t_below ok_p1_planes_many ok_p1_planes_xs ok_p1_planes_ys ok_p1_planes_zs ok_p1_steps_many ok_p1_steps_xs ok_p1_steps_ys ok_p1_steps_zs ok_v9 ok_v10 hy1) (ov_call (esn := [.inr (4, fsX4 a_t t_x t_y t_z y1.2.1 y1.2.2.1 y1.2.2.2), .inr (1, fsX1 a_p1 p1_sightMany), .inr (8, fsX8 (a_p1 + 1) p1_steps_many), IA E 16 p1_steps_xs, IA E 16 p1_steps_ys, IA E 16 p1_steps_zs, .inr (8, fsX8 (a_p1 + 5) p1_planes_many), IA E 16 p1_planes_xs, IA E 16 p1_planes_ys, IA E 16 p1_planes_zs]) [0, 6, 7, 8, 9, 2, 3, 4, 5] ao.1 rfl rfl rfl rfl)) e_X4_greatestShares_54 (ao.2 0 _ rfl) (ov_get 0 ao.1 rfl rfl) rfl rfl rfl (Nat.le_of_ble_eq_true rfl) ⟨Nat.le_refl _, Nat.le_refl _⟩ (fun Py1 => ?_)
      refine g_if_eq e_X4_greatestShares_57 (inZ_I Py1.1) hs (fun c57 hs => ?_) (fun c57 hs => ?_)
      · exact g_X4_greatestShares_143 ao ok_t_x ok_t_y ok_t_z Py1.2.1 Py1.2.2.1 Py1.2.2.2 ok_p1_steps_many ok_p1_steps_xs ok_p1_steps_ys ok_p1_steps_zs ok_p1_planes_many ok_p1_planes_xs ok_p1_planes_ys ok_p1_planes_zs ok_v2 ok_v3 ok_v5 ok_v7 ok_v8 ok_v9 ok_v10 ih hk_149 hs
      · refine g_aload_n e_X4_greatestShares_60 rfl ?_
        refine g_get 0 4 ao rfl rfl fsX4_g4 fl_X4_60 e_X4_greatestShares_61 ?_
        refine g_lconst (a := 0) e_X4_greatestShares_64 rfl ?_
        refine g_lcmp_ne e_X4_greatestShares_65 e_X4_greatestShares_66 Py1.2.2.1 (by decide : inJ 0) hs (fun c65 hs => ?_) (fun c65 hs => ?_)
        · refine g_goto e_X4_greatestShares_69 ?_
          exact g_X4_greatestShares_143 ao ok_t_x ok_t_y ok_t_z Py1.2.1 Py1.2.2.1 Py1.2.2.2 ok_p1_steps_many ok_p1_steps_xs ok_p1_steps_ys ok_p1_steps_zs ok_p1_planes_many ok_p1_planes_xs ok_p1_planes_ys ok_p1_planes_zs ok_v2 ok_v3 ok_v5 ok_v7 ok_v8 ok_v9 ok_v10 ih hk_149 hs
        · refine g_aload_n e_X4_greatestShares_72 rfl ?_
          refine g_get 0 4 ao rfl rfl fsX4_g4 fl_X4_60 e_X4_greatestShares_73 ?_
          refine g_lload e_X4_greatestShares_76 rfl ?_
          refine g_lmul e_X4_greatestShares_78 ?_
          refine g_lload_n e_X4_greatestShares_79 rfl ?_
          refine g_aload_n e_X4_greatestShares_80 rfl ?_
          refine g_get 0 5 ao rfl rfl fsX4_g5 fl_X4_9 e_X4_greatestShares_81 ?_
          refine g_lmul e_X4_greatestShares_84 ?_
          refine g_lsub e_X4_greatestShares_85 ?_
          refine g_lstore e_X4_greatestShares_86 st2_11 rfl ?_
          refine g_lload e_X4_greatestShares_88 rfl ?_
          refine g_lconst (a := 0) e_X4_greatestShares_90 rfl ?_
          obtain ⟨hc3, hs⟩ := chk_elim hs
          refine g_lcmp_le e_X4_greatestShares_91 e_X4_greatestShares_92 hc3 (by decide : inJ 0) hs (fun c91 hs => ?_) (fun c91 hs => ?_)
          · exact g_X4_greatestShares_112 ao ok_t_x ok_t_y ok_t_z Py1.2.1 Py1.2.2.1 Py1.2.2.2 ok_p1_steps_many ok_p1_steps_xs ok_p1_steps_ys ok_p1_steps_zs ok_p1_planes_many ok_p1_planes_xs ok_p1_planes_ys ok_p1_planes_zs ok_v2 ok_v3 ok_v5 ok_v7 ok_v8 ok_v9 ok_v10 hc3 ih hk_149 hs
          · refine g_aload_n e_X4_greatestShares_95 rfl ?_
            refine g_get 0 4 ao rfl rfl fsX4_g4 fl_X4_60 e_X4_greatestShares_96 ?_
            refine g_lstore_n e_X4_greatestShares_99 st2_3 rfl ?_
            refine g_aload_n e_X4_greatestShares_100 rfl ?_
            refine g_get 0 5 ao rfl rfl fsX4_g5 fl_X4_9 e_X4_greatestShares_101 ?_
            refine g_lstore e_X4_greatestShares_104 st2_5 rfl ?_
            refine g_iconst e_X4_greatestShares_106 ?_
            refine g_istore e_X4_greatestShares_107 st1_7 rfl ?_
            refine g_iconst e_X4_greatestShares_109 ?_
            refine g_istore e_X4_greatestShares_110 st1_8 rfl ?_
            exact g_X4_greatestShares_112 ao ok_t_x ok_t_y ok_t_z Py1.2.1 Py1.2.2.1 Py1.2.2.2 ok_p1_steps_many ok_p1_steps_xs ok_p1_steps_ys ok_p1_steps_zs ok_p1_planes_many ok_p1_planes_xs ok_p1_planes_ys ok_p1_planes_zs ok_v2 Py1.2.2.1 Py1.2.2.2 (by decide : inI 0) (by decide : inI (-1)) ok_v9 ok_v10 hc3 ih hk_149 hs

noncomputable def m_X4_greatestShares_149 (t_x : Int) (t_y : Int) (t_z : Int) (t_product : Int) (t_above : Int) (t_below : Int) (p1_steps_many : Int) (p1_steps_xs : Nat → Int) (p1_steps_ys : Nat → Int) (p1_steps_zs : Nat → Int) (p1_planes_many : Int) (p1_planes_xs : Nat → Int) (p1_planes_ys : Nat → Int) (p1_planes_zs : Nat → Int) (v2 : Int) (v3 : Int) (v5 : Int) (v7 : Int) (v8 : Int) (v9 : Int) (ag : Int → Int → Int → Int → Int → Int → Int → Int → Option (Int × Int × Int × Int)) (k_155 : Int → Int → Int → Int → Int → Int → Int → Int → Option (Int × Int × Int × Int)) : Option (Int × Int × Int × Int) :=
  chk (inI (v9 + 1)) (ag t_product t_above t_below v3 v5 v7 v8 (v9 + 1))

set_option maxRecDepth 10000 in
theorem g_X4_greatestShares_149 {l : Launch} {E : EE} {b0 n : Nat} {h : AH} {a_t a_p1 : Nat} {t_x t_y t_z t_product t_above t_below p1_sightMany p1_steps_many p1_planes_many v2 v3 v5 v7 v8 v9 : Int} {p1_steps_xs p1_steps_ys p1_steps_zs p1_planes_xs p1_planes_ys p1_planes_zs : Nat → Int} {r : Int × Int × Int × Int} {ag : Int → Int → Int → Int → Int → Int → Int → Int → Option (Int × Int × Int × Int)} {k_155 : Int → Int → Int → Int → Int → Int → Int → Int → Option (Int × Int × Int × Int)} (ao : AO b0 n [a_t, a_p1, (a_p1 + 1), (a_p1 + 2), (a_p1 + 3), (a_p1 + 4), (a_p1 + 5), (a_p1 + 6), (a_p1 + 7), (a_p1 + 8)]) (ok_t_x : inI t_x) (ok_t_y : inI t_y) (ok_t_z : inI t_z) (ok_t_product : inJ t_product) (ok_t_above : inJ t_above) (ok_t_below : inJ t_below) (ok_p1_steps_many : inI p1_steps_many) (ok_p1_steps_xs : okA p1_steps_xs) (ok_p1_steps_ys : okA p1_steps_ys) (ok_p1_steps_zs : okA p1_steps_zs) (ok_p1_planes_many : inI p1_planes_many) (ok_p1_planes_xs : okA p1_planes_xs) (ok_p1_planes_ys : okA p1_planes_ys) (ok_p1_planes_zs : okA p1_planes_zs) (ok_v2 : inI v2) (ok_v3 : inJ v3) (ok_v5 : inJ v5) (ok_v7 : inI v7) (ok_v8 : inI v8) (ok_v9 : inI v9) (hag : ∀ (t_product_ : Int) (t_above_ : Int) (t_below_ : Int) (v3_ : Int) (v5_ : Int) (v7_ : Int) (v8_ : Int) (v9_ : Int), inJ t_product_ → inJ t_above_ → inJ t_below_ → inJ v3_ → inJ v5_ → inI v7_ → inI v8_ → inI v9_ → ag t_product_ t_above_ t_below_ v3_ v5_ v7_ v8_ v9_ = some r → G l E b0 M_X4_greatestShares (fun _ => True) (ZM E b0 (some (vI r.1)) (ov [a_t, a_p1, (a_p1 + 1), (a_p1 + 2), (a_p1 + 3), (a_p1 + 4), (a_p1 + 5), (a_p1 + 6), (a_p1 + 7), (a_p1 + 8)] [.inr (4, fsX4 a_t t_x t_y t_z r.2.1 r.2.2.1 r.2.2.2), .inr (1, fsX1 a_p1 p1_sightMany), .inr (8, fsX8 (a_p1 + 1) p1_steps_many), IA E 16 p1_steps_xs, IA E 16 p1_steps_ys, IA E 16 p1_steps_zs, .inr (8, fsX8 (a_p1 + 5) p1_planes_many), IA E 16 p1_planes_xs, IA E 16 p1_planes_ys, IA E 16 p1_planes_zs] h) n (inI r.1 ∧ inJ r.2.1 ∧ inJ r.2.2.1 ∧ inJ r.2.2.2) 0 0) 0 0 n (ov [a_t, a_p1, (a_p1 + 1), (a_p1 + 2), (a_p1 + 3), (a_p1 + 4), (a_p1 + 5), (a_p1 + 6), (a_p1 + 7), (a_p1 + 8)] [.inr (4, fsX4 a_t t_x t_y t_z t_product_ t_above_ t_below_), .inr (1, fsX1 a_p1 p1_sightMany), .inr (8, fsX8 (a_p1 + 1) p1_steps_many), IA E 16 p1_steps_xs, IA E 16 p1_steps_ys, IA E 16 p1_steps_zs, .inr (8, fsX8 (a_p1 + 5) p1_planes_many), IA E 16 p1_planes_xs, IA E 16 p1_planes_ys, IA E 16 p1_planes_zs] h) 14 [some (.ref a_t), some (.ref a_p1), some (vI v2), some (vJ v3_), none, some (vJ v5_), none, some (vI v7_), some (vI v8_), some (vI v9_), none, none, none] []) (hk_155 : ∀ (t_product_ : Int) (t_above_ : Int) (t_below_ : Int) (v3_ : Int) (v5_ : Int) (v7_ : Int) (v8_ : Int) (v9_ : Int), inJ t_product_ → inJ t_above_ → inJ t_below_ → inJ v3_ → inJ v5_ → inI v7_ → inI v8_ → inI v9_ → k_155 t_product_ t_above_ t_below_ v3_ v5_ v7_ v8_ v9_ = some r → G l E b0 M_X4_greatestShares (fun _ => True) (ZM E b0 (some (vI r.1)) (ov [a_t, a_p1, (a_p1 + 1), (a_p1 + 2), (a_p1 + 3), (a_p1 + 4), (a_p1 + 5), (a_p1 + 6), (a_p1 + 7), (a_p1 + 8)] [.inr (4, fsX4 a_t t_x t_y t_z r.2.1 r.2.2.1 r.2.2.2), .inr (1, fsX1 a_p1 p1_sightMany), .inr (8, fsX8 (a_p1 + 1) p1_steps_many), IA E 16 p1_steps_xs, IA E 16 p1_steps_ys, IA E 16 p1_steps_zs, .inr (8, fsX8 (a_p1 + 5) p1_planes_many), IA E 16 p1_planes_xs, IA E 16 p1_planes_ys, IA E 16 p1_planes_zs] h) n (inI r.1 ∧ inJ r.2.1 ∧ inJ r.2.2.1 ∧ inJ r.2.2.2) 0 0) 0 0 n (ov [a_t, a_p1, (a_p1 + 1), (a_p1 + 2), (a_p1 + 3), (a_p1 + 4), (a_p1 + 5), (a_p1 + 6), (a_p1 + 7), (a_p1 + 8)] [.inr (4, fsX4 a_t t_x t_y t_z t_product_ t_above_ t_below_), .inr (1, fsX1 a_p1 p1_sightMany), .inr (8, fsX8 (a_p1 + 1) p1_steps_many), IA E 16 p1_steps_xs, IA E 16 p1_steps_ys, IA E 16 p1_steps_zs, .inr (8, fsX8 (a_p1 + 5) p1_planes_many), IA E 16 p1_planes_xs, IA E 16 p1_planes_ys, IA E 16 p1_planes_zs] h) 155 [none, none, some (vI v2), none, none, none, none, some (vI v7_), some (vI v8_), none, none, none, none] []) (hs : m_X4_greatestShares_149 t_x t_y t_z t_product t_above t_below p1_steps_many p1_steps_xs p1_steps_ys p1_steps_zs p1_planes_many p1_planes_xs p1_planes_ys p1_planes_zs v2 v3 v5 v7 v8 v9 ag k_155 = some r) : G l E b0 M_X4_greatestShares (fun _ => True) (ZM E b0 (some (vI r.1)) (ov [a_t, a_p1, (a_p1 + 1), (a_p1 + 2), (a_p1 + 3), (a_p1 + 4), (a_p1 + 5), (a_p1 + 6), (a_p1 + 7), (a_p1 + 8)] [.inr (4, fsX4 a_t t_x t_y t_z r.2.1 r.2.2.1 r.2.2.2), .inr (1, fsX1 a_p1 p1_sightMany), .inr (8, fsX8 (a_p1 + 1) p1_steps_many), IA E 16 p1_steps_xs, IA E 16 p1_steps_ys, IA E 16 p1_steps_zs, .inr (8, fsX8 (a_p1 + 5) p1_planes_many), IA E 16 p1_planes_xs, IA E 16 p1_planes_ys, IA E 16 p1_planes_zs] h) n (inI r.1 ∧ inJ r.2.1 ∧ inJ r.2.2.1 ∧ inJ r.2.2.2) 0 0) 0 0 n (ov [a_t, a_p1, (a_p1 + 1), (a_p1 + 2), (a_p1 + 3), (a_p1 + 4), (a_p1 + 5), (a_p1 + 6), (a_p1 + 7), (a_p1 + 8)] [.inr (4, fsX4 a_t t_x t_y t_z t_product t_above t_below), .inr (1, fsX1 a_p1 p1_sightMany), .inr (8, fsX8 (a_p1 + 1) p1_steps_many), IA E 16 p1_steps_xs, IA E 16 p1_steps_ys, IA E 16 p1_steps_zs, .inr (8, fsX8 (a_p1 + 5) p1_planes_many), IA E 16 p1_planes_xs, IA E 16 p1_planes_ys, IA E 16 p1_planes_zs] h) 149 [some (.ref a_t), some (.ref a_p1), some (vI v2), some (vJ v3), none, some (vJ v5), none, some (vI v7), some (vI v8), some (vI v9), none, none, none] [] := by
  rw [m_X4_greatestShares_149] at hs
  refine g_iinc e_X4_greatestShares_149 rfl st1_9 rfl ?_
  refine g_goto e_X4_greatestShares_152 ?_
  obtain ⟨hc6, hs⟩ := chk_elim hs
  exact hag _ _ _ _ _ _ _ _ ok_t_product ok_t_above ok_t_below ok_v3 ok_v5 ok_v7 ok_v8 hc6 hs

noncomputable def m_X4_greatestShares_14 (t_x : Int) (t_y : Int) (t_z : Int) (p1_steps_many : Int) (p1_steps_xs : Nat → Int) (p1_steps_ys : Nat → Int) (p1_steps_zs : Nat → Int) (p1_planes_many : Int) (p1_planes_xs : Nat → Int) (p1_planes_ys : Nat → Int) (p1_planes_zs : Nat → Int) (v2 : Int) (k_155 : Int → Int → Int → Int → Int → Int → Int → Int → Option (Int × Int × Int × Int)) : Nat → Int → Int → Int → Int → Int → Int → Int → Int → Option (Int × Int × Int × Int)
  | 0, _, _, _, _, _, _, _, _ => none
  | F + 1, t_product, t_above, t_below, v3, v5, v7, v8, v9 => if p1_planes_many ≤ v9 then (k_155 t_product t_above t_below v3 v5 v7 v8 v9) else (m_X4_greatestShares_29 t_x t_y t_z p1_steps_many p1_steps_xs p1_steps_ys p1_steps_zs p1_planes_many p1_planes_xs p1_planes_ys p1_planes_zs v2 v9 (fun t_product' t_above' t_below' v3' v5' v7' v8' v10' => m_X4_greatestShares_149 t_x t_y t_z t_product' t_above' t_below' p1_steps_many p1_steps_xs p1_steps_ys p1_steps_zs p1_planes_many p1_planes_xs p1_planes_ys p1_planes_zs v2 v3' v5' v7' v8' v9 (m_X4_greatestShares_14 t_x t_y t_z p1_steps_many p1_steps_xs p1_steps_ys p1_steps_zs p1_planes_many p1_planes_xs p1_planes_ys p1_planes_zs v2 k_155 F) k_155) FU t_product t_above t_below v3 v5 v7 v8 0)

set_option maxRecDepth 10000 in
theorem g_X4_greatestShares_14 {l : Launch} {E : EE} {b0 n : Nat} {h : AH} {a_t a_p1 : Nat} {t_x t_y t_z p1_sightMany p1_steps_many p1_planes_many v2 : Int} {p1_steps_xs p1_steps_ys p1_steps_zs p1_planes_xs p1_planes_ys p1_planes_zs : Nat → Int} {r : Int × Int × Int × Int} {k_155 : Int → Int → Int → Int → Int → Int → Int → Int → Option (Int × Int × Int × Int)} (ao : AO b0 n [a_t, a_p1, (a_p1 + 1), (a_p1 + 2), (a_p1 + 3), (a_p1 + 4), (a_p1 + 5), (a_p1 + 6), (a_p1 + 7), (a_p1 + 8)]) (ok_t_x : inI t_x) (ok_t_y : inI t_y) (ok_t_z : inI t_z) (ok_p1_steps_many : inI p1_steps_many) (ok_p1_steps_xs : okA p1_steps_xs) (ok_p1_steps_ys : okA p1_steps_ys) (ok_p1_steps_zs : okA p1_steps_zs) (ok_p1_planes_many : inI p1_planes_many) (ok_p1_planes_xs : okA p1_planes_xs) (ok_p1_planes_ys : okA p1_planes_ys) (ok_p1_planes_zs : okA p1_planes_zs) (ok_v2 : inI v2) (hk_155 : ∀ (t_product_ : Int) (t_above_ : Int) (t_below_ : Int) (v3_ : Int) (v5_ : Int) (v7_ : Int) (v8_ : Int) (v9_ : Int), inJ t_product_ → inJ t_above_ → inJ t_below_ → inJ v3_ → inJ v5_ → inI v7_ → inI v8_ → inI v9_ → k_155 t_product_ t_above_ t_below_ v3_ v5_ v7_ v8_ v9_ = some r → G l E b0 M_X4_greatestShares (fun _ => True) (ZM E b0 (some (vI r.1)) (ov [a_t, a_p1, (a_p1 + 1), (a_p1 + 2), (a_p1 + 3), (a_p1 + 4), (a_p1 + 5), (a_p1 + 6), (a_p1 + 7), (a_p1 + 8)] [.inr (4, fsX4 a_t t_x t_y t_z r.2.1 r.2.2.1 r.2.2.2), .inr (1, fsX1 a_p1 p1_sightMany), .inr (8, fsX8 (a_p1 + 1) p1_steps_many), IA E 16 p1_steps_xs, IA E 16 p1_steps_ys, IA E 16 p1_steps_zs, .inr (8, fsX8 (a_p1 + 5) p1_planes_many), IA E 16 p1_planes_xs, IA E 16 p1_planes_ys, IA E 16 p1_planes_zs] h) n (inI r.1 ∧ inJ r.2.1 ∧ inJ r.2.2.1 ∧ inJ r.2.2.2) 0 0) 0 0 n (ov [a_t, a_p1, (a_p1 + 1), (a_p1 + 2), (a_p1 + 3), (a_p1 + 4), (a_p1 + 5), (a_p1 + 6), (a_p1 + 7), (a_p1 + 8)] [.inr (4, fsX4 a_t t_x t_y t_z t_product_ t_above_ t_below_), .inr (1, fsX1 a_p1 p1_sightMany), .inr (8, fsX8 (a_p1 + 1) p1_steps_many), IA E 16 p1_steps_xs, IA E 16 p1_steps_ys, IA E 16 p1_steps_zs, .inr (8, fsX8 (a_p1 + 5) p1_planes_many), IA E 16 p1_planes_xs, IA E 16 p1_planes_ys, IA E 16 p1_planes_zs] h) 155 [none, none, some (vI v2), none, none, none, none, some (vI v7_), some (vI v8_), none, none, none, none] []) :
    ∀ (F : Nat) (t_product : Int) (t_above : Int) (t_below : Int) (v3 : Int) (v5 : Int) (v7 : Int) (v8 : Int) (v9 : Int), inJ t_product → inJ t_above → inJ t_below → inJ v3 → inJ v5 → inI v7 → inI v8 → inI v9 → m_X4_greatestShares_14 t_x t_y t_z p1_steps_many p1_steps_xs p1_steps_ys p1_steps_zs p1_planes_many p1_planes_xs p1_planes_ys p1_planes_zs v2 k_155 F t_product t_above t_below v3 v5 v7 v8 v9 = some r → G l E b0 M_X4_greatestShares (fun _ => True) (ZM E b0 (some (vI r.1)) (ov [a_t, a_p1, (a_p1 + 1), (a_p1 + 2), (a_p1 + 3), (a_p1 + 4), (a_p1 + 5), (a_p1 + 6), (a_p1 + 7), (a_p1 + 8)] [.inr (4, fsX4 a_t t_x t_y t_z r.2.1 r.2.2.1 r.2.2.2), .inr (1, fsX1 a_p1 p1_sightMany), .inr (8, fsX8 (a_p1 + 1) p1_steps_many), IA E 16 p1_steps_xs, IA E 16 p1_steps_ys, IA E 16 p1_steps_zs, .inr (8, fsX8 (a_p1 + 5) p1_planes_many), IA E 16 p1_planes_xs, IA E 16 p1_planes_ys, IA E 16 p1_planes_zs] h) n (inI r.1 ∧ inJ r.2.1 ∧ inJ r.2.2.1 ∧ inJ r.2.2.2) 0 0) 0 0 n (ov [a_t, a_p1, (a_p1 + 1), (a_p1 + 2), (a_p1 + 3), (a_p1 + 4), (a_p1 + 5), (a_p1 + 6), (a_p1 + 7), (a_p1 + 8)] [.inr (4, fsX4 a_t t_x t_y t_z t_product t_above t_below), .inr (1, fsX1 a_p1 p1_sightMany), .inr (8, fsX8 (a_p1 + 1) p1_steps_many), IA E 16 p1_steps_xs, IA E 16 p1_steps_ys, IA E 16 p1_steps_zs, .inr (8, fsX8 (a_p1 + 5) p1_planes_many), IA E 16 p1_planes_xs, IA E 16 p1_planes_ys, IA E 16 p1_planes_zs] h) 14 [some (.ref a_t), some (.ref a_p1), some (vI v2), some (vJ v3), none, some (vJ v5), none, some (vI v7), some (vI v8), some (vI v9), none, none, none] [] := by
  intro F
  induction F with
  | zero =>
    intro t_product t_above t_below v3 v5 v7 v8 v9 ok_t_product ok_t_above ok_t_below ok_v3 ok_v5 ok_v7 ok_v8 ok_v9 hs
    rw [m_X4_greatestShares_14] at hs
    cases hs
  | succ F ih =>
    intro t_product t_above t_below v3 v5 v7 v8 v9 ok_t_product ok_t_above ok_t_below ok_v3 ok_v5 ok_v7 ok_v8 ok_v9 hs
    rw [m_X4_greatestShares_14] at hs
    refine g_iload e_X4_greatestShares_14 rfl ?_
    refine g_aload_n e_X4_greatestShares_16 rfl ?_
    refine g_get 1 1 ao rfl rfl fsX1_g1 fl_X4_63 e_X4_greatestShares_17 ?_
    refine g_get 6 3 ao rfl rfl fsX8_g3 fl_X4_69 e_X4_greatestShares_20 ?_
    refine g_icmp_ge e_X4_greatestShares_23 ok_v9 ok_p1_planes_many hs (fun c23 hs => ?_) (fun c23 hs => ?_)
    · exact g_mask [false, false, true, false, true, false, true, true, true, false, true, true, true] (hk_155 _ _ _ _ _ _ _ _ ok_t_product ok_t_above ok_t_below ok_v3 ok_v5 ok_v7 ok_v8 ok_v9 hs)
    · refine g_iconst e_X4_greatestShares_26 ?_
      refine g_istore e_X4_greatestShares_27 st1_10 rfl ?_
      exact g_X4_greatestShares_29 ao ok_t_x ok_t_y ok_t_z ok_p1_steps_many ok_p1_steps_xs ok_p1_steps_ys ok_p1_steps_zs ok_p1_planes_many ok_p1_planes_xs ok_p1_planes_ys ok_p1_planes_zs ok_v2 ok_v9 (hk_149 := by
      intro t_product' t_above' t_below' v3' v5' v7' v8' v10' ok_t_product' ok_t_above' ok_t_below' ok_v3' ok_v5' ok_v7' ok_v8' ok_v10' hs
      exact g_X4_greatestShares_149 ao ok_t_x ok_t_y ok_t_z ok_t_product' ok_t_above' ok_t_below' ok_p1_steps_many ok_p1_steps_xs ok_p1_steps_ys ok_p1_steps_zs ok_p1_planes_many ok_p1_planes_xs ok_p1_planes_ys ok_p1_planes_zs ok_v2 ok_v3' ok_v5' ok_v7' ok_v8' ok_v9 ih hk_155 hs) FU _ _ _ _ _ _ _ _ ok_t_product ok_t_above ok_t_below ok_v3 ok_v5 ok_v7 ok_v8 (by decide : inI 0) hs

noncomputable def m_X4_greatestShares_155 (t_product : Int) (t_above : Int) (t_below : Int) (v2 : Int) (v7 : Int) (v8 : Int) : Option (Int × Int × Int × Int) :=
  if v2 = (-1) then (some (v7, t_product, t_above, t_below)) else (some (v8, t_product, t_above, t_below))

set_option maxRecDepth 10000 in
theorem g_X4_greatestShares_155 {l : Launch} {E : EE} {b0 n : Nat} {h : AH} {a_t a_p1 : Nat} {t_x t_y t_z t_product t_above t_below p1_sightMany p1_steps_many p1_planes_many v2 v7 v8 : Int} {p1_steps_xs p1_steps_ys p1_steps_zs p1_planes_xs p1_planes_ys p1_planes_zs : Nat → Int} {r : Int × Int × Int × Int} (ao : AO b0 n [a_t, a_p1, (a_p1 + 1), (a_p1 + 2), (a_p1 + 3), (a_p1 + 4), (a_p1 + 5), (a_p1 + 6), (a_p1 + 7), (a_p1 + 8)]) (ok_t_x : inI t_x) (ok_t_y : inI t_y) (ok_t_z : inI t_z) (ok_t_product : inJ t_product) (ok_t_above : inJ t_above) (ok_t_below : inJ t_below) (ok_p1_steps_many : inI p1_steps_many) (ok_p1_steps_xs : okA p1_steps_xs) (ok_p1_steps_ys : okA p1_steps_ys) (ok_p1_steps_zs : okA p1_steps_zs) (ok_p1_planes_many : inI p1_planes_many) (ok_p1_planes_xs : okA p1_planes_xs) (ok_p1_planes_ys : okA p1_planes_ys) (ok_p1_planes_zs : okA p1_planes_zs) (ok_v2 : inI v2) (ok_v7 : inI v7) (ok_v8 : inI v8) (hs : m_X4_greatestShares_155 t_product t_above t_below v2 v7 v8 = some r) : G l E b0 M_X4_greatestShares (fun _ => True) (ZM E b0 (some (vI r.1)) (ov [a_t, a_p1, (a_p1 + 1), (a_p1 + 2), (a_p1 + 3), (a_p1 + 4), (a_p1 + 5), (a_p1 + 6), (a_p1 + 7), (a_p1 + 8)] [.inr (4, fsX4 a_t t_x t_y t_z r.2.1 r.2.2.1 r.2.2.2), .inr (1, fsX1 a_p1 p1_sightMany), .inr (8, fsX8 (a_p1 + 1) p1_steps_many), IA E 16 p1_steps_xs, IA E 16 p1_steps_ys, IA E 16 p1_steps_zs, .inr (8, fsX8 (a_p1 + 5) p1_planes_many), IA E 16 p1_planes_xs, IA E 16 p1_planes_ys, IA E 16 p1_planes_zs] h) n (inI r.1 ∧ inJ r.2.1 ∧ inJ r.2.2.1 ∧ inJ r.2.2.2) 0 0) 0 0 n (ov [a_t, a_p1, (a_p1 + 1), (a_p1 + 2), (a_p1 + 3), (a_p1 + 4), (a_p1 + 5), (a_p1 + 6), (a_p1 + 7), (a_p1 + 8)] [.inr (4, fsX4 a_t t_x t_y t_z t_product t_above t_below), .inr (1, fsX1 a_p1 p1_sightMany), .inr (8, fsX8 (a_p1 + 1) p1_steps_many), IA E 16 p1_steps_xs, IA E 16 p1_steps_ys, IA E 16 p1_steps_zs, .inr (8, fsX8 (a_p1 + 5) p1_planes_many), IA E 16 p1_planes_xs, IA E 16 p1_planes_ys, IA E 16 p1_planes_zs] h) 155 [none, none, some (vI v2), none, none, none, none, some (vI v7), some (vI v8), none, none, none, none] [] := by
  rw [m_X4_greatestShares_155] at hs
  refine g_iload_n e_X4_greatestShares_155 rfl ?_
  refine g_iconst e_X4_greatestShares_156 ?_
  refine g_icmp_ne e_X4_greatestShares_157 ok_v2 (by decide : inI (-1)) hs (fun c157 hs => ?_) (fun c157 hs => ?_)
  · refine g_iload e_X4_greatestShares_160 rfl ?_
    refine g_goto e_X4_greatestShares_162 ?_
    obtain rfl := Option.some.inj hs
    exact g_iret rfl ⟨ok_v7, ok_t_product, ok_t_above, ok_t_below⟩ e_X4_greatestShares_167
  · refine g_iload e_X4_greatestShares_165 rfl ?_
    obtain rfl := Option.some.inj hs
    exact g_iret rfl ⟨ok_v8, ok_t_product, ok_t_above, ok_t_below⟩ e_X4_greatestShares_167

noncomputable def m_X4_greatestShares_0 (t_x : Int) (t_y : Int) (t_z : Int) (t_product : Int) (t_above : Int) (t_below : Int) (p1_steps_many : Int) (p1_steps_xs : Nat → Int) (p1_steps_ys : Nat → Int) (p1_steps_zs : Nat → Int) (p1_planes_many : Int) (p1_planes_xs : Nat → Int) (p1_planes_ys : Nat → Int) (p1_planes_zs : Nat → Int) (v2 : Int) : Option (Int × Int × Int × Int) :=
  m_X4_greatestShares_14 t_x t_y t_z p1_steps_many p1_steps_xs p1_steps_ys p1_steps_zs p1_planes_many p1_planes_xs p1_planes_ys p1_planes_zs v2 (fun t_product' t_above' t_below' v3' v5' v7' v8' v9' => m_X4_greatestShares_155 t_product' t_above' t_below' v2 v7' v8') FU t_product t_above t_below 0 1 0 (-1) 0

set_option maxRecDepth 10000 in
theorem g_X4_greatestShares_0 {l : Launch} {E : EE} {b0 n : Nat} {h : AH} {a_t a_p1 : Nat} {t_x t_y t_z t_product t_above t_below p1_sightMany p1_steps_many p1_planes_many v2 : Int} {p1_steps_xs p1_steps_ys p1_steps_zs p1_planes_xs p1_planes_ys p1_planes_zs : Nat → Int} {r : Int × Int × Int × Int} (ao : AO b0 n [a_t, a_p1, (a_p1 + 1), (a_p1 + 2), (a_p1 + 3), (a_p1 + 4), (a_p1 + 5), (a_p1 + 6), (a_p1 + 7), (a_p1 + 8)]) (ok_t_x : inI t_x) (ok_t_y : inI t_y) (ok_t_z : inI t_z) (ok_t_product : inJ t_product) (ok_t_above : inJ t_above) (ok_t_below : inJ t_below) (ok_p1_steps_many : inI p1_steps_many) (ok_p1_steps_xs : okA p1_steps_xs) (ok_p1_steps_ys : okA p1_steps_ys) (ok_p1_steps_zs : okA p1_steps_zs) (ok_p1_planes_many : inI p1_planes_many) (ok_p1_planes_xs : okA p1_planes_xs) (ok_p1_planes_ys : okA p1_planes_ys) (ok_p1_planes_zs : okA p1_planes_zs) (ok_v2 : inI v2) (hs : m_X4_greatestShares_0 t_x t_y t_z t_product t_above t_below p1_steps_many p1_steps_xs p1_steps_ys p1_steps_zs p1_planes_many p1_planes_xs p1_planes_ys p1_planes_zs v2 = some r) : G l E b0 M_X4_greatestShares (fun _ => True) (ZM E b0 (some (vI r.1)) (ov [a_t, a_p1, (a_p1 + 1), (a_p1 + 2), (a_p1 + 3), (a_p1 + 4), (a_p1 + 5), (a_p1 + 6), (a_p1 + 7), (a_p1 + 8)] [.inr (4, fsX4 a_t t_x t_y t_z r.2.1 r.2.2.1 r.2.2.2), .inr (1, fsX1 a_p1 p1_sightMany), .inr (8, fsX8 (a_p1 + 1) p1_steps_many), IA E 16 p1_steps_xs, IA E 16 p1_steps_ys, IA E 16 p1_steps_zs, .inr (8, fsX8 (a_p1 + 5) p1_planes_many), IA E 16 p1_planes_xs, IA E 16 p1_planes_ys, IA E 16 p1_planes_zs] h) n (inI r.1 ∧ inJ r.2.1 ∧ inJ r.2.2.1 ∧ inJ r.2.2.2) 0 0) 0 0 n (ov [a_t, a_p1, (a_p1 + 1), (a_p1 + 2), (a_p1 + 3), (a_p1 + 4), (a_p1 + 5), (a_p1 + 6), (a_p1 + 7), (a_p1 + 8)] [.inr (4, fsX4 a_t t_x t_y t_z t_product t_above t_below), .inr (1, fsX1 a_p1 p1_sightMany), .inr (8, fsX8 (a_p1 + 1) p1_steps_many), IA E 16 p1_steps_xs, IA E 16 p1_steps_ys, IA E 16 p1_steps_zs, .inr (8, fsX8 (a_p1 + 5) p1_planes_many), IA E 16 p1_planes_xs, IA E 16 p1_planes_ys, IA E 16 p1_planes_zs] h) 0 [some (.ref a_t), some (.ref a_p1), some (vI v2), none, none, none, none, none, none, none, none, none, none] [] := by
  rw [m_X4_greatestShares_0] at hs
  refine g_lconst (a := 0) e_X4_greatestShares_0 rfl ?_
  refine g_lstore_n e_X4_greatestShares_1 st2_3 rfl ?_
  refine g_lconst (a := 1) e_X4_greatestShares_2 rfl ?_
  refine g_lstore e_X4_greatestShares_3 st2_5 rfl ?_
  refine g_iconst e_X4_greatestShares_5 ?_
  refine g_istore e_X4_greatestShares_6 st1_7 rfl ?_
  refine g_iconst e_X4_greatestShares_8 ?_
  refine g_istore e_X4_greatestShares_9 st1_8 rfl ?_
  refine g_iconst e_X4_greatestShares_11 ?_
  refine g_istore e_X4_greatestShares_12 st1_9 rfl ?_
  exact g_X4_greatestShares_14 ao ok_t_x ok_t_y ok_t_z ok_p1_steps_many ok_p1_steps_xs ok_p1_steps_ys ok_p1_steps_zs ok_p1_planes_many ok_p1_planes_xs ok_p1_planes_ys ok_p1_planes_zs ok_v2 (hk_155 := by
      intro t_product' t_above' t_below' v3' v5' v7' v8' v9' ok_t_product' ok_t_above' ok_t_below' ok_v3' ok_v5' ok_v7' ok_v8' ok_v9' hs
      exact g_X4_greatestShares_155 ao ok_t_x ok_t_y ok_t_z ok_t_product' ok_t_above' ok_t_below' ok_p1_steps_many ok_p1_steps_xs ok_p1_steps_ys ok_p1_steps_zs ok_p1_planes_many ok_p1_planes_xs ok_p1_planes_ys ok_p1_planes_zs ok_v2 ok_v7' ok_v8' hs) FU _ _ _ _ _ _ _ _ ok_t_product ok_t_above ok_t_below (by decide : inJ 0) (by decide : inJ 1) (by decide : inI 0) (by decide : inI (-1)) (by decide : inI 0) hs

noncomputable def m_X4_greatestShares (t_x : Int) (t_y : Int) (t_z : Int) (t_product : Int) (t_above : Int) (t_below : Int) (p1_steps_many : Int) (p1_steps_xs : Nat → Int) (p1_steps_ys : Nat → Int) (p1_steps_zs : Nat → Int) (p1_planes_many : Int) (p1_planes_xs : Nat → Int) (p1_planes_ys : Nat → Int) (p1_planes_zs : Nat → Int) (v2 : Int) : Option (Int × Int × Int × Int) := m_X4_greatestShares_0 t_x t_y t_z t_product t_above t_below p1_steps_many p1_steps_xs p1_steps_ys p1_steps_zs p1_planes_many p1_planes_xs p1_planes_ys p1_planes_zs v2

set_option maxRecDepth 10000 in
theorem ct_X4_greatestShares {l : Launch} {E : EE} {b0 n : Nat} {h : AH} {a_t a_p1 : Nat} {t_x t_y t_z t_product t_above t_below p1_sightMany p1_steps_many p1_planes_many : Int} {p1_steps_xs p1_steps_ys p1_steps_zs p1_planes_xs p1_planes_ys p1_planes_zs : Nat → Int} {v2 : Int} (ao : AO b0 n [a_t, a_p1, (a_p1 + 1), (a_p1 + 2), (a_p1 + 3), (a_p1 + 4), (a_p1 + 5), (a_p1 + 6), (a_p1 + 7), (a_p1 + 8)]) (hf : FA h [a_t, a_p1, (a_p1 + 1), (a_p1 + 2), (a_p1 + 3), (a_p1 + 4), (a_p1 + 5), (a_p1 + 6), (a_p1 + 7), (a_p1 + 8)] [.inr (4, fsX4 a_t t_x t_y t_z t_product t_above t_below), .inr (1, fsX1 a_p1 p1_sightMany), .inr (8, fsX8 (a_p1 + 1) p1_steps_many), IA E 16 p1_steps_xs, IA E 16 p1_steps_ys, IA E 16 p1_steps_zs, .inr (8, fsX8 (a_p1 + 5) p1_planes_many), IA E 16 p1_planes_xs, IA E 16 p1_planes_ys, IA E 16 p1_planes_zs]) (ok_t_x : inI t_x) (ok_t_y : inI t_y) (ok_t_z : inI t_z) (ok_t_product : inJ t_product) (ok_t_above : inJ t_above) (ok_t_below : inJ t_below) (ok_p1_steps_many : inI p1_steps_many) (ok_p1_steps_xs : okA p1_steps_xs) (ok_p1_steps_ys : okA p1_steps_ys) (ok_p1_steps_zs : okA p1_steps_zs) (ok_p1_planes_many : inI p1_planes_many) (ok_p1_planes_xs : okA p1_planes_xs) (ok_p1_planes_ys : okA p1_planes_ys) (ok_p1_planes_zs : okA p1_planes_zs) (ok_v2 : inI v2) {r : Int × Int × Int × Int} (hm : m_X4_greatestShares t_x t_y t_z t_product t_above t_below p1_steps_many p1_steps_xs p1_steps_ys p1_steps_zs p1_planes_many p1_planes_xs p1_planes_ys p1_planes_zs v2 = some r) : Ct l E b0 M_X4_greatestShares 0 0 [.ref a_t, .ref a_p1, vI v2] h n (some (vI r.1)) (ov [a_t, a_p1, (a_p1 + 1), (a_p1 + 2), (a_p1 + 3), (a_p1 + 4), (a_p1 + 5), (a_p1 + 6), (a_p1 + 7), (a_p1 + 8)] [.inr (4, fsX4 a_t t_x t_y t_z r.2.1 r.2.2.1 r.2.2.2), .inr (1, fsX1 a_p1 p1_sightMany), .inr (8, fsX8 (a_p1 + 1) p1_steps_many), IA E 16 p1_steps_xs, IA E 16 p1_steps_ys, IA E 16 p1_steps_zs, .inr (8, fsX8 (a_p1 + 5) p1_planes_many), IA E 16 p1_planes_xs, IA E 16 p1_planes_ys, IA E 16 p1_planes_zs] h) n (inI r.1 ∧ inJ r.2.1 ∧ inJ r.2.2.1 ∧ inJ r.2.2.2) := by
  rw [m_X4_greatestShares] at hm
  have hg : G l E b0 M_X4_greatestShares (fun _ => True) (ZM E b0 (some (vI r.1)) (ov [a_t, a_p1, (a_p1 + 1), (a_p1 + 2), (a_p1 + 3), (a_p1 + 4), (a_p1 + 5), (a_p1 + 6), (a_p1 + 7), (a_p1 + 8)] [.inr (4, fsX4 a_t t_x t_y t_z r.2.1 r.2.2.1 r.2.2.2), .inr (1, fsX1 a_p1 p1_sightMany), .inr (8, fsX8 (a_p1 + 1) p1_steps_many), IA E 16 p1_steps_xs, IA E 16 p1_steps_ys, IA E 16 p1_steps_zs, .inr (8, fsX8 (a_p1 + 5) p1_planes_many), IA E 16 p1_planes_xs, IA E 16 p1_planes_ys, IA E 16 p1_planes_zs] h) n (inI r.1 ∧ inJ r.2.1 ∧ inJ r.2.2.1 ∧ inJ r.2.2.2) 0 0) 0 0 n (ov [a_t, a_p1, (a_p1 + 1), (a_p1 + 2), (a_p1 + 3), (a_p1 + 4), (a_p1 + 5), (a_p1 + 6), (a_p1 + 7), (a_p1 + 8)] [.inr (4, fsX4 a_t t_x t_y t_z t_product t_above t_below), .inr (1, fsX1 a_p1 p1_sightMany), .inr (8, fsX8 (a_p1 + 1) p1_steps_many), IA E 16 p1_steps_xs, IA E 16 p1_steps_ys, IA E 16 p1_steps_zs, .inr (8, fsX8 (a_p1 + 5) p1_planes_many), IA E 16 p1_planes_xs, IA E 16 p1_planes_ys, IA E 16 p1_planes_zs] h) 0 [some (.ref a_t), some (.ref a_p1), some (vI v2), none, none, none, none, none, none, none, none, none, none] [] := by
    have hs := hm
    exact g_X4_greatestShares_0 ao ok_t_x ok_t_y ok_t_z ok_t_product ok_t_above ok_t_below ok_p1_steps_many ok_p1_steps_xs ok_p1_steps_ys ok_p1_steps_zs ok_p1_planes_many ok_p1_planes_xs ok_p1_planes_ys ok_p1_planes_zs ok_v2 hs
  rw [FA_id hf] at hg
  exact Ct_of [some (.ref a_t), some (.ref a_p1), some (vI v2), none, none, none, none, none, none, none, none, none, none] ⟨by decide +kernel, rfl⟩ rfl (Nat.le_of_ble_eq_true rfl) hg

/-! ===== X4_tell ===== -/
theorem e_X4_tell_0 : DC cX4_tell 0 (.iload_n 1) 1 1 := ⟨by decide +kernel, rfl⟩
theorem e_X4_tell_1 : DC cX4_tell 1 (.invokestatic 15) 3 4 := ⟨by decide +kernel, rfl⟩
theorem e_X4_tell_4 : DB cX4_tell 4 (.ifCond .eq 29) (29) 3 7 33 := ⟨by decide +kernel, rfl, rfl⟩
theorem e_X4_tell_7 : DC cX4_tell 7 (.iload_n 2) 1 8 := ⟨by decide +kernel, rfl⟩
theorem e_X4_tell_8 : DC cX4_tell 8 (.invokestatic 15) 3 11 := ⟨by decide +kernel, rfl⟩
theorem e_X4_tell_11 : DB cX4_tell 11 (.ifCond .eq 22) (22) 3 14 33 := ⟨by decide +kernel, rfl, rfl⟩
theorem e_X4_tell_14 : DC cX4_tell 14 (.iload_n 3) 1 15 := ⟨by decide +kernel, rfl⟩
theorem e_X4_tell_15 : DC cX4_tell 15 (.invokestatic 15) 3 18 := ⟨by decide +kernel, rfl⟩
theorem e_X4_tell_18 : DB cX4_tell 18 (.ifCond .eq 15) (15) 3 21 33 := ⟨by decide +kernel, rfl, rfl⟩
theorem e_X4_tell_21 : DC cX4_tell 21 (.iload_n 1) 1 22 := ⟨by decide +kernel, rfl⟩
theorem e_X4_tell_22 : DB cX4_tell 22 (.ifCond .ne 13) (13) 3 25 35 := ⟨by decide +kernel, rfl, rfl⟩
theorem e_X4_tell_25 : DC cX4_tell 25 (.iload_n 2) 1 26 := ⟨by decide +kernel, rfl⟩
theorem e_X4_tell_26 : DB cX4_tell 26 (.ifCond .ne 9) (9) 3 29 35 := ⟨by decide +kernel, rfl, rfl⟩
theorem e_X4_tell_29 : DC cX4_tell 29 (.iload_n 3) 1 30 := ⟨by decide +kernel, rfl⟩
theorem e_X4_tell_30 : DB cX4_tell 30 (.ifCond .ne 5) (5) 3 33 35 := ⟨by decide +kernel, rfl, rfl⟩
theorem e_X4_tell_33 : DC cX4_tell 33 (.iconst 0) 1 34 := ⟨by decide +kernel, rfl⟩
theorem e_X4_tell_34 : DC cX4_tell 34 (.ireturn) 1 35 := ⟨by decide +kernel, rfl⟩
theorem e_X4_tell_35 : DC cX4_tell 35 (.aload_n 0) 1 36 := ⟨by decide +kernel, rfl⟩
theorem e_X4_tell_36 : DC cX4_tell 36 (.iload_n 1) 1 37 := ⟨by decide +kernel, rfl⟩
theorem e_X4_tell_37 : DC cX4_tell 37 (.putfield 19) 3 40 := ⟨by decide +kernel, rfl⟩
theorem e_X4_tell_40 : DC cX4_tell 40 (.aload_n 0) 1 41 := ⟨by decide +kernel, rfl⟩
theorem e_X4_tell_41 : DC cX4_tell 41 (.iload_n 2) 1 42 := ⟨by decide +kernel, rfl⟩
theorem e_X4_tell_42 : DC cX4_tell 42 (.putfield 23) 3 45 := ⟨by decide +kernel, rfl⟩
theorem e_X4_tell_45 : DC cX4_tell 45 (.aload_n 0) 1 46 := ⟨by decide +kernel, rfl⟩
theorem e_X4_tell_46 : DC cX4_tell 46 (.iload_n 3) 1 47 := ⟨by decide +kernel, rfl⟩
theorem e_X4_tell_47 : DC cX4_tell 47 (.putfield 26) 3 50 := ⟨by decide +kernel, rfl⟩
theorem e_X4_tell_50 : DC cX4_tell 50 (.iconst 1) 1 51 := ⟨by decide +kernel, rfl⟩
theorem e_X4_tell_51 : DC cX4_tell 51 (.ireturn) 1 52 := ⟨by decide +kernel, rfl⟩
noncomputable def m_X4_tell_35 (t_x : Int) (t_y : Int) (t_z : Int) (v1 : Int) (v2 : Int) (v3 : Int) : Option (Int × Int × Int × Int) :=
  some (1, v1, v2, v3)

set_option maxRecDepth 10000 in
theorem g_X4_tell_35 {l : Launch} {E : EE} {b0 n : Nat} {h : AH} {a_t : Nat} {t_x t_y t_z t_product t_above t_below v1 v2 v3 : Int} {r : Int × Int × Int × Int} (ao : AO b0 n [a_t]) (ok_t_x : inI t_x) (ok_t_y : inI t_y) (ok_t_z : inI t_z) (ok_v1 : inI v1) (ok_v2 : inI v2) (ok_v3 : inI v3) (hs : m_X4_tell_35 t_x t_y t_z v1 v2 v3 = some r) : G l E b0 M_X4_tell (fun _ => True) (ZM E b0 (some (vI r.1)) (ov [a_t] [.inr (4, fsX4 a_t r.2.1 r.2.2.1 r.2.2.2 t_product t_above t_below)] h) n (inZ r.1 ∧ inI r.2.1 ∧ inI r.2.2.1 ∧ inI r.2.2.2) 0 0) 0 0 n (ov [a_t] [.inr (4, fsX4 a_t t_x t_y t_z t_product t_above t_below)] h) 35 [some (.ref a_t), some (vI v1), some (vI v2), some (vI v3)] [] := by
  rw [m_X4_tell_35] at hs
  refine g_aload_n e_X4_tell_35 rfl ?_
  refine g_iload_n e_X4_tell_36 rfl ?_
  refine g_put 0 0 ao rfl rfl fsX4_k0 fsX4_s0 ls_0 fw_X4_19 (fun h => by cases h) ⟨rfl, rfl⟩ e_X4_tell_37 ?_
  refine g_aload_n e_X4_tell_40 rfl ?_
  refine g_iload_n e_X4_tell_41 rfl ?_
  refine g_put 0 1 ao rfl rfl fsX4_k1 fsX4_s1 ls_0 fw_X4_23 (fun h => by cases h) ⟨rfl, rfl⟩ e_X4_tell_42 ?_
  refine g_aload_n e_X4_tell_45 rfl ?_
  refine g_iload_n e_X4_tell_46 rfl ?_
  refine g_put 0 2 ao rfl rfl fsX4_k2 fsX4_s2 ls_0 fw_X4_26 (fun h => by cases h) ⟨rfl, rfl⟩ e_X4_tell_47 ?_
  refine g_iconst e_X4_tell_50 ?_
  obtain rfl := Option.some.inj hs
  exact g_zret rfl (by decide : inZ 1) ⟨(by decide : inZ 1), ok_v1, ok_v2, ok_v3⟩ e_X4_tell_51

noncomputable def m_X4_tell_0 (t_x : Int) (t_y : Int) (t_z : Int) (v1 : Int) (v2 : Int) (v3 : Int) : Option (Int × Int × Int × Int) :=
  (m_X4_isWayPart v1).bind (fun y1 => if y1 = 0 then (some (0, t_x, t_y, t_z)) else ((m_X4_isWayPart v2).bind (fun y2 => if y2 = 0 then (some (0, t_x, t_y, t_z)) else ((m_X4_isWayPart v3).bind (fun y3 => if y3 = 0 then (some (0, t_x, t_y, t_z)) else (if v1 = 0 then (if v2 = 0 then (if v3 = 0 then (some (0, t_x, t_y, t_z)) else (m_X4_tell_35 t_x t_y t_z v1 v2 v3)) else (m_X4_tell_35 t_x t_y t_z v1 v2 v3)) else (m_X4_tell_35 t_x t_y t_z v1 v2 v3)))))))

set_option maxRecDepth 10000 in
theorem g_X4_tell_0 {l : Launch} {E : EE} {b0 n : Nat} {h : AH} {a_t : Nat} {t_x t_y t_z t_product t_above t_below v1 v2 v3 : Int} {r : Int × Int × Int × Int} (ao : AO b0 n [a_t]) (ok_t_x : inI t_x) (ok_t_y : inI t_y) (ok_t_z : inI t_z) (ok_v1 : inI v1) (ok_v2 : inI v2) (ok_v3 : inI v3) (hs : m_X4_tell_0 t_x t_y t_z v1 v2 v3 = some r) : G l E b0 M_X4_tell (fun _ => True) (ZM E b0 (some (vI r.1)) (ov [a_t] [.inr (4, fsX4 a_t r.2.1 r.2.2.1 r.2.2.2 t_product t_above t_below)] h) n (inZ r.1 ∧ inI r.2.1 ∧ inI r.2.2.1 ∧ inI r.2.2.2) 0 0) 0 0 n (ov [a_t] [.inr (4, fsX4 a_t t_x t_y t_z t_product t_above t_below)] h) 0 [some (.ref a_t), some (vI v1), some (vI v2), some (vI v3)] [] := by
  rw [m_X4_tell_0] at hs
  refine g_iload_n e_X4_tell_0 rfl ?_
  obtain ⟨y1, hy1, hs⟩ := bind_elim hs
  refine g_callSr [vI v1] cs_X4_15 ⟨rfl, rfl, Nat.le_of_ble_eq_true rfl, Nat.le_of_ble_eq_true rfl⟩ (ct_X4_isWayPart ⟨List.nodup_nil, fun i a h => by simp at h⟩ (fun i a e h => by simp at h) ok_v1 hy1) e_X4_tell_1 rfl rfl (Nat.le_of_ble_eq_true rfl) ⟨Nat.le_refl _, Nat.le_refl _⟩ (fun Py1 => ?_)
  refine g_if_eq e_X4_tell_4 (inZ_I Py1) hs (fun c4 hs => ?_) (fun c4 hs => ?_)
  · refine g_iconst e_X4_tell_33 ?_
    obtain rfl := Option.some.inj hs
    exact g_zret rfl (by decide : inZ 0) ⟨(by decide : inZ 0), ok_t_x, ok_t_y, ok_t_z⟩ e_X4_tell_34
  · refine g_iload_n e_X4_tell_7 rfl ?_
    obtain ⟨y2, hy2, hs⟩ := bind_elim hs
    refine g_callSr [vI v2] cs_X4_15 ⟨rfl, rfl, Nat.le_of_ble_eq_true rfl, Nat.le_of_ble_eq_true rfl⟩ (ct_X4_isWayPart ⟨List.nodup_nil, fun i a h => by simp at h⟩ (fun i a e h => by simp at h) ok_v2 hy2) e_X4_tell_8 rfl rfl (Nat.le_of_ble_eq_true rfl) ⟨Nat.le_refl _, Nat.le_refl _⟩ (fun Py2 => ?_)
    refine g_if_eq e_X4_tell_11 (inZ_I Py2) hs (fun c11 hs => ?_) (fun c11 hs => ?_)
    · refine g_iconst e_X4_tell_33 ?_
      obtain rfl := Option.some.inj hs
      exact g_zret rfl (by decide : inZ 0) ⟨(by decide : inZ 0), ok_t_x, ok_t_y, ok_t_z⟩ e_X4_tell_34
    · refine g_iload_n e_X4_tell_14 rfl ?_
      obtain ⟨y3, hy3, hs⟩ := bind_elim hs
      refine g_callSr [vI v3] cs_X4_15 ⟨rfl, rfl, Nat.le_of_ble_eq_true rfl, Nat.le_of_ble_eq_true rfl⟩ (ct_X4_isWayPart ⟨List.nodup_nil, fun i a h => by simp at h⟩ (fun i a e h => by simp at h) ok_v3 hy3) e_X4_tell_15 rfl rfl (Nat.le_of_ble_eq_true rfl) ⟨Nat.le_refl _, Nat.le_refl _⟩ (fun Py3 => ?_)
      refine g_if_eq e_X4_tell_18 (inZ_I Py3) hs (fun c18 hs => ?_) (fun c18 hs => ?_)
      · refine g_iconst e_X4_tell_33 ?_
        obtain rfl := Option.some.inj hs
        exact g_zret rfl (by decide : inZ 0) ⟨(by decide : inZ 0), ok_t_x, ok_t_y, ok_t_z⟩ e_X4_tell_34
      · refine g_iload_n e_X4_tell_21 rfl ?_
        refine g_if_ne e_X4_tell_22 ok_v1 hs (fun c22 hs => ?_) (fun c22 hs => ?_)
        · refine g_iload_n e_X4_tell_25 rfl ?_
          refine g_if_ne e_X4_tell_26 ok_v2 hs (fun c26 hs => ?_) (fun c26 hs => ?_)
          · refine g_iload_n e_X4_tell_29 rfl ?_
            refine g_if_ne e_X4_tell_30 ok_v3 hs (fun c30 hs => ?_) (fun c30 hs => ?_)
            · refine g_iconst e_X4_tell_33 ?_
              obtain rfl := Option.some.inj hs
              exact g_zret rfl (by decide : inZ 0) ⟨(by decide : inZ 0), ok_t_x, ok_t_y, ok_t_z⟩ e_X4_tell_34
            · exact g_X4_tell_35 ao ok_t_x ok_t_y ok_t_z ok_v1 ok_v2 ok_v3 hs
          · exact g_X4_tell_35 ao ok_t_x ok_t_y ok_t_z ok_v1 ok_v2 ok_v3 hs
        · exact g_X4_tell_35 ao ok_t_x ok_t_y ok_t_z ok_v1 ok_v2 ok_v3 hs

noncomputable def m_X4_tell (t_x : Int) (t_y : Int) (t_z : Int) (v1 : Int) (v2 : Int) (v3 : Int) : Option (Int × Int × Int × Int) := m_X4_tell_0 t_x t_y t_z v1 v2 v3

set_option maxRecDepth 10000 in
theorem ct_X4_tell {l : Launch} {E : EE} {b0 n : Nat} {h : AH} {a_t : Nat} {t_x t_y t_z t_product t_above t_below : Int} {v1 v2 v3 : Int} (ao : AO b0 n [a_t]) (hf : FA h [a_t] [.inr (4, fsX4 a_t t_x t_y t_z t_product t_above t_below)]) (ok_t_x : inI t_x) (ok_t_y : inI t_y) (ok_t_z : inI t_z) (ok_v1 : inI v1) (ok_v2 : inI v2) (ok_v3 : inI v3) {r : Int × Int × Int × Int} (hm : m_X4_tell t_x t_y t_z v1 v2 v3 = some r) : Ct l E b0 M_X4_tell 0 0 [.ref a_t, vI v1, vI v2, vI v3] h n (some (vI r.1)) (ov [a_t] [.inr (4, fsX4 a_t r.2.1 r.2.2.1 r.2.2.2 t_product t_above t_below)] h) n (inZ r.1 ∧ inI r.2.1 ∧ inI r.2.2.1 ∧ inI r.2.2.2) := by
  rw [m_X4_tell] at hm
  have hg : G l E b0 M_X4_tell (fun _ => True) (ZM E b0 (some (vI r.1)) (ov [a_t] [.inr (4, fsX4 a_t r.2.1 r.2.2.1 r.2.2.2 t_product t_above t_below)] h) n (inZ r.1 ∧ inI r.2.1 ∧ inI r.2.2.1 ∧ inI r.2.2.2) 0 0) 0 0 n (ov [a_t] [.inr (4, fsX4 a_t t_x t_y t_z t_product t_above t_below)] h) 0 [some (.ref a_t), some (vI v1), some (vI v2), some (vI v3)] [] := by
    have hs := hm
    exact g_X4_tell_0 ao ok_t_x ok_t_y ok_t_z ok_v1 ok_v2 ok_v3 hs
  rw [FA_id hf] at hg
  exact Ct_of [some (.ref a_t), some (vI v1), some (vI v2), some (vI v3)] ⟨by decide +kernel, rfl⟩ rfl (Nat.le_of_ble_eq_true rfl) hg



/-! ===== LAW: its loop ===== -/
theorem and63 (X : BitVec 32) : ∃ k : Nat, k < 64 ∧ (X &&& 63#32).toInt = (k : Int) := by
  have h : (X &&& 63#32).toNat ≤ 63 := by
    rw [BitVec.toNat_and]
    exact Nat.and_le_right
  exact ⟨(X &&& 63#32).toNat, by omega, BitVec.toInt_eq_toNat_of_lt (by omega)⟩
theorem bAnd63 (a : Int) : ∃ k : Nat, k < 64 ∧ bAnd a 63 = (k : Int) := by
  have e : bAnd a 63 = ((Int32.ofInt a).toBitVec &&& 63#32).toInt := rfl
  rw [e]
  exact and63 _
theorem law_switch {l : Launch} {E : EE} {b0 b Nn a_c a_s i : Nat} {h : AH} {xs : Nat → Int32} {N N' : Nat → Int} {F F' : Nat → Nat → Int} {K : Nat → Nat → Nat} {R : Nat → Nat → RowT} {B : Int} (hN : Nn ≤ 4096) (hi : i + 8 ≤ Nn) (hl : LwS E b0 a_c a_s h N F K R N' F') (hr : Rel B N F K R N' F') (hB : B ≤ 18000000) (kk : ∀ (c2 s2 : Nat) (h2 : AH) (N2 : Nat → Int) (F2 : Nat → Nat → Int) (K2 : Nat → Nat → Nat) (R2 : Nat → Nat → RowT) (N3 : Nat → Int) (F3 : Nat → Nat → Int) (B2 : Int), LwS E b0 c2 s2 h2 N2 F2 K2 R2 N3 F3 → Rel B2 N2 F2 K2 R2 N3 F3 → B2 ≤ B + 30000 → G l E b0 ML (XS b b0 Nn xs) (ZL b) 418 33444 418 h2 2360 (LL0 b b0 i) []) (k : Nat) (hk : k < 64) : G l E b0 ML (XS b b0 Nn xs) (ZL b) 418 33444 418 h 33 (LL0 b b0 i) [vI (k : Int)] := by
  match k, hk with
  | 0, _ => exact g_tableIn (off := 231) (tgt := 264) e_L_law_33 ⟨by decide, by decide⟩ (by decide) (by decide) rfl rfl (case_0 hN hi hl hr kk)
  | 1, _ => exact g_tableIn (off := 294) (tgt := 327) e_L_law_33 ⟨by decide, by decide⟩ (by decide) (by decide) rfl rfl (case_1 hN hi hl hr kk)
  | 2, _ => exact g_tableIn (off := 317) (tgt := 350) e_L_law_33 ⟨by decide, by decide⟩ (by decide) (by decide) rfl rfl (case_2 hN hi hl hr hB kk)
  | 3, _ => exact g_tableIn (off := 330) (tgt := 363) e_L_law_33 ⟨by decide, by decide⟩ (by decide) (by decide) rfl rfl (case_3 hN hi hl hr (kk _ _ _ _ _ _ _ _ _ _ hl hr (by omega)))
  | 4, _ => exact g_tableIn (off := 373) (tgt := 406) e_L_law_33 ⟨by decide, by decide⟩ (by decide) (by decide) rfl rfl (case_4 hN hi hl hr (kk _ _ _ _ _ _ _ _ _ _ hl hr (by omega)))
  | 5, _ => exact g_tableIn (off := 396) (tgt := 429) e_L_law_33 ⟨by decide, by decide⟩ (by decide) (by decide) rfl rfl (case_5 hN hi hl hr (kk _ _ _ _ _ _ _ _ _ _ hl hr (by omega)))
  | 6, _ => exact g_tableIn (off := 429) (tgt := 462) e_L_law_33 ⟨by decide, by decide⟩ (by decide) (by decide) rfl rfl (case_6 hN hi hl hr hB kk)
  | 7, _ => exact g_tableIn (off := 468) (tgt := 501) e_L_law_33 ⟨by decide, by decide⟩ (by decide) (by decide) rfl rfl (case_7 hN hi hl hr kk)
  | 8, _ => exact g_tableIn (off := 531) (tgt := 564) e_L_law_33 ⟨by decide, by decide⟩ (by decide) (by decide) rfl rfl (case_8 hN hi hl hr (kk _ _ _ _ _ _ _ _ _ _ hl hr (by omega)))
  | 9, _ => exact g_tableIn (off := 564) (tgt := 597) e_L_law_33 ⟨by decide, by decide⟩ (by decide) (by decide) rfl rfl (case_9 hN hi hl hr (kk _ _ _ _ _ _ _ _ _ _ hl hr (by omega)))
  | 10, _ => exact g_tableIn (off := 597) (tgt := 630) e_L_law_33 ⟨by decide, by decide⟩ (by decide) (by decide) rfl rfl (case_10 hN hi hl hr (kk _ _ _ _ _ _ _ _ _ _ hl hr (by omega)))
  | 11, _ => exact g_tableIn (off := 610) (tgt := 643) e_L_law_33 ⟨by decide, by decide⟩ (by decide) (by decide) rfl rfl (case_11 hN hi hl hr kk)
  | 12, _ => exact g_tableIn (off := 643) (tgt := 676) e_L_law_33 ⟨by decide, by decide⟩ (by decide) (by decide) rfl rfl (case_12 hN hi hl hr hB kk)
  | 13, _ => exact g_tableIn (off := 702) (tgt := 735) e_L_law_33 ⟨by decide, by decide⟩ (by decide) (by decide) rfl rfl (case_13 hN hi hl hr hB kk)
  | 14, _ => exact g_tableIn (off := 765) (tgt := 798) e_L_law_33 ⟨by decide, by decide⟩ (by decide) (by decide) rfl rfl (case_14 hN hi hl hr (kk _ _ _ _ _ _ _ _ _ _ hl hr (by omega)))
  | 15, _ => exact g_tableIn (off := 788) (tgt := 821) e_L_law_33 ⟨by decide, by decide⟩ (by decide) (by decide) rfl rfl (case_15 hN hi hl hr hB kk)
  | 16, _ => exact g_tableIn (off := 864) (tgt := 897) e_L_law_33 ⟨by decide, by decide⟩ (by decide) (by decide) rfl rfl (case_16 hN hi hl hr kk)
  | 17, _ => exact g_tableIn (off := 951) (tgt := 984) e_L_law_33 ⟨by decide, by decide⟩ (by decide) (by decide) rfl rfl (case_17 hN hi hl hr kk)
  | 18, _ => exact g_tableIn (off := 1004) (tgt := 1037) e_L_law_33 ⟨by decide, by decide⟩ (by decide) (by decide) rfl rfl (case_18 hN hi hl hr hB kk)
  | 19, _ => exact g_tableIn (off := 1037) (tgt := 1070) e_L_law_33 ⟨by decide, by decide⟩ (by decide) (by decide) rfl rfl (case_19 hN hi hl hr (kk _ _ _ _ _ _ _ _ _ _ hl hr (by omega)))
  | 20, _ => exact g_tableIn (off := 1060) (tgt := 1093) e_L_law_33 ⟨by decide, by decide⟩ (by decide) (by decide) rfl rfl (case_20 hN hi hl hr kk)
  | 21, _ => exact g_tableIn (off := 1093) (tgt := 1126) e_L_law_33 ⟨by decide, by decide⟩ (by decide) (by decide) rfl rfl (case_21 hN hi hl hr hB kk)
  | 22, _ => exact g_tableIn (off := 1106) (tgt := 1139) e_L_law_33 ⟨by decide, by decide⟩ (by decide) (by decide) rfl rfl (case_22 hN hi hl hr hB kk)
  | 23, _ => exact g_tableIn (off := 1117) (tgt := 1150) e_L_law_33 ⟨by decide, by decide⟩ (by decide) (by decide) rfl rfl (case_23 hN hi hl hr hB kk)
  | 24, _ => exact g_tableIn (off := 1130) (tgt := 1163) e_L_law_33 ⟨by decide, by decide⟩ (by decide) (by decide) rfl rfl (case_24 hN hi hl hr hB kk)
  | 25, _ => exact g_tableIn (off := 1173) (tgt := 1206) e_L_law_33 ⟨by decide, by decide⟩ (by decide) (by decide) rfl rfl (case_25 hN hi hl hr hB kk)
  | 26, _ => exact g_tableIn (off := 1206) (tgt := 1239) e_L_law_33 ⟨by decide, by decide⟩ (by decide) (by decide) rfl rfl (case_26 hN hi hl hr hB kk)
  | 27, _ => exact g_tableIn (off := 1260) (tgt := 1293) e_L_law_33 ⟨by decide, by decide⟩ (by decide) (by decide) rfl rfl (case_27 hN hi hl hr hB kk)
  | 28, _ => exact g_tableIn (off := 1347) (tgt := 1380) e_L_law_33 ⟨by decide, by decide⟩ (by decide) (by decide) rfl rfl (case_28 hN hi hl hr (kk _ _ _ _ _ _ _ _ _ _ hl hr (by omega)))
  | 29, _ => exact g_tableIn (off := 1370) (tgt := 1403) e_L_law_33 ⟨by decide, by decide⟩ (by decide) (by decide) rfl rfl (case_29 hN hi hl hr hB kk)
  | 30, _ => exact g_tableIn (off := 1457) (tgt := 1490) e_L_law_33 ⟨by decide, by decide⟩ (by decide) (by decide) rfl rfl (case_30 hN hi hl hr (kk _ _ _ _ _ _ _ _ _ _ hl hr (by omega)))
  | 31, _ => exact g_tableIn (off := 1490) (tgt := 1523) e_L_law_33 ⟨by decide, by decide⟩ (by decide) (by decide) rfl rfl (case_31 hN hi hl hr (kk _ _ _ _ _ _ _ _ _ _ hl hr (by omega)))
  | 32, _ => exact g_tableIn (off := 1523) (tgt := 1556) e_L_law_33 ⟨by decide, by decide⟩ (by decide) (by decide) rfl rfl (case_32 hN hi hl hr hB kk)
  | 33, _ => exact g_tableIn (off := 1572) (tgt := 1605) e_L_law_33 ⟨by decide, by decide⟩ (by decide) (by decide) rfl rfl (case_33 hN hi hl hr kk)
  | 34, _ => exact g_tableIn (off := 1585) (tgt := 1618) e_L_law_33 ⟨by decide, by decide⟩ (by decide) (by decide) rfl rfl (case_34 hN hi hl hr (kk _ _ _ _ _ _ _ _ _ _ hl hr (by omega)))
  | 35, _ => exact g_tableIn (off := 1608) (tgt := 1641) e_L_law_33 ⟨by decide, by decide⟩ (by decide) (by decide) rfl rfl (case_35 hN hi hl hr (kk _ _ _ _ _ _ _ _ _ _ hl hr (by omega)))
  | 36, _ => exact g_tableIn (off := 1621) (tgt := 1654) e_L_law_33 ⟨by decide, by decide⟩ (by decide) (by decide) rfl rfl (case_36 hN hi hl hr kk)
  | 37, _ => exact g_tableIn (off := 1654) (tgt := 1687) e_L_law_33 ⟨by decide, by decide⟩ (by decide) (by decide) rfl rfl (case_37 hN hi hl hr hB kk)
  | 38, _ => exact g_tableIn (off := 1687) (tgt := 1720) e_L_law_33 ⟨by decide, by decide⟩ (by decide) (by decide) rfl rfl (case_38 hN hi hl hr hB kk)
  | 39, _ => exact g_tableIn (off := 1730) (tgt := 1763) e_L_law_33 ⟨by decide, by decide⟩ (by decide) (by decide) rfl rfl (case_39 hN hi hl hr hB kk)
  | 40, _ => exact g_tableIn (off := 1764) (tgt := 1797) e_L_law_33 ⟨by decide, by decide⟩ (by decide) (by decide) rfl rfl (case_40 hN hi hl hr kk)
  | 41, _ => exact g_tableIn (off := 1827) (tgt := 1860) e_L_law_33 ⟨by decide, by decide⟩ (by decide) (by decide) rfl rfl (case_41 hN hi hl hr hB kk)
  | 42, _ => exact g_tableIn (off := 1902) (tgt := 1935) e_L_law_33 ⟨by decide, by decide⟩ (by decide) (by decide) rfl rfl (case_42 hN hi hl hr hB kk)
  | 43, _ => exact g_tableIn (off := 1946) (tgt := 1979) e_L_law_33 ⟨by decide, by decide⟩ (by decide) (by decide) rfl rfl (case_43 hN hi hl hr hB kk)
  | 44, _ => exact g_tableIn (off := 2034) (tgt := 2067) e_L_law_33 ⟨by decide, by decide⟩ (by decide) (by decide) rfl rfl (case_44 hN hi hl hr hB kk)
  | 45, _ => exact g_tableIn (off := 2058) (tgt := 2091) e_L_law_33 ⟨by decide, by decide⟩ (by decide) (by decide) rfl rfl (case_45 hN hi hl hr hB kk)
  | 46, _ => exact g_tableIn (off := 2092) (tgt := 2125) e_L_law_33 ⟨by decide, by decide⟩ (by decide) (by decide) rfl rfl (case_46 hN hi hl hr hB kk)
  | 47, _ => exact g_tableIn (off := 2115) (tgt := 2148) e_L_law_33 ⟨by decide, by decide⟩ (by decide) (by decide) rfl rfl (case_47 hN hi hl hr hB kk)
  | 48, _ => exact g_tableIn (off := 2148) (tgt := 2181) e_L_law_33 ⟨by decide, by decide⟩ (by decide) (by decide) rfl rfl (case_48 hN hi hl hr hB kk)
  | 49, _ => exact g_tableIn (off := 2161) (tgt := 2194) e_L_law_33 ⟨by decide, by decide⟩ (by decide) (by decide) rfl rfl (case_49 hN hi hl hr hB kk)
  | 50, _ => exact g_tableIn (off := 2174) (tgt := 2207) e_L_law_33 ⟨by decide, by decide⟩ (by decide) (by decide) rfl rfl (case_50 hN hi hl hr (kk _ _ _ _ _ _ _ _ _ _ hl hr (by omega)))
  | 51, _ => exact g_tableIn (off := 2197) (tgt := 2230) e_L_law_33 ⟨by decide, by decide⟩ (by decide) (by decide) rfl rfl (case_51 hN hi hl hr (kk _ _ _ _ _ _ _ _ _ _ hl hr (by omega)))
  | 52, _ => exact g_tableIn (off := 2250) (tgt := 2283) e_L_law_33 ⟨by decide, by decide⟩ (by decide) (by decide) rfl rfl (case_52 hN hi hl hr (kk _ _ _ _ _ _ _ _ _ _ hl hr (by omega)))
  | 53, _ => exact g_tableIn (off := 2303) (tgt := 2336) e_L_law_33 ⟨by decide, by decide⟩ (by decide) (by decide) rfl rfl (case_53 hN hi hl hr hB kk)
  | k + 54, _ => exact g_tableOut (tgt := 2360) e_L_law_33 ⟨by omega, by omega⟩ (Or.inr (by omega)) rfl (kk _ _ _ _ _ _ _ _ _ _ hl hr (by omega))
theorem law_next {l : Launch} {E : EE} {b0 b Nn i : Nat} {h : AH} {xs : Nat → Int32} (k : G l E b0 ML (XS b b0 Nn xs) (ZL b) 418 33444 418 h 18 (LL0 b b0 (i + 8)) []) : G l E b0 ML (XS b b0 Nn xs) (ZL b) 418 33444 418 h 2360 (LL0 b b0 i) [] :=
  g_iinc (a := (i : Int)) (b := 8) (L' := LL0 b b0 (i + 8)) e_L_law_2360 rfl rfl rfl (g_goto e_L_law_2363 k)
theorem law_exit {l : Launch} {E : EE} {b0 b Nn i : Nat} {h : AH} {xs : Nat → Int32} : G l E b0 ML (XS b b0 Nn xs) (ZL b) 418 33444 418 h 2366 (LL0 b b0 i) [] :=
  g_iconst e_L_law_2366 (g_lawret ⟨Nat.le_of_ble_eq_true rfl, Nat.le_of_ble_eq_true rfl⟩ e_L_law_2367.1)
theorem law_head {l : Launch} {E : EE} {b0 b Nn i : Nat} {h : AH} {xs : Nat → Int32} (hN : Nn ≤ 4096) (hi : i ≤ Nn) (kb : i + 8 ≤ Nn → ∀ k : Nat, k < 64 → G l E b0 ML (XS b b0 Nn xs) (ZL b) 418 33444 418 h 33 (LL0 b b0 i) [vI (k : Int)]) : G l E b0 ML (XS b b0 Nn xs) (ZL b) 418 33444 418 h 18 (LL0 b b0 i) [] := by
  refine g_iload_n (a := (i : Int)) e_L_law_18 rfl ?_
  refine g_aload_n e_L_law_19 rfl ?_
  refine g_slen e_L_law_20 ?_
  refine g_bipush (a := 8) e_L_law_21 (by decide) ?_
  refine g_isub e_L_law_23 ?_
  by_cases c : i + 8 ≤ Nn
  · refine g_icmp_gtF e_L_law_24 ⟨by omega, by omega⟩ ⟨by omega, by omega⟩ (by omega) ?_
    refine g_aload_n e_L_law_27 rfl ?_
    refine g_iload_n (a := (i : Int)) e_L_law_28 rfl ?_
    refine g_sld (by omega) e_L_law_29 ⟨by omega, by omega⟩ ?_
    refine g_bipush (a := 63) e_L_law_30 (by decide) ?_
    refine g_iand e_L_law_32 ?_
    obtain ⟨k, hk, e⟩ := bAnd63 (xs ((i : Int).toNat)).toInt
    rw [e]
    exact kb c k hk
  · exact g_icmp_gtT e_L_law_24 ⟨by omega, by omega⟩ ⟨by omega, by omega⟩ (by omega) law_exit
theorem law_loop {l : Launch} {E : EE} {b0 b Nn : Nat} {xs : Nat → Int32} (hN : Nn ≤ 4096) : ∀ (t i a_c a_s : Nat) (h : AH) (N : Nat → Int) (F : Nat → Nat → Int) (K : Nat → Nat → Nat) (R : Nat → Nat → RowT) (N' : Nat → Int) (F' : Nat → Nat → Int) (B : Int), Nn ≤ i + 8 * t → i ≤ Nn → LwS E b0 a_c a_s h N F K R N' F' → Rel B N F K R N' F' → B + 30000 * (t : Int) ≤ 15360000 → G l E b0 ML (XS b b0 Nn xs) (ZL b) 418 33444 418 h 18 (LL0 b b0 i) [] := by
  intro t
  induction t with
  | zero =>
    intro i a_c a_s h N F K R N' F' B h1 h2 hl hr hB
    exact law_head hN h2 (fun c => by omega)
  | succ t ih =>
    intro i a_c a_s h N F K R N' F' B h1 h2 hl hr hB
    refine law_head hN h2 (fun c k hk => ?_)
    exact law_switch hN c hl hr (by omega) (fun c2 s2 h3 N2 F2 K2 R2 N3 F3 B2 hl2 hr2 hb2 => law_next (ih (i + 8) c2 s2 h3 N2 F2 K2 R2 N3 F3 B2 (by omega) (by omega) hl2 hr2 (by omega))) k hk

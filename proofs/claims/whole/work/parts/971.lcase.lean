
/-! ===== LAW: cases that change nothing ===== -/
theorem Rel.sgr {N N' : Nat → Int} {F F' : Nat → Nat → Int} {K : Nat → Nat → Nat} {R : Nat → Nat → RowT} {B : Int} (h : Rel B N F K R N' F') : sg (F' 28) := by
  obtain ⟨u, r, e1, e2, e3, e4, e5, k1, k2, k3, k4, k5, k6, k7⟩ := h.ac
  exact k6.1
theorem case_3 {l : Launch} {E : EE} {b0 b Nn a_c a_s i : Nat} {h : AH} {xs : Nat → Int32} {N N' : Nat → Int} {F F' : Nat → Nat → Int} {K : Nat → Nat → Nat} {R : Nat → Nat → RowT} {B : Int} (hN : Nn ≤ 4096) (hi : i + 8 ≤ Nn) (hl : LwS E b0 a_c a_s h N F K R N' F') (hr : Rel B N F K R N' F') (kk : G l E b0 ML (XS b b0 Nn xs) (ZL b) 418 33444 418 h 2360 (LL0 b b0 i) []) : G l E b0 ML (XS b b0 Nn xs) (ZL b) 418 33444 418 h 363 (LL0 b b0 i) [] := by
  obtain ⟨s1, s2, s3, s4, s5, s6, s7, s8, s9, s10, s11⟩ := hl
  obtain ⟨r, z1, z2⟩ := pc_told hr.cw (xs (i + 1)).toInt (xs (i + 2)).toInt (xs (i + 3)).toInt
  have aoC := ao_C s1
  refine g_aload_n e_L_law_363 rfl ?_
  refine g_arg 1 rfl e_L_law_364 e_L_law_365 e_L_law_366 e_L_law_367 e_L_law_368 hN (by omega) ?_
  refine g_arg 2 rfl e_L_law_369 e_L_law_370 e_L_law_371 e_L_law_372 e_L_law_373 hN (by omega) ?_
  refine g_arg 3 rfl e_L_law_374 e_L_law_375 e_L_law_376 e_L_law_377 e_L_law_378 hN (by omega) ?_
  refine g_callVr [vI (xs (i + 1)).toInt, vI (xs (i + 2)).toInt, vI (xs (i + 3)).toInt] cv_L_28 ⟨rfl, rfl, Nat.le_of_ble_eq_true rfl, Nat.le_of_ble_eq_true rfl⟩ (ct_X10_told (a_t := b0) (a_c := a_c) (a_s := a_s) (AO_sub [0, 61, 62, 63, 64, 65, 66, 67, 68, 69, 70, 71, 72, 73] aoC (by decide) rfl) (FA_sub [0, 61, 62, 63, 64, 65, 66, 67, 68, 69, 70, 71, 72, 73] rfl rfl s2) (s7 51) (s8 44) (s8 45) (s8 46) (s7 52) (s8 47) (s8 48) (s8 49) (s7 53) (s8 50) (s8 51) (s8 52) (xs_ok _) (xs_ok _) (xs_ok _) z1) e_L_law_379 ⟨Nat.le_refl _, by omega⟩ (s2 0 b0 _ rfl rfl) rfl rfl rfl (Nat.le_of_ble_eq_true rfl) ⟨Nat.le_of_ble_eq_true rfl, Nat.le_of_ble_eq_true rfl⟩ (fun P1 => ?_)
  refine g_aload_n e_L_law_382 rfl ?_
  refine g_arg 1 rfl e_L_law_383 e_L_law_384 e_L_law_385 e_L_law_386 e_L_law_387 hN (by omega) ?_
  refine g_arg 2 rfl e_L_law_388 e_L_law_389 e_L_law_390 e_L_law_391 e_L_law_392 hN (by omega) ?_
  refine g_arg 3 rfl e_L_law_393 e_L_law_394 e_L_law_395 e_L_law_396 e_L_law_397 hN (by omega) ?_
  refine g_callVr [vI (xs (i + 1)).toInt, vI (xs (i + 2)).toInt, vI (xs (i + 3)).toInt] cv_L_32 ⟨rfl, rfl, Nat.le_of_ble_eq_true rfl, Nat.le_of_ble_eq_true rfl⟩ (ct_X11_told (a_t := b0 + 369) (AO_sub [0, 2, 4] ao_M (by decide) rfl) (FA_sub [0, 2, 4] rfl rfl s3) (s11 1) (s11 3) (xs_ok _) (xs_ok _) (xs_ok _) z2) e_L_law_398 ⟨by omega, by omega⟩ (s3 0 (b0 + 369) _ rfl rfl) rfl rfl rfl (Nat.le_of_ble_eq_true rfl) ⟨Nat.le_of_ble_eq_true rfl, Nat.le_of_ble_eq_true rfl⟩ (fun P2 => ?_)
  refine g_icmp_eqT e_L_law_401 P1 P2 rfl ?_
  exact kk
theorem case_4 {l : Launch} {E : EE} {b0 b Nn a_c a_s i : Nat} {h : AH} {xs : Nat → Int32} {N N' : Nat → Int} {F F' : Nat → Nat → Int} {K : Nat → Nat → Nat} {R : Nat → Nat → RowT} {B : Int} (hN : Nn ≤ 4096) (hi : i + 8 ≤ Nn) (hl : LwS E b0 a_c a_s h N F K R N' F') (hr : Rel B N F K R N' F') (kk : G l E b0 ML (XS b b0 Nn xs) (ZL b) 418 33444 418 h 2360 (LL0 b b0 i) []) : G l E b0 ML (XS b b0 Nn xs) (ZL b) 418 33444 418 h 406 (LL0 b b0 i) [] := by
  obtain ⟨s1, s2, s3, s4, s5, s6, s7, s8, s9, s10, s11⟩ := hl
  obtain ⟨r, z1, z2⟩ := pc_push hr.gr (xs (i + 1)).toInt
  have aoC := ao_C s1
  refine g_aload_n e_L_law_406 rfl ?_
  refine g_arg 1 rfl e_L_law_407 e_L_law_408 e_L_law_409 e_L_law_410 e_L_law_411 hN (by omega) ?_
  refine g_callVr [vI (xs (i + 1)).toInt] cv_L_33 ⟨rfl, rfl, Nat.le_of_ble_eq_true rfl, Nat.le_of_ble_eq_true rfl⟩ (ct_X10_push (a_t := b0) (a_c := a_c) (a_s := a_s) (AO_sub [0, 61, 74, 75] aoC (by decide) rfl) (FA_sub [0, 61, 74, 75] rfl rfl s2) (s8 53) (xs_ok _) z1) e_L_law_412 ⟨Nat.le_refl _, by omega⟩ (s2 0 b0 _ rfl rfl) rfl rfl rfl (Nat.le_of_ble_eq_true rfl) ⟨Nat.le_of_ble_eq_true rfl, Nat.le_of_ble_eq_true rfl⟩ (fun P1 => ?_)
  refine g_aload_n e_L_law_415 rfl ?_
  refine g_arg 1 rfl e_L_law_416 e_L_law_417 e_L_law_418 e_L_law_419 e_L_law_420 hN (by omega) ?_
  refine g_callVr [vI (xs (i + 1)).toInt] cv_L_36 ⟨rfl, rfl, Nat.le_of_ble_eq_true rfl, Nat.le_of_ble_eq_true rfl⟩ (ct_X11_push (a_t := b0 + 369) (AO_sub [0, 6] ao_M (by decide) rfl) (FA_sub [0, 6] rfl rfl s3) (s11 5) (xs_ok _) z2) e_L_law_421 ⟨by omega, by omega⟩ (s3 0 (b0 + 369) _ rfl rfl) rfl rfl rfl (Nat.le_of_ble_eq_true rfl) ⟨Nat.le_of_ble_eq_true rfl, Nat.le_of_ble_eq_true rfl⟩ (fun P2 => ?_)
  refine g_icmp_eqT e_L_law_424 P1 P2 rfl ?_
  exact kk
theorem case_5 {l : Launch} {E : EE} {b0 b Nn a_c a_s i : Nat} {h : AH} {xs : Nat → Int32} {N N' : Nat → Int} {F F' : Nat → Nat → Int} {K : Nat → Nat → Nat} {R : Nat → Nat → RowT} {B : Int} (hN : Nn ≤ 4096) (hi : i + 8 ≤ Nn) (hl : LwS E b0 a_c a_s h N F K R N' F') (hr : Rel B N F K R N' F') (kk : G l E b0 ML (XS b b0 Nn xs) (ZL b) 418 33444 418 h 2360 (LL0 b b0 i) []) : G l E b0 ML (XS b b0 Nn xs) (ZL b) 418 33444 418 h 429 (LL0 b b0 i) [] := by
  obtain ⟨s1, s2, s3, s4, s5, s6, s7, s8, s9, s10, s11⟩ := hl
  obtain ⟨r, z1, z2⟩ := pc_hold hr.gr (xs (i + 1)).toInt (xs (i + 2)).toInt
  have aoC := ao_C s1
  refine g_aload_n e_L_law_429 rfl ?_
  refine g_arg 1 rfl e_L_law_430 e_L_law_431 e_L_law_432 e_L_law_433 e_L_law_434 hN (by omega) ?_
  refine g_arg 2 rfl e_L_law_435 e_L_law_436 e_L_law_437 e_L_law_438 e_L_law_439 hN (by omega) ?_
  refine g_callVr [vI (xs (i + 1)).toInt, vI (xs (i + 2)).toInt] cv_L_37 ⟨rfl, rfl, Nat.le_of_ble_eq_true rfl, Nat.le_of_ble_eq_true rfl⟩ (ct_X10_hold (a_t := b0) (a_c := a_c) (a_s := a_s) (AO_sub [0, 61, 74, 77, 78] aoC (by decide) rfl) (FA_sub [0, 61, 74, 77, 78] rfl rfl s2) (s8 55) (s8 56) (xs_ok _) (xs_ok _) z1) e_L_law_440 ⟨Nat.le_refl _, by omega⟩ (s2 0 b0 _ rfl rfl) rfl rfl rfl (Nat.le_of_ble_eq_true rfl) ⟨Nat.le_of_ble_eq_true rfl, Nat.le_of_ble_eq_true rfl⟩ (fun P1 => ?_)
  refine g_aload_n e_L_law_443 rfl ?_
  refine g_arg 1 rfl e_L_law_444 e_L_law_445 e_L_law_446 e_L_law_447 e_L_law_448 hN (by omega) ?_
  refine g_arg 2 rfl e_L_law_449 e_L_law_450 e_L_law_451 e_L_law_452 e_L_law_453 hN (by omega) ?_
  refine g_callVr [vI (xs (i + 1)).toInt, vI (xs (i + 2)).toInt] cv_L_41 ⟨rfl, rfl, Nat.le_of_ble_eq_true rfl, Nat.le_of_ble_eq_true rfl⟩ (ct_X11_hold (a_t := b0 + 369) (AO_sub [0, 8, 9] ao_M (by decide) rfl) (FA_sub [0, 8, 9] rfl rfl s3) (s10 4) (s10 5) (s11 7) (s11 8) (xs_ok _) (xs_ok _) z2) e_L_law_454 ⟨by omega, by omega⟩ (s3 0 (b0 + 369) _ rfl rfl) rfl rfl rfl (Nat.le_of_ble_eq_true rfl) ⟨Nat.le_of_ble_eq_true rfl, Nat.le_of_ble_eq_true rfl⟩ (fun P2 => ?_)
  refine g_icmp_eqT e_L_law_457 P1 P2 rfl ?_
  exact kk
theorem case_8 {l : Launch} {E : EE} {b0 b Nn a_c a_s i : Nat} {h : AH} {xs : Nat → Int32} {N N' : Nat → Int} {F F' : Nat → Nat → Int} {K : Nat → Nat → Nat} {R : Nat → Nat → RowT} {B : Int} (hN : Nn ≤ 4096) (hi : i + 8 ≤ Nn) (hl : LwS E b0 a_c a_s h N F K R N' F') (hr : Rel B N F K R N' F') (kk : G l E b0 ML (XS b b0 Nn xs) (ZL b) 418 33444 418 h 2360 (LL0 b b0 i) []) : G l E b0 ML (XS b b0 Nn xs) (ZL b) 418 33444 418 h 564 (LL0 b b0 i) [] := by
  obtain ⟨s1, s2, s3, s4, s5, s6, s7, s8, s9, s10, s11⟩ := hl
  obtain ⟨r, z1, z2⟩ := pc_lines hr.wb (xs (i + 1)).toInt (xs (i + 2)).toInt
  have aoC := ao_C s1
  refine g_aload_n e_L_law_564 rfl ?_
  refine g_arg 1 rfl e_L_law_565 e_L_law_566 e_L_law_567 e_L_law_568 e_L_law_569 hN (by omega) ?_
  refine g_arg 2 rfl e_L_law_570 e_L_law_571 e_L_law_572 e_L_law_573 e_L_law_574 hN (by omega) ?_
  refine g_callVr [vI (xs (i + 1)).toInt, vI (xs (i + 2)).toInt] cv_L_51 ⟨rfl, rfl, Nat.le_of_ble_eq_true rfl, Nat.le_of_ble_eq_true rfl⟩ (ct_X10_lines (a_t := b0) (a_c := a_c) (a_s := a_s) (AO_sub [0, 3, 5, 6, 7, 8, 9, 10, 11] aoC (by decide) rfl) (FA_sub [0, 3, 5, 6, 7, 8, 9, 10, 11] rfl rfl s2) (s8 2) (s8 3) (s7 7) (s8 4) (s8 5) (s8 6) (s8 7) (xs_ok _) (xs_ok _) z1) e_L_law_575 ⟨Nat.le_refl _, by omega⟩ (s2 0 b0 _ rfl rfl) rfl rfl rfl (Nat.le_of_ble_eq_true rfl) ⟨Nat.le_of_ble_eq_true rfl, Nat.le_of_ble_eq_true rfl⟩ (fun P1 => ?_)
  refine g_aload_n e_L_law_578 rfl ?_
  refine g_arg 1 rfl e_L_law_579 e_L_law_580 e_L_law_581 e_L_law_582 e_L_law_583 hN (by omega) ?_
  refine g_arg 2 rfl e_L_law_584 e_L_law_585 e_L_law_586 e_L_law_587 e_L_law_588 hN (by omega) ?_
  refine g_callVr [vI (xs (i + 1)).toInt, vI (xs (i + 2)).toInt] cv_L_54 ⟨rfl, rfl, Nat.le_of_ble_eq_true rfl, Nat.le_of_ble_eq_true rfl⟩ (ct_X11_lines (a_t := b0 + 369) (AO_sub [0, 15, 16, 17, 18] ao_M (by decide) rfl) (FA_sub [0, 15, 16, 17, 18] rfl rfl s3) (s10 10) (s11 14) (s11 15) (s11 16) (s11 17) (xs_ok _) (xs_ok _) z2) e_L_law_589 ⟨by omega, by omega⟩ (s3 0 (b0 + 369) _ rfl rfl) rfl rfl rfl (Nat.le_of_ble_eq_true rfl) ⟨Nat.le_of_ble_eq_true rfl, Nat.le_of_ble_eq_true rfl⟩ (fun P2 => ?_)
  refine g_icmp_eqT e_L_law_592 P1 P2 rfl ?_
  exact kk
theorem case_9 {l : Launch} {E : EE} {b0 b Nn a_c a_s i : Nat} {h : AH} {xs : Nat → Int32} {N N' : Nat → Int} {F F' : Nat → Nat → Int} {K : Nat → Nat → Nat} {R : Nat → Nat → RowT} {B : Int} (hN : Nn ≤ 4096) (hi : i + 8 ≤ Nn) (hl : LwS E b0 a_c a_s h N F K R N' F') (hr : Rel B N F K R N' F') (kk : G l E b0 ML (XS b b0 Nn xs) (ZL b) 418 33444 418 h 2360 (LL0 b b0 i) []) : G l E b0 ML (XS b b0 Nn xs) (ZL b) 418 33444 418 h 597 (LL0 b b0 i) [] := by
  obtain ⟨s1, s2, s3, s4, s5, s6, s7, s8, s9, s10, s11⟩ := hl
  obtain ⟨r, z1, z2⟩ := pc_sum hr.wb (xs (i + 1)).toInt (xs (i + 2)).toInt
  have aoC := ao_C s1
  refine g_aload_n e_L_law_597 rfl ?_
  refine g_arg 1 rfl e_L_law_598 e_L_law_599 e_L_law_600 e_L_law_601 e_L_law_602 hN (by omega) ?_
  refine g_arg 2 rfl e_L_law_603 e_L_law_604 e_L_law_605 e_L_law_606 e_L_law_607 hN (by omega) ?_
  refine g_callVr [vI (xs (i + 1)).toInt, vI (xs (i + 2)).toInt] cv_L_55 ⟨rfl, rfl, Nat.le_of_ble_eq_true rfl, Nat.le_of_ble_eq_true rfl⟩ (ct_X10_sum (a_t := b0) (a_c := a_c) (a_s := a_s) (AO_sub [0, 3, 5, 6, 7, 8, 9, 10, 11] aoC (by decide) rfl) (FA_sub [0, 3, 5, 6, 7, 8, 9, 10, 11] rfl rfl s2) (s7 4) (s8 2) (s8 3) (s7 7) (s8 4) (s8 5) (s8 6) (s8 7) (xs_ok _) (xs_ok _) z1) e_L_law_608 ⟨Nat.le_refl _, by omega⟩ (s2 0 b0 _ rfl rfl) rfl rfl rfl (Nat.le_of_ble_eq_true rfl) ⟨Nat.le_of_ble_eq_true rfl, Nat.le_of_ble_eq_true rfl⟩ (fun P1 => ?_)
  refine g_aload_n e_L_law_611 rfl ?_
  refine g_arg 1 rfl e_L_law_612 e_L_law_613 e_L_law_614 e_L_law_615 e_L_law_616 hN (by omega) ?_
  refine g_arg 2 rfl e_L_law_617 e_L_law_618 e_L_law_619 e_L_law_620 e_L_law_621 hN (by omega) ?_
  refine g_callVr [vI (xs (i + 1)).toInt, vI (xs (i + 2)).toInt] cv_L_58 ⟨rfl, rfl, Nat.le_of_ble_eq_true rfl, Nat.le_of_ble_eq_true rfl⟩ (ct_X11_sum (a_t := b0 + 369) (AO_sub [0, 15, 16, 17, 18] ao_M (by decide) rfl) (FA_sub [0, 15, 16, 17, 18] rfl rfl s3) (s10 9) (s10 10) (s11 14) (s11 15) (s11 16) (s11 17) (xs_ok _) (xs_ok _) z2) e_L_law_622 ⟨by omega, by omega⟩ (s3 0 (b0 + 369) _ rfl rfl) rfl rfl rfl (Nat.le_of_ble_eq_true rfl) ⟨Nat.le_of_ble_eq_true rfl, Nat.le_of_ble_eq_true rfl⟩ (fun P2 => ?_)
  refine g_icmp_eqT e_L_law_625 P1 P2 rfl ?_
  exact kk
theorem case_10 {l : Launch} {E : EE} {b0 b Nn a_c a_s i : Nat} {h : AH} {xs : Nat → Int32} {N N' : Nat → Int} {F F' : Nat → Nat → Int} {K : Nat → Nat → Nat} {R : Nat → Nat → RowT} {B : Int} (hN : Nn ≤ 4096) (hi : i + 8 ≤ Nn) (hl : LwS E b0 a_c a_s h N F K R N' F') (hr : Rel B N F K R N' F') (kk : G l E b0 ML (XS b b0 Nn xs) (ZL b) 418 33444 418 h 2360 (LL0 b b0 i) []) : G l E b0 ML (XS b b0 Nn xs) (ZL b) 418 33444 418 h 630 (LL0 b b0 i) [] := by
  obtain ⟨s1, s2, s3, s4, s5, s6, s7, s8, s9, s10, s11⟩ := hl
  obtain ⟨r, z1, z2⟩ := pc_unsound hr.wb 
  have aoC := ao_C s1
  refine g_aload_n e_L_law_630 rfl ?_
  refine g_callVr [] cv_L_59 ⟨rfl, rfl, Nat.le_of_ble_eq_true rfl, Nat.le_of_ble_eq_true rfl⟩ (ct_X10_unsound (a_t := b0) (a_c := a_c) (a_s := a_s) (AO_sub [0, 3, 4, 5, 6, 7, 8, 9, 10, 11] aoC (by decide) rfl) (FA_sub [0, 3, 4, 5, 6, 7, 8, 9, 10, 11] rfl rfl s2) (s7 4) (s8 1) (s8 2) (s8 3) (s7 7) (s8 4) (s8 5) (s8 6) (s8 7) z1) e_L_law_631 ⟨Nat.le_refl _, by omega⟩ (s2 0 b0 _ rfl rfl) rfl rfl rfl (Nat.le_of_ble_eq_true rfl) ⟨Nat.le_of_ble_eq_true rfl, Nat.le_of_ble_eq_true rfl⟩ (fun P1 => ?_)
  refine g_aload_n e_L_law_634 rfl ?_
  refine g_callVr [] cv_L_62 ⟨rfl, rfl, Nat.le_of_ble_eq_true rfl, Nat.le_of_ble_eq_true rfl⟩ (ct_X11_unsound (a_t := b0 + 369) (AO_sub [0, 14, 15, 16, 17, 18] ao_M (by decide) rfl) (FA_sub [0, 14, 15, 16, 17, 18] rfl rfl s3) (s10 9) (s10 10) (s11 13) (s11 14) (s11 15) (s11 16) (s11 17) z2) e_L_law_635 ⟨by omega, by omega⟩ (s3 0 (b0 + 369) _ rfl rfl) rfl rfl rfl (Nat.le_of_ble_eq_true rfl) ⟨Nat.le_of_ble_eq_true rfl, Nat.le_of_ble_eq_true rfl⟩ (fun P2 => ?_)
  refine g_icmp_eqT e_L_law_638 P1 P2 rfl ?_
  exact kk
theorem case_14 {l : Launch} {E : EE} {b0 b Nn a_c a_s i : Nat} {h : AH} {xs : Nat → Int32} {N N' : Nat → Int} {F F' : Nat → Nat → Int} {K : Nat → Nat → Nat} {R : Nat → Nat → RowT} {B : Int} (hN : Nn ≤ 4096) (hi : i + 8 ≤ Nn) (hl : LwS E b0 a_c a_s h N F K R N' F') (hr : Rel B N F K R N' F') (kk : G l E b0 ML (XS b b0 Nn xs) (ZL b) 418 33444 418 h 2360 (LL0 b b0 i) []) : G l E b0 ML (XS b b0 Nn xs) (ZL b) 418 33444 418 h 798 (LL0 b b0 i) [] := by
  obtain ⟨s1, s2, s3, s4, s5, s6, s7, s8, s9, s10, s11⟩ := hl
  obtain ⟨r, z1, z2⟩ := pc_group hr.gp (xs (i + 1)).toInt
  have aoC := ao_C s1
  refine g_aload_n e_L_law_798 rfl ?_
  refine g_arg 1 rfl e_L_law_799 e_L_law_800 e_L_law_801 e_L_law_802 e_L_law_803 hN (by omega) ?_
  refine g_callVr [vI (xs (i + 1)).toInt] cv_L_79 ⟨rfl, rfl, Nat.le_of_ble_eq_true rfl, Nat.le_of_ble_eq_true rfl⟩ (ct_X10_group (a_t := b0) (a_c := a_c) (a_s := a_s) (AO_sub [0, 3, 13] aoC (by decide) rfl) (FA_sub [0, 3, 13] rfl rfl s2) (s7 6) (s8 9) (xs_ok _) z1) e_L_law_804 ⟨Nat.le_refl _, by omega⟩ (s2 0 b0 _ rfl rfl) rfl rfl rfl (Nat.le_of_ble_eq_true rfl) ⟨Nat.le_of_ble_eq_true rfl, Nat.le_of_ble_eq_true rfl⟩ (fun P1 => ?_)
  refine g_aload_n e_L_law_807 rfl ?_
  refine g_arg 1 rfl e_L_law_808 e_L_law_809 e_L_law_810 e_L_law_811 e_L_law_812 hN (by omega) ?_
  refine g_callVr [vI (xs (i + 1)).toInt] cv_L_82 ⟨rfl, rfl, Nat.le_of_ble_eq_true rfl, Nat.le_of_ble_eq_true rfl⟩ (ct_X11_group (a_t := b0 + 369) (AO_sub [0, 23] ao_M (by decide) rfl) (FA_sub [0, 23] rfl rfl s3) (s10 11) (s11 22) (xs_ok _) z2) e_L_law_813 ⟨by omega, by omega⟩ (s3 0 (b0 + 369) _ rfl rfl) rfl rfl rfl (Nat.le_of_ble_eq_true rfl) ⟨Nat.le_of_ble_eq_true rfl, Nat.le_of_ble_eq_true rfl⟩ (fun P2 => ?_)
  refine g_icmp_eqT e_L_law_816 P1 P2 rfl ?_
  exact kk
theorem case_28 {l : Launch} {E : EE} {b0 b Nn a_c a_s i : Nat} {h : AH} {xs : Nat → Int32} {N N' : Nat → Int} {F F' : Nat → Nat → Int} {K : Nat → Nat → Nat} {R : Nat → Nat → RowT} {B : Int} (hN : Nn ≤ 4096) (hi : i + 8 ≤ Nn) (hl : LwS E b0 a_c a_s h N F K R N' F') (hr : Rel B N F K R N' F') (kk : G l E b0 ML (XS b b0 Nn xs) (ZL b) 418 33444 418 h 2360 (LL0 b b0 i) []) : G l E b0 ML (XS b b0 Nn xs) (ZL b) 418 33444 418 h 1380 (LL0 b b0 i) [] := by
  obtain ⟨s1, s2, s3, s4, s5, s6, s7, s8, s9, s10, s11⟩ := hl
  obtain ⟨r, z1, z2⟩ := pc_aimed hr.ai (xs (i + 1)).toInt
  have aoC := ao_C s1
  refine g_aload_n e_L_law_1380 rfl ?_
  refine g_arg 1 rfl e_L_law_1381 e_L_law_1382 e_L_law_1383 e_L_law_1384 e_L_law_1385 hN (by omega) ?_
  refine g_callVr [vI (xs (i + 1)).toInt] cv_L_140 ⟨rfl, rfl, Nat.le_of_ble_eq_true rfl, Nat.le_of_ble_eq_true rfl⟩ (ct_X10_aimed (a_t := b0) (a_c := a_c) (a_s := a_s) (AO_sub [0, 32, 45] aoC (by decide) rfl) (FA_sub [0, 32, 45] rfl rfl s2) (s7 32) (s8 32) (xs_ok _) z1) e_L_law_1386 ⟨Nat.le_refl _, by omega⟩ (s2 0 b0 _ rfl rfl) rfl rfl rfl (Nat.le_of_ble_eq_true rfl) ⟨Nat.le_of_ble_eq_true rfl, Nat.le_of_ble_eq_true rfl⟩ (fun P1 => ?_)
  refine g_aload_n e_L_law_1389 rfl ?_
  refine g_arg 1 rfl e_L_law_1390 e_L_law_1391 e_L_law_1392 e_L_law_1393 e_L_law_1394 hN (by omega) ?_
  refine g_callVr [vI (xs (i + 1)).toInt] cv_L_143 ⟨rfl, rfl, Nat.le_of_ble_eq_true rfl, Nat.le_of_ble_eq_true rfl⟩ (ct_X11_aimed (a_t := b0 + 369) (AO_sub [0, 39] ao_M (by decide) rfl) (FA_sub [0, 39] rfl rfl s3) (s10 14) (s11 38) (xs_ok _) z2) e_L_law_1395 ⟨by omega, by omega⟩ (s3 0 (b0 + 369) _ rfl rfl) rfl rfl rfl (Nat.le_of_ble_eq_true rfl) ⟨Nat.le_of_ble_eq_true rfl, Nat.le_of_ble_eq_true rfl⟩ (fun P2 => ?_)
  refine g_icmp_eqT e_L_law_1398 P1 P2 rfl ?_
  exact kk
theorem case_30 {l : Launch} {E : EE} {b0 b Nn a_c a_s i : Nat} {h : AH} {xs : Nat → Int32} {N N' : Nat → Int} {F F' : Nat → Nat → Int} {K : Nat → Nat → Nat} {R : Nat → Nat → RowT} {B : Int} (hN : Nn ≤ 4096) (hi : i + 8 ≤ Nn) (hl : LwS E b0 a_c a_s h N F K R N' F') (hr : Rel B N F K R N' F') (kk : G l E b0 ML (XS b b0 Nn xs) (ZL b) 418 33444 418 h 2360 (LL0 b b0 i) []) : G l E b0 ML (XS b b0 Nn xs) (ZL b) 418 33444 418 h 1490 (LL0 b b0 i) [] := by
  obtain ⟨s1, s2, s3, s4, s5, s6, s7, s8, s9, s10, s11⟩ := hl
  obtain ⟨r, z1, z2⟩ := pc_fitted hr.fi (xs (i + 1)).toInt (xs (i + 2)).toInt
  have aoC := ao_C s1
  refine g_aload_n e_L_law_1490 rfl ?_
  refine g_arg 1 rfl e_L_law_1491 e_L_law_1492 e_L_law_1493 e_L_law_1494 e_L_law_1495 hN (by omega) ?_
  refine g_arg 2 rfl e_L_law_1496 e_L_law_1497 e_L_law_1498 e_L_law_1499 e_L_law_1500 hN (by omega) ?_
  refine g_callVr [vI (xs (i + 1)).toInt, vI (xs (i + 2)).toInt] cv_L_148 ⟨rfl, rfl, Nat.le_of_ble_eq_true rfl, Nat.le_of_ble_eq_true rfl⟩ (ct_X10_fitted (a_t := b0) (a_c := a_c) (a_s := a_s) (AO_sub [0, 32, 47] aoC (by decide) rfl) (FA_sub [0, 32, 47] rfl rfl s2) (s7 33) (s7 34) (s7 35) (s8 34) (xs_ok _) (xs_ok _) z1) e_L_law_1501 ⟨Nat.le_refl _, by omega⟩ (s2 0 b0 _ rfl rfl) rfl rfl rfl (Nat.le_of_ble_eq_true rfl) ⟨Nat.le_of_ble_eq_true rfl, Nat.le_of_ble_eq_true rfl⟩ (fun P1 => ?_)
  refine g_aload_n e_L_law_1504 rfl ?_
  refine g_arg 1 rfl e_L_law_1505 e_L_law_1506 e_L_law_1507 e_L_law_1508 e_L_law_1509 hN (by omega) ?_
  refine g_arg 2 rfl e_L_law_1510 e_L_law_1511 e_L_law_1512 e_L_law_1513 e_L_law_1514 hN (by omega) ?_
  refine g_callVr [vI (xs (i + 1)).toInt, vI (xs (i + 2)).toInt] cv_L_151 ⟨rfl, rfl, Nat.le_of_ble_eq_true rfl, Nat.le_of_ble_eq_true rfl⟩ (ct_X11_fitted (a_t := b0 + 369) (AO_sub [0, 41] ao_M (by decide) rfl) (FA_sub [0, 41] rfl rfl s3) (s10 15) (s10 16) (s11 40) (xs_ok _) (xs_ok _) z2) e_L_law_1515 ⟨by omega, by omega⟩ (s3 0 (b0 + 369) _ rfl rfl) rfl rfl rfl (Nat.le_of_ble_eq_true rfl) ⟨Nat.le_of_ble_eq_true rfl, Nat.le_of_ble_eq_true rfl⟩ (fun P2 => ?_)
  refine g_icmp_eqT e_L_law_1518 P1 P2 rfl ?_
  exact kk
theorem case_31 {l : Launch} {E : EE} {b0 b Nn a_c a_s i : Nat} {h : AH} {xs : Nat → Int32} {N N' : Nat → Int} {F F' : Nat → Nat → Int} {K : Nat → Nat → Nat} {R : Nat → Nat → RowT} {B : Int} (hN : Nn ≤ 4096) (hi : i + 8 ≤ Nn) (hl : LwS E b0 a_c a_s h N F K R N' F') (hr : Rel B N F K R N' F') (kk : G l E b0 ML (XS b b0 Nn xs) (ZL b) 418 33444 418 h 2360 (LL0 b b0 i) []) : G l E b0 ML (XS b b0 Nn xs) (ZL b) 418 33444 418 h 1523 (LL0 b b0 i) [] := by
  obtain ⟨s1, s2, s3, s4, s5, s6, s7, s8, s9, s10, s11⟩ := hl
  obtain ⟨r, z1, z2⟩ := pc_seen hr.wb hr.cw.2.2 (xs (i + 1)).toInt (xs (i + 2)).toInt
  have aoC := ao_C s1
  refine g_aload_n e_L_law_1523 rfl ?_
  refine g_arg 1 rfl e_L_law_1524 e_L_law_1525 e_L_law_1526 e_L_law_1527 e_L_law_1528 hN (by omega) ?_
  refine g_arg 2 rfl e_L_law_1529 e_L_law_1530 e_L_law_1531 e_L_law_1532 e_L_law_1533 hN (by omega) ?_
  refine g_callVr [vI (xs (i + 1)).toInt, vI (xs (i + 2)).toInt] cv_L_152 ⟨rfl, rfl, Nat.le_of_ble_eq_true rfl, Nat.le_of_ble_eq_true rfl⟩ (ct_X10_seen (a_t := b0) (a_c := a_c) (a_s := a_s) (AO_sub [0, 3, 7, 8, 9, 10, 11, 61, 70, 71, 72, 73] aoC (by decide) rfl) (FA_sub [0, 3, 7, 8, 9, 10, 11, 61, 70, 71, 72, 73] rfl rfl s2) (s7 7) (s8 4) (s8 5) (s8 6) (s8 7) (s7 53) (s8 50) (s8 51) (s8 52) (xs_ok _) (xs_ok _) z1) e_L_law_1534 ⟨Nat.le_refl _, by omega⟩ (s2 0 b0 _ rfl rfl) rfl rfl rfl (Nat.le_of_ble_eq_true rfl) ⟨Nat.le_of_ble_eq_true rfl, Nat.le_of_ble_eq_true rfl⟩ (fun P1 => ?_)
  refine g_aload_n e_L_law_1537 rfl ?_
  refine g_arg 1 rfl e_L_law_1538 e_L_law_1539 e_L_law_1540 e_L_law_1541 e_L_law_1542 hN (by omega) ?_
  refine g_arg 2 rfl e_L_law_1543 e_L_law_1544 e_L_law_1545 e_L_law_1546 e_L_law_1547 hN (by omega) ?_
  refine g_callVr [vI (xs (i + 1)).toInt, vI (xs (i + 2)).toInt] cv_L_155 ⟨rfl, rfl, Nat.le_of_ble_eq_true rfl, Nat.le_of_ble_eq_true rfl⟩ (ct_X11_seen (a_t := b0 + 369) (AO_sub [0, 2, 4, 15, 18] ao_M (by decide) rfl) (FA_sub [0, 2, 4, 15, 18] rfl rfl s3) (s10 10) (s11 1) (s11 3) (s11 14) (s11 17) (xs_ok _) (xs_ok _) z2) e_L_law_1548 ⟨by omega, by omega⟩ (s3 0 (b0 + 369) _ rfl rfl) rfl rfl rfl (Nat.le_of_ble_eq_true rfl) ⟨Nat.le_of_ble_eq_true rfl, Nat.le_of_ble_eq_true rfl⟩ (fun P2 => ?_)
  refine g_icmp_eqT e_L_law_1551 P1 P2 rfl ?_
  exact kk
theorem case_34 {l : Launch} {E : EE} {b0 b Nn a_c a_s i : Nat} {h : AH} {xs : Nat → Int32} {N N' : Nat → Int} {F F' : Nat → Nat → Int} {K : Nat → Nat → Nat} {R : Nat → Nat → RowT} {B : Int} (hN : Nn ≤ 4096) (hi : i + 8 ≤ Nn) (hl : LwS E b0 a_c a_s h N F K R N' F') (hr : Rel B N F K R N' F') (kk : G l E b0 ML (XS b b0 Nn xs) (ZL b) 418 33444 418 h 2360 (LL0 b b0 i) []) : G l E b0 ML (XS b b0 Nn xs) (ZL b) 418 33444 418 h 1618 (LL0 b b0 i) [] := by
  obtain ⟨s1, s2, s3, s4, s5, s6, s7, s8, s9, s10, s11⟩ := hl
  obtain ⟨r, z1, z2⟩ := pc_readBack hr.cw.1 hr.cw.2.2 hr.si (xs (i + 1)).toInt
  have aoC := ao_C s1
  obtain ⟨z2, -⟩ := z2
  replace z1 := (show m_X10_readBack _ _ _ _ _ _ _ _ _ _ _ _ = some r by rw [m_X10_readBack, m_X10_readBack_0, z1, bind_s])
  refine g_aload_n e_L_law_1618 rfl ?_
  refine g_arg 1 rfl e_L_law_1619 e_L_law_1620 e_L_law_1621 e_L_law_1622 e_L_law_1623 hN (by omega) ?_
  refine g_callVr [vI (xs (i + 1)).toInt] cv_L_165 ⟨rfl, rfl, Nat.le_of_ble_eq_true rfl, Nat.le_of_ble_eq_true rfl⟩ (ct_X10_readBack (a_t := b0) (a_c := a_c) (a_s := a_s) (AO_sub [0, 61, 62, 63, 64, 65, 70, 71, 72, 73, 83, 84] aoC (by decide) rfl) (FA_sub [0, 61, 62, 63, 64, 65, 70, 71, 72, 73, 83, 84] rfl rfl s2) (s7 50) (s7 51) (s8 44) (s8 45) (s8 46) (s7 53) (s8 50) (s8 51) (s8 52) (s8 61) (s8 62) (xs_ok _) z1) e_L_law_1624 ⟨Nat.le_refl _, by omega⟩ (s2 0 b0 _ rfl rfl) rfl rfl rfl (Nat.le_of_ble_eq_true rfl) ⟨Nat.le_of_ble_eq_true rfl, Nat.le_of_ble_eq_true rfl⟩ (fun P1 => ?_)
  refine g_aload_n e_L_law_1627 rfl ?_
  refine g_arg 1 rfl e_L_law_1628 e_L_law_1629 e_L_law_1630 e_L_law_1631 e_L_law_1632 hN (by omega) ?_
  refine g_callVr [vI (xs (i + 1)).toInt] cv_L_168 ⟨rfl, rfl, Nat.le_of_ble_eq_true rfl, Nat.le_of_ble_eq_true rfl⟩ (ct_X11_readBack (a_t := b0 + 369) (AO_sub [0, 2, 4, 42, 43] ao_M (by decide) rfl) (FA_sub [0, 2, 4, 42, 43] rfl rfl s3) (s10 17) (s11 1) (s11 3) (s11 41) (s11 42) (xs_ok _) z2) e_L_law_1633 ⟨by omega, by omega⟩ (s3 0 (b0 + 369) _ rfl rfl) rfl rfl rfl (Nat.le_of_ble_eq_true rfl) ⟨Nat.le_of_ble_eq_true rfl, Nat.le_of_ble_eq_true rfl⟩ (fun P2 => ?_)
  refine g_icmp_eqT e_L_law_1636 P1 P2 rfl ?_
  exact kk
theorem case_35 {l : Launch} {E : EE} {b0 b Nn a_c a_s i : Nat} {h : AH} {xs : Nat → Int32} {N N' : Nat → Int} {F F' : Nat → Nat → Int} {K : Nat → Nat → Nat} {R : Nat → Nat → RowT} {B : Int} (hN : Nn ≤ 4096) (hi : i + 8 ≤ Nn) (hl : LwS E b0 a_c a_s h N F K R N' F') (hr : Rel B N F K R N' F') (kk : G l E b0 ML (XS b b0 Nn xs) (ZL b) 418 33444 418 h 2360 (LL0 b b0 i) []) : G l E b0 ML (XS b b0 Nn xs) (ZL b) 418 33444 418 h 1641 (LL0 b b0 i) [] := by
  obtain ⟨s1, s2, s3, s4, s5, s6, s7, s8, s9, s10, s11⟩ := hl
  obtain ⟨r, z1, z2⟩ := pc_nextEye hr.cw.1 hr.cw.2.2 hr.si 
  have aoC := ao_C s1
  replace z1 := (show m_X10_nextEye _ _ _ _ _ _ _ _ _ _ _ = some r by rw [m_X10_nextEye, m_X10_nextEye_0, z1, bind_s])
  refine g_aload_n e_L_law_1641 rfl ?_
  refine g_callVr [] cv_L_169 ⟨rfl, rfl, Nat.le_of_ble_eq_true rfl, Nat.le_of_ble_eq_true rfl⟩ (ct_X10_nextEye (a_t := b0) (a_c := a_c) (a_s := a_s) (AO_sub [0, 61, 62, 63, 64, 65, 70, 71, 72, 73, 83, 84] aoC (by decide) rfl) (FA_sub [0, 61, 62, 63, 64, 65, 70, 71, 72, 73, 83, 84] rfl rfl s2) (s7 50) (s7 51) (s8 44) (s8 45) (s8 46) (s7 53) (s8 50) (s8 51) (s8 52) (s8 61) (s8 62) z1) e_L_law_1642 ⟨Nat.le_refl _, by omega⟩ (s2 0 b0 _ rfl rfl) rfl rfl rfl (Nat.le_of_ble_eq_true rfl) ⟨Nat.le_of_ble_eq_true rfl, Nat.le_of_ble_eq_true rfl⟩ (fun P1 => ?_)
  refine g_aload_n e_L_law_1645 rfl ?_
  refine g_callVr [] cv_L_172 ⟨rfl, rfl, Nat.le_of_ble_eq_true rfl, Nat.le_of_ble_eq_true rfl⟩ (ct_X11_nextEye (a_t := b0 + 369) (AO_sub [0, 2, 4, 42, 43] ao_M (by decide) rfl) (FA_sub [0, 2, 4, 42, 43] rfl rfl s3) (s10 17) (s11 1) (s11 3) (s11 41) (s11 42) z2) e_L_law_1646 ⟨by omega, by omega⟩ (s3 0 (b0 + 369) _ rfl rfl) rfl rfl rfl (Nat.le_of_ble_eq_true rfl) ⟨Nat.le_of_ble_eq_true rfl, Nat.le_of_ble_eq_true rfl⟩ (fun P2 => ?_)
  refine g_icmp_eqT e_L_law_1649 P1 P2 rfl ?_
  exact kk
theorem case_50 {l : Launch} {E : EE} {b0 b Nn a_c a_s i : Nat} {h : AH} {xs : Nat → Int32} {N N' : Nat → Int} {F F' : Nat → Nat → Int} {K : Nat → Nat → Nat} {R : Nat → Nat → RowT} {B : Int} (hN : Nn ≤ 4096) (hi : i + 8 ≤ Nn) (hl : LwS E b0 a_c a_s h N F K R N' F') (hr : Rel B N F K R N' F') (kk : G l E b0 ML (XS b b0 Nn xs) (ZL b) 418 33444 418 h 2360 (LL0 b b0 i) []) : G l E b0 ML (XS b b0 Nn xs) (ZL b) 418 33444 418 h 2207 (LL0 b b0 i) [] := by
  obtain ⟨s1, s2, s3, s4, s5, s6, s7, s8, s9, s10, s11⟩ := hl
  obtain ⟨r, z1, z2⟩ := pc_shield hr.gr hr.row.1 hr.sgr (xs (i + 1)).toInt
  have aoC := ao_C s1
  refine g_aload_n e_L_law_2207 rfl ?_
  refine g_arg 1 rfl e_L_law_2208 e_L_law_2209 e_L_law_2210 e_L_law_2211 e_L_law_2212 hN (by omega) ?_
  refine g_callVr [vI (xs (i + 1)).toInt] cv_L_236 ⟨rfl, rfl, Nat.le_of_ble_eq_true rfl, Nat.le_of_ble_eq_true rfl⟩ (ct_X10_shield (a_t := b0) (a_c := a_c) (a_s := a_s) (AO_sub [0, 22, 23, 61, 74, 75] aoC (by decide) rfl) (FA_sub [0, 22, 23, 61, 74, 75] rfl rfl s2) (s8 16) (s7 59) (s8 53) (xs_ok _) z1) e_L_law_2213 ⟨Nat.le_refl _, by omega⟩ (s2 0 b0 _ rfl rfl) rfl rfl rfl (Nat.le_of_ble_eq_true rfl) ⟨Nat.le_of_ble_eq_true rfl, Nat.le_of_ble_eq_true rfl⟩ (fun P1 => ?_)
  refine g_aload_n e_L_law_2216 rfl ?_
  refine g_arg 1 rfl e_L_law_2217 e_L_law_2218 e_L_law_2219 e_L_law_2220 e_L_law_2221 hN (by omega) ?_
  refine g_callVr [vI (xs (i + 1)).toInt] cv_L_239 ⟨rfl, rfl, Nat.le_of_ble_eq_true rfl, Nat.le_of_ble_eq_true rfl⟩ (ct_X11_shield (a_t := b0 + 369) (AO_sub [0, 6, 29] ao_M (by decide) rfl) (FA_sub [0, 6, 29] rfl rfl s3) (s11 5) (s11 28) (xs_ok _) z2) e_L_law_2222 ⟨by omega, by omega⟩ (s3 0 (b0 + 369) _ rfl rfl) rfl rfl rfl (Nat.le_of_ble_eq_true rfl) ⟨Nat.le_of_ble_eq_true rfl, Nat.le_of_ble_eq_true rfl⟩ (fun P2 => ?_)
  refine g_icmp_eqT e_L_law_2225 P1 P2 rfl ?_
  exact kk
theorem case_51 {l : Launch} {E : EE} {b0 b Nn a_c a_s i : Nat} {h : AH} {xs : Nat → Int32} {N N' : Nat → Int} {F F' : Nat → Nat → Int} {K : Nat → Nat → Nat} {R : Nat → Nat → RowT} {B : Int} (hN : Nn ≤ 4096) (hi : i + 8 ≤ Nn) (hl : LwS E b0 a_c a_s h N F K R N' F') (hr : Rel B N F K R N' F') (kk : G l E b0 ML (XS b b0 Nn xs) (ZL b) 418 33444 418 h 2360 (LL0 b b0 i) []) : G l E b0 ML (XS b b0 Nn xs) (ZL b) 418 33444 418 h 2230 (LL0 b b0 i) [] := by
  obtain ⟨s1, s2, s3, s4, s5, s6, s7, s8, s9, s10, s11⟩ := hl
  obtain ⟨r, z1, z2⟩ := pc_crack hr.gr hr.row.1 hr.sgr (xs (i + 1)).toInt (xs (i + 2)).toInt (xs (i + 3)).toInt (xs (i + 4)).toInt
  have aoC := ao_C s1
  refine g_aload_n e_L_law_2230 rfl ?_
  refine g_arg 1 rfl e_L_law_2231 e_L_law_2232 e_L_law_2233 e_L_law_2234 e_L_law_2235 hN (by omega) ?_
  refine g_arg 2 rfl e_L_law_2236 e_L_law_2237 e_L_law_2238 e_L_law_2239 e_L_law_2240 hN (by omega) ?_
  refine g_arg 3 rfl e_L_law_2241 e_L_law_2242 e_L_law_2243 e_L_law_2244 e_L_law_2245 hN (by omega) ?_
  refine g_arg 4 rfl e_L_law_2246 e_L_law_2247 e_L_law_2248 e_L_law_2249 e_L_law_2250 hN (by omega) ?_
  refine g_callVr [vI (xs (i + 1)).toInt, vI (xs (i + 2)).toInt, vI (xs (i + 3)).toInt, vI (xs (i + 4)).toInt] cv_L_240 ⟨rfl, rfl, Nat.le_of_ble_eq_true rfl, Nat.le_of_ble_eq_true rfl⟩ (ct_X10_crack (a_t := b0) (a_c := a_c) (a_s := a_s) (AO_sub [0, 22, 23, 61, 74, 75] aoC (by decide) rfl) (FA_sub [0, 22, 23, 61, 74, 75] rfl rfl s2) (s8 16) (s7 59) (s8 53) (xs_ok _) (xs_ok _) (xs_ok _) (xs_ok _) z1) e_L_law_2251 ⟨Nat.le_refl _, by omega⟩ (s2 0 b0 _ rfl rfl) rfl rfl rfl (Nat.le_of_ble_eq_true rfl) ⟨Nat.le_of_ble_eq_true rfl, Nat.le_of_ble_eq_true rfl⟩ (fun P1 => ?_)
  refine g_aload_n e_L_law_2254 rfl ?_
  refine g_arg 1 rfl e_L_law_2255 e_L_law_2256 e_L_law_2257 e_L_law_2258 e_L_law_2259 hN (by omega) ?_
  refine g_arg 2 rfl e_L_law_2260 e_L_law_2261 e_L_law_2262 e_L_law_2263 e_L_law_2264 hN (by omega) ?_
  refine g_arg 3 rfl e_L_law_2265 e_L_law_2266 e_L_law_2267 e_L_law_2268 e_L_law_2269 hN (by omega) ?_
  refine g_arg 4 rfl e_L_law_2270 e_L_law_2271 e_L_law_2272 e_L_law_2273 e_L_law_2274 hN (by omega) ?_
  refine g_callVr [vI (xs (i + 1)).toInt, vI (xs (i + 2)).toInt, vI (xs (i + 3)).toInt, vI (xs (i + 4)).toInt] cv_L_243 ⟨rfl, rfl, Nat.le_of_ble_eq_true rfl, Nat.le_of_ble_eq_true rfl⟩ (ct_X11_crack (a_t := b0 + 369) (AO_sub [0, 6, 29] ao_M (by decide) rfl) (FA_sub [0, 6, 29] rfl rfl s3) (s11 5) (s11 28) (xs_ok _) (xs_ok _) (xs_ok _) (xs_ok _) z2) e_L_law_2275 ⟨by omega, by omega⟩ (s3 0 (b0 + 369) _ rfl rfl) rfl rfl rfl (Nat.le_of_ble_eq_true rfl) ⟨Nat.le_of_ble_eq_true rfl, Nat.le_of_ble_eq_true rfl⟩ (fun P2 => ?_)
  refine g_icmp_eqT e_L_law_2278 P1 P2 rfl ?_
  exact kk
theorem case_52 {l : Launch} {E : EE} {b0 b Nn a_c a_s i : Nat} {h : AH} {xs : Nat → Int32} {N N' : Nat → Int} {F F' : Nat → Nat → Int} {K : Nat → Nat → Nat} {R : Nat → Nat → RowT} {B : Int} (hN : Nn ≤ 4096) (hi : i + 8 ≤ Nn) (hl : LwS E b0 a_c a_s h N F K R N' F') (hr : Rel B N F K R N' F') (kk : G l E b0 ML (XS b b0 Nn xs) (ZL b) 418 33444 418 h 2360 (LL0 b b0 i) []) : G l E b0 ML (XS b b0 Nn xs) (ZL b) 418 33444 418 h 2283 (LL0 b b0 i) [] := by
  obtain ⟨s1, s2, s3, s4, s5, s6, s7, s8, s9, s10, s11⟩ := hl
  obtain ⟨r, z1, z2⟩ := pc_runsTo hr.gr hr.row.1 hr.sgr (xs (i + 1)).toInt (xs (i + 2)).toInt (xs (i + 3)).toInt (xs (i + 4)).toInt
  have aoC := ao_C s1
  refine g_aload_n e_L_law_2283 rfl ?_
  refine g_arg 1 rfl e_L_law_2284 e_L_law_2285 e_L_law_2286 e_L_law_2287 e_L_law_2288 hN (by omega) ?_
  refine g_arg 2 rfl e_L_law_2289 e_L_law_2290 e_L_law_2291 e_L_law_2292 e_L_law_2293 hN (by omega) ?_
  refine g_arg 3 rfl e_L_law_2294 e_L_law_2295 e_L_law_2296 e_L_law_2297 e_L_law_2298 hN (by omega) ?_
  refine g_arg 4 rfl e_L_law_2299 e_L_law_2300 e_L_law_2301 e_L_law_2302 e_L_law_2303 hN (by omega) ?_
  refine g_callVr [vI (xs (i + 1)).toInt, vI (xs (i + 2)).toInt, vI (xs (i + 3)).toInt, vI (xs (i + 4)).toInt] cv_L_244 ⟨rfl, rfl, Nat.le_of_ble_eq_true rfl, Nat.le_of_ble_eq_true rfl⟩ (ct_X10_runsTo (a_t := b0) (a_c := a_c) (a_s := a_s) (AO_sub [0, 22, 23, 61, 74, 75] aoC (by decide) rfl) (FA_sub [0, 22, 23, 61, 74, 75] rfl rfl s2) (s8 16) (s7 59) (s8 53) (xs_ok _) (xs_ok _) (xs_ok _) (xs_ok _) z1) e_L_law_2304 ⟨Nat.le_refl _, by omega⟩ (s2 0 b0 _ rfl rfl) rfl rfl rfl (Nat.le_of_ble_eq_true rfl) ⟨Nat.le_of_ble_eq_true rfl, Nat.le_of_ble_eq_true rfl⟩ (fun P1 => ?_)
  refine g_aload_n e_L_law_2307 rfl ?_
  refine g_arg 1 rfl e_L_law_2308 e_L_law_2309 e_L_law_2310 e_L_law_2311 e_L_law_2312 hN (by omega) ?_
  refine g_arg 2 rfl e_L_law_2313 e_L_law_2314 e_L_law_2315 e_L_law_2316 e_L_law_2317 hN (by omega) ?_
  refine g_arg 3 rfl e_L_law_2318 e_L_law_2319 e_L_law_2320 e_L_law_2321 e_L_law_2322 hN (by omega) ?_
  refine g_arg 4 rfl e_L_law_2323 e_L_law_2324 e_L_law_2325 e_L_law_2326 e_L_law_2327 hN (by omega) ?_
  refine g_callVr [vI (xs (i + 1)).toInt, vI (xs (i + 2)).toInt, vI (xs (i + 3)).toInt, vI (xs (i + 4)).toInt] cv_L_247 ⟨rfl, rfl, Nat.le_of_ble_eq_true rfl, Nat.le_of_ble_eq_true rfl⟩ (ct_X11_runsTo (a_t := b0 + 369) (AO_sub [0, 6, 29] ao_M (by decide) rfl) (FA_sub [0, 6, 29] rfl rfl s3) (s11 5) (s11 28) (xs_ok _) (xs_ok _) (xs_ok _) (xs_ok _) z2) e_L_law_2328 ⟨by omega, by omega⟩ (s3 0 (b0 + 369) _ rfl rfl) rfl rfl rfl (Nat.le_of_ble_eq_true rfl) ⟨Nat.le_of_ble_eq_true rfl, Nat.le_of_ble_eq_true rfl⟩ (fun P2 => ?_)
  refine g_icmp_eqT e_L_law_2331 P1 P2 rfl ?_
  exact kk

def M_X11_in : MB := (yX11_in, cX11_in, 3, (some .boolean), ({ frames := 1, cells := 0, slots := 0, locals := 40 } : Room), RX11)
def M_X11_put : MB := (yX11_put, cX11_put, 3, none, ({ frames := 1, cells := 0, slots := 0, locals := 40 } : Room), RX11)
def M_X11_end : MB := (yX11_end, cX11_end, 2, (some .int), ({ frames := 1, cells := 0, slots := 0, locals := 40 } : Room), RX11)
def M_X11_fails : MB := (yX11_fails, cX11_fails, 3, none, ({ frames := 1, cells := 0, slots := 0, locals := 40 } : Room), RX11)
def M_X11_sign : MB := (yX11_sign, cX11_sign, 1, (some .int), ({ frames := 1, cells := 0, slots := 0, locals := 40 } : Room), RX11)
def M_X11_blanks : MB := (yX11_blanks, cX11_blanks, 1, none, ({ frames := 2, cells := 0, slots := 0, locals := 60 } : Room), RX11)
def M_X11_isDigit : MB := (yX11_isDigit, cX11_isDigit, 1, (some .boolean), ({ frames := 1, cells := 0, slots := 0, locals := 40 } : Room), RX11)
def M_X11_most : MB := (yX11_most, cX11_most, 1, (some .int), ({ frames := 1, cells := 0, slots := 0, locals := 40 } : Room), RX11)
def M_X11_number : MB := (yX11_number, cX11_number, 6, (some .int), ({ frames := 3, cells := 0, slots := 0, locals := 80 } : Room), RX11)
def M_X11_wayIn : MB := (yX11_wayIn, cX11_wayIn, 4, none, ({ frames := 4, cells := 0, slots := 0, locals := 105 } : Room), RX11)
def M_X11_statement : MB := (yX11_statement, cX11_statement, 5, none, ({ frames := 5, cells := 0, slots := 0, locals := 128 } : Room), RX11)
def M_X11_comes : MB := (yX11_comes, cX11_comes, 2, none, ({ frames := 1, cells := 0, slots := 0, locals := 40 } : Room), RX11)
def M_X11_isTold : MB := (yX11_isTold, cX11_isTold, 3, (some .boolean), ({ frames := 2, cells := 0, slots := 0, locals := 62 } : Room), RX11)
def M_X11_told : MB := (yX11_told, cX11_told, 4, (some .int), ({ frames := 3, cells := 0, slots := 0, locals := 84 } : Room), RX11)
def M_X11_push : MB := (yX11_push, cX11_push, 2, (some .int), ({ frames := 2, cells := 0, slots := 0, locals := 62 } : Room), RX11)
def M_X11_holdAt : MB := (yX11_holdAt, cX11_holdAt, 5, (some .int), ({ frames := 1, cells := 0, slots := 0, locals := 40 } : Room), RX11)
def M_X11_hold : MB := (yX11_hold, cX11_hold, 3, (some .int), ({ frames := 2, cells := 0, slots := 0, locals := 64 } : Room), RX11)
def M_X11_knot : MB := (yX11_knot, cX11_knot, 2, (some .int), ({ frames := 1, cells := 0, slots := 0, locals := 40 } : Room), RX11)
def M_X11_isKnot : MB := (yX11_isKnot, cX11_isKnot, 2, (some .boolean), ({ frames := 2, cells := 0, slots := 0, locals := 62 } : Room), RX11)
def M_X11_isLine : MB := (yX11_isLine, cX11_isLine, 2, (some .boolean), ({ frames := 2, cells := 0, slots := 0, locals := 62 } : Room), RX11)
def M_X11_lineIn : MB := (yX11_lineIn, cX11_lineIn, 6, (some .int), ({ frames := 1, cells := 0, slots := 0, locals := 40 } : Room), RX11)
def M_X11_square : MB := (yX11_square, cX11_square, 3, (some .int), ({ frames := 1, cells := 0, slots := 0, locals := 40 } : Room), RX11)
def M_X11_worth : MB := (yX11_worth, cX11_worth, 2, (some .int), ({ frames := 2, cells := 0, slots := 0, locals := 62 } : Room), RX11)
def M_X11_lines : MB := (yX11_lines, cX11_lines, 3, (some .int), ({ frames := 3, cells := 0, slots := 0, locals := 83 } : Room), RX11)
def M_X11_sumAt : MB := (yX11_sumAt, cX11_sumAt, 5, (some .int), ({ frames := 1, cells := 0, slots := 0, locals := 40 } : Room), RX11)
def M_X11_sum : MB := (yX11_sum, cX11_sum, 3, (some .int), ({ frames := 3, cells := 0, slots := 0, locals := 83 } : Room), RX11)
def M_X11_unsound : MB := (yX11_unsound, cX11_unsound, 2, (some .int), ({ frames := 2, cells := 0, slots := 0, locals := 64 } : Room), RX11)
def M_X11_meet : MB := (yX11_meet, cX11_meet, 7, (some .int), ({ frames := 3, cells := 0, slots := 0, locals := 83 } : Room), RX11)
theorem cb_X11_blanks : CB M_X11_blanks 0 := ⟨GW_of 1675 (by decide +kernel) (by decide +kernel), GW_of 96 (by decide +kernel) (by decide +kernel), by decide +kernel, by decide +kernel, by decide +kernel⟩
theorem cb_X11_fails : CB M_X11_fails 2 := ⟨GW_of 1703 (by decide +kernel) (by decide +kernel), GW_of 96 (by decide +kernel) (by decide +kernel), by decide +kernel, by decide +kernel, by decide +kernel⟩
theorem cb_X11_holdAt : CB M_X11_holdAt 2 := ⟨GW_of 1748 (by decide +kernel) (by decide +kernel), GW_of 96 (by decide +kernel) (by decide +kernel), by decide +kernel, by decide +kernel, by decide +kernel⟩
theorem cb_X11_in : CB M_X11_in 3 := ⟨GW_of 1724 (by decide +kernel) (by decide +kernel), GW_of 96 (by decide +kernel) (by decide +kernel), by decide +kernel, by decide +kernel, by decide +kernel⟩
theorem cb_X11_isDigit : CB M_X11_isDigit 1 := ⟨GW_of 1721 (by decide +kernel) (by decide +kernel), GW_of 96 (by decide +kernel) (by decide +kernel), by decide +kernel, by decide +kernel, by decide +kernel⟩
theorem cb_X11_isKnot : CB M_X11_isKnot 1 := ⟨GW_of 1760 (by decide +kernel) (by decide +kernel), GW_of 96 (by decide +kernel) (by decide +kernel), by decide +kernel, by decide +kernel, by decide +kernel⟩
theorem cb_X11_isLine : CB M_X11_isLine 1 := ⟨GW_of 1772 (by decide +kernel) (by decide +kernel), GW_of 96 (by decide +kernel) (by decide +kernel), by decide +kernel, by decide +kernel, by decide +kernel⟩
theorem cb_X11_isTold : CB M_X11_isTold 2 := ⟨GW_of 1736 (by decide +kernel) (by decide +kernel), GW_of 96 (by decide +kernel) (by decide +kernel), by decide +kernel, by decide +kernel, by decide +kernel⟩
theorem cb_X11_number : CB M_X11_number 2 := ⟨GW_of 1718 (by decide +kernel) (by decide +kernel), GW_of 96 (by decide +kernel) (by decide +kernel), by decide +kernel, by decide +kernel, by decide +kernel⟩
theorem cb_X11_sign : CB M_X11_sign 0 := ⟨GW_of 1679 (by decide +kernel) (by decide +kernel), GW_of 96 (by decide +kernel) (by decide +kernel), by decide +kernel, by decide +kernel, by decide +kernel⟩
theorem cb_X11_square : CB M_X11_square 3 := ⟨GW_of 1779 (by decide +kernel) (by decide +kernel), GW_of 96 (by decide +kernel) (by decide +kernel), by decide +kernel, by decide +kernel, by decide +kernel⟩
theorem cb_X11_sumAt : CB M_X11_sumAt 2 := ⟨GW_of 1787 (by decide +kernel) (by decide +kernel), GW_of 96 (by decide +kernel) (by decide +kernel), by decide +kernel, by decide +kernel, by decide +kernel⟩
theorem cb_X11_wayIn : CB M_X11_wayIn 1 := ⟨GW_of 1714 (by decide +kernel) (by decide +kernel), GW_of 96 (by decide +kernel) (by decide +kernel), by decide +kernel, by decide +kernel, by decide +kernel⟩
theorem cb_X11_worth : CB M_X11_worth 1 := ⟨GW_of 1776 (by decide +kernel) (by decide +kernel), GW_of 96 (by decide +kernel) (by decide +kernel), by decide +kernel, by decide +kernel, by decide +kernel⟩
theorem k_X11_294 : Cond.constant RX11 294 (Int32.ofInt (-100000)) ∈ GW := GW_of 1788 (by decide +kernel) (by decide +kernel)
theorem fl_X11_9 : FL RX11 9 11 4 := ⟨RX11, TX11, 71, rfl, by decide, rfl, Or.inl (GW_of 1446 (by decide +kernel) (by decide +kernel))⟩
theorem fl_X11_161 : FL RX11 161 11 1 := ⟨RX11, TX11, 71, rfl, by decide, rfl, Or.inl (GW_of 1443 (by decide +kernel) (by decide +kernel))⟩
theorem fw_X11_161 : FW RX11 161 11 1 false .int := ⟨RX11, TX11, 71, rfl, by decide, rfl, rfl, by decide +kernel, Or.inl (GW_of 1443 (by decide +kernel) (by decide +kernel)), fun h => by cases h⟩
theorem fl_X11_168 : FL RX11 168 11 3 := ⟨RX11, TX11, 71, rfl, by decide, rfl, Or.inl (GW_of 1445 (by decide +kernel) (by decide +kernel))⟩
theorem fw_X11_168 : FW RX11 168 11 3 false .int := ⟨RX11, TX11, 71, rfl, by decide, rfl, rfl, by decide +kernel, Or.inl (GW_of 1445 (by decide +kernel) (by decide +kernel)), fun h => by cases h⟩
theorem fl_X11_171 : FL RX11 171 11 2 := ⟨RX11, TX11, 71, rfl, by decide, rfl, Or.inl (GW_of 1444 (by decide +kernel) (by decide +kernel))⟩
theorem fw_X11_171 : FW RX11 171 11 2 false .int := ⟨RX11, TX11, 71, rfl, by decide, rfl, rfl, by decide +kernel, Or.inl (GW_of 1444 (by decide +kernel) (by decide +kernel)), fun h => by cases h⟩
theorem fw_X11_219 : FW RX11 219 11 21 false .int := ⟨RX11, TX11, 71, rfl, by decide, rfl, rfl, by decide +kernel, Or.inl (GW_of 1463 (by decide +kernel) (by decide +kernel)), fun h => by cases h⟩
theorem fl_X11_219 : FL RX11 219 11 21 := ⟨RX11, TX11, 71, rfl, by decide, rfl, Or.inl (GW_of 1463 (by decide +kernel) (by decide +kernel))⟩
theorem fl_X11_17 : FL RX11 17 11 6 := ⟨RX11, TX11, 71, rfl, by decide, rfl, Or.inl (GW_of 1448 (by decide +kernel) (by decide +kernel))⟩
theorem fl_X11_23 : FL RX11 23 11 8 := ⟨RX11, TX11, 71, rfl, by decide, rfl, Or.inl (GW_of 1450 (by decide +kernel) (by decide +kernel))⟩
theorem fl_X11_29 : FL RX11 29 11 10 := ⟨RX11, TX11, 71, rfl, by decide, rfl, Or.inl (GW_of 1452 (by decide +kernel) (by decide +kernel))⟩
theorem fl_X11_47 : FL RX11 47 11 16 := ⟨RX11, TX11, 71, rfl, by decide, rfl, Or.inl (GW_of 1458 (by decide +kernel) (by decide +kernel))⟩
theorem fl_X11_41 : FL RX11 41 11 14 := ⟨RX11, TX11, 71, rfl, by decide, rfl, Or.inl (GW_of 1456 (by decide +kernel) (by decide +kernel))⟩
theorem fl_X11_44 : FL RX11 44 11 15 := ⟨RX11, TX11, 71, rfl, by decide, rfl, Or.inl (GW_of 1457 (by decide +kernel) (by decide +kernel))⟩
theorem fw_X11_237 : FW RX11 237 11 19 false .int := ⟨RX11, TX11, 71, rfl, by decide, rfl, rfl, by decide +kernel, Or.inl (GW_of 1461 (by decide +kernel) (by decide +kernel)), fun h => by cases h⟩
theorem fw_X11_240 : FW RX11 240 11 20 false .int := ⟨RX11, TX11, 71, rfl, by decide, rfl, rfl, by decide +kernel, Or.inl (GW_of 1462 (by decide +kernel) (by decide +kernel)), fun h => by cases h⟩
theorem fl_X11_13 : FL RX11 13 11 5 := ⟨RX11, TX11, 71, rfl, by decide, rfl, Or.inl (GW_of 1447 (by decide +kernel) (by decide +kernel))⟩
theorem fl_X11_20 : FL RX11 20 11 7 := ⟨RX11, TX11, 71, rfl, by decide, rfl, Or.inl (GW_of 1449 (by decide +kernel) (by decide +kernel))⟩
theorem fl_X11_26 : FL RX11 26 11 9 := ⟨RX11, TX11, 71, rfl, by decide, rfl, Or.inl (GW_of 1451 (by decide +kernel) (by decide +kernel))⟩
theorem fl_X11_32 : FL RX11 32 11 11 := ⟨RX11, TX11, 71, rfl, by decide, rfl, Or.inl (GW_of 1453 (by decide +kernel) (by decide +kernel))⟩
theorem fl_X11_35 : FL RX11 35 11 12 := ⟨RX11, TX11, 71, rfl, by decide, rfl, Or.inl (GW_of 1454 (by decide +kernel) (by decide +kernel))⟩
theorem fl_X11_38 : FL RX11 38 11 13 := ⟨RX11, TX11, 71, rfl, by decide, rfl, Or.inl (GW_of 1455 (by decide +kernel) (by decide +kernel))⟩
theorem fl_X11_237 : FL RX11 237 11 19 := ⟨RX11, TX11, 71, rfl, by decide, rfl, Or.inl (GW_of 1461 (by decide +kernel) (by decide +kernel))⟩
theorem fw_X11_252 : FW RX11 252 11 17 false .int := ⟨RX11, TX11, 71, rfl, by decide, rfl, rfl, by decide +kernel, Or.inl (GW_of 1459 (by decide +kernel) (by decide +kernel)), fun h => by cases h⟩
theorem fl_X11_240 : FL RX11 240 11 20 := ⟨RX11, TX11, 71, rfl, by decide, rfl, Or.inl (GW_of 1462 (by decide +kernel) (by decide +kernel))⟩
theorem fw_X11_255 : FW RX11 255 11 18 false .int := ⟨RX11, TX11, 71, rfl, by decide, rfl, rfl, by decide +kernel, Or.inl (GW_of 1460 (by decide +kernel) (by decide +kernel)), fun h => by cases h⟩
theorem fw_X11_258 : FW RX11 258 11 58 false .int := ⟨RX11, TX11, 71, rfl, by decide, rfl, rfl, by decide +kernel, Or.inl (GW_of 1500 (by decide +kernel) (by decide +kernel)), fun h => by cases h⟩
theorem fl_X11_252 : FL RX11 252 11 17 := ⟨RX11, TX11, 71, rfl, by decide, rfl, Or.inl (GW_of 1459 (by decide +kernel) (by decide +kernel))⟩
theorem fl_X11_255 : FL RX11 255 11 18 := ⟨RX11, TX11, 71, rfl, by decide, rfl, Or.inl (GW_of 1460 (by decide +kernel) (by decide +kernel))⟩
theorem fl_X11_268 : FL RX11 268 11 22 := ⟨RX11, TX11, 71, rfl, by decide, rfl, Or.inl (GW_of 1464 (by decide +kernel) (by decide +kernel))⟩
theorem fl_X11_50 : FL RX11 50 11 24 := ⟨RX11, TX11, 71, rfl, by decide, rfl, Or.inl (GW_of 1466 (by decide +kernel) (by decide +kernel))⟩
theorem fw_X11_268 : FW RX11 268 11 22 false .int := ⟨RX11, TX11, 71, rfl, by decide, rfl, rfl, by decide +kernel, Or.inl (GW_of 1464 (by decide +kernel) (by decide +kernel)), fun h => by cases h⟩
theorem fl_X11_271 : FL RX11 271 11 23 := ⟨RX11, TX11, 71, rfl, by decide, rfl, Or.inl (GW_of 1465 (by decide +kernel) (by decide +kernel))⟩
theorem fl_X11_54 : FL RX11 54 11 25 := ⟨RX11, TX11, 71, rfl, by decide, rfl, Or.inl (GW_of 1467 (by decide +kernel) (by decide +kernel))⟩
theorem fl_X11_57 : FL RX11 57 11 26 := ⟨RX11, TX11, 71, rfl, by decide, rfl, Or.inl (GW_of 1468 (by decide +kernel) (by decide +kernel))⟩
theorem fl_X11_60 : FL RX11 60 11 27 := ⟨RX11, TX11, 71, rfl, by decide, rfl, Or.inl (GW_of 1469 (by decide +kernel) (by decide +kernel))⟩
theorem fl_X11_63 : FL RX11 63 11 28 := ⟨RX11, TX11, 71, rfl, by decide, rfl, Or.inl (GW_of 1470 (by decide +kernel) (by decide +kernel))⟩
theorem fw_X11_271 : FW RX11 271 11 23 false .int := ⟨RX11, TX11, 71, rfl, by decide, rfl, rfl, by decide +kernel, Or.inl (GW_of 1465 (by decide +kernel) (by decide +kernel)), fun h => by cases h⟩
theorem fl_X11_66 : FL RX11 66 11 29 := ⟨RX11, TX11, 71, rfl, by decide, rfl, Or.inl (GW_of 1471 (by decide +kernel) (by decide +kernel))⟩
theorem cv_X11_174 : CV RX11 174 M_X11_sign 0 := ⟨cb_X11_sign, Or.inl (GW_of 1676 (by decide +kernel) (by decide +kernel)), GW_of 1678 (by decide +kernel) (by decide +kernel), GW_of 37 (by decide +kernel) (by decide +kernel)⟩
theorem cv_X11_216 : CV RX11 216 M_X11_blanks 0 := ⟨cb_X11_blanks, Or.inl (GW_of 1672 (by decide +kernel) (by decide +kernel)), GW_of 1674 (by decide +kernel) (by decide +kernel), GW_of 36 (by decide +kernel) (by decide +kernel)⟩
theorem cs_X11_222 : CS RX11 222 M_X11_isDigit 1 := ⟨cb_X11_isDigit, Or.inl (GW_of 1719 (by decide +kernel) (by decide +kernel)), GW_of 1720 (by decide +kernel) (by decide +kernel)⟩
theorem cv_X11_199 : CV RX11 199 M_X11_fails 2 := ⟨cb_X11_fails, Or.inl (GW_of 1700 (by decide +kernel) (by decide +kernel)), GW_of 1702 (by decide +kernel) (by decide +kernel), GW_of 40 (by decide +kernel) (by decide +kernel)⟩
theorem cs_X11_226 : CS RX11 226 M_X11_in 3 := ⟨cb_X11_in, Or.inl (GW_of 1722 (by decide +kernel) (by decide +kernel)), GW_of 1723 (by decide +kernel) (by decide +kernel)⟩
theorem cv_X11_230 : CV RX11 230 M_X11_number 2 := ⟨cb_X11_number, Or.inl (GW_of 1715 (by decide +kernel) (by decide +kernel)), GW_of 1717 (by decide +kernel) (by decide +kernel), GW_of 43 (by decide +kernel) (by decide +kernel)⟩
theorem cv_X11_234 : CV RX11 234 M_X11_wayIn 1 := ⟨cb_X11_wayIn, Or.inl (GW_of 1711 (by decide +kernel) (by decide +kernel)), GW_of 1713 (by decide +kernel) (by decide +kernel), GW_of 42 (by decide +kernel) (by decide +kernel)⟩
theorem cv_X11_261 : CV RX11 261 M_X11_isTold 2 := ⟨cb_X11_isTold, Or.inl (GW_of 1733 (by decide +kernel) (by decide +kernel)), GW_of 1735 (by decide +kernel) (by decide +kernel), GW_of 45 (by decide +kernel) (by decide +kernel)⟩
theorem cv_X11_265 : CV RX11 265 M_X11_holdAt 2 := ⟨cb_X11_holdAt, Or.inl (GW_of 1745 (by decide +kernel) (by decide +kernel)), GW_of 1747 (by decide +kernel) (by decide +kernel), GW_of 46 (by decide +kernel) (by decide +kernel)⟩
theorem cs_X11_281 : CS RX11 281 M_X11_square 3 := ⟨cb_X11_square, Or.inl (GW_of 1777 (by decide +kernel) (by decide +kernel)), GW_of 1778 (by decide +kernel) (by decide +kernel)⟩
theorem cv_X11_285 : CV RX11 285 M_X11_isLine 1 := ⟨cb_X11_isLine, Or.inl (GW_of 1769 (by decide +kernel) (by decide +kernel)), GW_of 1771 (by decide +kernel) (by decide +kernel), GW_of 49 (by decide +kernel) (by decide +kernel)⟩
theorem cv_X11_288 : CV RX11 288 M_X11_worth 1 := ⟨cb_X11_worth, Or.inl (GW_of 1773 (by decide +kernel) (by decide +kernel)), GW_of 1775 (by decide +kernel) (by decide +kernel), GW_of 50 (by decide +kernel) (by decide +kernel)⟩
theorem cv_X11_274 : CV RX11 274 M_X11_isKnot 1 := ⟨cb_X11_isKnot, Or.inl (GW_of 1757 (by decide +kernel) (by decide +kernel)), GW_of 1759 (by decide +kernel) (by decide +kernel), GW_of 47 (by decide +kernel) (by decide +kernel)⟩
theorem cv_X11_291 : CV RX11 291 M_X11_sumAt 2 := ⟨cb_X11_sumAt, Or.inl (GW_of 1784 (by decide +kernel) (by decide +kernel)), GW_of 1786 (by decide +kernel) (by decide +kernel), GW_of 51 (by decide +kernel) (by decide +kernel)⟩
/-! ===== X11_in ===== -/
theorem e_X11_in_0 : DC cX11_in 0 (.iload_n 0) 1 1 := ⟨by decide +kernel, rfl⟩
theorem e_X11_in_1 : DC cX11_in 1 (.iload_n 1) 1 2 := ⟨by decide +kernel, rfl⟩
theorem e_X11_in_2 : DB cX11_in 2 (.if_icmp .lt 12) (12) 3 5 14 := ⟨by decide +kernel, rfl, rfl⟩
theorem e_X11_in_5 : DC cX11_in 5 (.iload_n 0) 1 6 := ⟨by decide +kernel, rfl⟩
theorem e_X11_in_6 : DC cX11_in 6 (.iload_n 2) 1 7 := ⟨by decide +kernel, rfl⟩
theorem e_X11_in_7 : DB cX11_in 7 (.if_icmp .gt 7) (7) 3 10 14 := ⟨by decide +kernel, rfl, rfl⟩
theorem e_X11_in_10 : DC cX11_in 10 (.iconst 1) 1 11 := ⟨by decide +kernel, rfl⟩
theorem e_X11_in_11 : DB cX11_in 11 (.goto 4) (4) 3 14 15 := ⟨by decide +kernel, rfl, rfl⟩
theorem e_X11_in_14 : DC cX11_in 14 (.iconst 0) 1 15 := ⟨by decide +kernel, rfl⟩
theorem e_X11_in_15 : DC cX11_in 15 (.ireturn) 1 16 := ⟨by decide +kernel, rfl⟩
noncomputable def m_X11_in_0 (v0 : Int) (v1 : Int) (v2 : Int) : Option (Int) :=
  if v0 < v1 then (some (0)) else (if v2 < v0 then (some (0)) else (some (1)))

set_option maxRecDepth 10000 in
set_option maxHeartbeats 8000000 in
theorem g_X11_in_0 {l : Launch} {E : EE} {b0 n : Nat} {h : AH} {v0 v1 v2 : Int} {r : Int} (ao : AO b0 n []) (ok_v0 : inI v0) (ok_v1 : inI v1) (ok_v2 : inI v2) (hs : m_X11_in_0 v0 v1 v2 = some r) : G l E b0 M_X11_in (fun _ => True) (ZM E b0 (some (vI r)) (ov [] [] h) n (inZ r) 0 0) 0 0 n (ov [] [] h) 0 [some (vI v0), some (vI v1), some (vI v2)] [] := by
  rw [m_X11_in_0] at hs
  refine g_iload_n e_X11_in_0 rfl ?_
  refine g_iload_n e_X11_in_1 rfl ?_
  refine g_icmp_lt e_X11_in_2 ok_v0 ok_v1 hs (fun c2 hs => ?_) (fun c2 hs => ?_)
  · refine g_iconst e_X11_in_14 ?_
    obtain rfl := Option.some.inj hs
    exact g_zret rfl (by decide : inZ 0) (by decide : inZ 0) e_X11_in_15
  · refine g_iload_n e_X11_in_5 rfl ?_
    refine g_iload_n e_X11_in_6 rfl ?_
    refine g_icmp_gt e_X11_in_7 ok_v0 ok_v2 hs (fun c7 hs => ?_) (fun c7 hs => ?_)
    · refine g_iconst e_X11_in_14 ?_
      obtain rfl := Option.some.inj hs
      exact g_zret rfl (by decide : inZ 0) (by decide : inZ 0) e_X11_in_15
    · refine g_iconst e_X11_in_10 ?_
      refine g_goto e_X11_in_11 ?_
      obtain rfl := Option.some.inj hs
      exact g_zret rfl (by decide : inZ 1) (by decide : inZ 1) e_X11_in_15

noncomputable def m_X11_in (v0 : Int) (v1 : Int) (v2 : Int) : Option (Int) := m_X11_in_0 v0 v1 v2

set_option maxRecDepth 10000 in
set_option maxHeartbeats 8000000 in
theorem ct_X11_in {l : Launch} {E : EE} {b0 n : Nat} {h : AH} {v0 v1 v2 : Int} (ao : AO b0 n []) (hf : FA h [] []) (ok_v0 : inI v0) (ok_v1 : inI v1) (ok_v2 : inI v2) {r : Int} (hm : m_X11_in v0 v1 v2 = some r) : Ct l E b0 M_X11_in 0 0 [vI v0, vI v1, vI v2] h n (some (vI r)) h n (inZ r) := by
  rw [m_X11_in] at hm
  have hg : G l E b0 M_X11_in (fun _ => True) (ZM E b0 (some (vI r)) (ov [] [] h) n (inZ r) 0 0) 0 0 n (ov [] [] h) 0 [some (vI v0), some (vI v1), some (vI v2)] [] := by
    have hs := hm
    exact g_X11_in_0 ao ok_v0 ok_v1 ok_v2 hs
  rw [FA_id hf] at hg
  exact Ct_of [some (vI v0), some (vI v1), some (vI v2)] ⟨by decide +kernel, rfl⟩ rfl (Nat.le_of_ble_eq_true rfl) hg

/-! ===== X11_put ===== -/
theorem e_X11_put_0 : DC cX11_put 0 (.bipush 24) 2 2 := ⟨by decide +kernel, rfl⟩
theorem e_X11_put_2 : DC cX11_put 2 (.istore_n 2) 1 3 := ⟨by decide +kernel, rfl⟩
theorem e_X11_put_3 : DC cX11_put 3 (.iload_n 2) 1 4 := ⟨by decide +kernel, rfl⟩
theorem e_X11_put_4 : DB cX11_put 4 (.ifCond .lt 32) (32) 3 7 36 := ⟨by decide +kernel, rfl, rfl⟩
theorem e_X11_put_7 : DC cX11_put 7 (.aload_n 0) 1 8 := ⟨by decide +kernel, rfl⟩
theorem e_X11_put_8 : DC cX11_put 8 (.getfield 9) 3 11 := ⟨by decide +kernel, rfl⟩
theorem e_X11_put_11 : DC cX11_put 11 (.aload_n 0) 1 12 := ⟨by decide +kernel, rfl⟩
theorem e_X11_put_12 : DC cX11_put 12 (.getfield 161) 3 15 := ⟨by decide +kernel, rfl⟩
theorem e_X11_put_15 : DC cX11_put 15 (.iload_n 1) 1 16 := ⟨by decide +kernel, rfl⟩
theorem e_X11_put_16 : DC cX11_put 16 (.iload_n 2) 1 17 := ⟨by decide +kernel, rfl⟩
theorem e_X11_put_17 : DC cX11_put 17 (.ishr) 1 18 := ⟨by decide +kernel, rfl⟩
theorem e_X11_put_18 : DC cX11_put 18 (.i2b) 1 19 := ⟨by decide +kernel, rfl⟩
theorem e_X11_put_19 : DC cX11_put 19 (.bastore) 1 20 := ⟨by decide +kernel, rfl⟩
theorem e_X11_put_20 : DC cX11_put 20 (.aload_n 0) 1 21 := ⟨by decide +kernel, rfl⟩
theorem e_X11_put_21 : DC cX11_put 21 (.dup) 1 22 := ⟨by decide +kernel, rfl⟩
theorem e_X11_put_22 : DC cX11_put 22 (.getfield 161) 3 25 := ⟨by decide +kernel, rfl⟩
theorem e_X11_put_25 : DC cX11_put 25 (.iconst 1) 1 26 := ⟨by decide +kernel, rfl⟩
theorem e_X11_put_26 : DC cX11_put 26 (.iadd) 1 27 := ⟨by decide +kernel, rfl⟩
theorem e_X11_put_27 : DC cX11_put 27 (.putfield 161) 3 30 := ⟨by decide +kernel, rfl⟩
theorem e_X11_put_30 : DC cX11_put 30 (.iinc 2 (-8)) 3 33 := ⟨by decide +kernel, rfl⟩
theorem e_X11_put_33 : DB cX11_put 33 (.goto (-30)) (-30) 3 36 3 := ⟨by decide +kernel, rfl, rfl⟩
theorem e_X11_put_36 : DC cX11_put 36 (.return_) 1 37 := ⟨by decide +kernel, rfl⟩
noncomputable def m_X11_put_3 (v1 : Int) (k_36 : Int → (Nat → Int) → Int → Option (Int × (Nat → Int))) : Nat → Int → (Nat → Int) → Int → Option (Int × (Nat → Int))
  | 0, _, _, _ => none
  | F + 1, t_taped, t_tape, v2 => if v2 < 0 then (some (t_taped, t_tape)) else (chk (inY (bByte (bShr v1 v2))) (chk (inB t_taped 400) (chk (inI (t_taped + 1)) (chk (inI (v2 + (-8))) (m_X11_put_3 v1 k_36 F (t_taped + 1) (up t_tape (Int.toNat t_taped) (bByte (bShr v1 v2))) (v2 + (-8)))))))

set_option maxRecDepth 10000 in
set_option maxHeartbeats 8000000 in
theorem g_X11_put_3 {l : Launch} {E : EE} {b0 n : Nat} {h : AH} {a_t : Nat} {t_thrown t_p t_fault t_baseLow t_baseHigh t_newBaseLow t_newBaseHigh t_from t_knots t_lines t_chosen t_undos t_redos t_aimedMany t_fits t_fitOf t_sights t_systems t_own t_cross t_curveLong t_wallFirst v1 : Int} {r : Int × (Nat → Int)} {k_36 : Int → (Nat → Int) → Int → Option (Int × (Nat → Int))} (ao : AO b0 n [a_t, (a_t + 1)]) (ok_v1 : inI v1) (hk_36 : ∀ (t_taped_ : Int) (t_tape_ : Nat → Int) (v2_ : Int), inI t_taped_ → okY t_tape_ → inI v2_ → k_36 t_taped_ t_tape_ v2_ = some r → G l E b0 M_X11_put (fun _ => True) (ZM E b0 (none) (ov [a_t, (a_t + 1)] [.inr (11, fsX11 a_t t_thrown r.1 t_p t_fault t_baseLow t_baseHigh t_newBaseLow t_newBaseHigh t_from t_knots t_lines t_chosen t_undos t_redos t_aimedMany t_fits t_fitOf t_sights t_systems t_own t_cross t_curveLong t_wallFirst), YA E 400 r.2] h) n (inI r.1 ∧ okY r.2) 0 0) 0 0 n (ov [a_t, (a_t + 1)] [.inr (11, fsX11 a_t t_thrown t_taped_ t_p t_fault t_baseLow t_baseHigh t_newBaseLow t_newBaseHigh t_from t_knots t_lines t_chosen t_undos t_redos t_aimedMany t_fits t_fitOf t_sights t_systems t_own t_cross t_curveLong t_wallFirst), YA E 400 t_tape_] h) 36 [none, none, none] []) :
    ∀ (F : Nat) (t_taped : Int) (t_tape : Nat → Int) (v2 : Int), inI t_taped → okY t_tape → inI v2 → m_X11_put_3 v1 k_36 F t_taped t_tape v2 = some r → G l E b0 M_X11_put (fun _ => True) (ZM E b0 (none) (ov [a_t, (a_t + 1)] [.inr (11, fsX11 a_t t_thrown r.1 t_p t_fault t_baseLow t_baseHigh t_newBaseLow t_newBaseHigh t_from t_knots t_lines t_chosen t_undos t_redos t_aimedMany t_fits t_fitOf t_sights t_systems t_own t_cross t_curveLong t_wallFirst), YA E 400 r.2] h) n (inI r.1 ∧ okY r.2) 0 0) 0 0 n (ov [a_t, (a_t + 1)] [.inr (11, fsX11 a_t t_thrown t_taped t_p t_fault t_baseLow t_baseHigh t_newBaseLow t_newBaseHigh t_from t_knots t_lines t_chosen t_undos t_redos t_aimedMany t_fits t_fitOf t_sights t_systems t_own t_cross t_curveLong t_wallFirst), YA E 400 t_tape] h) 3 [some (.ref a_t), some (vI v1), some (vI v2)] [] := by
  intro F
  induction F with
  | zero =>
    intro t_taped t_tape v2 ok_t_taped ok_t_tape ok_v2 hs
    rw [m_X11_put_3] at hs
    cases hs
  | succ F ih =>
    intro t_taped t_tape v2 ok_t_taped ok_t_tape ok_v2 hs
    rw [m_X11_put_3] at hs
    refine g_iload_n e_X11_put_3 rfl ?_
    refine g_if_lt e_X11_put_4 ok_v2 hs (fun c4 hs => ?_) (fun c4 hs => ?_)
    · obtain rfl := Option.some.inj hs
      exact g_vret rfl ⟨ok_t_taped, ok_t_tape⟩ e_X11_put_36
    · refine g_aload_n e_X11_put_7 rfl ?_
      refine g_get 0 4 ao rfl rfl fsX11_g4 fl_X11_9 e_X11_put_8 ?_
      refine g_aload_n e_X11_put_11 rfl ?_
      refine g_get 0 1 ao rfl rfl fsX11_g1 fl_X11_161 e_X11_put_12 ?_
      refine g_iload_n e_X11_put_15 rfl ?_
      refine g_iload_n e_X11_put_16 rfl ?_
      refine g_ishr e_X11_put_17 ?_
      refine g_i2b e_X11_put_18 ?_
      obtain ⟨hc1, hs⟩ := chk_elim hs
      refine g_bast 1 ao rfl rfl ls_1 (Nat.le_of_ble_eq_true rfl) hc1 e_X11_put_19 hs (fun hi2 hs => ?_)
      refine g_aload_n e_X11_put_20 rfl ?_
      refine g_dup e_X11_put_21 rfl ?_
      refine g_get 0 1 ao rfl rfl fsX11_g1 fl_X11_161 e_X11_put_22 ?_
      refine g_iconst e_X11_put_25 ?_
      refine g_iadd e_X11_put_26 ?_
      obtain ⟨hc3, hs⟩ := chk_elim hs
      refine g_put 0 1 ao rfl rfl fsX11_k1 fsX11_s1 ls_0 fw_X11_161 (fun h => by cases h) ⟨rfl, rfl⟩ e_X11_put_27 ?_
      refine g_iinc e_X11_put_30 rfl st1_2 rfl ?_
      refine g_goto e_X11_put_33 ?_
      obtain ⟨hc4, hs⟩ := chk_elim hs
      exact ih _ _ _ hc3 (okY_up ok_t_tape hc1) hc4 hs

noncomputable def m_X11_put_36 (t_taped : Int) (t_tape : Nat → Int) : Option (Int × (Nat → Int)) :=
  some (t_taped, t_tape)

set_option maxRecDepth 10000 in
set_option maxHeartbeats 8000000 in
theorem g_X11_put_36 {l : Launch} {E : EE} {b0 n : Nat} {h : AH} {a_t : Nat} {t_thrown t_taped t_p t_fault t_baseLow t_baseHigh t_newBaseLow t_newBaseHigh t_from t_knots t_lines t_chosen t_undos t_redos t_aimedMany t_fits t_fitOf t_sights t_systems t_own t_cross t_curveLong t_wallFirst : Int} {t_tape : Nat → Int} {r : Int × (Nat → Int)} (ao : AO b0 n [a_t, (a_t + 1)]) (ok_t_taped : inI t_taped) (ok_t_tape : okY t_tape) (hs : m_X11_put_36 t_taped t_tape = some r) : G l E b0 M_X11_put (fun _ => True) (ZM E b0 (none) (ov [a_t, (a_t + 1)] [.inr (11, fsX11 a_t t_thrown r.1 t_p t_fault t_baseLow t_baseHigh t_newBaseLow t_newBaseHigh t_from t_knots t_lines t_chosen t_undos t_redos t_aimedMany t_fits t_fitOf t_sights t_systems t_own t_cross t_curveLong t_wallFirst), YA E 400 r.2] h) n (inI r.1 ∧ okY r.2) 0 0) 0 0 n (ov [a_t, (a_t + 1)] [.inr (11, fsX11 a_t t_thrown t_taped t_p t_fault t_baseLow t_baseHigh t_newBaseLow t_newBaseHigh t_from t_knots t_lines t_chosen t_undos t_redos t_aimedMany t_fits t_fitOf t_sights t_systems t_own t_cross t_curveLong t_wallFirst), YA E 400 t_tape] h) 36 [none, none, none] [] := by
  rw [m_X11_put_36] at hs
  obtain rfl := Option.some.inj hs
  exact g_vret rfl ⟨ok_t_taped, ok_t_tape⟩ e_X11_put_36

noncomputable def m_X11_put_0 (t_taped : Int) (t_tape : Nat → Int) (v1 : Int) : Option (Int × (Nat → Int)) :=
  m_X11_put_3 v1 (fun t_taped' t_tape' v2' => m_X11_put_36 t_taped' t_tape') FU t_taped t_tape 24

set_option maxRecDepth 10000 in
set_option maxHeartbeats 8000000 in
theorem g_X11_put_0 {l : Launch} {E : EE} {b0 n : Nat} {h : AH} {a_t : Nat} {t_thrown t_taped t_p t_fault t_baseLow t_baseHigh t_newBaseLow t_newBaseHigh t_from t_knots t_lines t_chosen t_undos t_redos t_aimedMany t_fits t_fitOf t_sights t_systems t_own t_cross t_curveLong t_wallFirst v1 : Int} {t_tape : Nat → Int} {r : Int × (Nat → Int)} (ao : AO b0 n [a_t, (a_t + 1)]) (ok_t_taped : inI t_taped) (ok_t_tape : okY t_tape) (ok_v1 : inI v1) (hs : m_X11_put_0 t_taped t_tape v1 = some r) : G l E b0 M_X11_put (fun _ => True) (ZM E b0 (none) (ov [a_t, (a_t + 1)] [.inr (11, fsX11 a_t t_thrown r.1 t_p t_fault t_baseLow t_baseHigh t_newBaseLow t_newBaseHigh t_from t_knots t_lines t_chosen t_undos t_redos t_aimedMany t_fits t_fitOf t_sights t_systems t_own t_cross t_curveLong t_wallFirst), YA E 400 r.2] h) n (inI r.1 ∧ okY r.2) 0 0) 0 0 n (ov [a_t, (a_t + 1)] [.inr (11, fsX11 a_t t_thrown t_taped t_p t_fault t_baseLow t_baseHigh t_newBaseLow t_newBaseHigh t_from t_knots t_lines t_chosen t_undos t_redos t_aimedMany t_fits t_fitOf t_sights t_systems t_own t_cross t_curveLong t_wallFirst), YA E 400 t_tape] h) 0 [some (.ref a_t), some (vI v1), none] [] := by
  rw [m_X11_put_0] at hs
  refine g_bipush e_X11_put_0 bp_24 ?_
  refine g_istore_n e_X11_put_2 st1_2 rfl ?_
  exact g_X11_put_3 ao ok_v1 (hk_36 := by
      intro t_taped' t_tape' v2' ok_t_taped' ok_t_tape' ok_v2' hs
      exact g_X11_put_36 ao ok_t_taped' ok_t_tape' hs) FU _ _ _ ok_t_taped ok_t_tape (by decide : inI 24) hs

noncomputable def m_X11_put (t_taped : Int) (t_tape : Nat → Int) (v1 : Int) : Option (Int × (Nat → Int)) := m_X11_put_0 t_taped t_tape v1

set_option maxRecDepth 10000 in
set_option maxHeartbeats 8000000 in
theorem ct_X11_put {l : Launch} {E : EE} {b0 n : Nat} {h : AH} {a_t : Nat} {t_thrown t_taped t_p t_fault t_baseLow t_baseHigh t_newBaseLow t_newBaseHigh t_from t_knots t_lines t_chosen t_undos t_redos t_aimedMany t_fits t_fitOf t_sights t_systems t_own t_cross t_curveLong t_wallFirst : Int} {t_tape : Nat → Int} {v1 : Int} (ao : AO b0 n [a_t, (a_t + 1)]) (hf : FA h [a_t, (a_t + 1)] [.inr (11, fsX11 a_t t_thrown t_taped t_p t_fault t_baseLow t_baseHigh t_newBaseLow t_newBaseHigh t_from t_knots t_lines t_chosen t_undos t_redos t_aimedMany t_fits t_fitOf t_sights t_systems t_own t_cross t_curveLong t_wallFirst), YA E 400 t_tape]) (ok_t_taped : inI t_taped) (ok_t_tape : okY t_tape) (ok_v1 : inI v1) {r : Int × (Nat → Int)} (hm : m_X11_put t_taped t_tape v1 = some r) : Ct l E b0 M_X11_put 0 0 [.ref a_t, vI v1] h n (none) (ov [a_t, (a_t + 1)] [.inr (11, fsX11 a_t t_thrown r.1 t_p t_fault t_baseLow t_baseHigh t_newBaseLow t_newBaseHigh t_from t_knots t_lines t_chosen t_undos t_redos t_aimedMany t_fits t_fitOf t_sights t_systems t_own t_cross t_curveLong t_wallFirst), YA E 400 r.2] h) n (inI r.1 ∧ okY r.2) := by
  rw [m_X11_put] at hm
  have hg : G l E b0 M_X11_put (fun _ => True) (ZM E b0 (none) (ov [a_t, (a_t + 1)] [.inr (11, fsX11 a_t t_thrown r.1 t_p t_fault t_baseLow t_baseHigh t_newBaseLow t_newBaseHigh t_from t_knots t_lines t_chosen t_undos t_redos t_aimedMany t_fits t_fitOf t_sights t_systems t_own t_cross t_curveLong t_wallFirst), YA E 400 r.2] h) n (inI r.1 ∧ okY r.2) 0 0) 0 0 n (ov [a_t, (a_t + 1)] [.inr (11, fsX11 a_t t_thrown t_taped t_p t_fault t_baseLow t_baseHigh t_newBaseLow t_newBaseHigh t_from t_knots t_lines t_chosen t_undos t_redos t_aimedMany t_fits t_fitOf t_sights t_systems t_own t_cross t_curveLong t_wallFirst), YA E 400 t_tape] h) 0 [some (.ref a_t), some (vI v1), none] [] := by
    have hs := hm
    exact g_X11_put_0 ao ok_t_taped ok_t_tape ok_v1 hs
  rw [FA_id hf] at hg
  exact Ct_of [some (.ref a_t), some (vI v1), none] ⟨by decide +kernel, rfl⟩ rfl (Nat.le_of_ble_eq_true rfl) hg

/-! ===== X11_end ===== -/
theorem e_X11_end_0 : DC cX11_end 0 (.iload_n 1) 1 1 := ⟨by decide +kernel, rfl⟩
theorem e_X11_end_1 : DB cX11_end 1 (.ifCond .lt 11) (11) 3 4 12 := ⟨by decide +kernel, rfl, rfl⟩
theorem e_X11_end_4 : DC cX11_end 4 (.iload_n 1) 1 5 := ⟨by decide +kernel, rfl⟩
theorem e_X11_end_5 : DC cX11_end 5 (.aload_n 0) 1 6 := ⟨by decide +kernel, rfl⟩
theorem e_X11_end_6 : DC cX11_end 6 (.getfield 161) 3 9 := ⟨by decide +kernel, rfl⟩
theorem e_X11_end_9 : DB cX11_end 9 (.if_icmp .le 5) (5) 3 12 14 := ⟨by decide +kernel, rfl, rfl⟩
theorem e_X11_end_12 : DC cX11_end 12 (.iconst (-1)) 1 13 := ⟨by decide +kernel, rfl⟩
theorem e_X11_end_13 : DC cX11_end 13 (.ireturn) 1 14 := ⟨by decide +kernel, rfl⟩
theorem e_X11_end_14 : DC cX11_end 14 (.aload_n 0) 1 15 := ⟨by decide +kernel, rfl⟩
theorem e_X11_end_15 : DC cX11_end 15 (.iload_n 1) 1 16 := ⟨by decide +kernel, rfl⟩
theorem e_X11_end_16 : DC cX11_end 16 (.putfield 161) 3 19 := ⟨by decide +kernel, rfl⟩
theorem e_X11_end_19 : DC cX11_end 19 (.iload_n 1) 1 20 := ⟨by decide +kernel, rfl⟩
theorem e_X11_end_20 : DC cX11_end 20 (.ireturn) 1 21 := ⟨by decide +kernel, rfl⟩
noncomputable def m_X11_end_0 (t_taped : Int) (v1 : Int) : Option (Int × Int) :=
  if v1 < 0 then (some ((-1), t_taped)) else (if v1 ≤ t_taped then (some (v1, v1)) else (some ((-1), t_taped)))

set_option maxRecDepth 10000 in
set_option maxHeartbeats 8000000 in
theorem g_X11_end_0 {l : Launch} {E : EE} {b0 n : Nat} {h : AH} {a_t : Nat} {t_thrown t_taped t_p t_fault t_baseLow t_baseHigh t_newBaseLow t_newBaseHigh t_from t_knots t_lines t_chosen t_undos t_redos t_aimedMany t_fits t_fitOf t_sights t_systems t_own t_cross t_curveLong t_wallFirst v1 : Int} {r : Int × Int} (ao : AO b0 n [a_t]) (ok_t_taped : inI t_taped) (ok_v1 : inI v1) (hs : m_X11_end_0 t_taped v1 = some r) : G l E b0 M_X11_end (fun _ => True) (ZM E b0 (some (vI r.1)) (ov [a_t] [.inr (11, fsX11 a_t t_thrown r.2 t_p t_fault t_baseLow t_baseHigh t_newBaseLow t_newBaseHigh t_from t_knots t_lines t_chosen t_undos t_redos t_aimedMany t_fits t_fitOf t_sights t_systems t_own t_cross t_curveLong t_wallFirst)] h) n (inI r.1 ∧ inI r.2) 0 0) 0 0 n (ov [a_t] [.inr (11, fsX11 a_t t_thrown t_taped t_p t_fault t_baseLow t_baseHigh t_newBaseLow t_newBaseHigh t_from t_knots t_lines t_chosen t_undos t_redos t_aimedMany t_fits t_fitOf t_sights t_systems t_own t_cross t_curveLong t_wallFirst)] h) 0 [some (.ref a_t), some (vI v1)] [] := by
  rw [m_X11_end_0] at hs
  refine g_iload_n e_X11_end_0 rfl ?_
  refine g_if_lt e_X11_end_1 ok_v1 hs (fun c1 hs => ?_) (fun c1 hs => ?_)
  · refine g_iconst e_X11_end_12 ?_
    obtain rfl := Option.some.inj hs
    exact g_iret rfl ⟨(by decide : inI (-1)), ok_t_taped⟩ e_X11_end_13
  · refine g_iload_n e_X11_end_4 rfl ?_
    refine g_aload_n e_X11_end_5 rfl ?_
    refine g_get 0 1 ao rfl rfl fsX11_g1 fl_X11_161 e_X11_end_6 ?_
    refine g_icmp_le e_X11_end_9 ok_v1 ok_t_taped hs (fun c9 hs => ?_) (fun c9 hs => ?_)
    · refine g_aload_n e_X11_end_14 rfl ?_
      refine g_iload_n e_X11_end_15 rfl ?_
      refine g_put 0 1 ao rfl rfl fsX11_k1 fsX11_s1 ls_0 fw_X11_161 (fun h => by cases h) ⟨rfl, rfl⟩ e_X11_end_16 ?_
      refine g_iload_n e_X11_end_19 rfl ?_
      obtain rfl := Option.some.inj hs
      exact g_iret rfl ⟨ok_v1, ok_v1⟩ e_X11_end_20
    · refine g_iconst e_X11_end_12 ?_
      obtain rfl := Option.some.inj hs
      exact g_iret rfl ⟨(by decide : inI (-1)), ok_t_taped⟩ e_X11_end_13

noncomputable def m_X11_end (t_taped : Int) (v1 : Int) : Option (Int × Int) := m_X11_end_0 t_taped v1

set_option maxRecDepth 10000 in
set_option maxHeartbeats 8000000 in
theorem ct_X11_end {l : Launch} {E : EE} {b0 n : Nat} {h : AH} {a_t : Nat} {t_thrown t_taped t_p t_fault t_baseLow t_baseHigh t_newBaseLow t_newBaseHigh t_from t_knots t_lines t_chosen t_undos t_redos t_aimedMany t_fits t_fitOf t_sights t_systems t_own t_cross t_curveLong t_wallFirst : Int} {v1 : Int} (ao : AO b0 n [a_t]) (hf : FA h [a_t] [.inr (11, fsX11 a_t t_thrown t_taped t_p t_fault t_baseLow t_baseHigh t_newBaseLow t_newBaseHigh t_from t_knots t_lines t_chosen t_undos t_redos t_aimedMany t_fits t_fitOf t_sights t_systems t_own t_cross t_curveLong t_wallFirst)]) (ok_t_taped : inI t_taped) (ok_v1 : inI v1) {r : Int × Int} (hm : m_X11_end t_taped v1 = some r) : Ct l E b0 M_X11_end 0 0 [.ref a_t, vI v1] h n (some (vI r.1)) (ov [a_t] [.inr (11, fsX11 a_t t_thrown r.2 t_p t_fault t_baseLow t_baseHigh t_newBaseLow t_newBaseHigh t_from t_knots t_lines t_chosen t_undos t_redos t_aimedMany t_fits t_fitOf t_sights t_systems t_own t_cross t_curveLong t_wallFirst)] h) n (inI r.1 ∧ inI r.2) := by
  rw [m_X11_end] at hm
  have hg : G l E b0 M_X11_end (fun _ => True) (ZM E b0 (some (vI r.1)) (ov [a_t] [.inr (11, fsX11 a_t t_thrown r.2 t_p t_fault t_baseLow t_baseHigh t_newBaseLow t_newBaseHigh t_from t_knots t_lines t_chosen t_undos t_redos t_aimedMany t_fits t_fitOf t_sights t_systems t_own t_cross t_curveLong t_wallFirst)] h) n (inI r.1 ∧ inI r.2) 0 0) 0 0 n (ov [a_t] [.inr (11, fsX11 a_t t_thrown t_taped t_p t_fault t_baseLow t_baseHigh t_newBaseLow t_newBaseHigh t_from t_knots t_lines t_chosen t_undos t_redos t_aimedMany t_fits t_fitOf t_sights t_systems t_own t_cross t_curveLong t_wallFirst)] h) 0 [some (.ref a_t), some (vI v1)] [] := by
    have hs := hm
    exact g_X11_end_0 ao ok_t_taped ok_v1 hs
  rw [FA_id hf] at hg
  exact Ct_of [some (.ref a_t), some (vI v1)] ⟨by decide +kernel, rfl⟩ rfl (Nat.le_of_ble_eq_true rfl) hg

/-! ===== X11_fails ===== -/
theorem e_X11_fails_0 : DC cX11_fails 0 (.aload_n 0) 1 1 := ⟨by decide +kernel, rfl⟩
theorem e_X11_fails_1 : DC cX11_fails 1 (.aload_n 0) 1 2 := ⟨by decide +kernel, rfl⟩
theorem e_X11_fails_2 : DC cX11_fails 2 (.getfield 168) 3 5 := ⟨by decide +kernel, rfl⟩
theorem e_X11_fails_5 : DB cX11_fails 5 (.ifCond .ne 14) (14) 3 8 19 := ⟨by decide +kernel, rfl, rfl⟩
theorem e_X11_fails_8 : DC cX11_fails 8 (.iconst 1) 1 9 := ⟨by decide +kernel, rfl⟩
theorem e_X11_fails_9 : DC cX11_fails 9 (.bipush 8) 2 11 := ⟨by decide +kernel, rfl⟩
theorem e_X11_fails_11 : DC cX11_fails 11 (.iload_n 2) 1 12 := ⟨by decide +kernel, rfl⟩
theorem e_X11_fails_12 : DC cX11_fails 12 (.imul) 1 13 := ⟨by decide +kernel, rfl⟩
theorem e_X11_fails_13 : DC cX11_fails 13 (.iadd) 1 14 := ⟨by decide +kernel, rfl⟩
theorem e_X11_fails_14 : DC cX11_fails 14 (.iload_n 1) 1 15 := ⟨by decide +kernel, rfl⟩
theorem e_X11_fails_15 : DC cX11_fails 15 (.iadd) 1 16 := ⟨by decide +kernel, rfl⟩
theorem e_X11_fails_16 : DB cX11_fails 16 (.goto 7) (7) 3 19 23 := ⟨by decide +kernel, rfl, rfl⟩
theorem e_X11_fails_19 : DC cX11_fails 19 (.aload_n 0) 1 20 := ⟨by decide +kernel, rfl⟩
theorem e_X11_fails_20 : DC cX11_fails 20 (.getfield 168) 3 23 := ⟨by decide +kernel, rfl⟩
theorem e_X11_fails_23 : DC cX11_fails 23 (.putfield 168) 3 26 := ⟨by decide +kernel, rfl⟩
theorem e_X11_fails_26 : DC cX11_fails 26 (.return_) 1 27 := ⟨by decide +kernel, rfl⟩
noncomputable def m_X11_fails_23 (t_fault : Int) (s1 : Int) : Option (Int) :=
  some (s1)

set_option maxRecDepth 10000 in
set_option maxHeartbeats 8000000 in
theorem g_X11_fails_23 {l : Launch} {E : EE} {b0 n : Nat} {h : AH} {a_t : Nat} {t_thrown t_taped t_p t_fault t_baseLow t_baseHigh t_newBaseLow t_newBaseHigh t_from t_knots t_lines t_chosen t_undos t_redos t_aimedMany t_fits t_fitOf t_sights t_systems t_own t_cross t_curveLong t_wallFirst s1 : Int} {r : Int} (ao : AO b0 n [a_t]) (ok_t_fault : inI t_fault) (ok_s1 : inI s1) (hs : m_X11_fails_23 t_fault s1 = some r) : G l E b0 M_X11_fails (fun _ => True) (ZM E b0 (none) (ov [a_t] [.inr (11, fsX11 a_t t_thrown t_taped t_p r t_baseLow t_baseHigh t_newBaseLow t_newBaseHigh t_from t_knots t_lines t_chosen t_undos t_redos t_aimedMany t_fits t_fitOf t_sights t_systems t_own t_cross t_curveLong t_wallFirst)] h) n (inI r) 0 0) 0 0 n (ov [a_t] [.inr (11, fsX11 a_t t_thrown t_taped t_p t_fault t_baseLow t_baseHigh t_newBaseLow t_newBaseHigh t_from t_knots t_lines t_chosen t_undos t_redos t_aimedMany t_fits t_fitOf t_sights t_systems t_own t_cross t_curveLong t_wallFirst)] h) 23 [none, none, none] [vI s1, .ref a_t] := by
  rw [m_X11_fails_23] at hs
  refine g_put 0 3 ao rfl rfl fsX11_k3 fsX11_s3 ls_0 fw_X11_168 (fun h => by cases h) ⟨rfl, rfl⟩ e_X11_fails_23 ?_
  obtain rfl := Option.some.inj hs
  exact g_vret rfl ok_s1 e_X11_fails_26

noncomputable def m_X11_fails_0 (t_fault : Int) (v1 : Int) (v2 : Int) : Option (Int) :=
  if t_fault = 0 then (chk (inI ((1 + (8 * v2)) + v1)) (m_X11_fails_23 t_fault ((1 + (8 * v2)) + v1))) else (m_X11_fails_23 t_fault t_fault)

set_option maxRecDepth 10000 in
set_option maxHeartbeats 8000000 in
theorem g_X11_fails_0 {l : Launch} {E : EE} {b0 n : Nat} {h : AH} {a_t : Nat} {t_thrown t_taped t_p t_fault t_baseLow t_baseHigh t_newBaseLow t_newBaseHigh t_from t_knots t_lines t_chosen t_undos t_redos t_aimedMany t_fits t_fitOf t_sights t_systems t_own t_cross t_curveLong t_wallFirst v1 v2 : Int} {r : Int} (ao : AO b0 n [a_t]) (ok_t_fault : inI t_fault) (ok_v1 : inI v1) (ok_v2 : inI v2) (hs : m_X11_fails_0 t_fault v1 v2 = some r) : G l E b0 M_X11_fails (fun _ => True) (ZM E b0 (none) (ov [a_t] [.inr (11, fsX11 a_t t_thrown t_taped t_p r t_baseLow t_baseHigh t_newBaseLow t_newBaseHigh t_from t_knots t_lines t_chosen t_undos t_redos t_aimedMany t_fits t_fitOf t_sights t_systems t_own t_cross t_curveLong t_wallFirst)] h) n (inI r) 0 0) 0 0 n (ov [a_t] [.inr (11, fsX11 a_t t_thrown t_taped t_p t_fault t_baseLow t_baseHigh t_newBaseLow t_newBaseHigh t_from t_knots t_lines t_chosen t_undos t_redos t_aimedMany t_fits t_fitOf t_sights t_systems t_own t_cross t_curveLong t_wallFirst)] h) 0 [some (.ref a_t), some (vI v1), some (vI v2)] [] := by
  rw [m_X11_fails_0] at hs
  refine g_aload_n e_X11_fails_0 rfl ?_
  refine g_aload_n e_X11_fails_1 rfl ?_
  refine g_get 0 3 ao rfl rfl fsX11_g3 fl_X11_168 e_X11_fails_2 ?_
  refine g_if_ne e_X11_fails_5 ok_t_fault hs (fun c5 hs => ?_) (fun c5 hs => ?_)
  · refine g_iconst e_X11_fails_8 ?_
    refine g_bipush e_X11_fails_9 bp_8 ?_
    refine g_iload_n e_X11_fails_11 rfl ?_
    refine g_imul e_X11_fails_12 ?_
    refine g_iadd e_X11_fails_13 ?_
    refine g_iload_n e_X11_fails_14 rfl ?_
    refine g_iadd e_X11_fails_15 ?_
    refine g_goto e_X11_fails_16 ?_
    obtain ⟨hc1, hs⟩ := chk_elim hs
    exact g_mask [false, false, false] (g_X11_fails_23 ao ok_t_fault hc1 hs)
  · refine g_aload_n e_X11_fails_19 rfl ?_
    refine g_get 0 3 ao rfl rfl fsX11_g3 fl_X11_168 e_X11_fails_20 ?_
    exact g_mask [false, false, false] (g_X11_fails_23 ao ok_t_fault ok_t_fault hs)

noncomputable def m_X11_fails (t_fault : Int) (v1 : Int) (v2 : Int) : Option (Int) := m_X11_fails_0 t_fault v1 v2

set_option maxRecDepth 10000 in
set_option maxHeartbeats 8000000 in
theorem ct_X11_fails {l : Launch} {E : EE} {b0 n : Nat} {h : AH} {a_t : Nat} {t_thrown t_taped t_p t_fault t_baseLow t_baseHigh t_newBaseLow t_newBaseHigh t_from t_knots t_lines t_chosen t_undos t_redos t_aimedMany t_fits t_fitOf t_sights t_systems t_own t_cross t_curveLong t_wallFirst : Int} {v1 v2 : Int} (ao : AO b0 n [a_t]) (hf : FA h [a_t] [.inr (11, fsX11 a_t t_thrown t_taped t_p t_fault t_baseLow t_baseHigh t_newBaseLow t_newBaseHigh t_from t_knots t_lines t_chosen t_undos t_redos t_aimedMany t_fits t_fitOf t_sights t_systems t_own t_cross t_curveLong t_wallFirst)]) (ok_t_fault : inI t_fault) (ok_v1 : inI v1) (ok_v2 : inI v2) {r : Int} (hm : m_X11_fails t_fault v1 v2 = some r) : Ct l E b0 M_X11_fails 0 0 [.ref a_t, vI v1, vI v2] h n (none) (ov [a_t] [.inr (11, fsX11 a_t t_thrown t_taped t_p r t_baseLow t_baseHigh t_newBaseLow t_newBaseHigh t_from t_knots t_lines t_chosen t_undos t_redos t_aimedMany t_fits t_fitOf t_sights t_systems t_own t_cross t_curveLong t_wallFirst)] h) n (inI r) := by
  rw [m_X11_fails] at hm
  have hg : G l E b0 M_X11_fails (fun _ => True) (ZM E b0 (none) (ov [a_t] [.inr (11, fsX11 a_t t_thrown t_taped t_p r t_baseLow t_baseHigh t_newBaseLow t_newBaseHigh t_from t_knots t_lines t_chosen t_undos t_redos t_aimedMany t_fits t_fitOf t_sights t_systems t_own t_cross t_curveLong t_wallFirst)] h) n (inI r) 0 0) 0 0 n (ov [a_t] [.inr (11, fsX11 a_t t_thrown t_taped t_p t_fault t_baseLow t_baseHigh t_newBaseLow t_newBaseHigh t_from t_knots t_lines t_chosen t_undos t_redos t_aimedMany t_fits t_fitOf t_sights t_systems t_own t_cross t_curveLong t_wallFirst)] h) 0 [some (.ref a_t), some (vI v1), some (vI v2)] [] := by
    have hs := hm
    exact g_X11_fails_0 ao ok_t_fault ok_v1 ok_v2 hs
  rw [FA_id hf] at hg
  exact Ct_of [some (.ref a_t), some (vI v1), some (vI v2)] ⟨by decide +kernel, rfl⟩ rfl (Nat.le_of_ble_eq_true rfl) hg

/-! ===== X11_sign ===== -/
theorem e_X11_sign_0 : DC cX11_sign 0 (.aload_n 0) 1 1 := ⟨by decide +kernel, rfl⟩
theorem e_X11_sign_1 : DC cX11_sign 1 (.getfield 171) 3 4 := ⟨by decide +kernel, rfl⟩
theorem e_X11_sign_4 : DC cX11_sign 4 (.aload_n 0) 1 5 := ⟨by decide +kernel, rfl⟩
theorem e_X11_sign_5 : DC cX11_sign 5 (.getfield 161) 3 8 := ⟨by decide +kernel, rfl⟩
theorem e_X11_sign_8 : DB cX11_sign 8 (.if_icmp .ge 15) (15) 3 11 23 := ⟨by decide +kernel, rfl, rfl⟩
theorem e_X11_sign_11 : DC cX11_sign 11 (.aload_n 0) 1 12 := ⟨by decide +kernel, rfl⟩
theorem e_X11_sign_12 : DC cX11_sign 12 (.getfield 9) 3 15 := ⟨by decide +kernel, rfl⟩
theorem e_X11_sign_15 : DC cX11_sign 15 (.aload_n 0) 1 16 := ⟨by decide +kernel, rfl⟩
theorem e_X11_sign_16 : DC cX11_sign 16 (.getfield 171) 3 19 := ⟨by decide +kernel, rfl⟩
theorem e_X11_sign_19 : DC cX11_sign 19 (.baload) 1 20 := ⟨by decide +kernel, rfl⟩
theorem e_X11_sign_20 : DB cX11_sign 20 (.goto 4) (4) 3 23 24 := ⟨by decide +kernel, rfl, rfl⟩
theorem e_X11_sign_23 : DC cX11_sign 23 (.iconst (-1)) 1 24 := ⟨by decide +kernel, rfl⟩
theorem e_X11_sign_24 : DC cX11_sign 24 (.ireturn) 1 25 := ⟨by decide +kernel, rfl⟩
noncomputable def m_X11_sign_0 (t_taped : Int) (t_p : Int) (t_tape : Nat → Int) : Option (Int) :=
  if t_taped ≤ t_p then (some ((-1))) else (chk (inB t_p 400) (some (t_tape (Int.toNat t_p))))

set_option maxRecDepth 10000 in
set_option maxHeartbeats 8000000 in
theorem g_X11_sign_0 {l : Launch} {E : EE} {b0 n : Nat} {h : AH} {a_t : Nat} {t_thrown t_taped t_p t_fault t_baseLow t_baseHigh t_newBaseLow t_newBaseHigh t_from t_knots t_lines t_chosen t_undos t_redos t_aimedMany t_fits t_fitOf t_sights t_systems t_own t_cross t_curveLong t_wallFirst : Int} {t_tape : Nat → Int} {r : Int} (ao : AO b0 n [a_t, (a_t + 1)]) (ok_t_taped : inI t_taped) (ok_t_p : inI t_p) (ok_t_tape : okY t_tape) (hs : m_X11_sign_0 t_taped t_p t_tape = some r) : G l E b0 M_X11_sign (fun _ => True) (ZM E b0 (some (vI r)) (ov [a_t, (a_t + 1)] [.inr (11, fsX11 a_t t_thrown t_taped t_p t_fault t_baseLow t_baseHigh t_newBaseLow t_newBaseHigh t_from t_knots t_lines t_chosen t_undos t_redos t_aimedMany t_fits t_fitOf t_sights t_systems t_own t_cross t_curveLong t_wallFirst), YA E 400 t_tape] h) n (inI r) 0 0) 0 0 n (ov [a_t, (a_t + 1)] [.inr (11, fsX11 a_t t_thrown t_taped t_p t_fault t_baseLow t_baseHigh t_newBaseLow t_newBaseHigh t_from t_knots t_lines t_chosen t_undos t_redos t_aimedMany t_fits t_fitOf t_sights t_systems t_own t_cross t_curveLong t_wallFirst), YA E 400 t_tape] h) 0 [some (.ref a_t)] [] := by
  rw [m_X11_sign_0] at hs
  refine g_aload_n e_X11_sign_0 rfl ?_
  refine g_get 0 2 ao rfl rfl fsX11_g2 fl_X11_171 e_X11_sign_1 ?_
  refine g_aload_n e_X11_sign_4 rfl ?_
  refine g_get 0 1 ao rfl rfl fsX11_g1 fl_X11_161 e_X11_sign_5 ?_
  refine g_icmp_ge e_X11_sign_8 ok_t_p ok_t_taped hs (fun c8 hs => ?_) (fun c8 hs => ?_)
  · refine g_iconst e_X11_sign_23 ?_
    obtain rfl := Option.some.inj hs
    exact g_iret rfl (by decide : inI (-1)) e_X11_sign_24
  · refine g_aload_n e_X11_sign_11 rfl ?_
    refine g_get 0 4 ao rfl rfl fsX11_g4 fl_X11_9 e_X11_sign_12 ?_
    refine g_aload_n e_X11_sign_15 rfl ?_
    refine g_get 0 2 ao rfl rfl fsX11_g2 fl_X11_171 e_X11_sign_16 ?_
    refine g_bald 1 ao rfl rfl (Nat.le_of_ble_eq_true rfl) e_X11_sign_19 hs (fun hi1 hs => ?_)
    refine g_goto e_X11_sign_20 ?_
    obtain rfl := Option.some.inj hs
    exact g_iret rfl (inY_I (ok_t_tape _)) e_X11_sign_24

noncomputable def m_X11_sign (t_taped : Int) (t_p : Int) (t_tape : Nat → Int) : Option (Int) := m_X11_sign_0 t_taped t_p t_tape

set_option maxRecDepth 10000 in
set_option maxHeartbeats 8000000 in
theorem ct_X11_sign {l : Launch} {E : EE} {b0 n : Nat} {h : AH} {a_t : Nat} {t_thrown t_taped t_p t_fault t_baseLow t_baseHigh t_newBaseLow t_newBaseHigh t_from t_knots t_lines t_chosen t_undos t_redos t_aimedMany t_fits t_fitOf t_sights t_systems t_own t_cross t_curveLong t_wallFirst : Int} {t_tape : Nat → Int} (ao : AO b0 n [a_t, (a_t + 1)]) (hf : FA h [a_t, (a_t + 1)] [.inr (11, fsX11 a_t t_thrown t_taped t_p t_fault t_baseLow t_baseHigh t_newBaseLow t_newBaseHigh t_from t_knots t_lines t_chosen t_undos t_redos t_aimedMany t_fits t_fitOf t_sights t_systems t_own t_cross t_curveLong t_wallFirst), YA E 400 t_tape]) (ok_t_taped : inI t_taped) (ok_t_p : inI t_p) (ok_t_tape : okY t_tape) {r : Int} (hm : m_X11_sign t_taped t_p t_tape = some r) : Ct l E b0 M_X11_sign 0 0 [.ref a_t] h n (some (vI r)) h n (inI r) := by
  rw [m_X11_sign] at hm
  have hg : G l E b0 M_X11_sign (fun _ => True) (ZM E b0 (some (vI r)) (ov [a_t, (a_t + 1)] [.inr (11, fsX11 a_t t_thrown t_taped t_p t_fault t_baseLow t_baseHigh t_newBaseLow t_newBaseHigh t_from t_knots t_lines t_chosen t_undos t_redos t_aimedMany t_fits t_fitOf t_sights t_systems t_own t_cross t_curveLong t_wallFirst), YA E 400 t_tape] h) n (inI r) 0 0) 0 0 n (ov [a_t, (a_t + 1)] [.inr (11, fsX11 a_t t_thrown t_taped t_p t_fault t_baseLow t_baseHigh t_newBaseLow t_newBaseHigh t_from t_knots t_lines t_chosen t_undos t_redos t_aimedMany t_fits t_fitOf t_sights t_systems t_own t_cross t_curveLong t_wallFirst), YA E 400 t_tape] h) 0 [some (.ref a_t)] [] := by
    have hs := hm
    exact g_X11_sign_0 ao ok_t_taped ok_t_p ok_t_tape hs
  rw [FA_id hf] at hg
  exact Ct_of [some (.ref a_t)] ⟨by decide +kernel, rfl⟩ rfl (Nat.le_of_ble_eq_true rfl) hg

/-! ===== X11_blanks ===== -/
theorem e_X11_blanks_0 : DC cX11_blanks 0 (.aload_n 0) 1 1 := ⟨by decide +kernel, rfl⟩
theorem e_X11_blanks_1 : DC cX11_blanks 1 (.invokevirtual 174) 3 4 := ⟨by decide +kernel, rfl⟩
theorem e_X11_blanks_4 : DC cX11_blanks 4 (.bipush 32) 2 6 := ⟨by decide +kernel, rfl⟩
theorem e_X11_blanks_6 : DB cX11_blanks 6 (.if_icmp .ne 16) (16) 3 9 22 := ⟨by decide +kernel, rfl, rfl⟩
theorem e_X11_blanks_9 : DC cX11_blanks 9 (.aload_n 0) 1 10 := ⟨by decide +kernel, rfl⟩
theorem e_X11_blanks_10 : DC cX11_blanks 10 (.dup) 1 11 := ⟨by decide +kernel, rfl⟩
theorem e_X11_blanks_11 : DC cX11_blanks 11 (.getfield 171) 3 14 := ⟨by decide +kernel, rfl⟩
theorem e_X11_blanks_14 : DC cX11_blanks 14 (.iconst 1) 1 15 := ⟨by decide +kernel, rfl⟩
theorem e_X11_blanks_15 : DC cX11_blanks 15 (.iadd) 1 16 := ⟨by decide +kernel, rfl⟩
theorem e_X11_blanks_16 : DC cX11_blanks 16 (.putfield 171) 3 19 := ⟨by decide +kernel, rfl⟩
theorem e_X11_blanks_19 : DB cX11_blanks 19 (.goto (-19)) (-19) 3 22 0 := ⟨by decide +kernel, rfl, rfl⟩
theorem e_X11_blanks_22 : DC cX11_blanks 22 (.return_) 1 23 := ⟨by decide +kernel, rfl⟩
noncomputable def m_X11_blanks_0 (t_taped : Int) (t_tape : Nat → Int) (k_22 : Int → Option (Int)) : Nat → Int → Option (Int)
  | 0, _ => none
  | F + 1, t_p => (m_X11_sign t_taped t_p t_tape).bind (fun y1 => if y1 = 32 then (chk (inI (t_p + 1)) (m_X11_blanks_0 t_taped t_tape k_22 F (t_p + 1))) else (some (t_p)))

set_option maxRecDepth 10000 in
set_option maxHeartbeats 8000000 in
theorem g_X11_blanks_0 {l : Launch} {E : EE} {b0 n : Nat} {h : AH} {a_t : Nat} {t_thrown t_taped t_fault t_baseLow t_baseHigh t_newBaseLow t_newBaseHigh t_from t_knots t_lines t_chosen t_undos t_redos t_aimedMany t_fits t_fitOf t_sights t_systems t_own t_cross t_curveLong t_wallFirst : Int} {t_tape : Nat → Int} {r : Int} {k_22 : Int → Option (Int)} (ao : AO b0 n [a_t, (a_t + 1)]) (ok_t_taped : inI t_taped) (ok_t_tape : okY t_tape) (hk_22 : ∀ (t_p_ : Int), inI t_p_ → k_22 t_p_ = some r → G l E b0 M_X11_blanks (fun _ => True) (ZM E b0 (none) (ov [a_t, (a_t + 1)] [.inr (11, fsX11 a_t t_thrown t_taped r t_fault t_baseLow t_baseHigh t_newBaseLow t_newBaseHigh t_from t_knots t_lines t_chosen t_undos t_redos t_aimedMany t_fits t_fitOf t_sights t_systems t_own t_cross t_curveLong t_wallFirst), YA E 400 t_tape] h) n (inI r) 0 0) 0 0 n (ov [a_t, (a_t + 1)] [.inr (11, fsX11 a_t t_thrown t_taped t_p_ t_fault t_baseLow t_baseHigh t_newBaseLow t_newBaseHigh t_from t_knots t_lines t_chosen t_undos t_redos t_aimedMany t_fits t_fitOf t_sights t_systems t_own t_cross t_curveLong t_wallFirst), YA E 400 t_tape] h) 22 [none] []) :
    ∀ (F : Nat) (t_p : Int), inI t_p → m_X11_blanks_0 t_taped t_tape k_22 F t_p = some r → G l E b0 M_X11_blanks (fun _ => True) (ZM E b0 (none) (ov [a_t, (a_t + 1)] [.inr (11, fsX11 a_t t_thrown t_taped r t_fault t_baseLow t_baseHigh t_newBaseLow t_newBaseHigh t_from t_knots t_lines t_chosen t_undos t_redos t_aimedMany t_fits t_fitOf t_sights t_systems t_own t_cross t_curveLong t_wallFirst), YA E 400 t_tape] h) n (inI r) 0 0) 0 0 n (ov [a_t, (a_t + 1)] [.inr (11, fsX11 a_t t_thrown t_taped t_p t_fault t_baseLow t_baseHigh t_newBaseLow t_newBaseHigh t_from t_knots t_lines t_chosen t_undos t_redos t_aimedMany t_fits t_fitOf t_sights t_systems t_own t_cross t_curveLong t_wallFirst), YA E 400 t_tape] h) 0 [some (.ref a_t)] [] := by
  intro F
  induction F with
  | zero =>
    intro t_p ok_t_p hs
    rw [m_X11_blanks_0] at hs
    cases hs
  | succ F ih =>
    intro t_p ok_t_p hs
    rw [m_X11_blanks_0] at hs
    refine g_aload_n e_X11_blanks_0 rfl ?_
    obtain ⟨y1, hy1, hs⟩ := bind_elim hs
    refine g_callVr [] cv_X11_174 ⟨rfl, rfl, Nat.le_of_ble_eq_true rfl, Nat.le_of_ble_eq_true rfl⟩ (ct_X11_sign (a_t := a_t) (AO_call [0, 1] ao (by decide) rfl) (FA_call [0, 1] ao.1 rfl rfl) ok_t_taped ok_t_p ok_t_tape hy1) e_X11_blanks_1 (ao.2 0 _ rfl) (ov_get 0 ao.1 rfl rfl) rfl rfl rfl (Nat.le_of_ble_eq_true rfl) ⟨Nat.le_refl _, Nat.le_refl _⟩ (fun Py1 => ?_)
    refine g_bipush e_X11_blanks_4 bp_32 ?_
    refine g_icmp_ne e_X11_blanks_6 Py1 (by decide : inI 32) hs (fun c6 hs => ?_) (fun c6 hs => ?_)
    · refine g_aload_n e_X11_blanks_9 rfl ?_
      refine g_dup e_X11_blanks_10 rfl ?_
      refine g_get 0 2 ao rfl rfl fsX11_g2 fl_X11_171 e_X11_blanks_11 ?_
      refine g_iconst e_X11_blanks_14 ?_
      refine g_iadd e_X11_blanks_15 ?_
      obtain ⟨hc2, hs⟩ := chk_elim hs
      refine g_put 0 2 ao rfl rfl fsX11_k2 fsX11_s2 ls_0 fw_X11_171 (fun h => by cases h) ⟨rfl, rfl⟩ e_X11_blanks_16 ?_
      refine g_goto e_X11_blanks_19 ?_
      exact ih _ hc2 hs
    · obtain rfl := Option.some.inj hs
      exact g_vret rfl ok_t_p e_X11_blanks_22

noncomputable def m_X11_blanks_22 (t_p : Int) : Option (Int) :=
  some (t_p)

set_option maxRecDepth 10000 in
set_option maxHeartbeats 8000000 in
theorem g_X11_blanks_22 {l : Launch} {E : EE} {b0 n : Nat} {h : AH} {a_t : Nat} {t_thrown t_taped t_p t_fault t_baseLow t_baseHigh t_newBaseLow t_newBaseHigh t_from t_knots t_lines t_chosen t_undos t_redos t_aimedMany t_fits t_fitOf t_sights t_systems t_own t_cross t_curveLong t_wallFirst : Int} {t_tape : Nat → Int} {r : Int} (ao : AO b0 n [a_t, (a_t + 1)]) (ok_t_taped : inI t_taped) (ok_t_p : inI t_p) (ok_t_tape : okY t_tape) (hs : m_X11_blanks_22 t_p = some r) : G l E b0 M_X11_blanks (fun _ => True) (ZM E b0 (none) (ov [a_t, (a_t + 1)] [.inr (11, fsX11 a_t t_thrown t_taped r t_fault t_baseLow t_baseHigh t_newBaseLow t_newBaseHigh t_from t_knots t_lines t_chosen t_undos t_redos t_aimedMany t_fits t_fitOf t_sights t_systems t_own t_cross t_curveLong t_wallFirst), YA E 400 t_tape] h) n (inI r) 0 0) 0 0 n (ov [a_t, (a_t + 1)] [.inr (11, fsX11 a_t t_thrown t_taped t_p t_fault t_baseLow t_baseHigh t_newBaseLow t_newBaseHigh t_from t_knots t_lines t_chosen t_undos t_redos t_aimedMany t_fits t_fitOf t_sights t_systems t_own t_cross t_curveLong t_wallFirst), YA E 400 t_tape] h) 22 [none] [] := by
  rw [m_X11_blanks_22] at hs
  obtain rfl := Option.some.inj hs
  exact g_vret rfl ok_t_p e_X11_blanks_22

noncomputable def m_X11_blanks (t_taped : Int) (t_p : Int) (t_tape : Nat → Int) : Option (Int) := m_X11_blanks_0 t_taped t_tape (fun t_p' => m_X11_blanks_22 t_p') FU t_p

set_option maxRecDepth 10000 in
set_option maxHeartbeats 8000000 in
theorem ct_X11_blanks {l : Launch} {E : EE} {b0 n : Nat} {h : AH} {a_t : Nat} {t_thrown t_taped t_p t_fault t_baseLow t_baseHigh t_newBaseLow t_newBaseHigh t_from t_knots t_lines t_chosen t_undos t_redos t_aimedMany t_fits t_fitOf t_sights t_systems t_own t_cross t_curveLong t_wallFirst : Int} {t_tape : Nat → Int} (ao : AO b0 n [a_t, (a_t + 1)]) (hf : FA h [a_t, (a_t + 1)] [.inr (11, fsX11 a_t t_thrown t_taped t_p t_fault t_baseLow t_baseHigh t_newBaseLow t_newBaseHigh t_from t_knots t_lines t_chosen t_undos t_redos t_aimedMany t_fits t_fitOf t_sights t_systems t_own t_cross t_curveLong t_wallFirst), YA E 400 t_tape]) (ok_t_taped : inI t_taped) (ok_t_p : inI t_p) (ok_t_tape : okY t_tape) {r : Int} (hm : m_X11_blanks t_taped t_p t_tape = some r) : Ct l E b0 M_X11_blanks 0 0 [.ref a_t] h n (none) (ov [a_t, (a_t + 1)] [.inr (11, fsX11 a_t t_thrown t_taped r t_fault t_baseLow t_baseHigh t_newBaseLow t_newBaseHigh t_from t_knots t_lines t_chosen t_undos t_redos t_aimedMany t_fits t_fitOf t_sights t_systems t_own t_cross t_curveLong t_wallFirst), YA E 400 t_tape] h) n (inI r) := by
  rw [m_X11_blanks] at hm
  have hg : G l E b0 M_X11_blanks (fun _ => True) (ZM E b0 (none) (ov [a_t, (a_t + 1)] [.inr (11, fsX11 a_t t_thrown t_taped r t_fault t_baseLow t_baseHigh t_newBaseLow t_newBaseHigh t_from t_knots t_lines t_chosen t_undos t_redos t_aimedMany t_fits t_fitOf t_sights t_systems t_own t_cross t_curveLong t_wallFirst), YA E 400 t_tape] h) n (inI r) 0 0) 0 0 n (ov [a_t, (a_t + 1)] [.inr (11, fsX11 a_t t_thrown t_taped t_p t_fault t_baseLow t_baseHigh t_newBaseLow t_newBaseHigh t_from t_knots t_lines t_chosen t_undos t_redos t_aimedMany t_fits t_fitOf t_sights t_systems t_own t_cross t_curveLong t_wallFirst), YA E 400 t_tape] h) 0 [some (.ref a_t)] [] := by
    have hs := hm
    exact g_X11_blanks_0 ao ok_t_taped ok_t_tape (hk_22 := by
      intro t_p' ok_t_p' hs
      exact g_X11_blanks_22 ao ok_t_taped ok_t_p' ok_t_tape hs) FU _ ok_t_p hs
  rw [FA_id hf] at hg
  exact Ct_of [some (.ref a_t)] ⟨by decide +kernel, rfl⟩ rfl (Nat.le_of_ble_eq_true rfl) hg

/-! ===== X11_isDigit ===== -/
theorem e_X11_isDigit_0 : DC cX11_isDigit 0 (.iload_n 0) 1 1 := ⟨by decide +kernel, rfl⟩
theorem e_X11_isDigit_1 : DC cX11_isDigit 1 (.bipush 48) 2 3 := ⟨by decide +kernel, rfl⟩
theorem e_X11_isDigit_3 : DB cX11_isDigit 3 (.if_icmp .lt 13) (13) 3 6 16 := ⟨by decide +kernel, rfl, rfl⟩
theorem e_X11_isDigit_6 : DC cX11_isDigit 6 (.iload_n 0) 1 7 := ⟨by decide +kernel, rfl⟩
theorem e_X11_isDigit_7 : DC cX11_isDigit 7 (.bipush 57) 2 9 := ⟨by decide +kernel, rfl⟩
theorem e_X11_isDigit_9 : DB cX11_isDigit 9 (.if_icmp .gt 7) (7) 3 12 16 := ⟨by decide +kernel, rfl, rfl⟩
theorem e_X11_isDigit_12 : DC cX11_isDigit 12 (.iconst 1) 1 13 := ⟨by decide +kernel, rfl⟩
theorem e_X11_isDigit_13 : DB cX11_isDigit 13 (.goto 4) (4) 3 16 17 := ⟨by decide +kernel, rfl, rfl⟩
theorem e_X11_isDigit_16 : DC cX11_isDigit 16 (.iconst 0) 1 17 := ⟨by decide +kernel, rfl⟩
theorem e_X11_isDigit_17 : DC cX11_isDigit 17 (.ireturn) 1 18 := ⟨by decide +kernel, rfl⟩
noncomputable def m_X11_isDigit_0 (v0 : Int) : Option (Int) :=
  if v0 < 48 then (some (0)) else (if 57 < v0 then (some (0)) else (some (1)))

set_option maxRecDepth 10000 in
set_option maxHeartbeats 8000000 in
theorem g_X11_isDigit_0 {l : Launch} {E : EE} {b0 n : Nat} {h : AH} {v0 : Int} {r : Int} (ao : AO b0 n []) (ok_v0 : inI v0) (hs : m_X11_isDigit_0 v0 = some r) : G l E b0 M_X11_isDigit (fun _ => True) (ZM E b0 (some (vI r)) (ov [] [] h) n (inZ r) 0 0) 0 0 n (ov [] [] h) 0 [some (vI v0)] [] := by
  rw [m_X11_isDigit_0] at hs
  refine g_iload_n e_X11_isDigit_0 rfl ?_
  refine g_bipush e_X11_isDigit_1 bp_48 ?_
  refine g_icmp_lt e_X11_isDigit_3 ok_v0 (by decide : inI 48) hs (fun c3 hs => ?_) (fun c3 hs => ?_)
  · refine g_iconst e_X11_isDigit_16 ?_
    obtain rfl := Option.some.inj hs
    exact g_zret rfl (by decide : inZ 0) (by decide : inZ 0) e_X11_isDigit_17
  · refine g_iload_n e_X11_isDigit_6 rfl ?_
    refine g_bipush e_X11_isDigit_7 bp_57 ?_
    refine g_icmp_gt e_X11_isDigit_9 ok_v0 (by decide : inI 57) hs (fun c9 hs => ?_) (fun c9 hs => ?_)
    · refine g_iconst e_X11_isDigit_16 ?_
      obtain rfl := Option.some.inj hs
      exact g_zret rfl (by decide : inZ 0) (by decide : inZ 0) e_X11_isDigit_17
    · refine g_iconst e_X11_isDigit_12 ?_
      refine g_goto e_X11_isDigit_13 ?_
      obtain rfl := Option.some.inj hs
      exact g_zret rfl (by decide : inZ 1) (by decide : inZ 1) e_X11_isDigit_17

noncomputable def m_X11_isDigit (v0 : Int) : Option (Int) := m_X11_isDigit_0 v0

set_option maxRecDepth 10000 in
set_option maxHeartbeats 8000000 in
theorem ct_X11_isDigit {l : Launch} {E : EE} {b0 n : Nat} {h : AH} {v0 : Int} (ao : AO b0 n []) (hf : FA h [] []) (ok_v0 : inI v0) {r : Int} (hm : m_X11_isDigit v0 = some r) : Ct l E b0 M_X11_isDigit 0 0 [vI v0] h n (some (vI r)) h n (inZ r) := by
  rw [m_X11_isDigit] at hm
  have hg : G l E b0 M_X11_isDigit (fun _ => True) (ZM E b0 (some (vI r)) (ov [] [] h) n (inZ r) 0 0) 0 0 n (ov [] [] h) 0 [some (vI v0)] [] := by
    have hs := hm
    exact g_X11_isDigit_0 ao ok_v0 hs
  rw [FA_id hf] at hg
  exact Ct_of [some (vI v0)] ⟨by decide +kernel, rfl⟩ rfl (Nat.le_of_ble_eq_true rfl) hg

/-! ===== X11_most ===== -/
theorem e_X11_most_0 : DC cX11_most 0 (.iload_n 0) 1 1 := ⟨by decide +kernel, rfl⟩
theorem e_X11_most_1 : DC cX11_most 1 (.iconst 3) 1 2 := ⟨by decide +kernel, rfl⟩
theorem e_X11_most_2 : DB cX11_most 2 (.if_icmp .ge 8) (8) 3 5 10 := ⟨by decide +kernel, rfl, rfl⟩
theorem e_X11_most_5 : DC cX11_most 5 (.bipush 16) 2 7 := ⟨by decide +kernel, rfl⟩
theorem e_X11_most_7 : DB cX11_most 7 (.goto 33) (33) 3 10 40 := ⟨by decide +kernel, rfl, rfl⟩
theorem e_X11_most_10 : DC cX11_most 10 (.iload_n 0) 1 11 := ⟨by decide +kernel, rfl⟩
theorem e_X11_most_11 : DC cX11_most 11 (.iconst 3) 1 12 := ⟨by decide +kernel, rfl⟩
theorem e_X11_most_12 : DB cX11_most 12 (.if_icmp .ne 8) (8) 3 15 20 := ⟨by decide +kernel, rfl, rfl⟩
theorem e_X11_most_15 : DC cX11_most 15 (.bipush 41) 2 17 := ⟨by decide +kernel, rfl⟩
theorem e_X11_most_17 : DB cX11_most 17 (.goto 23) (23) 3 20 40 := ⟨by decide +kernel, rfl, rfl⟩
theorem e_X11_most_20 : DC cX11_most 20 (.iload_n 0) 1 21 := ⟨by decide +kernel, rfl⟩
theorem e_X11_most_21 : DC cX11_most 21 (.iconst 4) 1 22 := ⟨by decide +kernel, rfl⟩
theorem e_X11_most_22 : DB cX11_most 22 (.if_icmp .ne 8) (8) 3 25 30 := ⟨by decide +kernel, rfl, rfl⟩
theorem e_X11_most_25 : DC cX11_most 25 (.bipush 20) 2 27 := ⟨by decide +kernel, rfl⟩
theorem e_X11_most_27 : DB cX11_most 27 (.goto 13) (13) 3 30 40 := ⟨by decide +kernel, rfl, rfl⟩
theorem e_X11_most_30 : DC cX11_most 30 (.iload_n 0) 1 31 := ⟨by decide +kernel, rfl⟩
theorem e_X11_most_31 : DC cX11_most 31 (.iconst 5) 1 32 := ⟨by decide +kernel, rfl⟩
theorem e_X11_most_32 : DB cX11_most 32 (.if_icmp .ne 7) (7) 3 35 39 := ⟨by decide +kernel, rfl, rfl⟩
theorem e_X11_most_35 : DC cX11_most 35 (.iconst 5) 1 36 := ⟨by decide +kernel, rfl⟩
theorem e_X11_most_36 : DB cX11_most 36 (.goto 4) (4) 3 39 40 := ⟨by decide +kernel, rfl, rfl⟩
theorem e_X11_most_39 : DC cX11_most 39 (.iconst 1) 1 40 := ⟨by decide +kernel, rfl⟩
theorem e_X11_most_40 : DC cX11_most 40 (.ireturn) 1 41 := ⟨by decide +kernel, rfl⟩
noncomputable def m_X11_most_0 (v0 : Int) : Option (Int) :=
  if 3 ≤ v0 then (if v0 = 3 then (some (41)) else (if v0 = 4 then (some (20)) else (if v0 = 5 then (some (5)) else (some (1))))) else (some (16))

set_option maxRecDepth 10000 in
set_option maxHeartbeats 8000000 in
theorem g_X11_most_0 {l : Launch} {E : EE} {b0 n : Nat} {h : AH} {v0 : Int} {r : Int} (ao : AO b0 n []) (ok_v0 : inI v0) (hs : m_X11_most_0 v0 = some r) : G l E b0 M_X11_most (fun _ => True) (ZM E b0 (some (vI r)) (ov [] [] h) n (inI r) 0 0) 0 0 n (ov [] [] h) 0 [some (vI v0)] [] := by
  rw [m_X11_most_0] at hs
  refine g_iload_n e_X11_most_0 rfl ?_
  refine g_iconst e_X11_most_1 ?_
  refine g_icmp_ge e_X11_most_2 ok_v0 (by decide : inI 3) hs (fun c2 hs => ?_) (fun c2 hs => ?_)
  · refine g_iload_n e_X11_most_10 rfl ?_
    refine g_iconst e_X11_most_11 ?_
    refine g_icmp_ne e_X11_most_12 ok_v0 (by decide : inI 3) hs (fun c12 hs => ?_) (fun c12 hs => ?_)
    · refine g_bipush e_X11_most_15 bp_41 ?_
      refine g_goto e_X11_most_17 ?_
      obtain rfl := Option.some.inj hs
      exact g_iret rfl (by decide : inI 41) e_X11_most_40
    · refine g_iload_n e_X11_most_20 rfl ?_
      refine g_iconst e_X11_most_21 ?_
      refine g_icmp_ne e_X11_most_22 ok_v0 (by decide : inI 4) hs (fun c22 hs => ?_) (fun c22 hs => ?_)
      · refine g_bipush e_X11_most_25 bp_20 ?_
        refine g_goto e_X11_most_27 ?_
        obtain rfl := Option.some.inj hs
        exact g_iret rfl (by decide : inI 20) e_X11_most_40
      · refine g_iload_n e_X11_most_30 rfl ?_
        refine g_iconst e_X11_most_31 ?_
        refine g_icmp_ne e_X11_most_32 ok_v0 (by decide : inI 5) hs (fun c32 hs => ?_) (fun c32 hs => ?_)
        · refine g_iconst e_X11_most_35 ?_
          refine g_goto e_X11_most_36 ?_
          obtain rfl := Option.some.inj hs
          exact g_iret rfl (by decide : inI 5) e_X11_most_40
        · refine g_iconst e_X11_most_39 ?_
          obtain rfl := Option.some.inj hs
          exact g_iret rfl (by decide : inI 1) e_X11_most_40
  · refine g_bipush e_X11_most_5 bp_16 ?_
    refine g_goto e_X11_most_7 ?_
    obtain rfl := Option.some.inj hs
    exact g_iret rfl (by decide : inI 16) e_X11_most_40

noncomputable def m_X11_most (v0 : Int) : Option (Int) := m_X11_most_0 v0

set_option maxRecDepth 10000 in
set_option maxHeartbeats 8000000 in
theorem ct_X11_most {l : Launch} {E : EE} {b0 n : Nat} {h : AH} {v0 : Int} (ao : AO b0 n []) (hf : FA h [] []) (ok_v0 : inI v0) {r : Int} (hm : m_X11_most v0 = some r) : Ct l E b0 M_X11_most 0 0 [vI v0] h n (some (vI r)) h n (inI r) := by
  rw [m_X11_most] at hm
  have hg : G l E b0 M_X11_most (fun _ => True) (ZM E b0 (some (vI r)) (ov [] [] h) n (inI r) 0 0) 0 0 n (ov [] [] h) 0 [some (vI v0)] [] := by
    have hs := hm
    exact g_X11_most_0 ao ok_v0 hs
  rw [FA_id hf] at hg
  exact Ct_of [some (vI v0)] ⟨by decide +kernel, rfl⟩ rfl (Nat.le_of_ble_eq_true rfl) hg

/-! ===== X11_number ===== -/
theorem e_X11_number_0 : DC cX11_number 0 (.aload_n 0) 1 1 := ⟨by decide +kernel, rfl⟩
theorem e_X11_number_1 : DC cX11_number 1 (.getfield 168) 3 4 := ⟨by decide +kernel, rfl⟩
theorem e_X11_number_4 : DB cX11_number 4 (.ifCond .le 5) (5) 3 7 9 := ⟨by decide +kernel, rfl, rfl⟩
theorem e_X11_number_7 : DC cX11_number 7 (.iconst 0) 1 8 := ⟨by decide +kernel, rfl⟩
theorem e_X11_number_8 : DC cX11_number 8 (.ireturn) 1 9 := ⟨by decide +kernel, rfl⟩
theorem e_X11_number_9 : DC cX11_number 9 (.aload_n 0) 1 10 := ⟨by decide +kernel, rfl⟩
theorem e_X11_number_10 : DC cX11_number 10 (.invokevirtual 174) 3 13 := ⟨by decide +kernel, rfl⟩
theorem e_X11_number_13 : DC cX11_number 13 (.bipush 32) 2 15 := ⟨by decide +kernel, rfl⟩
theorem e_X11_number_15 : DB cX11_number 15 (.if_icmp .eq 14) (14) 3 18 29 := ⟨by decide +kernel, rfl, rfl⟩
theorem e_X11_number_18 : DC cX11_number 18 (.aload_n 0) 1 19 := ⟨by decide +kernel, rfl⟩
theorem e_X11_number_19 : DC cX11_number 19 (.iconst 0) 1 20 := ⟨by decide +kernel, rfl⟩
theorem e_X11_number_20 : DC cX11_number 20 (.aload_n 0) 1 21 := ⟨by decide +kernel, rfl⟩
theorem e_X11_number_21 : DC cX11_number 21 (.getfield 171) 3 24 := ⟨by decide +kernel, rfl⟩
theorem e_X11_number_24 : DC cX11_number 24 (.invokevirtual 199) 3 27 := ⟨by decide +kernel, rfl⟩
theorem e_X11_number_27 : DC cX11_number 27 (.iconst 0) 1 28 := ⟨by decide +kernel, rfl⟩
theorem e_X11_number_28 : DC cX11_number 28 (.ireturn) 1 29 := ⟨by decide +kernel, rfl⟩
theorem e_X11_number_29 : DC cX11_number 29 (.aload_n 0) 1 30 := ⟨by decide +kernel, rfl⟩
theorem e_X11_number_30 : DC cX11_number 30 (.invokevirtual 216) 3 33 := ⟨by decide +kernel, rfl⟩
theorem e_X11_number_33 : DC cX11_number 33 (.aload_n 0) 1 34 := ⟨by decide +kernel, rfl⟩
theorem e_X11_number_34 : DC cX11_number 34 (.aload_n 0) 1 35 := ⟨by decide +kernel, rfl⟩
theorem e_X11_number_35 : DC cX11_number 35 (.getfield 171) 3 38 := ⟨by decide +kernel, rfl⟩
theorem e_X11_number_38 : DC cX11_number 38 (.putfield 219) 3 41 := ⟨by decide +kernel, rfl⟩
theorem e_X11_number_41 : DC cX11_number 41 (.aload_n 0) 1 42 := ⟨by decide +kernel, rfl⟩
theorem e_X11_number_42 : DC cX11_number 42 (.invokevirtual 174) 3 45 := ⟨by decide +kernel, rfl⟩
theorem e_X11_number_45 : DC cX11_number 45 (.bipush 45) 2 47 := ⟨by decide +kernel, rfl⟩
theorem e_X11_number_47 : DB cX11_number 47 (.if_icmp .ne 7) (7) 3 50 54 := ⟨by decide +kernel, rfl, rfl⟩
theorem e_X11_number_50 : DC cX11_number 50 (.iconst 1) 1 51 := ⟨by decide +kernel, rfl⟩
theorem e_X11_number_51 : DB cX11_number 51 (.goto 4) (4) 3 54 55 := ⟨by decide +kernel, rfl, rfl⟩
theorem e_X11_number_54 : DC cX11_number 54 (.iconst 0) 1 55 := ⟨by decide +kernel, rfl⟩
theorem e_X11_number_55 : DC cX11_number 55 (.istore_n 3) 1 56 := ⟨by decide +kernel, rfl⟩
theorem e_X11_number_56 : DC cX11_number 56 (.aload_n 0) 1 57 := ⟨by decide +kernel, rfl⟩
theorem e_X11_number_57 : DC cX11_number 57 (.dup) 1 58 := ⟨by decide +kernel, rfl⟩
theorem e_X11_number_58 : DC cX11_number 58 (.getfield 171) 3 61 := ⟨by decide +kernel, rfl⟩
theorem e_X11_number_61 : DC cX11_number 61 (.iload_n 3) 1 62 := ⟨by decide +kernel, rfl⟩
theorem e_X11_number_62 : DB cX11_number 62 (.ifCond .eq 7) (7) 3 65 69 := ⟨by decide +kernel, rfl, rfl⟩
theorem e_X11_number_65 : DC cX11_number 65 (.iconst 1) 1 66 := ⟨by decide +kernel, rfl⟩
theorem e_X11_number_66 : DB cX11_number 66 (.goto 4) (4) 3 69 70 := ⟨by decide +kernel, rfl, rfl⟩
theorem e_X11_number_69 : DC cX11_number 69 (.iconst 0) 1 70 := ⟨by decide +kernel, rfl⟩
theorem e_X11_number_70 : DC cX11_number 70 (.iadd) 1 71 := ⟨by decide +kernel, rfl⟩
theorem e_X11_number_71 : DC cX11_number 71 (.putfield 171) 3 74 := ⟨by decide +kernel, rfl⟩
theorem e_X11_number_74 : DC cX11_number 74 (.aload_n 0) 1 75 := ⟨by decide +kernel, rfl⟩
theorem e_X11_number_75 : DC cX11_number 75 (.invokevirtual 174) 3 78 := ⟨by decide +kernel, rfl⟩
theorem e_X11_number_78 : DC cX11_number 78 (.invokestatic 222) 3 81 := ⟨by decide +kernel, rfl⟩
theorem e_X11_number_81 : DB cX11_number 81 (.ifCond .ne 14) (14) 3 84 95 := ⟨by decide +kernel, rfl, rfl⟩
theorem e_X11_number_84 : DC cX11_number 84 (.aload_n 0) 1 85 := ⟨by decide +kernel, rfl⟩
theorem e_X11_number_85 : DC cX11_number 85 (.iconst 0) 1 86 := ⟨by decide +kernel, rfl⟩
theorem e_X11_number_86 : DC cX11_number 86 (.aload_n 0) 1 87 := ⟨by decide +kernel, rfl⟩
theorem e_X11_number_87 : DC cX11_number 87 (.getfield 171) 3 90 := ⟨by decide +kernel, rfl⟩
theorem e_X11_number_90 : DC cX11_number 90 (.invokevirtual 199) 3 93 := ⟨by decide +kernel, rfl⟩
theorem e_X11_number_93 : DC cX11_number 93 (.iconst 0) 1 94 := ⟨by decide +kernel, rfl⟩
theorem e_X11_number_94 : DC cX11_number 94 (.ireturn) 1 95 := ⟨by decide +kernel, rfl⟩
theorem e_X11_number_95 : DC cX11_number 95 (.iconst 0) 1 96 := ⟨by decide +kernel, rfl⟩
theorem e_X11_number_96 : DC cX11_number 96 (.istore 4) 2 98 := ⟨by decide +kernel, rfl⟩
theorem e_X11_number_98 : DC cX11_number 98 (.iconst 0) 1 99 := ⟨by decide +kernel, rfl⟩
theorem e_X11_number_99 : DC cX11_number 99 (.istore 5) 2 101 := ⟨by decide +kernel, rfl⟩
theorem e_X11_number_101 : DC cX11_number 101 (.aload_n 0) 1 102 := ⟨by decide +kernel, rfl⟩
theorem e_X11_number_102 : DC cX11_number 102 (.invokevirtual 174) 3 105 := ⟨by decide +kernel, rfl⟩
theorem e_X11_number_105 : DC cX11_number 105 (.invokestatic 222) 3 108 := ⟨by decide +kernel, rfl⟩
theorem e_X11_number_108 : DB cX11_number 108 (.ifCond .eq 45) (45) 3 111 153 := ⟨by decide +kernel, rfl, rfl⟩
theorem e_X11_number_111 : DC cX11_number 111 (.iload 4) 2 113 := ⟨by decide +kernel, rfl⟩
theorem e_X11_number_113 : DC cX11_number 113 (.iconst 4) 1 114 := ⟨by decide +kernel, rfl⟩
theorem e_X11_number_114 : DB cX11_number 114 (.if_icmp .ge 19) (19) 3 117 133 := ⟨by decide +kernel, rfl, rfl⟩
theorem e_X11_number_117 : DC cX11_number 117 (.bipush 10) 2 119 := ⟨by decide +kernel, rfl⟩
theorem e_X11_number_119 : DC cX11_number 119 (.iload 5) 2 121 := ⟨by decide +kernel, rfl⟩
theorem e_X11_number_121 : DC cX11_number 121 (.imul) 1 122 := ⟨by decide +kernel, rfl⟩
theorem e_X11_number_122 : DC cX11_number 122 (.aload_n 0) 1 123 := ⟨by decide +kernel, rfl⟩
theorem e_X11_number_123 : DC cX11_number 123 (.invokevirtual 174) 3 126 := ⟨by decide +kernel, rfl⟩
theorem e_X11_number_126 : DC cX11_number 126 (.iadd) 1 127 := ⟨by decide +kernel, rfl⟩
theorem e_X11_number_127 : DC cX11_number 127 (.bipush 48) 2 129 := ⟨by decide +kernel, rfl⟩
theorem e_X11_number_129 : DC cX11_number 129 (.isub) 1 130 := ⟨by decide +kernel, rfl⟩
theorem e_X11_number_130 : DB cX11_number 130 (.goto 5) (5) 3 133 135 := ⟨by decide +kernel, rfl, rfl⟩
theorem e_X11_number_133 : DC cX11_number 133 (.iload 5) 2 135 := ⟨by decide +kernel, rfl⟩
theorem e_X11_number_135 : DC cX11_number 135 (.istore 5) 2 137 := ⟨by decide +kernel, rfl⟩
theorem e_X11_number_137 : DC cX11_number 137 (.iinc 4 1) 3 140 := ⟨by decide +kernel, rfl⟩
theorem e_X11_number_140 : DC cX11_number 140 (.aload_n 0) 1 141 := ⟨by decide +kernel, rfl⟩
theorem e_X11_number_141 : DC cX11_number 141 (.dup) 1 142 := ⟨by decide +kernel, rfl⟩
theorem e_X11_number_142 : DC cX11_number 142 (.getfield 171) 3 145 := ⟨by decide +kernel, rfl⟩
theorem e_X11_number_145 : DC cX11_number 145 (.iconst 1) 1 146 := ⟨by decide +kernel, rfl⟩
theorem e_X11_number_146 : DC cX11_number 146 (.iadd) 1 147 := ⟨by decide +kernel, rfl⟩
theorem e_X11_number_147 : DC cX11_number 147 (.putfield 171) 3 150 := ⟨by decide +kernel, rfl⟩
theorem e_X11_number_150 : DB cX11_number 150 (.goto (-49)) (-49) 3 153 101 := ⟨by decide +kernel, rfl, rfl⟩
theorem e_X11_number_153 : DC cX11_number 153 (.iload_n 3) 1 154 := ⟨by decide +kernel, rfl⟩
theorem e_X11_number_154 : DB cX11_number 154 (.ifCond .eq 9) (9) 3 157 163 := ⟨by decide +kernel, rfl, rfl⟩
theorem e_X11_number_157 : DC cX11_number 157 (.iload 5) 2 159 := ⟨by decide +kernel, rfl⟩
theorem e_X11_number_159 : DC cX11_number 159 (.ineg) 1 160 := ⟨by decide +kernel, rfl⟩
theorem e_X11_number_160 : DB cX11_number 160 (.goto 5) (5) 3 163 165 := ⟨by decide +kernel, rfl, rfl⟩
theorem e_X11_number_163 : DC cX11_number 163 (.iload 5) 2 165 := ⟨by decide +kernel, rfl⟩
theorem e_X11_number_165 : DC cX11_number 165 (.istore 5) 2 167 := ⟨by decide +kernel, rfl⟩
theorem e_X11_number_167 : DC cX11_number 167 (.iload 4) 2 169 := ⟨by decide +kernel, rfl⟩
theorem e_X11_number_169 : DC cX11_number 169 (.iconst 4) 1 170 := ⟨by decide +kernel, rfl⟩
theorem e_X11_number_170 : DB cX11_number 170 (.if_icmp .gt 13) (13) 3 173 183 := ⟨by decide +kernel, rfl, rfl⟩
theorem e_X11_number_173 : DC cX11_number 173 (.iload 5) 2 175 := ⟨by decide +kernel, rfl⟩
theorem e_X11_number_175 : DC cX11_number 175 (.iload_n 1) 1 176 := ⟨by decide +kernel, rfl⟩
theorem e_X11_number_176 : DC cX11_number 176 (.iload_n 2) 1 177 := ⟨by decide +kernel, rfl⟩
theorem e_X11_number_177 : DC cX11_number 177 (.invokestatic 226) 3 180 := ⟨by decide +kernel, rfl⟩
theorem e_X11_number_180 : DB cX11_number 180 (.ifCond .ne 12) (12) 3 183 192 := ⟨by decide +kernel, rfl, rfl⟩
theorem e_X11_number_183 : DC cX11_number 183 (.aload_n 0) 1 184 := ⟨by decide +kernel, rfl⟩
theorem e_X11_number_184 : DC cX11_number 184 (.iconst 1) 1 185 := ⟨by decide +kernel, rfl⟩
theorem e_X11_number_185 : DC cX11_number 185 (.aload_n 0) 1 186 := ⟨by decide +kernel, rfl⟩
theorem e_X11_number_186 : DC cX11_number 186 (.getfield 219) 3 189 := ⟨by decide +kernel, rfl⟩
theorem e_X11_number_189 : DC cX11_number 189 (.invokevirtual 199) 3 192 := ⟨by decide +kernel, rfl⟩
theorem e_X11_number_192 : DC cX11_number 192 (.iload 5) 2 194 := ⟨by decide +kernel, rfl⟩
theorem e_X11_number_194 : DC cX11_number 194 (.ireturn) 1 195 := ⟨by decide +kernel, rfl⟩
noncomputable def m_X11_number_135 (t_taped : Int) (t_p : Int) (t_tape : Nat → Int) (v4 : Int) (s0 : Int) (ag : Int → Int → Int → Option (Int × Int × Int × Int)) (k_153 : Int → Int → Int → Option (Int × Int × Int × Int)) : Option (Int × Int × Int × Int) :=
  chk (inI (t_p + 1)) (chk (inI (v4 + 1)) (ag (t_p + 1) (v4 + 1) s0))

set_option maxRecDepth 10000 in
set_option maxHeartbeats 8000000 in
theorem g_X11_number_135 {l : Launch} {E : EE} {b0 n : Nat} {h : AH} {a_t : Nat} {t_thrown t_taped t_p t_fault t_baseLow t_baseHigh t_newBaseLow t_newBaseHigh t_from t_knots t_lines t_chosen t_undos t_redos t_aimedMany t_fits t_fitOf t_sights t_systems t_own t_cross t_curveLong t_wallFirst v1 v2 v3 v4 s0 : Int} {t_tape : Nat → Int} {r : Int × Int × Int × Int} {ag : Int → Int → Int → Option (Int × Int × Int × Int)} {k_153 : Int → Int → Int → Option (Int × Int × Int × Int)} (ao : AO b0 n [a_t, (a_t + 1)]) (ok_t_taped : inI t_taped) (ok_t_p : inI t_p) (ok_t_fault : inI t_fault) (ok_t_from : inI t_from) (ok_t_tape : okY t_tape) (ok_v1 : inI v1) (ok_v2 : inI v2) (ok_v3 : inZ v3) (ok_v4 : inI v4) (ok_s0 : inI s0) (hag : ∀ (t_p_ : Int) (v4_ : Int) (v5_ : Int), inI t_p_ → inI v4_ → inI v5_ → ag t_p_ v4_ v5_ = some r → G l E b0 M_X11_number (fun _ => True) (ZM E b0 (some (vI r.1)) (ov [a_t, (a_t + 1)] [.inr (11, fsX11 a_t t_thrown t_taped r.2.1 r.2.2.1 t_baseLow t_baseHigh t_newBaseLow t_newBaseHigh r.2.2.2 t_knots t_lines t_chosen t_undos t_redos t_aimedMany t_fits t_fitOf t_sights t_systems t_own t_cross t_curveLong t_wallFirst), YA E 400 t_tape] h) n (inI r.1 ∧ inI r.2.1 ∧ inI r.2.2.1 ∧ inI r.2.2.2) 0 0) 0 0 n (ov [a_t, (a_t + 1)] [.inr (11, fsX11 a_t t_thrown t_taped t_p_ t_fault t_baseLow t_baseHigh t_newBaseLow t_newBaseHigh t_from t_knots t_lines t_chosen t_undos t_redos t_aimedMany t_fits t_fitOf t_sights t_systems t_own t_cross t_curveLong t_wallFirst), YA E 400 t_tape] h) 101 [some (.ref a_t), some (vI v1), some (vI v2), some (vI v3), some (vI v4_), some (vI v5_)] []) (hk_153 : ∀ (t_p_ : Int) (v4_ : Int) (v5_ : Int), inI t_p_ → inI v4_ → inI v5_ → k_153 t_p_ v4_ v5_ = some r → G l E b0 M_X11_number (fun _ => True) (ZM E b0 (some (vI r.1)) (ov [a_t, (a_t + 1)] [.inr (11, fsX11 a_t t_thrown t_taped r.2.1 r.2.2.1 t_baseLow t_baseHigh t_newBaseLow t_newBaseHigh r.2.2.2 t_knots t_lines t_chosen t_undos t_redos t_aimedMany t_fits t_fitOf t_sights t_systems t_own t_cross t_curveLong t_wallFirst), YA E 400 t_tape] h) n (inI r.1 ∧ inI r.2.1 ∧ inI r.2.2.1 ∧ inI r.2.2.2) 0 0) 0 0 n (ov [a_t, (a_t + 1)] [.inr (11, fsX11 a_t t_thrown t_taped t_p_ t_fault t_baseLow t_baseHigh t_newBaseLow t_newBaseHigh t_from t_knots t_lines t_chosen t_undos t_redos t_aimedMany t_fits t_fitOf t_sights t_systems t_own t_cross t_curveLong t_wallFirst), YA E 400 t_tape] h) 153 [some (.ref a_t), some (vI v1), some (vI v2), some (vI v3), some (vI v4_), some (vI v5_)] []) (hs : m_X11_number_135 t_taped t_p t_tape v4 s0 ag k_153 = some r) : G l E b0 M_X11_number (fun _ => True) (ZM E b0 (some (vI r.1)) (ov [a_t, (a_t + 1)] [.inr (11, fsX11 a_t t_thrown t_taped r.2.1 r.2.2.1 t_baseLow t_baseHigh t_newBaseLow t_newBaseHigh r.2.2.2 t_knots t_lines t_chosen t_undos t_redos t_aimedMany t_fits t_fitOf t_sights t_systems t_own t_cross t_curveLong t_wallFirst), YA E 400 t_tape] h) n (inI r.1 ∧ inI r.2.1 ∧ inI r.2.2.1 ∧ inI r.2.2.2) 0 0) 0 0 n (ov [a_t, (a_t + 1)] [.inr (11, fsX11 a_t t_thrown t_taped t_p t_fault t_baseLow t_baseHigh t_newBaseLow t_newBaseHigh t_from t_knots t_lines t_chosen t_undos t_redos t_aimedMany t_fits t_fitOf t_sights t_systems t_own t_cross t_curveLong t_wallFirst), YA E 400 t_tape] h) 135 [some (.ref a_t), some (vI v1), some (vI v2), some (vI v3), some (vI v4), none] [vI s0] := by
  rw [m_X11_number_135] at hs
  refine g_istore e_X11_number_135 st1_5 rfl ?_
  refine g_iinc e_X11_number_137 rfl st1_4 rfl ?_
  refine g_aload_n e_X11_number_140 rfl ?_
  refine g_dup e_X11_number_141 rfl ?_
  refine g_get 0 2 ao rfl rfl fsX11_g2 fl_X11_171 e_X11_number_142 ?_
  refine g_iconst e_X11_number_145 ?_
  refine g_iadd e_X11_number_146 ?_
  obtain ⟨hc10, hs⟩ := chk_elim hs
  refine g_put 0 2 ao rfl rfl fsX11_k2 fsX11_s2 ls_0 fw_X11_171 (fun h => by cases h) ⟨rfl, rfl⟩ e_X11_number_147 ?_
  refine g_goto e_X11_number_150 ?_
  obtain ⟨hc11, hs⟩ := chk_elim hs
  exact hag _ _ _ hc10 hc11 ok_s0 hs

noncomputable def m_X11_number_101 (t_taped : Int) (t_tape : Nat → Int) (k_153 : Int → Int → Int → Option (Int × Int × Int × Int)) : Nat → Int → Int → Int → Option (Int × Int × Int × Int)
  | 0, _, _, _ => none
  | F + 1, t_p, v4, v5 => (m_X11_sign t_taped t_p t_tape).bind (fun y8 => (m_X11_isDigit y8).bind (fun y9 => if y9 = 0 then (k_153 t_p v4 v5) else (if 4 ≤ v4 then (m_X11_number_135 t_taped t_p t_tape v4 v5 (m_X11_number_101 t_taped t_tape k_153 F) k_153) else ((m_X11_sign t_taped t_p t_tape).bind (fun y12 => chk (inI (((10 * v5) + y12) - 48)) (m_X11_number_135 t_taped t_p t_tape v4 (((10 * v5) + y12) - 48) (m_X11_number_101 t_taped t_tape k_153 F) k_153))))))

set_option maxRecDepth 10000 in
set_option maxHeartbeats 8000000 in
theorem g_X11_number_101 {l : Launch} {E : EE} {b0 n : Nat} {h : AH} {a_t : Nat} {t_thrown t_taped t_fault t_baseLow t_baseHigh t_newBaseLow t_newBaseHigh t_from t_knots t_lines t_chosen t_undos t_redos t_aimedMany t_fits t_fitOf t_sights t_systems t_own t_cross t_curveLong t_wallFirst v1 v2 v3 : Int} {t_tape : Nat → Int} {r : Int × Int × Int × Int} {k_153 : Int → Int → Int → Option (Int × Int × Int × Int)} (ao : AO b0 n [a_t, (a_t + 1)]) (ok_t_taped : inI t_taped) (ok_t_fault : inI t_fault) (ok_t_from : inI t_from) (ok_t_tape : okY t_tape) (ok_v1 : inI v1) (ok_v2 : inI v2) (ok_v3 : inZ v3) (hk_153 : ∀ (t_p_ : Int) (v4_ : Int) (v5_ : Int), inI t_p_ → inI v4_ → inI v5_ → k_153 t_p_ v4_ v5_ = some r → G l E b0 M_X11_number (fun _ => True) (ZM E b0 (some (vI r.1)) (ov [a_t, (a_t + 1)] [.inr (11, fsX11 a_t t_thrown t_taped r.2.1 r.2.2.1 t_baseLow t_baseHigh t_newBaseLow t_newBaseHigh r.2.2.2 t_knots t_lines t_chosen t_undos t_redos t_aimedMany t_fits t_fitOf t_sights t_systems t_own t_cross t_curveLong t_wallFirst), YA E 400 t_tape] h) n (inI r.1 ∧ inI r.2.1 ∧ inI r.2.2.1 ∧ inI r.2.2.2) 0 0) 0 0 n (ov [a_t, (a_t + 1)] [.inr (11, fsX11 a_t t_thrown t_taped t_p_ t_fault t_baseLow t_baseHigh t_newBaseLow t_newBaseHigh t_from t_knots t_lines t_chosen t_undos t_redos t_aimedMany t_fits t_fitOf t_sights t_systems t_own t_cross t_curveLong t_wallFirst), YA E 400 t_tape] h) 153 [some (.ref a_t), some (vI v1), some (vI v2), some (vI v3), some (vI v4_), some (vI v5_)] []) :
    ∀ (F : Nat) (t_p : Int) (v4 : Int) (v5 : Int), inI t_p → inI v4 → inI v5 → m_X11_number_101 t_taped t_tape k_153 F t_p v4 v5 = some r → G l E b0 M_X11_number (fun _ => True) (ZM E b0 (some (vI r.1)) (ov [a_t, (a_t + 1)] [.inr (11, fsX11 a_t t_thrown t_taped r.2.1 r.2.2.1 t_baseLow t_baseHigh t_newBaseLow t_newBaseHigh r.2.2.2 t_knots t_lines t_chosen t_undos t_redos t_aimedMany t_fits t_fitOf t_sights t_systems t_own t_cross t_curveLong t_wallFirst), YA E 400 t_tape] h) n (inI r.1 ∧ inI r.2.1 ∧ inI r.2.2.1 ∧ inI r.2.2.2) 0 0) 0 0 n (ov [a_t, (a_t + 1)] [.inr (11, fsX11 a_t t_thrown t_taped t_p t_fault t_baseLow t_baseHigh t_newBaseLow t_newBaseHigh t_from t_knots t_lines t_chosen t_undos t_redos t_aimedMany t_fits t_fitOf t_sights t_systems t_own t_cross t_curveLong t_wallFirst), YA E 400 t_tape] h) 101 [some (.ref a_t), some (vI v1), some (vI v2), some (vI v3), some (vI v4), some (vI v5)] [] := by
  intro F
  induction F with
  | zero =>
    intro t_p v4 v5 ok_t_p ok_v4 ok_v5 hs
    rw [m_X11_number_101] at hs
    cases hs
  | succ F ih =>
    intro t_p v4 v5 ok_t_p ok_v4 ok_v5 hs
    rw [m_X11_number_101] at hs
    refine g_aload_n e_X11_number_101 rfl ?_
    obtain ⟨y8, hy8, hs⟩ := bind_elim hs
    refine g_callVr [] cv_X11_174 ⟨rfl, rfl, Nat.le_of_ble_eq_true rfl, Nat.le_of_ble_eq_true rfl⟩ (ct_X11_sign (a_t := a_t) (AO_call [0, 1] ao (by decide) rfl) (FA_call [0, 1] ao.1 rfl rfl) ok_t_taped ok_t_p ok_t_tape hy8) e_X11_number_102 (ao.2 0 _ rfl) (ov_get 0 ao.1 rfl rfl) rfl rfl rfl (Nat.le_of_ble_eq_true rfl) ⟨Nat.le_refl _, Nat.le_refl _⟩ (fun Py8 => ?_)
    obtain ⟨y9, hy9, hs⟩ := bind_elim hs
    refine g_callSr [vI y8] cs_X11_222 ⟨rfl, rfl, Nat.le_of_ble_eq_true rfl, Nat.le_of_ble_eq_true rfl⟩ (ct_X11_isDigit ⟨List.nodup_nil, fun i a h => by simp at h⟩ (fun i a e h => by simp at h) Py8 hy9) e_X11_number_105 rfl rfl (Nat.le_of_ble_eq_true rfl) ⟨Nat.le_refl _, Nat.le_refl _⟩ (fun Py9 => ?_)
    refine g_if_eq e_X11_number_108 (inZ_I Py9) hs (fun c108 hs => ?_) (fun c108 hs => ?_)
    · exact hk_153 _ _ _ ok_t_p ok_v4 ok_v5 hs
    · refine g_iload e_X11_number_111 rfl ?_
      refine g_iconst e_X11_number_113 ?_
      refine g_icmp_ge e_X11_number_114 ok_v4 (by decide : inI 4) hs (fun c114 hs => ?_) (fun c114 hs => ?_)
      · refine g_iload e_X11_number_133 rfl ?_
        exact g_mask [true, true, true, true, true, false] (g_X11_number_135 ao ok_t_taped ok_t_p ok_t_fault ok_t_from ok_t_tape ok_v1 ok_v2 ok_v3 ok_v4 ok_v5 ih hk_153 hs)
      · refine g_bipush e_X11_number_117 bp_10 ?_
        refine g_iload e_X11_number_119 rfl ?_
        refine g_imul e_X11_number_121 ?_
        refine g_aload_n e_X11_number_122 rfl ?_
        obtain ⟨y12, hy12, hs⟩ := bind_elim hs
        refine g_callVr [] cv_X11_174 ⟨rfl, rfl, Nat.le_of_ble_eq_true rfl, Nat.le_of_ble_eq_true rfl⟩ (ct_X11_sign (a_t := a_t) (AO_call [0, 1] ao (by decide) rfl) (FA_call [0, 1] ao.1 rfl rfl) ok_t_taped ok_t_p ok_t_tape hy12) e_X11_number_123 (ao.2 0 _ rfl) (ov_get 0 ao.1 rfl rfl) rfl rfl rfl (Nat.le_of_ble_eq_true rfl) ⟨Nat.le_refl _, Nat.le_refl _⟩ (fun Py12 => ?_)
        refine g_iadd e_X11_number_126 ?_
        refine g_bipush e_X11_number_127 bp_48 ?_
        refine g_isub e_X11_number_129 ?_
        refine g_goto e_X11_number_130 ?_
        obtain ⟨hc13, hs⟩ := chk_elim hs
        exact g_mask [true, true, true, true, true, false] (g_X11_number_135 ao ok_t_taped ok_t_p ok_t_fault ok_t_from ok_t_tape ok_v1 ok_v2 ok_v3 ok_v4 hc13 ih hk_153 hs)

noncomputable def m_X11_number_183 (t_p : Int) (t_fault : Int) (t_from : Int) (v5 : Int) : Option (Int × Int × Int × Int) :=
  (m_X11_fails t_fault 1 t_from).bind (fun y14 => some (v5, t_p, y14, t_from))

set_option maxRecDepth 10000 in
set_option maxHeartbeats 8000000 in
theorem g_X11_number_183 {l : Launch} {E : EE} {b0 n : Nat} {h : AH} {a_t : Nat} {t_thrown t_taped t_p t_fault t_baseLow t_baseHigh t_newBaseLow t_newBaseHigh t_from t_knots t_lines t_chosen t_undos t_redos t_aimedMany t_fits t_fitOf t_sights t_systems t_own t_cross t_curveLong t_wallFirst v5 : Int} {t_tape : Nat → Int} {r : Int × Int × Int × Int} (ao : AO b0 n [a_t, (a_t + 1)]) (ok_t_taped : inI t_taped) (ok_t_p : inI t_p) (ok_t_fault : inI t_fault) (ok_t_from : inI t_from) (ok_t_tape : okY t_tape) (ok_v5 : inI v5) (hs : m_X11_number_183 t_p t_fault t_from v5 = some r) : G l E b0 M_X11_number (fun _ => True) (ZM E b0 (some (vI r.1)) (ov [a_t, (a_t + 1)] [.inr (11, fsX11 a_t t_thrown t_taped r.2.1 r.2.2.1 t_baseLow t_baseHigh t_newBaseLow t_newBaseHigh r.2.2.2 t_knots t_lines t_chosen t_undos t_redos t_aimedMany t_fits t_fitOf t_sights t_systems t_own t_cross t_curveLong t_wallFirst), YA E 400 t_tape] h) n (inI r.1 ∧ inI r.2.1 ∧ inI r.2.2.1 ∧ inI r.2.2.2) 0 0) 0 0 n (ov [a_t, (a_t + 1)] [.inr (11, fsX11 a_t t_thrown t_taped t_p t_fault t_baseLow t_baseHigh t_newBaseLow t_newBaseHigh t_from t_knots t_lines t_chosen t_undos t_redos t_aimedMany t_fits t_fitOf t_sights t_systems t_own t_cross t_curveLong t_wallFirst), YA E 400 t_tape] h) 183 [some (.ref a_t), none, none, none, none, some (vI v5)] [] := by
  rw [m_X11_number_183] at hs
  refine g_aload_n e_X11_number_183 rfl ?_
  refine g_iconst e_X11_number_184 ?_
  refine g_aload_n e_X11_number_185 rfl ?_
  refine g_get 0 21 ao rfl rfl fsX11_g21 fl_X11_219 e_X11_number_186 ?_
  obtain ⟨y14, hy14, hs⟩ := bind_elim hs
  refine g_callVv [vI 1, vI t_from] cv_X11_199 ⟨rfl, rfl, Nat.le_of_ble_eq_true rfl, Nat.le_of_ble_eq_true rfl⟩ (Ct_heap (ct_X11_fails (a_t := a_t) (AO_call [0] ao (by decide) rfl) (FA_call [0] ao.1 rfl rfl) ok_t_fault (by decide : inI 1) ok_t_from hy14) (ov_call (esn := [.inr (11, fsX11 a_t t_thrown t_taped t_p y14 t_baseLow t_baseHigh t_newBaseLow t_newBaseHigh t_from t_knots t_lines t_chosen t_undos t_redos t_aimedMany t_fits t_fitOf t_sights t_systems t_own t_cross t_curveLong t_wallFirst), YA E 400 t_tape]) [0] ao.1 rfl rfl rfl rfl)) e_X11_number_189 (ao.2 0 _ rfl) (ov_get 0 ao.1 rfl rfl) rfl rfl rfl (Nat.le_of_ble_eq_true rfl) ⟨Nat.le_refl _, Nat.le_refl _⟩ (fun Py14 => ?_)
  refine g_iload e_X11_number_192 rfl ?_
  obtain rfl := Option.some.inj hs
  exact g_iret rfl ⟨ok_v5, ok_t_p, Py14, ok_t_from⟩ e_X11_number_194

noncomputable def m_X11_number_165 (t_p : Int) (t_fault : Int) (t_from : Int) (v1 : Int) (v2 : Int) (v4 : Int) (s0 : Int) : Option (Int × Int × Int × Int) :=
  if 4 < v4 then (m_X11_number_183 t_p t_fault t_from s0) else ((m_X11_in s0 v1 v2).bind (fun y15 => if y15 = 0 then (m_X11_number_183 t_p t_fault t_from s0) else (some (s0, t_p, t_fault, t_from))))

set_option maxRecDepth 10000 in
set_option maxHeartbeats 8000000 in
theorem g_X11_number_165 {l : Launch} {E : EE} {b0 n : Nat} {h : AH} {a_t : Nat} {t_thrown t_taped t_p t_fault t_baseLow t_baseHigh t_newBaseLow t_newBaseHigh t_from t_knots t_lines t_chosen t_undos t_redos t_aimedMany t_fits t_fitOf t_sights t_systems t_own t_cross t_curveLong t_wallFirst v1 v2 v4 s0 : Int} {t_tape : Nat → Int} {r : Int × Int × Int × Int} (ao : AO b0 n [a_t, (a_t + 1)]) (ok_t_taped : inI t_taped) (ok_t_p : inI t_p) (ok_t_fault : inI t_fault) (ok_t_from : inI t_from) (ok_t_tape : okY t_tape) (ok_v1 : inI v1) (ok_v2 : inI v2) (ok_v4 : inI v4) (ok_s0 : inI s0) (hs : m_X11_number_165 t_p t_fault t_from v1 v2 v4 s0 = some r) : G l E b0 M_X11_number (fun _ => True) (ZM E b0 (some (vI r.1)) (ov [a_t, (a_t + 1)] [.inr (11, fsX11 a_t t_thrown t_taped r.2.1 r.2.2.1 t_baseLow t_baseHigh t_newBaseLow t_newBaseHigh r.2.2.2 t_knots t_lines t_chosen t_undos t_redos t_aimedMany t_fits t_fitOf t_sights t_systems t_own t_cross t_curveLong t_wallFirst), YA E 400 t_tape] h) n (inI r.1 ∧ inI r.2.1 ∧ inI r.2.2.1 ∧ inI r.2.2.2) 0 0) 0 0 n (ov [a_t, (a_t + 1)] [.inr (11, fsX11 a_t t_thrown t_taped t_p t_fault t_baseLow t_baseHigh t_newBaseLow t_newBaseHigh t_from t_knots t_lines t_chosen t_undos t_redos t_aimedMany t_fits t_fitOf t_sights t_systems t_own t_cross t_curveLong t_wallFirst), YA E 400 t_tape] h) 165 [some (.ref a_t), some (vI v1), some (vI v2), none, some (vI v4), none] [vI s0] := by
  rw [m_X11_number_165] at hs
  refine g_istore e_X11_number_165 st1_5 rfl ?_
  refine g_iload e_X11_number_167 rfl ?_
  refine g_iconst e_X11_number_169 ?_
  refine g_icmp_gt e_X11_number_170 ok_v4 (by decide : inI 4) hs (fun c170 hs => ?_) (fun c170 hs => ?_)
  · exact g_mask [true, false, false, true, false, true] (g_X11_number_183 ao ok_t_taped ok_t_p ok_t_fault ok_t_from ok_t_tape ok_s0 hs)
  · refine g_iload e_X11_number_173 rfl ?_
    refine g_iload_n e_X11_number_175 rfl ?_
    refine g_iload_n e_X11_number_176 rfl ?_
    obtain ⟨y15, hy15, hs⟩ := bind_elim hs
    refine g_callSr [vI s0, vI v1, vI v2] cs_X11_226 ⟨rfl, rfl, Nat.le_of_ble_eq_true rfl, Nat.le_of_ble_eq_true rfl⟩ (ct_X11_in ⟨List.nodup_nil, fun i a h => by simp at h⟩ (fun i a e h => by simp at h) ok_s0 ok_v1 ok_v2 hy15) e_X11_number_177 rfl rfl (Nat.le_of_ble_eq_true rfl) ⟨Nat.le_refl _, Nat.le_refl _⟩ (fun Py15 => ?_)
    refine g_if_ne e_X11_number_180 (inZ_I Py15) hs (fun c180 hs => ?_) (fun c180 hs => ?_)
    · exact g_mask [true, false, false, true, false, true] (g_X11_number_183 ao ok_t_taped ok_t_p ok_t_fault ok_t_from ok_t_tape ok_s0 hs)
    · refine g_iload e_X11_number_192 rfl ?_
      obtain rfl := Option.some.inj hs
      exact g_iret rfl ⟨ok_s0, ok_t_p, ok_t_fault, ok_t_from⟩ e_X11_number_194

noncomputable def m_X11_number_153 (t_p : Int) (t_fault : Int) (t_from : Int) (v1 : Int) (v2 : Int) (v3 : Int) (v4 : Int) (v5 : Int) : Option (Int × Int × Int × Int) :=
  if v3 = 0 then (m_X11_number_165 t_p t_fault t_from v1 v2 v4 v5) else (chk (inI (-v5)) (m_X11_number_165 t_p t_fault t_from v1 v2 v4 (-v5)))

set_option maxRecDepth 10000 in
set_option maxHeartbeats 8000000 in
theorem g_X11_number_153 {l : Launch} {E : EE} {b0 n : Nat} {h : AH} {a_t : Nat} {t_thrown t_taped t_p t_fault t_baseLow t_baseHigh t_newBaseLow t_newBaseHigh t_from t_knots t_lines t_chosen t_undos t_redos t_aimedMany t_fits t_fitOf t_sights t_systems t_own t_cross t_curveLong t_wallFirst v1 v2 v3 v4 v5 : Int} {t_tape : Nat → Int} {r : Int × Int × Int × Int} (ao : AO b0 n [a_t, (a_t + 1)]) (ok_t_taped : inI t_taped) (ok_t_p : inI t_p) (ok_t_fault : inI t_fault) (ok_t_from : inI t_from) (ok_t_tape : okY t_tape) (ok_v1 : inI v1) (ok_v2 : inI v2) (ok_v3 : inZ v3) (ok_v4 : inI v4) (ok_v5 : inI v5) (hs : m_X11_number_153 t_p t_fault t_from v1 v2 v3 v4 v5 = some r) : G l E b0 M_X11_number (fun _ => True) (ZM E b0 (some (vI r.1)) (ov [a_t, (a_t + 1)] [.inr (11, fsX11 a_t t_thrown t_taped r.2.1 r.2.2.1 t_baseLow t_baseHigh t_newBaseLow t_newBaseHigh r.2.2.2 t_knots t_lines t_chosen t_undos t_redos t_aimedMany t_fits t_fitOf t_sights t_systems t_own t_cross t_curveLong t_wallFirst), YA E 400 t_tape] h) n (inI r.1 ∧ inI r.2.1 ∧ inI r.2.2.1 ∧ inI r.2.2.2) 0 0) 0 0 n (ov [a_t, (a_t + 1)] [.inr (11, fsX11 a_t t_thrown t_taped t_p t_fault t_baseLow t_baseHigh t_newBaseLow t_newBaseHigh t_from t_knots t_lines t_chosen t_undos t_redos t_aimedMany t_fits t_fitOf t_sights t_systems t_own t_cross t_curveLong t_wallFirst), YA E 400 t_tape] h) 153 [some (.ref a_t), some (vI v1), some (vI v2), some (vI v3), some (vI v4), some (vI v5)] [] := by
  rw [m_X11_number_153] at hs
  refine g_iload_n e_X11_number_153 rfl ?_
  refine g_if_eq e_X11_number_154 (inZ_I ok_v3) hs (fun c154 hs => ?_) (fun c154 hs => ?_)
  · refine g_iload e_X11_number_163 rfl ?_
    exact g_mask [true, true, true, false, true, false] (g_X11_number_165 ao ok_t_taped ok_t_p ok_t_fault ok_t_from ok_t_tape ok_v1 ok_v2 ok_v4 ok_v5 hs)
  · refine g_iload e_X11_number_157 rfl ?_
    refine g_ineg e_X11_number_159 ?_
    refine g_goto e_X11_number_160 ?_
    obtain ⟨hc16, hs⟩ := chk_elim hs
    exact g_mask [true, true, true, false, true, false] (g_X11_number_165 ao ok_t_taped ok_t_p ok_t_fault ok_t_from ok_t_tape ok_v1 ok_v2 ok_v4 hc16 hs)

noncomputable def m_X11_number_70 (t_taped : Int) (t_p : Int) (t_fault : Int) (t_from : Int) (t_tape : Nat → Int) (v1 : Int) (v2 : Int) (v3 : Int) (s1 : Int) (s2 : Int) : Option (Int × Int × Int × Int) :=
  chk (inI (s1 + s2)) ((m_X11_sign t_taped (s1 + s2) t_tape).bind (fun y5 => (m_X11_isDigit y5).bind (fun y6 => if y6 = 0 then ((m_X11_fails t_fault 0 (s1 + s2)).bind (fun y7 => some (0, s1 + s2, y7, t_from))) else (m_X11_number_101 t_taped t_tape (fun t_p' v4' v5' => m_X11_number_153 t_p' t_fault t_from v1 v2 v3 v4' v5') FU (s1 + s2) 0 0))))

set_option maxRecDepth 10000 in
set_option maxHeartbeats 8000000 in
theorem g_X11_number_70 {l : Launch} {E : EE} {b0 n : Nat} {h : AH} {a_t : Nat} {t_thrown t_taped t_p t_fault t_baseLow t_baseHigh t_newBaseLow t_newBaseHigh t_from t_knots t_lines t_chosen t_undos t_redos t_aimedMany t_fits t_fitOf t_sights t_systems t_own t_cross t_curveLong t_wallFirst v1 v2 v3 s1 s2 : Int} {t_tape : Nat → Int} {r : Int × Int × Int × Int} (ao : AO b0 n [a_t, (a_t + 1)]) (ok_t_taped : inI t_taped) (ok_t_p : inI t_p) (ok_t_fault : inI t_fault) (ok_t_from : inI t_from) (ok_t_tape : okY t_tape) (ok_v1 : inI v1) (ok_v2 : inI v2) (ok_v3 : inZ v3) (ok_s1 : inI s1) (ok_s2 : inZ s2) (hs : m_X11_number_70 t_taped t_p t_fault t_from t_tape v1 v2 v3 s1 s2 = some r) : G l E b0 M_X11_number (fun _ => True) (ZM E b0 (some (vI r.1)) (ov [a_t, (a_t + 1)] [.inr (11, fsX11 a_t t_thrown t_taped r.2.1 r.2.2.1 t_baseLow t_baseHigh t_newBaseLow t_newBaseHigh r.2.2.2 t_knots t_lines t_chosen t_undos t_redos t_aimedMany t_fits t_fitOf t_sights t_systems t_own t_cross t_curveLong t_wallFirst), YA E 400 t_tape] h) n (inI r.1 ∧ inI r.2.1 ∧ inI r.2.2.1 ∧ inI r.2.2.2) 0 0) 0 0 n (ov [a_t, (a_t + 1)] [.inr (11, fsX11 a_t t_thrown t_taped t_p t_fault t_baseLow t_baseHigh t_newBaseLow t_newBaseHigh t_from t_knots t_lines t_chosen t_undos t_redos t_aimedMany t_fits t_fitOf t_sights t_systems t_own t_cross t_curveLong t_wallFirst), YA E 400 t_tape] h) 70 [some (.ref a_t), some (vI v1), some (vI v2), some (vI v3), none, none] [vI s2, vI s1, .ref a_t] := by
  rw [m_X11_number_70] at hs
  refine g_iadd e_X11_number_70 ?_
  obtain ⟨hc4, hs⟩ := chk_elim hs
  refine g_put 0 2 ao rfl rfl fsX11_k2 fsX11_s2 ls_0 fw_X11_171 (fun h => by cases h) ⟨rfl, rfl⟩ e_X11_number_71 ?_
  refine g_aload_n e_X11_number_74 rfl ?_
  obtain ⟨y5, hy5, hs⟩ := bind_elim hs
  refine g_callVr [] cv_X11_174 ⟨rfl, rfl, Nat.le_of_ble_eq_true rfl, Nat.le_of_ble_eq_true rfl⟩ (ct_X11_sign (a_t := a_t) (AO_call [0, 1] ao (by decide) rfl) (FA_call [0, 1] ao.1 rfl rfl) ok_t_taped hc4 ok_t_tape hy5) e_X11_number_75 (ao.2 0 _ rfl) (ov_get 0 ao.1 rfl rfl) rfl rfl rfl (Nat.le_of_ble_eq_true rfl) ⟨Nat.le_refl _, Nat.le_refl _⟩ (fun Py5 => ?_)
  obtain ⟨y6, hy6, hs⟩ := bind_elim hs
  refine g_callSr [vI y5] cs_X11_222 ⟨rfl, rfl, Nat.le_of_ble_eq_true rfl, Nat.le_of_ble_eq_true rfl⟩ (ct_X11_isDigit ⟨List.nodup_nil, fun i a h => by simp at h⟩ (fun i a e h => by simp at h) Py5 hy6) e_X11_number_78 rfl rfl (Nat.le_of_ble_eq_true rfl) ⟨Nat.le_refl _, Nat.le_refl _⟩ (fun Py6 => ?_)
  refine g_if_ne e_X11_number_81 (inZ_I Py6) hs (fun c81 hs => ?_) (fun c81 hs => ?_)
  · refine g_aload_n e_X11_number_84 rfl ?_
    refine g_iconst e_X11_number_85 ?_
    refine g_aload_n e_X11_number_86 rfl ?_
    refine g_get 0 2 ao rfl rfl fsX11_g2 fl_X11_171 e_X11_number_87 ?_
    obtain ⟨y7, hy7, hs⟩ := bind_elim hs
    refine g_callVv [vI 0, vI (s1 + s2)] cv_X11_199 ⟨rfl, rfl, Nat.le_of_ble_eq_true rfl, Nat.le_of_ble_eq_true rfl⟩ (Ct_heap (ct_X11_fails (a_t := a_t) (AO_call [0] ao (by decide) rfl) (FA_call [0] ao.1 rfl rfl) ok_t_fault (by decide : inI 0) hc4 hy7) (ov_call (esn := [.inr (11, fsX11 a_t t_thrown t_taped (s1 + s2) y7 t_baseLow t_baseHigh t_newBaseLow t_newBaseHigh t_from t_knots t_lines t_chosen t_undos t_redos t_aimedMany t_fits t_fitOf t_sights t_systems t_own t_cross t_curveLong t_wallFirst), YA E 400 t_tape]) [0] ao.1 rfl rfl rfl rfl)) e_X11_number_90 (ao.2 0 _ rfl) (ov_get 0 ao.1 rfl rfl) rfl rfl rfl (Nat.le_of_ble_eq_true rfl) ⟨Nat.le_refl _, Nat.le_refl _⟩ (fun Py7 => ?_)
    refine g_iconst e_X11_number_93 ?_
    obtain rfl := Option.some.inj hs
    exact g_iret rfl ⟨(by decide : inI 0), hc4, Py7, ok_t_from⟩ e_X11_number_94
  · refine g_iconst e_X11_number_95 ?_
    refine g_istore e_X11_number_96 st1_4 rfl ?_
    refine g_iconst e_X11_number_98 ?_
    refine g_istore e_X11_number_99 st1_5 rfl ?_
    exact g_X11_number_101 ao ok_t_taped ok_t_fault ok_t_from ok_t_tape ok_v1 ok_v2 ok_v3 (hk_153 := by
      intro t_p' v4' v5' ok_t_p' ok_v4' ok_v5' hs
      exact g_X11_number_153 ao ok_t_taped ok_t_p' ok_t_fault ok_t_from ok_t_tape ok_v1 ok_v2 ok_v3 ok_v4' ok_v5' hs) FU _ _ _ hc4 (by decide : inI 0) (by decide : inI 0) hs

noncomputable def m_X11_number_55 (t_taped : Int) (t_p : Int) (t_fault : Int) (t_from : Int) (t_tape : Nat → Int) (v1 : Int) (v2 : Int) (s0 : Int) : Option (Int × Int × Int × Int) :=
  if s0 = 0 then (m_X11_number_70 t_taped t_p t_fault t_from t_tape v1 v2 s0 t_p 0) else (m_X11_number_70 t_taped t_p t_fault t_from t_tape v1 v2 s0 t_p 1)

set_option maxRecDepth 10000 in
set_option maxHeartbeats 8000000 in
theorem g_X11_number_55 {l : Launch} {E : EE} {b0 n : Nat} {h : AH} {a_t : Nat} {t_thrown t_taped t_p t_fault t_baseLow t_baseHigh t_newBaseLow t_newBaseHigh t_from t_knots t_lines t_chosen t_undos t_redos t_aimedMany t_fits t_fitOf t_sights t_systems t_own t_cross t_curveLong t_wallFirst v1 v2 s0 : Int} {t_tape : Nat → Int} {r : Int × Int × Int × Int} (ao : AO b0 n [a_t, (a_t + 1)]) (ok_t_taped : inI t_taped) (ok_t_p : inI t_p) (ok_t_fault : inI t_fault) (ok_t_from : inI t_from) (ok_t_tape : okY t_tape) (ok_v1 : inI v1) (ok_v2 : inI v2) (ok_s0 : inZ s0) (hs : m_X11_number_55 t_taped t_p t_fault t_from t_tape v1 v2 s0 = some r) : G l E b0 M_X11_number (fun _ => True) (ZM E b0 (some (vI r.1)) (ov [a_t, (a_t + 1)] [.inr (11, fsX11 a_t t_thrown t_taped r.2.1 r.2.2.1 t_baseLow t_baseHigh t_newBaseLow t_newBaseHigh r.2.2.2 t_knots t_lines t_chosen t_undos t_redos t_aimedMany t_fits t_fitOf t_sights t_systems t_own t_cross t_curveLong t_wallFirst), YA E 400 t_tape] h) n (inI r.1 ∧ inI r.2.1 ∧ inI r.2.2.1 ∧ inI r.2.2.2) 0 0) 0 0 n (ov [a_t, (a_t + 1)] [.inr (11, fsX11 a_t t_thrown t_taped t_p t_fault t_baseLow t_baseHigh t_newBaseLow t_newBaseHigh t_from t_knots t_lines t_chosen t_undos t_redos t_aimedMany t_fits t_fitOf t_sights t_systems t_own t_cross t_curveLong t_wallFirst), YA E 400 t_tape] h) 55 [some (.ref a_t), some (vI v1), some (vI v2), none, none, none] [vI s0] := by
  rw [m_X11_number_55] at hs
  refine g_istore_n e_X11_number_55 st1_3 rfl ?_
  refine g_aload_n e_X11_number_56 rfl ?_
  refine g_dup e_X11_number_57 rfl ?_
  refine g_get 0 2 ao rfl rfl fsX11_g2 fl_X11_171 e_X11_number_58 ?_
  refine g_iload_n e_X11_number_61 rfl ?_
  refine g_if_eq e_X11_number_62 (inZ_I ok_s0) hs (fun c62 hs => ?_) (fun c62 hs => ?_)
  · refine g_iconst e_X11_number_69 ?_
    exact g_X11_number_70 ao ok_t_taped ok_t_p ok_t_fault ok_t_from ok_t_tape ok_v1 ok_v2 ok_s0 ok_t_p (by decide : inZ 0) hs
  · refine g_iconst e_X11_number_65 ?_
    refine g_goto e_X11_number_66 ?_
    exact g_X11_number_70 ao ok_t_taped ok_t_p ok_t_fault ok_t_from ok_t_tape ok_v1 ok_v2 ok_s0 ok_t_p (by decide : inZ 1) hs

noncomputable def m_X11_number_0 (t_taped : Int) (t_p : Int) (t_fault : Int) (t_from : Int) (t_tape : Nat → Int) (v1 : Int) (v2 : Int) : Option (Int × Int × Int × Int) :=
  if t_fault ≤ 0 then ((m_X11_sign t_taped t_p t_tape).bind (fun y1 => if y1 = 32 then ((m_X11_blanks t_taped t_p t_tape).bind (fun y2 => (m_X11_sign t_taped y2 t_tape).bind (fun y3 => if y3 = 45 then (m_X11_number_55 t_taped y2 t_fault y2 t_tape v1 v2 1) else (m_X11_number_55 t_taped y2 t_fault y2 t_tape v1 v2 0)))) else ((m_X11_fails t_fault 0 t_p).bind (fun y17 => some (0, t_p, y17, t_from))))) else (some (0, t_p, t_fault, t_from))

set_option maxRecDepth 10000 in
set_option maxHeartbeats 8000000 in
theorem g_X11_number_0 {l : Launch} {E : EE} {b0 n : Nat} {h : AH} {a_t : Nat} {t_thrown t_taped t_p t_fault t_baseLow t_baseHigh t_newBaseLow t_newBaseHigh t_from t_knots t_lines t_chosen t_undos t_redos t_aimedMany t_fits t_fitOf t_sights t_systems t_own t_cross t_curveLong t_wallFirst v1 v2 : Int} {t_tape : Nat → Int} {r : Int × Int × Int × Int} (ao : AO b0 n [a_t, (a_t + 1)]) (ok_t_taped : inI t_taped) (ok_t_p : inI t_p) (ok_t_fault : inI t_fault) (ok_t_from : inI t_from) (ok_t_tape : okY t_tape) (ok_v1 : inI v1) (ok_v2 : inI v2) (hs : m_X11_number_0 t_taped t_p t_fault t_from t_tape v1 v2 = some r) : G l E b0 M_X11_number (fun _ => True) (ZM E b0 (some (vI r.1)) (ov [a_t, (a_t + 1)] [.inr (11, fsX11 a_t t_thrown t_taped r.2.1 r.2.2.1 t_baseLow t_baseHigh t_newBaseLow t_newBaseHigh r.2.2.2 t_knots t_lines t_chosen t_undos t_redos t_aimedMany t_fits t_fitOf t_sights t_systems t_own t_cross t_curveLong t_wallFirst), YA E 400 t_tape] h) n (inI r.1 ∧ inI r.2.1 ∧ inI r.2.2.1 ∧ inI r.2.2.2) 0 0) 0 0 n (ov [a_t, (a_t + 1)] [.inr (11, fsX11 a_t t_thrown t_taped t_p t_fault t_baseLow t_baseHigh t_newBaseLow t_newBaseHigh t_from t_knots t_lines t_chosen t_undos t_redos t_aimedMany t_fits t_fitOf t_sights t_systems t_own t_cross t_curveLong t_wallFirst), YA E 400 t_tape] h) 0 [some (.ref a_t), some (vI v1), some (vI v2), none, none, none] [] := by
  rw [m_X11_number_0] at hs
  refine g_aload_n e_X11_number_0 rfl ?_
  refine g_get 0 3 ao rfl rfl fsX11_g3 fl_X11_168 e_X11_number_1 ?_
  refine g_if_le e_X11_number_4 ok_t_fault hs (fun c4 hs => ?_) (fun c4 hs => ?_)
  · refine g_aload_n e_X11_number_9 rfl ?_
    obtain ⟨y1, hy1, hs⟩ := bind_elim hs
    refine g_callVr [] cv_X11_174 ⟨rfl, rfl, Nat.le_of_ble_eq_true rfl, Nat.le_of_ble_eq_true rfl⟩ (ct_X11_sign (a_t := a_t) (AO_call [0, 1] ao (by decide) rfl) (FA_call [0, 1] ao.1 rfl rfl) ok_t_taped ok_t_p ok_t_tape hy1) e_X11_number_10 (ao.2 0 _ rfl) (ov_get 0 ao.1 rfl rfl) rfl rfl rfl (Nat.le_of_ble_eq_true rfl) ⟨Nat.le_refl _, Nat.le_refl _⟩ (fun Py1 => ?_)
    refine g_bipush e_X11_number_13 bp_32 ?_
    refine g_icmp_eq e_X11_number_15 Py1 (by decide : inI 32) hs (fun c15 hs => ?_) (fun c15 hs => ?_)
    · refine g_aload_n e_X11_number_29 rfl ?_
      obtain ⟨y2, hy2, hs⟩ := bind_elim hs
      refine g_callVv [] cv_X11_216 ⟨rfl, rfl, Nat.le_of_ble_eq_true rfl, Nat.le_of_ble_eq_true rfl⟩ (Ct_heap (ct_X11_blanks (a_t := a_t) (AO_call [0, 1] ao (by decide) rfl) (FA_call [0, 1] ao.1 rfl rfl) ok_t_taped ok_t_p ok_t_tape hy2) (ov_call (esn := [.inr (11, fsX11 a_t t_thrown t_taped y2 t_fault t_baseLow t_baseHigh t_newBaseLow t_newBaseHigh t_from t_knots t_lines t_chosen t_undos t_redos t_aimedMany t_fits t_fitOf t_sights t_systems t_own t_cross t_curveLong t_wallFirst), YA E 400 t_tape]) [0, 1] ao.1 rfl rfl rfl rfl)) e_X11_number_30 (ao.2 0 _ rfl) (ov_get 0 ao.1 rfl rfl) rfl rfl rfl (Nat.le_of_ble_eq_true rfl) ⟨Nat.le_refl _, Nat.le_refl _⟩ (fun Py2 => ?_)
      refine g_aload_n e_X11_number_33 rfl ?_
      refine g_aload_n e_X11_number_34 rfl ?_
      refine g_get 0 2 ao rfl rfl fsX11_g2 fl_X11_171 e_X11_number_35 ?_
      refine g_put 0 21 ao rfl rfl fsX11_k21 fsX11_s21 ls_0 fw_X11_219 (fun h => by cases h) ⟨rfl, rfl⟩ e_X11_number_38 ?_
      refine g_aload_n e_X11_number_41 rfl ?_
      obtain ⟨y3, hy3, hs⟩ := bind_elim hs
      refine g_callVr [] cv_X11_174 ⟨rfl, rfl, Nat.le_of_ble_eq_true rfl, Nat.le_of_ble_eq_true rfl⟩ (ct_X11_sign (a_t := a_t) (AO_call [0, 1] ao (by decide) rfl) (FA_call [0, 1] ao.1 rfl rfl) ok_t_taped Py2 ok_t_tape hy3) e_X11_number_42 (ao.2 0 _ rfl) (ov_get 0 ao.1 rfl rfl) rfl rfl rfl (Nat.le_of_ble_eq_true rfl) ⟨Nat.le_refl _, Nat.le_refl _⟩ (fun Py3 => ?_)
      refine g_bipush e_X11_number_45 bp_45 ?_
      refine g_icmp_ne e_X11_number_47 Py3 (by decide : inI 45) hs (fun c47 hs => ?_) (fun c47 hs => ?_)
      · refine g_iconst e_X11_number_50 ?_
        refine g_goto e_X11_number_51 ?_
        exact g_X11_number_55 ao ok_t_taped Py2 ok_t_fault Py2 ok_t_tape ok_v1 ok_v2 (by decide : inZ 1) hs
      · refine g_iconst e_X11_number_54 ?_
        exact g_X11_number_55 ao ok_t_taped Py2 ok_t_fault Py2 ok_t_tape ok_v1 ok_v2 (by decide : inZ 0) hs
    · refine g_aload_n e_X11_number_18 rfl ?_
      refine g_iconst e_X11_number_19 ?_
      refine g_aload_n e_X11_number_20 rfl ?_
      refine g_get 0 2 ao rfl rfl fsX11_g2 fl_X11_171 e_X11_number_21 ?_
      obtain ⟨y17, hy17, hs⟩ := bind_elim hs
      refine g_callVv [vI 0, vI t_p] cv_X11_199 ⟨rfl, rfl, Nat.le_of_ble_eq_true rfl, Nat.le_of_ble_eq_true rfl⟩ (Ct_heap (ct_X11_fails (a_t := a_t) (AO_call [0] ao (by decide) rfl) (FA_call [0] ao.1 rfl rfl) ok_t_fault (by decide : inI 0) ok_t_p hy17) (ov_call (esn := [.inr (11, fsX11 a_t t_thrown t_taped t_p y17 t_baseLow t_baseHigh t_newBaseLow t_newBaseHigh t_from t_knots t_lines t_chosen t_undos t_redos t_aimedMany t_fits t_fitOf t_sights t_systems t_own t_cross t_curveLong t_wallFirst), YA E 400 t_tape]) [0] ao.1 rfl rfl rfl rfl)) e_X11_number_24 (ao.2 0 _ rfl) (ov_get 0 ao.1 rfl rfl) rfl rfl rfl (Nat.le_of_ble_eq_true rfl) ⟨Nat.le_refl _, Nat.le_refl _⟩ (fun Py17 => ?_)
      refine g_iconst e_X11_number_27 ?_
      obtain rfl := Option.some.inj hs
      exact g_iret rfl ⟨(by decide : inI 0), ok_t_p, Py17, ok_t_from⟩ e_X11_number_28
  · refine g_iconst e_X11_number_7 ?_
    obtain rfl := Option.some.inj hs
    exact g_iret rfl ⟨(by decide : inI 0), ok_t_p, ok_t_fault, ok_t_from⟩ e_X11_number_8

noncomputable def m_X11_number (t_taped : Int) (t_p : Int) (t_fault : Int) (t_from : Int) (t_tape : Nat → Int) (v1 : Int) (v2 : Int) : Option (Int × Int × Int × Int) := m_X11_number_0 t_taped t_p t_fault t_from t_tape v1 v2

set_option maxRecDepth 10000 in
set_option maxHeartbeats 8000000 in
theorem ct_X11_number {l : Launch} {E : EE} {b0 n : Nat} {h : AH} {a_t : Nat} {t_thrown t_taped t_p t_fault t_baseLow t_baseHigh t_newBaseLow t_newBaseHigh t_from t_knots t_lines t_chosen t_undos t_redos t_aimedMany t_fits t_fitOf t_sights t_systems t_own t_cross t_curveLong t_wallFirst : Int} {t_tape : Nat → Int} {v1 v2 : Int} (ao : AO b0 n [a_t, (a_t + 1)]) (hf : FA h [a_t, (a_t + 1)] [.inr (11, fsX11 a_t t_thrown t_taped t_p t_fault t_baseLow t_baseHigh t_newBaseLow t_newBaseHigh t_from t_knots t_lines t_chosen t_undos t_redos t_aimedMany t_fits t_fitOf t_sights t_systems t_own t_cross t_curveLong t_wallFirst), YA E 400 t_tape]) (ok_t_taped : inI t_taped) (ok_t_p : inI t_p) (ok_t_fault : inI t_fault) (ok_t_from : inI t_from) (ok_t_tape : okY t_tape) (ok_v1 : inI v1) (ok_v2 : inI v2) {r : Int × Int × Int × Int} (hm : m_X11_number t_taped t_p t_fault t_from t_tape v1 v2 = some r) : Ct l E b0 M_X11_number 0 0 [.ref a_t, vI v1, vI v2] h n (some (vI r.1)) (ov [a_t, (a_t + 1)] [.inr (11, fsX11 a_t t_thrown t_taped r.2.1 r.2.2.1 t_baseLow t_baseHigh t_newBaseLow t_newBaseHigh r.2.2.2 t_knots t_lines t_chosen t_undos t_redos t_aimedMany t_fits t_fitOf t_sights t_systems t_own t_cross t_curveLong t_wallFirst), YA E 400 t_tape] h) n (inI r.1 ∧ inI r.2.1 ∧ inI r.2.2.1 ∧ inI r.2.2.2) := by
  rw [m_X11_number] at hm
  have hg : G l E b0 M_X11_number (fun _ => True) (ZM E b0 (some (vI r.1)) (ov [a_t, (a_t + 1)] [.inr (11, fsX11 a_t t_thrown t_taped r.2.1 r.2.2.1 t_baseLow t_baseHigh t_newBaseLow t_newBaseHigh r.2.2.2 t_knots t_lines t_chosen t_undos t_redos t_aimedMany t_fits t_fitOf t_sights t_systems t_own t_cross t_curveLong t_wallFirst), YA E 400 t_tape] h) n (inI r.1 ∧ inI r.2.1 ∧ inI r.2.2.1 ∧ inI r.2.2.2) 0 0) 0 0 n (ov [a_t, (a_t + 1)] [.inr (11, fsX11 a_t t_thrown t_taped t_p t_fault t_baseLow t_baseHigh t_newBaseLow t_newBaseHigh t_from t_knots t_lines t_chosen t_undos t_redos t_aimedMany t_fits t_fitOf t_sights t_systems t_own t_cross t_curveLong t_wallFirst), YA E 400 t_tape] h) 0 [some (.ref a_t), some (vI v1), some (vI v2), none, none, none] [] := by
    have hs := hm
    exact g_X11_number_0 ao ok_t_taped ok_t_p ok_t_fault ok_t_from ok_t_tape ok_v1 ok_v2 hs
  rw [FA_id hf] at hg
  exact Ct_of [some (.ref a_t), some (vI v1), some (vI v2), none, none, none] ⟨by decide +kernel, rfl⟩ rfl (Nat.le_of_ble_eq_true rfl) hg

/-! ===== X11_wayIn ===== -/
theorem e_X11_wayIn_0 : DC cX11_wayIn 0 (.bipush 48) 2 2 := ⟨by decide +kernel, rfl⟩
theorem e_X11_wayIn_2 : DC cX11_wayIn 2 (.iload_n 1) 1 3 := ⟨by decide +kernel, rfl⟩
theorem e_X11_wayIn_3 : DC cX11_wayIn 3 (.imul) 1 4 := ⟨by decide +kernel, rfl⟩
theorem e_X11_wayIn_4 : DC cX11_wayIn 4 (.iconst 3) 1 5 := ⟨by decide +kernel, rfl⟩
theorem e_X11_wayIn_5 : DC cX11_wayIn 5 (.aload_n 0) 1 6 := ⟨by decide +kernel, rfl⟩
theorem e_X11_wayIn_6 : DC cX11_wayIn 6 (.getfield 17) 3 9 := ⟨by decide +kernel, rfl⟩
theorem e_X11_wayIn_9 : DC cX11_wayIn 9 (.iload_n 1) 1 10 := ⟨by decide +kernel, rfl⟩
theorem e_X11_wayIn_10 : DC cX11_wayIn 10 (.iaload) 1 11 := ⟨by decide +kernel, rfl⟩
theorem e_X11_wayIn_11 : DC cX11_wayIn 11 (.imul) 1 12 := ⟨by decide +kernel, rfl⟩
theorem e_X11_wayIn_12 : DC cX11_wayIn 12 (.iadd) 1 13 := ⟨by decide +kernel, rfl⟩
theorem e_X11_wayIn_13 : DC cX11_wayIn 13 (.istore_n 2) 1 14 := ⟨by decide +kernel, rfl⟩
theorem e_X11_wayIn_14 : DC cX11_wayIn 14 (.aload_n 0) 1 15 := ⟨by decide +kernel, rfl⟩
theorem e_X11_wayIn_15 : DC cX11_wayIn 15 (.getfield 23) 3 18 := ⟨by decide +kernel, rfl⟩
theorem e_X11_wayIn_18 : DC cX11_wayIn 18 (.iload_n 2) 1 19 := ⟨by decide +kernel, rfl⟩
theorem e_X11_wayIn_19 : DC cX11_wayIn 19 (.aload_n 0) 1 20 := ⟨by decide +kernel, rfl⟩
theorem e_X11_wayIn_20 : DC cX11_wayIn 20 (.bipush (-9)) 2 22 := ⟨by decide +kernel, rfl⟩
theorem e_X11_wayIn_22 : DC cX11_wayIn 22 (.bipush 9) 2 24 := ⟨by decide +kernel, rfl⟩
theorem e_X11_wayIn_24 : DC cX11_wayIn 24 (.invokevirtual 230) 3 27 := ⟨by decide +kernel, rfl⟩
theorem e_X11_wayIn_27 : DC cX11_wayIn 27 (.iastore) 1 28 := ⟨by decide +kernel, rfl⟩
theorem e_X11_wayIn_28 : DC cX11_wayIn 28 (.aload_n 0) 1 29 := ⟨by decide +kernel, rfl⟩
theorem e_X11_wayIn_29 : DC cX11_wayIn 29 (.getfield 219) 3 32 := ⟨by decide +kernel, rfl⟩
theorem e_X11_wayIn_32 : DC cX11_wayIn 32 (.istore_n 3) 1 33 := ⟨by decide +kernel, rfl⟩
theorem e_X11_wayIn_33 : DC cX11_wayIn 33 (.aload_n 0) 1 34 := ⟨by decide +kernel, rfl⟩
theorem e_X11_wayIn_34 : DC cX11_wayIn 34 (.getfield 23) 3 37 := ⟨by decide +kernel, rfl⟩
theorem e_X11_wayIn_37 : DC cX11_wayIn 37 (.iload_n 2) 1 38 := ⟨by decide +kernel, rfl⟩
theorem e_X11_wayIn_38 : DC cX11_wayIn 38 (.iconst 1) 1 39 := ⟨by decide +kernel, rfl⟩
theorem e_X11_wayIn_39 : DC cX11_wayIn 39 (.iadd) 1 40 := ⟨by decide +kernel, rfl⟩
theorem e_X11_wayIn_40 : DC cX11_wayIn 40 (.aload_n 0) 1 41 := ⟨by decide +kernel, rfl⟩
theorem e_X11_wayIn_41 : DC cX11_wayIn 41 (.bipush (-9)) 2 43 := ⟨by decide +kernel, rfl⟩
theorem e_X11_wayIn_43 : DC cX11_wayIn 43 (.bipush 9) 2 45 := ⟨by decide +kernel, rfl⟩
theorem e_X11_wayIn_45 : DC cX11_wayIn 45 (.invokevirtual 230) 3 48 := ⟨by decide +kernel, rfl⟩
theorem e_X11_wayIn_48 : DC cX11_wayIn 48 (.iastore) 1 49 := ⟨by decide +kernel, rfl⟩
theorem e_X11_wayIn_49 : DC cX11_wayIn 49 (.aload_n 0) 1 50 := ⟨by decide +kernel, rfl⟩
theorem e_X11_wayIn_50 : DC cX11_wayIn 50 (.getfield 23) 3 53 := ⟨by decide +kernel, rfl⟩
theorem e_X11_wayIn_53 : DC cX11_wayIn 53 (.iload_n 2) 1 54 := ⟨by decide +kernel, rfl⟩
theorem e_X11_wayIn_54 : DC cX11_wayIn 54 (.iconst 2) 1 55 := ⟨by decide +kernel, rfl⟩
theorem e_X11_wayIn_55 : DC cX11_wayIn 55 (.iadd) 1 56 := ⟨by decide +kernel, rfl⟩
theorem e_X11_wayIn_56 : DC cX11_wayIn 56 (.aload_n 0) 1 57 := ⟨by decide +kernel, rfl⟩
theorem e_X11_wayIn_57 : DC cX11_wayIn 57 (.bipush (-9)) 2 59 := ⟨by decide +kernel, rfl⟩
theorem e_X11_wayIn_59 : DC cX11_wayIn 59 (.bipush 9) 2 61 := ⟨by decide +kernel, rfl⟩
theorem e_X11_wayIn_61 : DC cX11_wayIn 61 (.invokevirtual 230) 3 64 := ⟨by decide +kernel, rfl⟩
theorem e_X11_wayIn_64 : DC cX11_wayIn 64 (.iastore) 1 65 := ⟨by decide +kernel, rfl⟩
theorem e_X11_wayIn_65 : DC cX11_wayIn 65 (.aload_n 0) 1 66 := ⟨by decide +kernel, rfl⟩
theorem e_X11_wayIn_66 : DC cX11_wayIn 66 (.getfield 23) 3 69 := ⟨by decide +kernel, rfl⟩
theorem e_X11_wayIn_69 : DC cX11_wayIn 69 (.iload_n 2) 1 70 := ⟨by decide +kernel, rfl⟩
theorem e_X11_wayIn_70 : DC cX11_wayIn 70 (.iaload) 1 71 := ⟨by decide +kernel, rfl⟩
theorem e_X11_wayIn_71 : DB cX11_wayIn 71 (.ifCond .ne 31) (31) 3 74 102 := ⟨by decide +kernel, rfl, rfl⟩
theorem e_X11_wayIn_74 : DC cX11_wayIn 74 (.aload_n 0) 1 75 := ⟨by decide +kernel, rfl⟩
theorem e_X11_wayIn_75 : DC cX11_wayIn 75 (.getfield 23) 3 78 := ⟨by decide +kernel, rfl⟩
theorem e_X11_wayIn_78 : DC cX11_wayIn 78 (.iload_n 2) 1 79 := ⟨by decide +kernel, rfl⟩
theorem e_X11_wayIn_79 : DC cX11_wayIn 79 (.iconst 1) 1 80 := ⟨by decide +kernel, rfl⟩
theorem e_X11_wayIn_80 : DC cX11_wayIn 80 (.iadd) 1 81 := ⟨by decide +kernel, rfl⟩
theorem e_X11_wayIn_81 : DC cX11_wayIn 81 (.iaload) 1 82 := ⟨by decide +kernel, rfl⟩
theorem e_X11_wayIn_82 : DB cX11_wayIn 82 (.ifCond .ne 20) (20) 3 85 102 := ⟨by decide +kernel, rfl, rfl⟩
theorem e_X11_wayIn_85 : DC cX11_wayIn 85 (.aload_n 0) 1 86 := ⟨by decide +kernel, rfl⟩
theorem e_X11_wayIn_86 : DC cX11_wayIn 86 (.getfield 23) 3 89 := ⟨by decide +kernel, rfl⟩
theorem e_X11_wayIn_89 : DC cX11_wayIn 89 (.iload_n 2) 1 90 := ⟨by decide +kernel, rfl⟩
theorem e_X11_wayIn_90 : DC cX11_wayIn 90 (.iconst 2) 1 91 := ⟨by decide +kernel, rfl⟩
theorem e_X11_wayIn_91 : DC cX11_wayIn 91 (.iadd) 1 92 := ⟨by decide +kernel, rfl⟩
theorem e_X11_wayIn_92 : DC cX11_wayIn 92 (.iaload) 1 93 := ⟨by decide +kernel, rfl⟩
theorem e_X11_wayIn_93 : DB cX11_wayIn 93 (.ifCond .ne 9) (9) 3 96 102 := ⟨by decide +kernel, rfl, rfl⟩
theorem e_X11_wayIn_96 : DC cX11_wayIn 96 (.aload_n 0) 1 97 := ⟨by decide +kernel, rfl⟩
theorem e_X11_wayIn_97 : DC cX11_wayIn 97 (.iconst 2) 1 98 := ⟨by decide +kernel, rfl⟩
theorem e_X11_wayIn_98 : DC cX11_wayIn 98 (.iload_n 3) 1 99 := ⟨by decide +kernel, rfl⟩
theorem e_X11_wayIn_99 : DC cX11_wayIn 99 (.invokevirtual 199) 3 102 := ⟨by decide +kernel, rfl⟩
theorem e_X11_wayIn_102 : DC cX11_wayIn 102 (.return_) 1 103 := ⟨by decide +kernel, rfl⟩
noncomputable def m_X11_wayIn_0 (t_taped : Int) (t_p : Int) (t_fault : Int) (t_from : Int) (t_tape : Nat → Int) (t_newMany : Nat → Int) (t_newWay : Nat → Int) (v1 : Int) : Option (Int × Int × Int × (Nat → Int)) :=
  chk (inB v1 7) ((m_X11_number t_taped t_p t_fault t_from t_tape (-9) 9).bind (fun y2 => chk (inB ((48 * v1) + (3 * (t_newMany (Int.toNat v1)))) 144) ((m_X11_number t_taped y2.2.1 y2.2.2.1 y2.2.2.2 t_tape (-9) 9).bind (fun y4 => chk (inB (((48 * v1) + (3 * (t_newMany (Int.toNat v1)))) + 1) 144) ((m_X11_number t_taped y4.2.1 y4.2.2.1 y4.2.2.2 t_tape (-9) 9).bind (fun y6 => chk (inB (((48 * v1) + (3 * (t_newMany (Int.toNat v1)))) + 2) 144) (chk (inB ((48 * v1) + (3 * (t_newMany (Int.toNat v1)))) 144) (if ((up (up (up t_newWay (Int.toNat ((48 * v1) + (3 * (t_newMany (Int.toNat v1))))) y2.1) (Int.toNat (((48 * v1) + (3 * (t_newMany (Int.toNat v1)))) + 1)) y4.1) (Int.toNat (((48 * v1) + (3 * (t_newMany (Int.toNat v1)))) + 2)) y6.1) (Int.toNat ((48 * v1) + (3 * (t_newMany (Int.toNat v1)))))) = 0 then (chk (inB (((48 * v1) + (3 * (t_newMany (Int.toNat v1)))) + 1) 144) (if ((up (up (up t_newWay (Int.toNat ((48 * v1) + (3 * (t_newMany (Int.toNat v1))))) y2.1) (Int.toNat (((48 * v1) + (3 * (t_newMany (Int.toNat v1)))) + 1)) y4.1) (Int.toNat (((48 * v1) + (3 * (t_newMany (Int.toNat v1)))) + 2)) y6.1) (Int.toNat (((48 * v1) + (3 * (t_newMany (Int.toNat v1)))) + 1))) = 0 then (chk (inB (((48 * v1) + (3 * (t_newMany (Int.toNat v1)))) + 2) 144) (if ((up (up (up t_newWay (Int.toNat ((48 * v1) + (3 * (t_newMany (Int.toNat v1))))) y2.1) (Int.toNat (((48 * v1) + (3 * (t_newMany (Int.toNat v1)))) + 1)) y4.1) (Int.toNat (((48 * v1) + (3 * (t_newMany (Int.toNat v1)))) + 2)) y6.1) (Int.toNat (((48 * v1) + (3 * (t_newMany (Int.toNat v1)))) + 2))) = 0 then ((m_X11_fails y6.2.2.1 2 y2.2.2.2).bind (fun y11 => some (y6.2.1, y11, y6.2.2.2, up (up (up t_newWay (Int.toNat ((48 * v1) + (3 * (t_newMany (Int.toNat v1))))) y2.1) (Int.toNat (((48 * v1) + (3 * (t_newMany (Int.toNat v1)))) + 1)) y4.1) (Int.toNat (((48 * v1) + (3 * (t_newMany (Int.toNat v1)))) + 2)) y6.1))) else (some (y6.2.1, y6.2.2.1, y6.2.2.2, up (up (up t_newWay (Int.toNat ((48 * v1) + (3 * (t_newMany (Int.toNat v1))))) y2.1) (Int.toNat (((48 * v1) + (3 * (t_newMany (Int.toNat v1)))) + 1)) y4.1) (Int.toNat (((48 * v1) + (3 * (t_newMany (Int.toNat v1)))) + 2)) y6.1)))) else (some (y6.2.1, y6.2.2.1, y6.2.2.2, up (up (up t_newWay (Int.toNat ((48 * v1) + (3 * (t_newMany (Int.toNat v1))))) y2.1) (Int.toNat (((48 * v1) + (3 * (t_newMany (Int.toNat v1)))) + 1)) y4.1) (Int.toNat (((48 * v1) + (3 * (t_newMany (Int.toNat v1)))) + 2)) y6.1)))) else (some (y6.2.1, y6.2.2.1, y6.2.2.2, up (up (up t_newWay (Int.toNat ((48 * v1) + (3 * (t_newMany (Int.toNat v1))))) y2.1) (Int.toNat (((48 * v1) + (3 * (t_newMany (Int.toNat v1)))) + 1)) y4.1) (Int.toNat (((48 * v1) + (3 * (t_newMany (Int.toNat v1)))) + 2)) y6.1))))))))))

set_option maxRecDepth 10000 in
set_option maxHeartbeats 8000000 in
theorem g_X11_wayIn_0 {l : Launch} {E : EE} {b0 n : Nat} {h : AH} {a_t : Nat} {t_thrown t_taped t_p t_fault t_baseLow t_baseHigh t_newBaseLow t_newBaseHigh t_from t_knots t_lines t_chosen t_undos t_redos t_aimedMany t_fits t_fitOf t_sights t_systems t_own t_cross t_curveLong t_wallFirst v1 : Int} {t_tape t_newMany t_newWay : Nat → Int} {r : Int × Int × Int × (Nat → Int)} (ao : AO b0 n [a_t, (a_t + 1), (a_t + 3), (a_t + 5)]) (ok_t_taped : inI t_taped) (ok_t_p : inI t_p) (ok_t_fault : inI t_fault) (ok_t_from : inI t_from) (ok_t_tape : okY t_tape) (ok_t_newMany : okA t_newMany) (ok_t_newWay : okA t_newWay) (ok_v1 : inI v1) (hs : m_X11_wayIn_0 t_taped t_p t_fault t_from t_tape t_newMany t_newWay v1 = some r) : G l E b0 M_X11_wayIn (fun _ => True) (ZM E b0 (none) (ov [a_t, (a_t + 1), (a_t + 3), (a_t + 5)] [.inr (11, fsX11 a_t t_thrown t_taped r.1 r.2.1 t_baseLow t_baseHigh t_newBaseLow t_newBaseHigh r.2.2.1 t_knots t_lines t_chosen t_undos t_redos t_aimedMany t_fits t_fitOf t_sights t_systems t_own t_cross t_curveLong t_wallFirst), YA E 400 t_tape, IA E 7 t_newMany, IA E 144 r.2.2.2] h) n (inI r.1 ∧ inI r.2.1 ∧ inI r.2.2.1 ∧ okA r.2.2.2) 0 0) 0 0 n (ov [a_t, (a_t + 1), (a_t + 3), (a_t + 5)] [.inr (11, fsX11 a_t t_thrown t_taped t_p t_fault t_baseLow t_baseHigh t_newBaseLow t_newBaseHigh t_from t_knots t_lines t_chosen t_undos t_redos t_aimedMany t_fits t_fitOf t_sights t_systems t_own t_cross t_curveLong t_wallFirst), YA E 400 t_tape, IA E 7 t_newMany, IA E 144 t_newWay] h) 0 [some (.ref a_t), some (vI v1), none, none] [] := by
  rw [m_X11_wayIn_0] at hs
  refine g_bipush e_X11_wayIn_0 bp_48 ?_
  refine g_iload_n e_X11_wayIn_2 rfl ?_
  refine g_imul e_X11_wayIn_3 ?_
  refine g_iconst e_X11_wayIn_4 ?_
  refine g_aload_n e_X11_wayIn_5 rfl ?_
  refine g_get 0 6 ao rfl rfl fsX11_g6 fl_X11_17 e_X11_wayIn_6 ?_
  refine g_iload_n e_X11_wayIn_9 rfl ?_
  refine g_iald 2 ao rfl rfl (Nat.le_of_ble_eq_true rfl) e_X11_wayIn_10 hs (fun hi1 hs => ?_)
  refine g_imul e_X11_wayIn_11 ?_
  refine g_iadd e_X11_wayIn_12 ?_
  refine g_istore_n e_X11_wayIn_13 st1_2 rfl ?_
  refine g_aload_n e_X11_wayIn_14 rfl ?_
  refine g_get 0 8 ao rfl rfl fsX11_g8 fl_X11_23 e_X11_wayIn_15 ?_
  refine g_iload_n e_X11_wayIn_18 rfl ?_
  refine g_aload_n e_X11_wayIn_19 rfl ?_
  refine g_bipush e_X11_wayIn_20 bp_m9 ?_
  refine g_bipush e_X11_wayIn_22 bp_9 ?_
  obtain ⟨y2, hy2, hs⟩ := bind_elim hs
  refine g_callVr [vI (-9), vI 9] cv_X11_230 ⟨rfl, rfl, Nat.le_of_ble_eq_true rfl, Nat.le_of_ble_eq_true rfl⟩ (Ct_heap (ct_X11_number (a_t := a_t) (AO_call [0, 1] ao (by decide) rfl) (FA_call [0, 1] ao.1 rfl rfl) ok_t_taped ok_t_p ok_t_fault ok_t_from ok_t_tape (by decide : inI (-9)) (by decide : inI 9) hy2) (ov_call (esn := [.inr (11, fsX11 a_t t_thrown t_taped y2.2.1 y2.2.2.1 t_baseLow t_baseHigh t_newBaseLow t_newBaseHigh y2.2.2.2 t_knots t_lines t_chosen t_undos t_redos t_aimedMany t_fits t_fitOf t_sights t_systems t_own t_cross t_curveLong t_wallFirst), YA E 400 t_tape, IA E 7 t_newMany, IA E 144 t_newWay]) [0, 1] ao.1 rfl rfl rfl rfl)) e_X11_wayIn_24 (ao.2 0 _ rfl) (ov_get 0 ao.1 rfl rfl) rfl rfl rfl (Nat.le_of_ble_eq_true rfl) ⟨Nat.le_refl _, Nat.le_refl _⟩ (fun Py2 => ?_)
  refine g_iast 3 ao rfl rfl ls_3 (Nat.le_of_ble_eq_true rfl) e_X11_wayIn_27 hs (fun hi3 hs => ?_)
  refine g_aload_n e_X11_wayIn_28 rfl ?_
  refine g_get 0 21 ao rfl rfl fsX11_g21 fl_X11_219 e_X11_wayIn_29 ?_
  refine g_istore_n e_X11_wayIn_32 st1_3 rfl ?_
  refine g_aload_n e_X11_wayIn_33 rfl ?_
  refine g_get 0 8 ao rfl rfl fsX11_g8 fl_X11_23 e_X11_wayIn_34 ?_
  refine g_iload_n e_X11_wayIn_37 rfl ?_
  refine g_iconst e_X11_wayIn_38 ?_
  refine g_iadd e_X11_wayIn_39 ?_
  refine g_aload_n e_X11_wayIn_40 rfl ?_
  refine g_bipush e_X11_wayIn_41 bp_m9 ?_
  refine g_bipush e_X11_wayIn_43 bp_9 ?_
  obtain ⟨y4, hy4, hs⟩ := bind_elim hs
  refine g_callVr [vI (-9), vI 9] cv_X11_230 ⟨rfl, rfl, Nat.le_of_ble_eq_true rfl, Nat.le_of_ble_eq_true rfl⟩ (Ct_heap (ct_X11_number (a_t := a_t) (AO_call [0, 1] ao (by decide) rfl) (FA_call [0, 1] ao.1 rfl rfl) ok_t_taped Py2.2.1 Py2.2.2.1 Py2.2.2.2 ok_t_tape (by decide : inI (-9)) (by decide : inI 9) hy4) (ov_call (esn := [.inr (11, fsX11 a_t t_thrown t_taped y4.2.1 y4.2.2.1 t_baseLow t_baseHigh t_newBaseLow t_newBaseHigh y4.2.2.2 t_knots t_lines t_chosen t_undos t_redos t_aimedMany t_fits t_fitOf t_sights t_systems t_own t_cross t_curveLong t_wallFirst), YA E 400 t_tape, IA E 7 t_newMany, IA E 144 (up t_newWay (Int.toNat ((48 * v1) + (3 * (t_newMany (Int.toNat v1))))) y2.1)]) [0, 1] ao.1 rfl rfl rfl rfl)) e_X11_wayIn_45 (ao.2 0 _ rfl) (ov_get 0 ao.1 rfl rfl) rfl rfl rfl (Nat.le_of_ble_eq_true rfl) ⟨Nat.le_refl _, Nat.le_refl _⟩ (fun Py4 => ?_)
  refine g_iast 3 ao rfl rfl ls_3 (Nat.le_of_ble_eq_true rfl) e_X11_wayIn_48 hs (fun hi5 hs => ?_)
  refine g_aload_n e_X11_wayIn_49 rfl ?_
  refine g_get 0 8 ao rfl rfl fsX11_g8 fl_X11_23 e_X11_wayIn_50 ?_
  refine g_iload_n e_X11_wayIn_53 rfl ?_
  refine g_iconst e_X11_wayIn_54 ?_
  refine g_iadd e_X11_wayIn_55 ?_
  refine g_aload_n e_X11_wayIn_56 rfl ?_
  refine g_bipush e_X11_wayIn_57 bp_m9 ?_
  refine g_bipush e_X11_wayIn_59 bp_9 ?_
  obtain ⟨y6, hy6, hs⟩ := bind_elim hs
  refine g_callVr [vI (-9), vI 9] cv_X11_230 ⟨rfl, rfl, Nat.le_of_ble_eq_true rfl, Nat.le_of_ble_eq_true rfl⟩ (Ct_heap (ct_X11_number (a_t := a_t) (AO_call [0, 1] ao (by decide) rfl) (FA_call [0, 1] ao.1 rfl rfl) ok_t_taped Py4.2.1 Py4.2.2.1 Py4.2.2.2 ok_t_tape (by decide : inI (-9)) (by decide : inI 9) hy6) (ov_call (esn := [.inr (11, fsX11 a_t t_thrown t_taped y6.2.1 y6.2.2.1 t_baseLow t_baseHigh t_newBaseLow t_newBaseHigh y6.2.2.2 t_knots t_lines t_chosen t_undos t_redos t_aimedMany t_fits t_fitOf t_sights t_systems t_own t_cross t_curveLong t_wallFirst), YA E 400 t_tape, IA E 7 t_newMany, IA E 144 (up (up t_newWay (Int.toNat ((48 * v1) + (3 * (t_newMany (Int.toNat v1))))) y2.1) (Int.toNat (((48 * v1) + (3 * (t_newMany (Int.toNat v1)))) + 1)) y4.1)]) [0, 1] ao.1 rfl rfl rfl rfl)) e_X11_wayIn_61 (ao.2 0 _ rfl) (ov_get 0 ao.1 rfl rfl) rfl rfl rfl (Nat.le_of_ble_eq_true rfl) ⟨Nat.le_refl _, Nat.le_refl _⟩ (fun Py6 => ?_)
  refine g_iast 3 ao rfl rfl ls_3 (Nat.le_of_ble_eq_true rfl) e_X11_wayIn_64 hs (fun hi7 hs => ?_)
  refine g_aload_n e_X11_wayIn_65 rfl ?_
  refine g_get 0 8 ao rfl rfl fsX11_g8 fl_X11_23 e_X11_wayIn_66 ?_
  refine g_iload_n e_X11_wayIn_69 rfl ?_
  refine g_iald 3 ao rfl rfl (Nat.le_of_ble_eq_true rfl) e_X11_wayIn_70 hs (fun hi8 hs => ?_)
  refine g_if_ne e_X11_wayIn_71 ((okA_up (okA_up (okA_up ok_t_newWay Py2.1) Py4.1) Py6.1) _) hs (fun c71 hs => ?_) (fun c71 hs => ?_)
  · refine g_aload_n e_X11_wayIn_74 rfl ?_
    refine g_get 0 8 ao rfl rfl fsX11_g8 fl_X11_23 e_X11_wayIn_75 ?_
    refine g_iload_n e_X11_wayIn_78 rfl ?_
    refine g_iconst e_X11_wayIn_79 ?_
    refine g_iadd e_X11_wayIn_80 ?_
    refine g_iald 3 ao rfl rfl (Nat.le_of_ble_eq_true rfl) e_X11_wayIn_81 hs (fun hi9 hs => ?_)
    refine g_if_ne e_X11_wayIn_82 ((okA_up (okA_up (okA_up ok_t_newWay Py2.1) Py4.1) Py6.1) _) hs (fun c82 hs => ?_) (fun c82 hs => ?_)
    · refine g_aload_n e_X11_wayIn_85 rfl ?_
      refine g_get 0 8 ao rfl rfl fsX11_g8 fl_X11_23 e_X11_wayIn_86 ?_
      refine g_iload_n e_X11_wayIn_89 rfl ?_
      refine g_iconst e_X11_wayIn_90 ?_
      refine g_iadd e_X11_wayIn_91 ?_
      refine g_iald 3 ao rfl rfl (Nat.le_of_ble_eq_true rfl) e_X11_wayIn_92 hs (fun hi10 hs => ?_)
      refine g_if_ne e_X11_wayIn_93 ((okA_up (okA_up (okA_up ok_t_newWay Py2.1) Py4.1) Py6.1) _) hs (fun c93 hs => ?_) (fun c93 hs => ?_)
      · refine g_aload_n e_X11_wayIn_96 rfl ?_
        refine g_iconst e_X11_wayIn_97 ?_
        refine g_iload_n e_X11_wayIn_98 rfl ?_
        obtain ⟨y11, hy11, hs⟩ := bind_elim hs
        refine g_callVv [vI 2, vI y2.2.2.2] cv_X11_199 ⟨rfl, rfl, Nat.le_of_ble_eq_true rfl, Nat.le_of_ble_eq_true rfl⟩ (Ct_heap (ct_X11_fails (a_t := a_t) (AO_call [0] ao (by decide) rfl) (FA_call [0] ao.1 rfl rfl) Py6.2.2.1 (by decide : inI 2) Py2.2.2.2 hy11) (ov_call (esn := [.inr (11, fsX11 a_t t_thrown t_taped y6.2.1 y11 t_baseLow t_baseHigh t_newBaseLow t_newBaseHigh y6.2.2.2 t_knots t_lines t_chosen t_undos t_redos t_aimedMany t_fits t_fitOf t_sights t_systems t_own t_cross t_curveLong t_wallFirst), YA E 400 t_tape, IA E 7 t_newMany, IA E 144 (up (up (up t_newWay (Int.toNat ((48 * v1) + (3 * (t_newMany (Int.toNat v1))))) y2.1) (Int.toNat (((48 * v1) + (3 * (t_newMany (Int.toNat v1)))) + 1)) y4.1) (Int.toNat (((48 * v1) + (3 * (t_newMany (Int.toNat v1)))) + 2)) y6.1)]) [0] ao.1 rfl rfl rfl rfl)) e_X11_wayIn_99 (ao.2 0 _ rfl) (ov_get 0 ao.1 rfl rfl) rfl rfl rfl (Nat.le_of_ble_eq_true rfl) ⟨Nat.le_refl _, Nat.le_refl _⟩ (fun Py11 => ?_)
        obtain rfl := Option.some.inj hs
        exact g_vret rfl ⟨Py6.2.1, Py11, Py6.2.2.2, (okA_up (okA_up (okA_up ok_t_newWay Py2.1) Py4.1) Py6.1)⟩ e_X11_wayIn_102
      · obtain rfl := Option.some.inj hs
        exact g_vret rfl ⟨Py6.2.1, Py6.2.2.1, Py6.2.2.2, (okA_up (okA_up (okA_up ok_t_newWay Py2.1) Py4.1) Py6.1)⟩ e_X11_wayIn_102
    · obtain rfl := Option.some.inj hs
      exact g_vret rfl ⟨Py6.2.1, Py6.2.2.1, Py6.2.2.2, (okA_up (okA_up (okA_up ok_t_newWay Py2.1) Py4.1) Py6.1)⟩ e_X11_wayIn_102
  · obtain rfl := Option.some.inj hs
    exact g_vret rfl ⟨Py6.2.1, Py6.2.2.1, Py6.2.2.2, (okA_up (okA_up (okA_up ok_t_newWay Py2.1) Py4.1) Py6.1)⟩ e_X11_wayIn_102

noncomputable def m_X11_wayIn (t_taped : Int) (t_p : Int) (t_fault : Int) (t_from : Int) (t_tape : Nat → Int) (t_newMany : Nat → Int) (t_newWay : Nat → Int) (v1 : Int) : Option (Int × Int × Int × (Nat → Int)) := m_X11_wayIn_0 t_taped t_p t_fault t_from t_tape t_newMany t_newWay v1

set_option maxRecDepth 10000 in
set_option maxHeartbeats 8000000 in
theorem ct_X11_wayIn {l : Launch} {E : EE} {b0 n : Nat} {h : AH} {a_t : Nat} {t_thrown t_taped t_p t_fault t_baseLow t_baseHigh t_newBaseLow t_newBaseHigh t_from t_knots t_lines t_chosen t_undos t_redos t_aimedMany t_fits t_fitOf t_sights t_systems t_own t_cross t_curveLong t_wallFirst : Int} {t_tape t_newMany t_newWay : Nat → Int} {v1 : Int} (ao : AO b0 n [a_t, (a_t + 1), (a_t + 3), (a_t + 5)]) (hf : FA h [a_t, (a_t + 1), (a_t + 3), (a_t + 5)] [.inr (11, fsX11 a_t t_thrown t_taped t_p t_fault t_baseLow t_baseHigh t_newBaseLow t_newBaseHigh t_from t_knots t_lines t_chosen t_undos t_redos t_aimedMany t_fits t_fitOf t_sights t_systems t_own t_cross t_curveLong t_wallFirst), YA E 400 t_tape, IA E 7 t_newMany, IA E 144 t_newWay]) (ok_t_taped : inI t_taped) (ok_t_p : inI t_p) (ok_t_fault : inI t_fault) (ok_t_from : inI t_from) (ok_t_tape : okY t_tape) (ok_t_newMany : okA t_newMany) (ok_t_newWay : okA t_newWay) (ok_v1 : inI v1) {r : Int × Int × Int × (Nat → Int)} (hm : m_X11_wayIn t_taped t_p t_fault t_from t_tape t_newMany t_newWay v1 = some r) : Ct l E b0 M_X11_wayIn 0 0 [.ref a_t, vI v1] h n (none) (ov [a_t, (a_t + 1), (a_t + 3), (a_t + 5)] [.inr (11, fsX11 a_t t_thrown t_taped r.1 r.2.1 t_baseLow t_baseHigh t_newBaseLow t_newBaseHigh r.2.2.1 t_knots t_lines t_chosen t_undos t_redos t_aimedMany t_fits t_fitOf t_sights t_systems t_own t_cross t_curveLong t_wallFirst), YA E 400 t_tape, IA E 7 t_newMany, IA E 144 r.2.2.2] h) n (inI r.1 ∧ inI r.2.1 ∧ inI r.2.2.1 ∧ okA r.2.2.2) := by
  rw [m_X11_wayIn] at hm
  have hg : G l E b0 M_X11_wayIn (fun _ => True) (ZM E b0 (none) (ov [a_t, (a_t + 1), (a_t + 3), (a_t + 5)] [.inr (11, fsX11 a_t t_thrown t_taped r.1 r.2.1 t_baseLow t_baseHigh t_newBaseLow t_newBaseHigh r.2.2.1 t_knots t_lines t_chosen t_undos t_redos t_aimedMany t_fits t_fitOf t_sights t_systems t_own t_cross t_curveLong t_wallFirst), YA E 400 t_tape, IA E 7 t_newMany, IA E 144 r.2.2.2] h) n (inI r.1 ∧ inI r.2.1 ∧ inI r.2.2.1 ∧ okA r.2.2.2) 0 0) 0 0 n (ov [a_t, (a_t + 1), (a_t + 3), (a_t + 5)] [.inr (11, fsX11 a_t t_thrown t_taped t_p t_fault t_baseLow t_baseHigh t_newBaseLow t_newBaseHigh t_from t_knots t_lines t_chosen t_undos t_redos t_aimedMany t_fits t_fitOf t_sights t_systems t_own t_cross t_curveLong t_wallFirst), YA E 400 t_tape, IA E 7 t_newMany, IA E 144 t_newWay] h) 0 [some (.ref a_t), some (vI v1), none, none] [] := by
    have hs := hm
    exact g_X11_wayIn_0 ao ok_t_taped ok_t_p ok_t_fault ok_t_from ok_t_tape ok_t_newMany ok_t_newWay ok_v1 hs
  rw [FA_id hf] at hg
  exact Ct_of [some (.ref a_t), some (vI v1), none, none] ⟨by decide +kernel, rfl⟩ rfl (Nat.le_of_ble_eq_true rfl) hg

/-! ===== X11_statement ===== -/
theorem e_X11_statement_0 : DC cX11_statement 0 (.iload_n 1) 1 1 := ⟨by decide +kernel, rfl⟩
theorem e_X11_statement_1 : DC cX11_statement 1 (.iconst 3) 1 2 := ⟨by decide +kernel, rfl⟩
theorem e_X11_statement_2 : DB cX11_statement 2 (.if_icmp .ge 11) (11) 3 5 13 := ⟨by decide +kernel, rfl, rfl⟩
theorem e_X11_statement_5 : DC cX11_statement 5 (.aload_n 0) 1 6 := ⟨by decide +kernel, rfl⟩
theorem e_X11_statement_6 : DC cX11_statement 6 (.iload_n 1) 1 7 := ⟨by decide +kernel, rfl⟩
theorem e_X11_statement_7 : DC cX11_statement 7 (.invokevirtual 234) 3 10 := ⟨by decide +kernel, rfl⟩
theorem e_X11_statement_10 : DB cX11_statement 10 (.goto 278) (278) 3 13 288 := ⟨by decide +kernel, rfl, rfl⟩
theorem e_X11_statement_13 : DC cX11_statement 13 (.iload_n 1) 1 14 := ⟨by decide +kernel, rfl⟩
theorem e_X11_statement_14 : DC cX11_statement 14 (.iconst 3) 1 15 := ⟨by decide +kernel, rfl⟩
theorem e_X11_statement_15 : DB cX11_statement 15 (.if_icmp .ne 67) (67) 3 18 82 := ⟨by decide +kernel, rfl, rfl⟩
theorem e_X11_statement_18 : DC cX11_statement 18 (.aload_n 0) 1 19 := ⟨by decide +kernel, rfl⟩
theorem e_X11_statement_19 : DC cX11_statement 19 (.iconst 1) 1 20 := ⟨by decide +kernel, rfl⟩
theorem e_X11_statement_20 : DC cX11_statement 20 (.bipush 20) 2 22 := ⟨by decide +kernel, rfl⟩
theorem e_X11_statement_22 : DC cX11_statement 22 (.invokevirtual 230) 3 25 := ⟨by decide +kernel, rfl⟩
theorem e_X11_statement_25 : DC cX11_statement 25 (.istore_n 2) 1 26 := ⟨by decide +kernel, rfl⟩
theorem e_X11_statement_26 : DC cX11_statement 26 (.aload_n 0) 1 27 := ⟨by decide +kernel, rfl⟩
theorem e_X11_statement_27 : DC cX11_statement 27 (.getfield 168) 3 30 := ⟨by decide +kernel, rfl⟩
theorem e_X11_statement_30 : DB cX11_statement 30 (.ifCond .ne 22) (22) 3 33 52 := ⟨by decide +kernel, rfl, rfl⟩
theorem e_X11_statement_33 : DC cX11_statement 33 (.aload_n 0) 1 34 := ⟨by decide +kernel, rfl⟩
theorem e_X11_statement_34 : DC cX11_statement 34 (.getfield 29) 3 37 := ⟨by decide +kernel, rfl⟩
theorem e_X11_statement_37 : DC cX11_statement 37 (.iload_n 2) 1 38 := ⟨by decide +kernel, rfl⟩
theorem e_X11_statement_38 : DC cX11_statement 38 (.iaload) 1 39 := ⟨by decide +kernel, rfl⟩
theorem e_X11_statement_39 : DC cX11_statement 39 (.iconst (-1)) 1 40 := ⟨by decide +kernel, rfl⟩
theorem e_X11_statement_40 : DB cX11_statement 40 (.if_icmp .eq 12) (12) 3 43 52 := ⟨by decide +kernel, rfl, rfl⟩
theorem e_X11_statement_43 : DC cX11_statement 43 (.aload_n 0) 1 44 := ⟨by decide +kernel, rfl⟩
theorem e_X11_statement_44 : DC cX11_statement 44 (.iconst 3) 1 45 := ⟨by decide +kernel, rfl⟩
theorem e_X11_statement_45 : DC cX11_statement 45 (.aload_n 0) 1 46 := ⟨by decide +kernel, rfl⟩
theorem e_X11_statement_46 : DC cX11_statement 46 (.getfield 219) 3 49 := ⟨by decide +kernel, rfl⟩
theorem e_X11_statement_49 : DC cX11_statement 49 (.invokevirtual 199) 3 52 := ⟨by decide +kernel, rfl⟩
theorem e_X11_statement_52 : DC cX11_statement 52 (.aload_n 0) 1 53 := ⟨by decide +kernel, rfl⟩
theorem e_X11_statement_53 : DC cX11_statement 53 (.iconst 0) 1 54 := ⟨by decide +kernel, rfl⟩
theorem e_X11_statement_54 : DC cX11_statement 54 (.sipush 999) 3 57 := ⟨by decide +kernel, rfl⟩
theorem e_X11_statement_57 : DC cX11_statement 57 (.invokevirtual 230) 3 60 := ⟨by decide +kernel, rfl⟩
theorem e_X11_statement_60 : DC cX11_statement 60 (.istore_n 3) 1 61 := ⟨by decide +kernel, rfl⟩
theorem e_X11_statement_61 : DC cX11_statement 61 (.aload_n 0) 1 62 := ⟨by decide +kernel, rfl⟩
theorem e_X11_statement_62 : DC cX11_statement 62 (.getfield 29) 3 65 := ⟨by decide +kernel, rfl⟩
theorem e_X11_statement_65 : DC cX11_statement 65 (.aload_n 0) 1 66 := ⟨by decide +kernel, rfl⟩
theorem e_X11_statement_66 : DC cX11_statement 66 (.getfield 168) 3 69 := ⟨by decide +kernel, rfl⟩
theorem e_X11_statement_69 : DB cX11_statement 69 (.ifCond .le 7) (7) 3 72 76 := ⟨by decide +kernel, rfl, rfl⟩
theorem e_X11_statement_72 : DC cX11_statement 72 (.iconst 0) 1 73 := ⟨by decide +kernel, rfl⟩
theorem e_X11_statement_73 : DB cX11_statement 73 (.goto 4) (4) 3 76 77 := ⟨by decide +kernel, rfl, rfl⟩
theorem e_X11_statement_76 : DC cX11_statement 76 (.iload_n 2) 1 77 := ⟨by decide +kernel, rfl⟩
theorem e_X11_statement_77 : DC cX11_statement 77 (.iload_n 3) 1 78 := ⟨by decide +kernel, rfl⟩
theorem e_X11_statement_78 : DC cX11_statement 78 (.iastore) 1 79 := ⟨by decide +kernel, rfl⟩
theorem e_X11_statement_79 : DB cX11_statement 79 (.goto 209) (209) 3 82 288 := ⟨by decide +kernel, rfl, rfl⟩
theorem e_X11_statement_82 : DC cX11_statement 82 (.iload_n 1) 1 83 := ⟨by decide +kernel, rfl⟩
theorem e_X11_statement_83 : DC cX11_statement 83 (.iconst 5) 1 84 := ⟨by decide +kernel, rfl⟩
theorem e_X11_statement_84 : DB cX11_statement 84 (.if_icmp .ne 67) (67) 3 87 151 := ⟨by decide +kernel, rfl, rfl⟩
theorem e_X11_statement_87 : DC cX11_statement 87 (.aload_n 0) 1 88 := ⟨by decide +kernel, rfl⟩
theorem e_X11_statement_88 : DC cX11_statement 88 (.iconst 1) 1 89 := ⟨by decide +kernel, rfl⟩
theorem e_X11_statement_89 : DC cX11_statement 89 (.bipush 98) 2 91 := ⟨by decide +kernel, rfl⟩
theorem e_X11_statement_91 : DC cX11_statement 91 (.invokevirtual 230) 3 94 := ⟨by decide +kernel, rfl⟩
theorem e_X11_statement_94 : DC cX11_statement 94 (.istore_n 2) 1 95 := ⟨by decide +kernel, rfl⟩
theorem e_X11_statement_95 : DC cX11_statement 95 (.aload_n 0) 1 96 := ⟨by decide +kernel, rfl⟩
theorem e_X11_statement_96 : DC cX11_statement 96 (.getfield 168) 3 99 := ⟨by decide +kernel, rfl⟩
theorem e_X11_statement_99 : DB cX11_statement 99 (.ifCond .ne 22) (22) 3 102 121 := ⟨by decide +kernel, rfl, rfl⟩
theorem e_X11_statement_102 : DC cX11_statement 102 (.aload_n 0) 1 103 := ⟨by decide +kernel, rfl⟩
theorem e_X11_statement_103 : DC cX11_statement 103 (.getfield 47) 3 106 := ⟨by decide +kernel, rfl⟩
theorem e_X11_statement_106 : DC cX11_statement 106 (.iload_n 2) 1 107 := ⟨by decide +kernel, rfl⟩
theorem e_X11_statement_107 : DC cX11_statement 107 (.iaload) 1 108 := ⟨by decide +kernel, rfl⟩
theorem e_X11_statement_108 : DC cX11_statement 108 (.iconst (-1)) 1 109 := ⟨by decide +kernel, rfl⟩
theorem e_X11_statement_109 : DB cX11_statement 109 (.if_icmp .eq 12) (12) 3 112 121 := ⟨by decide +kernel, rfl, rfl⟩
theorem e_X11_statement_112 : DC cX11_statement 112 (.aload_n 0) 1 113 := ⟨by decide +kernel, rfl⟩
theorem e_X11_statement_113 : DC cX11_statement 113 (.iconst 3) 1 114 := ⟨by decide +kernel, rfl⟩
theorem e_X11_statement_114 : DC cX11_statement 114 (.aload_n 0) 1 115 := ⟨by decide +kernel, rfl⟩
theorem e_X11_statement_115 : DC cX11_statement 115 (.getfield 219) 3 118 := ⟨by decide +kernel, rfl⟩
theorem e_X11_statement_118 : DC cX11_statement 118 (.invokevirtual 199) 3 121 := ⟨by decide +kernel, rfl⟩
theorem e_X11_statement_121 : DC cX11_statement 121 (.aload_n 0) 1 122 := ⟨by decide +kernel, rfl⟩
theorem e_X11_statement_122 : DC cX11_statement 122 (.iconst 0) 1 123 := ⟨by decide +kernel, rfl⟩
theorem e_X11_statement_123 : DC cX11_statement 123 (.sipush 9999) 3 126 := ⟨by decide +kernel, rfl⟩
theorem e_X11_statement_126 : DC cX11_statement 126 (.invokevirtual 230) 3 129 := ⟨by decide +kernel, rfl⟩
theorem e_X11_statement_129 : DC cX11_statement 129 (.istore_n 3) 1 130 := ⟨by decide +kernel, rfl⟩
theorem e_X11_statement_130 : DC cX11_statement 130 (.aload_n 0) 1 131 := ⟨by decide +kernel, rfl⟩
theorem e_X11_statement_131 : DC cX11_statement 131 (.getfield 47) 3 134 := ⟨by decide +kernel, rfl⟩
theorem e_X11_statement_134 : DC cX11_statement 134 (.aload_n 0) 1 135 := ⟨by decide +kernel, rfl⟩
theorem e_X11_statement_135 : DC cX11_statement 135 (.getfield 168) 3 138 := ⟨by decide +kernel, rfl⟩
theorem e_X11_statement_138 : DB cX11_statement 138 (.ifCond .le 7) (7) 3 141 145 := ⟨by decide +kernel, rfl, rfl⟩
theorem e_X11_statement_141 : DC cX11_statement 141 (.iconst 0) 1 142 := ⟨by decide +kernel, rfl⟩
theorem e_X11_statement_142 : DB cX11_statement 142 (.goto 4) (4) 3 145 146 := ⟨by decide +kernel, rfl, rfl⟩
theorem e_X11_statement_145 : DC cX11_statement 145 (.iload_n 2) 1 146 := ⟨by decide +kernel, rfl⟩
theorem e_X11_statement_146 : DC cX11_statement 146 (.iload_n 3) 1 147 := ⟨by decide +kernel, rfl⟩
theorem e_X11_statement_147 : DC cX11_statement 147 (.iastore) 1 148 := ⟨by decide +kernel, rfl⟩
theorem e_X11_statement_148 : DB cX11_statement 148 (.goto 140) (140) 3 151 288 := ⟨by decide +kernel, rfl, rfl⟩
theorem e_X11_statement_151 : DC cX11_statement 151 (.iload_n 1) 1 152 := ⟨by decide +kernel, rfl⟩
theorem e_X11_statement_152 : DC cX11_statement 152 (.iconst 4) 1 153 := ⟨by decide +kernel, rfl⟩
theorem e_X11_statement_153 : DB cX11_statement 153 (.if_icmp .ne 13) (13) 3 156 166 := ⟨by decide +kernel, rfl, rfl⟩
theorem e_X11_statement_156 : DC cX11_statement 156 (.aload_n 0) 1 157 := ⟨by decide +kernel, rfl⟩
theorem e_X11_statement_157 : DC cX11_statement 157 (.iconst 0) 1 158 := ⟨by decide +kernel, rfl⟩
theorem e_X11_statement_158 : DC cX11_statement 158 (.bipush 99) 2 160 := ⟨by decide +kernel, rfl⟩
theorem e_X11_statement_160 : DC cX11_statement 160 (.invokevirtual 230) 3 163 := ⟨by decide +kernel, rfl⟩
theorem e_X11_statement_163 : DB cX11_statement 163 (.goto 4) (4) 3 166 167 := ⟨by decide +kernel, rfl, rfl⟩
theorem e_X11_statement_166 : DC cX11_statement 166 (.iconst 0) 1 167 := ⟨by decide +kernel, rfl⟩
theorem e_X11_statement_167 : DC cX11_statement 167 (.istore_n 2) 1 168 := ⟨by decide +kernel, rfl⟩
theorem e_X11_statement_168 : DC cX11_statement 168 (.iload_n 1) 1 169 := ⟨by decide +kernel, rfl⟩
theorem e_X11_statement_169 : DC cX11_statement 169 (.iconst 4) 1 170 := ⟨by decide +kernel, rfl⟩
theorem e_X11_statement_170 : DB cX11_statement 170 (.if_icmp .ne 29) (29) 3 173 199 := ⟨by decide +kernel, rfl, rfl⟩
theorem e_X11_statement_173 : DC cX11_statement 173 (.aload_n 0) 1 174 := ⟨by decide +kernel, rfl⟩
theorem e_X11_statement_174 : DC cX11_statement 174 (.getfield 168) 3 177 := ⟨by decide +kernel, rfl⟩
theorem e_X11_statement_177 : DB cX11_statement 177 (.ifCond .ne 22) (22) 3 180 199 := ⟨by decide +kernel, rfl, rfl⟩
theorem e_X11_statement_180 : DC cX11_statement 180 (.aload_n 0) 1 181 := ⟨by decide +kernel, rfl⟩
theorem e_X11_statement_181 : DC cX11_statement 181 (.getfield 41) 3 184 := ⟨by decide +kernel, rfl⟩
theorem e_X11_statement_184 : DC cX11_statement 184 (.iload_n 2) 1 185 := ⟨by decide +kernel, rfl⟩
theorem e_X11_statement_185 : DC cX11_statement 185 (.iaload) 1 186 := ⟨by decide +kernel, rfl⟩
theorem e_X11_statement_186 : DC cX11_statement 186 (.iconst (-1)) 1 187 := ⟨by decide +kernel, rfl⟩
theorem e_X11_statement_187 : DB cX11_statement 187 (.if_icmp .eq 12) (12) 3 190 199 := ⟨by decide +kernel, rfl, rfl⟩
theorem e_X11_statement_190 : DC cX11_statement 190 (.aload_n 0) 1 191 := ⟨by decide +kernel, rfl⟩
theorem e_X11_statement_191 : DC cX11_statement 191 (.iconst 3) 1 192 := ⟨by decide +kernel, rfl⟩
theorem e_X11_statement_192 : DC cX11_statement 192 (.aload_n 0) 1 193 := ⟨by decide +kernel, rfl⟩
theorem e_X11_statement_193 : DC cX11_statement 193 (.getfield 219) 3 196 := ⟨by decide +kernel, rfl⟩
theorem e_X11_statement_196 : DC cX11_statement 196 (.invokevirtual 199) 3 199 := ⟨by decide +kernel, rfl⟩
theorem e_X11_statement_199 : DC cX11_statement 199 (.aload_n 0) 1 200 := ⟨by decide +kernel, rfl⟩
theorem e_X11_statement_200 : DC cX11_statement 200 (.iconst 0) 1 201 := ⟨by decide +kernel, rfl⟩
theorem e_X11_statement_201 : DC cX11_statement 201 (.sipush 9999) 3 204 := ⟨by decide +kernel, rfl⟩
theorem e_X11_statement_204 : DC cX11_statement 204 (.invokevirtual 230) 3 207 := ⟨by decide +kernel, rfl⟩
theorem e_X11_statement_207 : DC cX11_statement 207 (.istore_n 3) 1 208 := ⟨by decide +kernel, rfl⟩
theorem e_X11_statement_208 : DC cX11_statement 208 (.aload_n 0) 1 209 := ⟨by decide +kernel, rfl⟩
theorem e_X11_statement_209 : DC cX11_statement 209 (.iconst 0) 1 210 := ⟨by decide +kernel, rfl⟩
theorem e_X11_statement_210 : DC cX11_statement 210 (.sipush 9999) 3 213 := ⟨by decide +kernel, rfl⟩
theorem e_X11_statement_213 : DC cX11_statement 213 (.invokevirtual 230) 3 216 := ⟨by decide +kernel, rfl⟩
theorem e_X11_statement_216 : DC cX11_statement 216 (.istore 4) 2 218 := ⟨by decide +kernel, rfl⟩
theorem e_X11_statement_218 : DC cX11_statement 218 (.aload_n 0) 1 219 := ⟨by decide +kernel, rfl⟩
theorem e_X11_statement_219 : DC cX11_statement 219 (.getfield 168) 3 222 := ⟨by decide +kernel, rfl⟩
theorem e_X11_statement_222 : DB cX11_statement 222 (.ifCond .ne 18) (18) 3 225 240 := ⟨by decide +kernel, rfl, rfl⟩
theorem e_X11_statement_225 : DC cX11_statement 225 (.iload 4) 2 227 := ⟨by decide +kernel, rfl⟩
theorem e_X11_statement_227 : DC cX11_statement 227 (.iload_n 3) 1 228 := ⟨by decide +kernel, rfl⟩
theorem e_X11_statement_228 : DB cX11_statement 228 (.if_icmp .ge 12) (12) 3 231 240 := ⟨by decide +kernel, rfl, rfl⟩
theorem e_X11_statement_231 : DC cX11_statement 231 (.aload_n 0) 1 232 := ⟨by decide +kernel, rfl⟩
theorem e_X11_statement_232 : DC cX11_statement 232 (.iconst 2) 1 233 := ⟨by decide +kernel, rfl⟩
theorem e_X11_statement_233 : DC cX11_statement 233 (.aload_n 0) 1 234 := ⟨by decide +kernel, rfl⟩
theorem e_X11_statement_234 : DC cX11_statement 234 (.getfield 219) 3 237 := ⟨by decide +kernel, rfl⟩
theorem e_X11_statement_237 : DC cX11_statement 237 (.invokevirtual 199) 3 240 := ⟨by decide +kernel, rfl⟩
theorem e_X11_statement_240 : DC cX11_statement 240 (.aload_n 0) 1 241 := ⟨by decide +kernel, rfl⟩
theorem e_X11_statement_241 : DC cX11_statement 241 (.getfield 168) 3 244 := ⟨by decide +kernel, rfl⟩
theorem e_X11_statement_244 : DB cX11_statement 244 (.ifCond .ne 26) (26) 3 247 270 := ⟨by decide +kernel, rfl, rfl⟩
theorem e_X11_statement_247 : DC cX11_statement 247 (.iload_n 1) 1 248 := ⟨by decide +kernel, rfl⟩
theorem e_X11_statement_248 : DC cX11_statement 248 (.iconst 4) 1 249 := ⟨by decide +kernel, rfl⟩
theorem e_X11_statement_249 : DB cX11_statement 249 (.if_icmp .ne 21) (21) 3 252 270 := ⟨by decide +kernel, rfl, rfl⟩
theorem e_X11_statement_252 : DC cX11_statement 252 (.aload_n 0) 1 253 := ⟨by decide +kernel, rfl⟩
theorem e_X11_statement_253 : DC cX11_statement 253 (.getfield 41) 3 256 := ⟨by decide +kernel, rfl⟩
theorem e_X11_statement_256 : DC cX11_statement 256 (.iload_n 2) 1 257 := ⟨by decide +kernel, rfl⟩
theorem e_X11_statement_257 : DC cX11_statement 257 (.iload_n 3) 1 258 := ⟨by decide +kernel, rfl⟩
theorem e_X11_statement_258 : DC cX11_statement 258 (.iastore) 1 259 := ⟨by decide +kernel, rfl⟩
theorem e_X11_statement_259 : DC cX11_statement 259 (.aload_n 0) 1 260 := ⟨by decide +kernel, rfl⟩
theorem e_X11_statement_260 : DC cX11_statement 260 (.getfield 44) 3 263 := ⟨by decide +kernel, rfl⟩
theorem e_X11_statement_263 : DC cX11_statement 263 (.iload_n 2) 1 264 := ⟨by decide +kernel, rfl⟩
theorem e_X11_statement_264 : DC cX11_statement 264 (.iload 4) 2 266 := ⟨by decide +kernel, rfl⟩
theorem e_X11_statement_266 : DC cX11_statement 266 (.iastore) 1 267 := ⟨by decide +kernel, rfl⟩
theorem e_X11_statement_267 : DB cX11_statement 267 (.goto 21) (21) 3 270 288 := ⟨by decide +kernel, rfl, rfl⟩
theorem e_X11_statement_270 : DC cX11_statement 270 (.aload_n 0) 1 271 := ⟨by decide +kernel, rfl⟩
theorem e_X11_statement_271 : DC cX11_statement 271 (.getfield 168) 3 274 := ⟨by decide +kernel, rfl⟩
theorem e_X11_statement_274 : DB cX11_statement 274 (.ifCond .ne 14) (14) 3 277 288 := ⟨by decide +kernel, rfl, rfl⟩
theorem e_X11_statement_277 : DC cX11_statement 277 (.aload_n 0) 1 278 := ⟨by decide +kernel, rfl⟩
theorem e_X11_statement_278 : DC cX11_statement 278 (.iload_n 3) 1 279 := ⟨by decide +kernel, rfl⟩
theorem e_X11_statement_279 : DC cX11_statement 279 (.putfield 237) 3 282 := ⟨by decide +kernel, rfl⟩
theorem e_X11_statement_282 : DC cX11_statement 282 (.aload_n 0) 1 283 := ⟨by decide +kernel, rfl⟩
theorem e_X11_statement_283 : DC cX11_statement 283 (.iload 4) 2 285 := ⟨by decide +kernel, rfl⟩
theorem e_X11_statement_285 : DC cX11_statement 285 (.putfield 240) 3 288 := ⟨by decide +kernel, rfl⟩
theorem e_X11_statement_288 : DC cX11_statement 288 (.aload_n 0) 1 289 := ⟨by decide +kernel, rfl⟩
theorem e_X11_statement_289 : DC cX11_statement 289 (.getfield 17) 3 292 := ⟨by decide +kernel, rfl⟩
theorem e_X11_statement_292 : DC cX11_statement 292 (.iload_n 1) 1 293 := ⟨by decide +kernel, rfl⟩
theorem e_X11_statement_293 : DC cX11_statement 293 (.dup2) 1 294 := ⟨by decide +kernel, rfl⟩
theorem e_X11_statement_294 : DC cX11_statement 294 (.iaload) 1 295 := ⟨by decide +kernel, rfl⟩
theorem e_X11_statement_295 : DC cX11_statement 295 (.iconst 1) 1 296 := ⟨by decide +kernel, rfl⟩
theorem e_X11_statement_296 : DC cX11_statement 296 (.iadd) 1 297 := ⟨by decide +kernel, rfl⟩
theorem e_X11_statement_297 : DC cX11_statement 297 (.iastore) 1 298 := ⟨by decide +kernel, rfl⟩
theorem e_X11_statement_298 : DC cX11_statement 298 (.return_) 1 299 := ⟨by decide +kernel, rfl⟩
noncomputable def m_X11_statement_288 (t_p : Int) (t_fault : Int) (t_newBaseLow : Int) (t_newBaseHigh : Int) (t_from : Int) (t_newMany : Nat → Int) (t_newWay : Nat → Int) (t_newPush : Nat → Int) (t_newLow : Nat → Int) (t_newHigh : Nat → Int) (t_newHold : Nat → Int) (v1 : Int) : Option (Int × Int × Int × Int × Int × (Nat → Int) × (Nat → Int) × (Nat → Int) × (Nat → Int) × (Nat → Int) × (Nat → Int)) :=
  chk (inB v1 7) (chk (inI ((t_newMany (Int.toNat v1)) + 1)) (chk (inB v1 7) (some (t_p, t_fault, t_newBaseLow, t_newBaseHigh, t_from, up t_newMany (Int.toNat v1) ((t_newMany (Int.toNat v1)) + 1), t_newWay, t_newPush, t_newLow, t_newHigh, t_newHold))))

set_option maxRecDepth 10000 in
set_option maxHeartbeats 8000000 in
theorem g_X11_statement_288 {l : Launch} {E : EE} {b0 n : Nat} {h : AH} {a_t : Nat} {t_thrown t_taped t_p t_fault t_baseLow t_baseHigh t_newBaseLow t_newBaseHigh t_from t_knots t_lines t_chosen t_undos t_redos t_aimedMany t_fits t_fitOf t_sights t_systems t_own t_cross t_curveLong t_wallFirst v1 : Int} {t_tape t_newMany t_newWay t_newPush t_newLow t_newHigh t_newHold : Nat → Int} {r : Int × Int × Int × Int × Int × (Nat → Int) × (Nat → Int) × (Nat → Int) × (Nat → Int) × (Nat → Int) × (Nat → Int)} (ao : AO b0 n [a_t, (a_t + 1), (a_t + 3), (a_t + 5), (a_t + 7), (a_t + 11), (a_t + 12), (a_t + 13)]) (ok_t_taped : inI t_taped) (ok_t_p : inI t_p) (ok_t_fault : inI t_fault) (ok_t_newBaseLow : inI t_newBaseLow) (ok_t_newBaseHigh : inI t_newBaseHigh) (ok_t_from : inI t_from) (ok_t_tape : okY t_tape) (ok_t_newMany : okA t_newMany) (ok_t_newWay : okA t_newWay) (ok_t_newPush : okA t_newPush) (ok_t_newLow : okA t_newLow) (ok_t_newHigh : okA t_newHigh) (ok_t_newHold : okA t_newHold) (ok_v1 : inI v1) (hs : m_X11_statement_288 t_p t_fault t_newBaseLow t_newBaseHigh t_from t_newMany t_newWay t_newPush t_newLow t_newHigh t_newHold v1 = some r) : G l E b0 M_X11_statement (fun _ => True) (ZM E b0 (none) (ov [a_t, (a_t + 1), (a_t + 3), (a_t + 5), (a_t + 7), (a_t + 11), (a_t + 12), (a_t + 13)] [.inr (11, fsX11 a_t t_thrown t_taped r.1 r.2.1 t_baseLow t_baseHigh r.2.2.1 r.2.2.2.1 r.2.2.2.2.1 t_knots t_lines t_chosen t_undos t_redos t_aimedMany t_fits t_fitOf t_sights t_systems t_own t_cross t_curveLong t_wallFirst), YA E 400 t_tape, IA E 7 r.2.2.2.2.2.1, IA E 144 r.2.2.2.2.2.2.1, IA E 21 r.2.2.2.2.2.2.2.1, IA E 100 r.2.2.2.2.2.2.2.2.1, IA E 100 r.2.2.2.2.2.2.2.2.2.1, IA E 100 r.2.2.2.2.2.2.2.2.2.2] h) n (inI r.1 ∧ inI r.2.1 ∧ inI r.2.2.1 ∧ inI r.2.2.2.1 ∧ inI r.2.2.2.2.1 ∧ okA r.2.2.2.2.2.1 ∧ okA r.2.2.2.2.2.2.1 ∧ okA r.2.2.2.2.2.2.2.1 ∧ okA r.2.2.2.2.2.2.2.2.1 ∧ okA r.2.2.2.2.2.2.2.2.2.1 ∧ okA r.2.2.2.2.2.2.2.2.2.2) 0 0) 0 0 n (ov [a_t, (a_t + 1), (a_t + 3), (a_t + 5), (a_t + 7), (a_t + 11), (a_t + 12), (a_t + 13)] [.inr (11, fsX11 a_t t_thrown t_taped t_p t_fault t_baseLow t_baseHigh t_newBaseLow t_newBaseHigh t_from t_knots t_lines t_chosen t_undos t_redos t_aimedMany t_fits t_fitOf t_sights t_systems t_own t_cross t_curveLong t_wallFirst), YA E 400 t_tape, IA E 7 t_newMany, IA E 144 t_newWay, IA E 21 t_newPush, IA E 100 t_newLow, IA E 100 t_newHigh, IA E 100 t_newHold] h) 288 [some (.ref a_t), some (vI v1), none, none, none] [] := by
  rw [m_X11_statement_288] at hs
  refine g_aload_n e_X11_statement_288 rfl ?_
  refine g_get 0 6 ao rfl rfl fsX11_g6 fl_X11_17 e_X11_statement_289 ?_
  refine g_iload_n e_X11_statement_292 rfl ?_
  refine g_dup2 e_X11_statement_293 rfl rfl ?_
  refine g_iald 2 ao rfl rfl (Nat.le_of_ble_eq_true rfl) e_X11_statement_294 hs (fun hi5 hs => ?_)
  refine g_iconst e_X11_statement_295 ?_
  refine g_iadd e_X11_statement_296 ?_
  obtain ⟨hc6, hs⟩ := chk_elim hs
  refine g_iast 2 ao rfl rfl ls_2 (Nat.le_of_ble_eq_true rfl) e_X11_statement_297 hs (fun hi7 hs => ?_)
  obtain rfl := Option.some.inj hs
  exact g_vret rfl ⟨ok_t_p, ok_t_fault, ok_t_newBaseLow, ok_t_newBaseHigh, ok_t_from, (okA_up ok_t_newMany hc6), ok_t_newWay, ok_t_newPush, ok_t_newLow, ok_t_newHigh, ok_t_newHold⟩ e_X11_statement_298

noncomputable def m_X11_statement_77 (t_p : Int) (t_fault : Int) (t_newBaseLow : Int) (t_newBaseHigh : Int) (t_from : Int) (t_newMany : Nat → Int) (t_newWay : Nat → Int) (t_newPush : Nat → Int) (t_newLow : Nat → Int) (t_newHigh : Nat → Int) (t_newHold : Nat → Int) (v1 : Int) (v3 : Int) (s1 : Int) : Option (Int × Int × Int × Int × Int × (Nat → Int) × (Nat → Int) × (Nat → Int) × (Nat → Int) × (Nat → Int) × (Nat → Int)) :=
  chk (inB s1 21) (m_X11_statement_288 t_p t_fault t_newBaseLow t_newBaseHigh t_from t_newMany t_newWay (up t_newPush (Int.toNat s1) v3) t_newLow t_newHigh t_newHold v1)

set_option maxRecDepth 10000 in
set_option maxHeartbeats 8000000 in
theorem g_X11_statement_77 {l : Launch} {E : EE} {b0 n : Nat} {h : AH} {a_t : Nat} {t_thrown t_taped t_p t_fault t_baseLow t_baseHigh t_newBaseLow t_newBaseHigh t_from t_knots t_lines t_chosen t_undos t_redos t_aimedMany t_fits t_fitOf t_sights t_systems t_own t_cross t_curveLong t_wallFirst v1 v3 s1 : Int} {t_tape t_newMany t_newWay t_newPush t_newLow t_newHigh t_newHold : Nat → Int} {r : Int × Int × Int × Int × Int × (Nat → Int) × (Nat → Int) × (Nat → Int) × (Nat → Int) × (Nat → Int) × (Nat → Int)} (ao : AO b0 n [a_t, (a_t + 1), (a_t + 3), (a_t + 5), (a_t + 7), (a_t + 11), (a_t + 12), (a_t + 13)]) (ok_t_taped : inI t_taped) (ok_t_p : inI t_p) (ok_t_fault : inI t_fault) (ok_t_newBaseLow : inI t_newBaseLow) (ok_t_newBaseHigh : inI t_newBaseHigh) (ok_t_from : inI t_from) (ok_t_tape : okY t_tape) (ok_t_newMany : okA t_newMany) (ok_t_newWay : okA t_newWay) (ok_t_newPush : okA t_newPush) (ok_t_newLow : okA t_newLow) (ok_t_newHigh : okA t_newHigh) (ok_t_newHold : okA t_newHold) (ok_v1 : inI v1) (ok_v3 : inI v3) (ok_s1 : inI s1) (hs : m_X11_statement_77 t_p t_fault t_newBaseLow t_newBaseHigh t_from t_newMany t_newWay t_newPush t_newLow t_newHigh t_newHold v1 v3 s1 = some r) : G l E b0 M_X11_statement (fun _ => True) (ZM E b0 (none) (ov [a_t, (a_t + 1), (a_t + 3), (a_t + 5), (a_t + 7), (a_t + 11), (a_t + 12), (a_t + 13)] [.inr (11, fsX11 a_t t_thrown t_taped r.1 r.2.1 t_baseLow t_baseHigh r.2.2.1 r.2.2.2.1 r.2.2.2.2.1 t_knots t_lines t_chosen t_undos t_redos t_aimedMany t_fits t_fitOf t_sights t_systems t_own t_cross t_curveLong t_wallFirst), YA E 400 t_tape, IA E 7 r.2.2.2.2.2.1, IA E 144 r.2.2.2.2.2.2.1, IA E 21 r.2.2.2.2.2.2.2.1, IA E 100 r.2.2.2.2.2.2.2.2.1, IA E 100 r.2.2.2.2.2.2.2.2.2.1, IA E 100 r.2.2.2.2.2.2.2.2.2.2] h) n (inI r.1 ∧ inI r.2.1 ∧ inI r.2.2.1 ∧ inI r.2.2.2.1 ∧ inI r.2.2.2.2.1 ∧ okA r.2.2.2.2.2.1 ∧ okA r.2.2.2.2.2.2.1 ∧ okA r.2.2.2.2.2.2.2.1 ∧ okA r.2.2.2.2.2.2.2.2.1 ∧ okA r.2.2.2.2.2.2.2.2.2.1 ∧ okA r.2.2.2.2.2.2.2.2.2.2) 0 0) 0 0 n (ov [a_t, (a_t + 1), (a_t + 3), (a_t + 5), (a_t + 7), (a_t + 11), (a_t + 12), (a_t + 13)] [.inr (11, fsX11 a_t t_thrown t_taped t_p t_fault t_baseLow t_baseHigh t_newBaseLow t_newBaseHigh t_from t_knots t_lines t_chosen t_undos t_redos t_aimedMany t_fits t_fitOf t_sights t_systems t_own t_cross t_curveLong t_wallFirst), YA E 400 t_tape, IA E 7 t_newMany, IA E 144 t_newWay, IA E 21 t_newPush, IA E 100 t_newLow, IA E 100 t_newHigh, IA E 100 t_newHold] h) 77 [some (.ref a_t), some (vI v1), none, some (vI v3), none] [vI s1, .ref (a_t + 7)] := by
  rw [m_X11_statement_77] at hs
  refine g_iload_n e_X11_statement_77 rfl ?_
  refine g_iast 4 ao rfl rfl ls_4 (Nat.le_of_ble_eq_true rfl) e_X11_statement_78 hs (fun hi4 hs => ?_)
  refine g_goto e_X11_statement_79 ?_
  exact g_mask [true, true, true, false, true] (g_X11_statement_288 ao ok_t_taped ok_t_p ok_t_fault ok_t_newBaseLow ok_t_newBaseHigh ok_t_from ok_t_tape ok_t_newMany ok_t_newWay (okA_up ok_t_newPush ok_v3) ok_t_newLow ok_t_newHigh ok_t_newHold ok_v1 hs)

noncomputable def m_X11_statement_52 (t_taped : Int) (t_p : Int) (t_fault : Int) (t_newBaseLow : Int) (t_newBaseHigh : Int) (t_from : Int) (t_tape : Nat → Int) (t_newMany : Nat → Int) (t_newWay : Nat → Int) (t_newPush : Nat → Int) (t_newLow : Nat → Int) (t_newHigh : Nat → Int) (t_newHold : Nat → Int) (v1 : Int) (v2 : Int) : Option (Int × Int × Int × Int × Int × (Nat → Int) × (Nat → Int) × (Nat → Int) × (Nat → Int) × (Nat → Int) × (Nat → Int)) :=
  (m_X11_number t_taped t_p t_fault t_from t_tape 0 999).bind (fun y3 => if y3.2.2.1 ≤ 0 then (m_X11_statement_77 y3.2.1 y3.2.2.1 t_newBaseLow t_newBaseHigh y3.2.2.2 t_newMany t_newWay t_newPush t_newLow t_newHigh t_newHold v1 y3.1 v2) else (m_X11_statement_77 y3.2.1 y3.2.2.1 t_newBaseLow t_newBaseHigh y3.2.2.2 t_newMany t_newWay t_newPush t_newLow t_newHigh t_newHold v1 y3.1 0))

set_option maxRecDepth 10000 in
set_option maxHeartbeats 8000000 in
theorem g_X11_statement_52 {l : Launch} {E : EE} {b0 n : Nat} {h : AH} {a_t : Nat} {t_thrown t_taped t_p t_fault t_baseLow t_baseHigh t_newBaseLow t_newBaseHigh t_from t_knots t_lines t_chosen t_undos t_redos t_aimedMany t_fits t_fitOf t_sights t_systems t_own t_cross t_curveLong t_wallFirst v1 v2 : Int} {t_tape t_newMany t_newWay t_newPush t_newLow t_newHigh t_newHold : Nat → Int} {r : Int × Int × Int × Int × Int × (Nat → Int) × (Nat → Int) × (Nat → Int) × (Nat → Int) × (Nat → Int) × (Nat → Int)} (ao : AO b0 n [a_t, (a_t + 1), (a_t + 3), (a_t + 5), (a_t + 7), (a_t + 11), (a_t + 12), (a_t + 13)]) (ok_t_taped : inI t_taped) (ok_t_p : inI t_p) (ok_t_fault : inI t_fault) (ok_t_newBaseLow : inI t_newBaseLow) (ok_t_newBaseHigh : inI t_newBaseHigh) (ok_t_from : inI t_from) (ok_t_tape : okY t_tape) (ok_t_newMany : okA t_newMany) (ok_t_newWay : okA t_newWay) (ok_t_newPush : okA t_newPush) (ok_t_newLow : okA t_newLow) (ok_t_newHigh : okA t_newHigh) (ok_t_newHold : okA t_newHold) (ok_v1 : inI v1) (ok_v2 : inI v2) (hs : m_X11_statement_52 t_taped t_p t_fault t_newBaseLow t_newBaseHigh t_from t_tape t_newMany t_newWay t_newPush t_newLow t_newHigh t_newHold v1 v2 = some r) : G l E b0 M_X11_statement (fun _ => True) (ZM E b0 (none) (ov [a_t, (a_t + 1), (a_t + 3), (a_t + 5), (a_t + 7), (a_t + 11), (a_t + 12), (a_t + 13)] [.inr (11, fsX11 a_t t_thrown t_taped r.1 r.2.1 t_baseLow t_baseHigh r.2.2.1 r.2.2.2.1 r.2.2.2.2.1 t_knots t_lines t_chosen t_undos t_redos t_aimedMany t_fits t_fitOf t_sights t_systems t_own t_cross t_curveLong t_wallFirst), YA E 400 t_tape, IA E 7 r.2.2.2.2.2.1, IA E 144 r.2.2.2.2.2.2.1, IA E 21 r.2.2.2.2.2.2.2.1, IA E 100 r.2.2.2.2.2.2.2.2.1, IA E 100 r.2.2.2.2.2.2.2.2.2.1, IA E 100 r.2.2.2.2.2.2.2.2.2.2] h) n (inI r.1 ∧ inI r.2.1 ∧ inI r.2.2.1 ∧ inI r.2.2.2.1 ∧ inI r.2.2.2.2.1 ∧ okA r.2.2.2.2.2.1 ∧ okA r.2.2.2.2.2.2.1 ∧ okA r.2.2.2.2.2.2.2.1 ∧ okA r.2.2.2.2.2.2.2.2.1 ∧ okA r.2.2.2.2.2.2.2.2.2.1 ∧ okA r.2.2.2.2.2.2.2.2.2.2) 0 0) 0 0 n (ov [a_t, (a_t + 1), (a_t + 3), (a_t + 5), (a_t + 7), (a_t + 11), (a_t + 12), (a_t + 13)] [.inr (11, fsX11 a_t t_thrown t_taped t_p t_fault t_baseLow t_baseHigh t_newBaseLow t_newBaseHigh t_from t_knots t_lines t_chosen t_undos t_redos t_aimedMany t_fits t_fitOf t_sights t_systems t_own t_cross t_curveLong t_wallFirst), YA E 400 t_tape, IA E 7 t_newMany, IA E 144 t_newWay, IA E 21 t_newPush, IA E 100 t_newLow, IA E 100 t_newHigh, IA E 100 t_newHold] h) 52 [some (.ref a_t), some (vI v1), some (vI v2), none, none] [] := by
  rw [m_X11_statement_52] at hs
  refine g_aload_n e_X11_statement_52 rfl ?_
  refine g_iconst e_X11_statement_53 ?_
  refine g_sipush e_X11_statement_54 sp_999 ?_
  obtain ⟨y3, hy3, hs⟩ := bind_elim hs
  refine g_callVr [vI 0, vI 999] cv_X11_230 ⟨rfl, rfl, Nat.le_of_ble_eq_true rfl, Nat.le_of_ble_eq_true rfl⟩ (Ct_heap (ct_X11_number (a_t := a_t) (AO_call [0, 1] ao (by decide) rfl) (FA_call [0, 1] ao.1 rfl rfl) ok_t_taped ok_t_p ok_t_fault ok_t_from ok_t_tape (by decide : inI 0) (by decide : inI 999) hy3) (ov_call (esn := [.inr (11, fsX11 a_t t_thrown t_taped y3.2.1 y3.2.2.1 t_baseLow t_baseHigh t_newBaseLow t_newBaseHigh y3.2.2.2 t_knots t_lines t_chosen t_undos t_redos t_aimedMany t_fits t_fitOf t_sights t_systems t_own t_cross t_curveLong t_wallFirst), YA E 400 t_tape, IA E 7 t_newMany, IA E 144 t_newWay, IA E 21 t_newPush, IA E 100 t_newLow, IA E 100 t_newHigh, IA E 100 t_newHold]) [0, 1] ao.1 rfl rfl rfl rfl)) e_X11_statement_57 (ao.2 0 _ rfl) (ov_get 0 ao.1 rfl rfl) rfl rfl rfl (Nat.le_of_ble_eq_true rfl) ⟨Nat.le_refl _, Nat.le_refl _⟩ (fun Py3 => ?_)
  refine g_istore_n e_X11_statement_60 st1_3 rfl ?_
  refine g_aload_n e_X11_statement_61 rfl ?_
  refine g_get 0 10 ao rfl rfl fsX11_g10 fl_X11_29 e_X11_statement_62 ?_
  refine g_aload_n e_X11_statement_65 rfl ?_
  refine g_get 0 3 ao rfl rfl fsX11_g3 fl_X11_168 e_X11_statement_66 ?_
  refine g_if_le e_X11_statement_69 Py3.2.2.1 hs (fun c69 hs => ?_) (fun c69 hs => ?_)
  · refine g_iload_n e_X11_statement_76 rfl ?_
    exact g_mask [true, true, false, true, true] (g_X11_statement_77 ao ok_t_taped Py3.2.1 Py3.2.2.1 ok_t_newBaseLow ok_t_newBaseHigh Py3.2.2.2 ok_t_tape ok_t_newMany ok_t_newWay ok_t_newPush ok_t_newLow ok_t_newHigh ok_t_newHold ok_v1 Py3.1 ok_v2 hs)
  · refine g_iconst e_X11_statement_72 ?_
    refine g_goto e_X11_statement_73 ?_
    exact g_mask [true, true, false, true, true] (g_X11_statement_77 ao ok_t_taped Py3.2.1 Py3.2.2.1 ok_t_newBaseLow ok_t_newBaseHigh Py3.2.2.2 ok_t_tape ok_t_newMany ok_t_newWay ok_t_newPush ok_t_newLow ok_t_newHigh ok_t_newHold ok_v1 Py3.1 (by decide : inI 0) hs)

noncomputable def m_X11_statement_146 (t_p : Int) (t_fault : Int) (t_newBaseLow : Int) (t_newBaseHigh : Int) (t_from : Int) (t_newMany : Nat → Int) (t_newWay : Nat → Int) (t_newPush : Nat → Int) (t_newLow : Nat → Int) (t_newHigh : Nat → Int) (t_newHold : Nat → Int) (v1 : Int) (v3 : Int) (s1 : Int) : Option (Int × Int × Int × Int × Int × (Nat → Int) × (Nat → Int) × (Nat → Int) × (Nat → Int) × (Nat → Int) × (Nat → Int)) :=
  chk (inB s1 100) (m_X11_statement_288 t_p t_fault t_newBaseLow t_newBaseHigh t_from t_newMany t_newWay t_newPush t_newLow t_newHigh (up t_newHold (Int.toNat s1) v3) v1)

set_option maxRecDepth 10000 in
set_option maxHeartbeats 8000000 in
theorem g_X11_statement_146 {l : Launch} {E : EE} {b0 n : Nat} {h : AH} {a_t : Nat} {t_thrown t_taped t_p t_fault t_baseLow t_baseHigh t_newBaseLow t_newBaseHigh t_from t_knots t_lines t_chosen t_undos t_redos t_aimedMany t_fits t_fitOf t_sights t_systems t_own t_cross t_curveLong t_wallFirst v1 v3 s1 : Int} {t_tape t_newMany t_newWay t_newPush t_newLow t_newHigh t_newHold : Nat → Int} {r : Int × Int × Int × Int × Int × (Nat → Int) × (Nat → Int) × (Nat → Int) × (Nat → Int) × (Nat → Int) × (Nat → Int)} (ao : AO b0 n [a_t, (a_t + 1), (a_t + 3), (a_t + 5), (a_t + 7), (a_t + 11), (a_t + 12), (a_t + 13)]) (ok_t_taped : inI t_taped) (ok_t_p : inI t_p) (ok_t_fault : inI t_fault) (ok_t_newBaseLow : inI t_newBaseLow) (ok_t_newBaseHigh : inI t_newBaseHigh) (ok_t_from : inI t_from) (ok_t_tape : okY t_tape) (ok_t_newMany : okA t_newMany) (ok_t_newWay : okA t_newWay) (ok_t_newPush : okA t_newPush) (ok_t_newLow : okA t_newLow) (ok_t_newHigh : okA t_newHigh) (ok_t_newHold : okA t_newHold) (ok_v1 : inI v1) (ok_v3 : inI v3) (ok_s1 : inI s1) (hs : m_X11_statement_146 t_p t_fault t_newBaseLow t_newBaseHigh t_from t_newMany t_newWay t_newPush t_newLow t_newHigh t_newHold v1 v3 s1 = some r) : G l E b0 M_X11_statement (fun _ => True) (ZM E b0 (none) (ov [a_t, (a_t + 1), (a_t + 3), (a_t + 5), (a_t + 7), (a_t + 11), (a_t + 12), (a_t + 13)] [.inr (11, fsX11 a_t t_thrown t_taped r.1 r.2.1 t_baseLow t_baseHigh r.2.2.1 r.2.2.2.1 r.2.2.2.2.1 t_knots t_lines t_chosen t_undos t_redos t_aimedMany t_fits t_fitOf t_sights t_systems t_own t_cross t_curveLong t_wallFirst), YA E 400 t_tape, IA E 7 r.2.2.2.2.2.1, IA E 144 r.2.2.2.2.2.2.1, IA E 21 r.2.2.2.2.2.2.2.1, IA E 100 r.2.2.2.2.2.2.2.2.1, IA E 100 r.2.2.2.2.2.2.2.2.2.1, IA E 100 r.2.2.2.2.2.2.2.2.2.2] h) n (inI r.1 ∧ inI r.2.1 ∧ inI r.2.2.1 ∧ inI r.2.2.2.1 ∧ inI r.2.2.2.2.1 ∧ okA r.2.2.2.2.2.1 ∧ okA r.2.2.2.2.2.2.1 ∧ okA r.2.2.2.2.2.2.2.1 ∧ okA r.2.2.2.2.2.2.2.2.1 ∧ okA r.2.2.2.2.2.2.2.2.2.1 ∧ okA r.2.2.2.2.2.2.2.2.2.2) 0 0) 0 0 n (ov [a_t, (a_t + 1), (a_t + 3), (a_t + 5), (a_t + 7), (a_t + 11), (a_t + 12), (a_t + 13)] [.inr (11, fsX11 a_t t_thrown t_taped t_p t_fault t_baseLow t_baseHigh t_newBaseLow t_newBaseHigh t_from t_knots t_lines t_chosen t_undos t_redos t_aimedMany t_fits t_fitOf t_sights t_systems t_own t_cross t_curveLong t_wallFirst), YA E 400 t_tape, IA E 7 t_newMany, IA E 144 t_newWay, IA E 21 t_newPush, IA E 100 t_newLow, IA E 100 t_newHigh, IA E 100 t_newHold] h) 146 [some (.ref a_t), some (vI v1), none, some (vI v3), none] [vI s1, .ref (a_t + 13)] := by
  rw [m_X11_statement_146] at hs
  refine g_iload_n e_X11_statement_146 rfl ?_
  refine g_iast 7 ao rfl rfl ls_7 (Nat.le_of_ble_eq_true rfl) e_X11_statement_147 hs (fun hi12 hs => ?_)
  refine g_goto e_X11_statement_148 ?_
  exact g_mask [true, true, true, false, true] (g_X11_statement_288 ao ok_t_taped ok_t_p ok_t_fault ok_t_newBaseLow ok_t_newBaseHigh ok_t_from ok_t_tape ok_t_newMany ok_t_newWay ok_t_newPush ok_t_newLow ok_t_newHigh (okA_up ok_t_newHold ok_v3) ok_v1 hs)

noncomputable def m_X11_statement_121 (t_taped : Int) (t_p : Int) (t_fault : Int) (t_newBaseLow : Int) (t_newBaseHigh : Int) (t_from : Int) (t_tape : Nat → Int) (t_newMany : Nat → Int) (t_newWay : Nat → Int) (t_newPush : Nat → Int) (t_newLow : Nat → Int) (t_newHigh : Nat → Int) (t_newHold : Nat → Int) (v1 : Int) (v2 : Int) : Option (Int × Int × Int × Int × Int × (Nat → Int) × (Nat → Int) × (Nat → Int) × (Nat → Int) × (Nat → Int) × (Nat → Int)) :=
  (m_X11_number t_taped t_p t_fault t_from t_tape 0 9999).bind (fun y11 => if y11.2.2.1 ≤ 0 then (m_X11_statement_146 y11.2.1 y11.2.2.1 t_newBaseLow t_newBaseHigh y11.2.2.2 t_newMany t_newWay t_newPush t_newLow t_newHigh t_newHold v1 y11.1 v2) else (m_X11_statement_146 y11.2.1 y11.2.2.1 t_newBaseLow t_newBaseHigh y11.2.2.2 t_newMany t_newWay t_newPush t_newLow t_newHigh t_newHold v1 y11.1 0))

set_option maxRecDepth 10000 in
set_option maxHeartbeats 8000000 in
theorem g_X11_statement_121 {l : Launch} {E : EE} {b0 n : Nat} {h : AH} {a_t : Nat} {t_thrown t_taped t_p t_fault t_baseLow t_baseHigh t_newBaseLow t_newBaseHigh t_from t_knots t_lines t_chosen t_undos t_redos t_aimedMany t_fits t_fitOf t_sights t_systems t_own t_cross t_curveLong t_wallFirst v1 v2 : Int} {t_tape t_newMany t_newWay t_newPush t_newLow t_newHigh t_newHold : Nat → Int} {r : Int × Int × Int × Int × Int × (Nat → Int) × (Nat → Int) × (Nat → Int) × (Nat → Int) × (Nat → Int) × (Nat → Int)} (ao : AO b0 n [a_t, (a_t + 1), (a_t + 3), (a_t + 5), (a_t + 7), (a_t + 11), (a_t + 12), (a_t + 13)]) (ok_t_taped : inI t_taped) (ok_t_p : inI t_p) (ok_t_fault : inI t_fault) (ok_t_newBaseLow : inI t_newBaseLow) (ok_t_newBaseHigh : inI t_newBaseHigh) (ok_t_from : inI t_from) (ok_t_tape : okY t_tape) (ok_t_newMany : okA t_newMany) (ok_t_newWay : okA t_newWay) (ok_t_newPush : okA t_newPush) (ok_t_newLow : okA t_newLow) (ok_t_newHigh : okA t_newHigh) (ok_t_newHold : okA t_newHold) (ok_v1 : inI v1) (ok_v2 : inI v2) (hs : m_X11_statement_121 t_taped t_p t_fault t_newBaseLow t_newBaseHigh t_from t_tape t_newMany t_newWay t_newPush t_newLow t_newHigh t_newHold v1 v2 = some r) : G l E b0 M_X11_statement (fun _ => True) (ZM E b0 (none) (ov [a_t, (a_t + 1), (a_t + 3), (a_t + 5), (a_t + 7), (a_t + 11), (a_t + 12), (a_t + 13)] [.inr (11, fsX11 a_t t_thrown t_taped r.1 r.2.1 t_baseLow t_baseHigh r.2.2.1 r.2.2.2.1 r.2.2.2.2.1 t_knots t_lines t_chosen t_undos t_redos t_aimedMany t_fits t_fitOf t_sights t_systems t_own t_cross t_curveLong t_wallFirst), YA E 400 t_tape, IA E 7 r.2.2.2.2.2.1, IA E 144 r.2.2.2.2.2.2.1, IA E 21 r.2.2.2.2.2.2.2.1, IA E 100 r.2.2.2.2.2.2.2.2.1, IA E 100 r.2.2.2.2.2.2.2.2.2.1, IA E 100 r.2.2.2.2.2.2.2.2.2.2] h) n (inI r.1 ∧ inI r.2.1 ∧ inI r.2.2.1 ∧ inI r.2.2.2.1 ∧ inI r.2.2.2.2.1 ∧ okA r.2.2.2.2.2.1 ∧ okA r.2.2.2.2.2.2.1 ∧ okA r.2.2.2.2.2.2.2.1 ∧ okA r.2.2.2.2.2.2.2.2.1 ∧ okA r.2.2.2.2.2.2.2.2.2.1 ∧ okA r.2.2.2.2.2.2.2.2.2.2) 0 0) 0 0 n (ov [a_t, (a_t + 1), (a_t + 3), (a_t + 5), (a_t + 7), (a_t + 11), (a_t + 12), (a_t + 13)] [.inr (11, fsX11 a_t t_thrown t_taped t_p t_fault t_baseLow t_baseHigh t_newBaseLow t_newBaseHigh t_from t_knots t_lines t_chosen t_undos t_redos t_aimedMany t_fits t_fitOf t_sights t_systems t_own t_cross t_curveLong t_wallFirst), YA E 400 t_tape, IA E 7 t_newMany, IA E 144 t_newWay, IA E 21 t_newPush, IA E 100 t_newLow, IA E 100 t_newHigh, IA E 100 t_newHold] h) 121 [some (.ref a_t), some (vI v1), some (vI v2), none, none] [] := by
  rw [m_X11_statement_121] at hs
  refine g_aload_n e_X11_statement_121 rfl ?_
  refine g_iconst e_X11_statement_122 ?_
  refine g_sipush e_X11_statement_123 sp_9999 ?_
  obtain ⟨y11, hy11, hs⟩ := bind_elim hs
  refine g_callVr [vI 0, vI 9999] cv_X11_230 ⟨rfl, rfl, Nat.le_of_ble_eq_true rfl, Nat.le_of_ble_eq_true rfl⟩ (Ct_heap (ct_X11_number (a_t := a_t) (AO_call [0, 1] ao (by decide) rfl) (FA_call [0, 1] ao.1 rfl rfl) ok_t_taped ok_t_p ok_t_fault ok_t_from ok_t_tape (by decide : inI 0) (by decide : inI 9999) hy11) (ov_call (esn := [.inr (11, fsX11 a_t t_thrown t_taped y11.2.1 y11.2.2.1 t_baseLow t_baseHigh t_newBaseLow t_newBaseHigh y11.2.2.2 t_knots t_lines t_chosen t_undos t_redos t_aimedMany t_fits t_fitOf t_sights t_systems t_own t_cross t_curveLong t_wallFirst), YA E 400 t_tape, IA E 7 t_newMany, IA E 144 t_newWay, IA E 21 t_newPush, IA E 100 t_newLow, IA E 100 t_newHigh, IA E 100 t_newHold]) [0, 1] ao.1 rfl rfl rfl rfl)) e_X11_statement_126 (ao.2 0 _ rfl) (ov_get 0 ao.1 rfl rfl) rfl rfl rfl (Nat.le_of_ble_eq_true rfl) ⟨Nat.le_refl _, Nat.le_refl _⟩ (fun Py11 => ?_)
  refine g_istore_n e_X11_statement_129 st1_3 rfl ?_
  refine g_aload_n e_X11_statement_130 rfl ?_
  refine g_get 0 16 ao rfl rfl fsX11_g16 fl_X11_47 e_X11_statement_131 ?_
  refine g_aload_n e_X11_statement_134 rfl ?_
  refine g_get 0 3 ao rfl rfl fsX11_g3 fl_X11_168 e_X11_statement_135 ?_
  refine g_if_le e_X11_statement_138 Py11.2.2.1 hs (fun c138 hs => ?_) (fun c138 hs => ?_)
  · refine g_iload_n e_X11_statement_145 rfl ?_
    exact g_mask [true, true, false, true, true] (g_X11_statement_146 ao ok_t_taped Py11.2.1 Py11.2.2.1 ok_t_newBaseLow ok_t_newBaseHigh Py11.2.2.2 ok_t_tape ok_t_newMany ok_t_newWay ok_t_newPush ok_t_newLow ok_t_newHigh ok_t_newHold ok_v1 Py11.1 ok_v2 hs)
  · refine g_iconst e_X11_statement_141 ?_
    refine g_goto e_X11_statement_142 ?_
    exact g_mask [true, true, false, true, true] (g_X11_statement_146 ao ok_t_taped Py11.2.1 Py11.2.2.1 ok_t_newBaseLow ok_t_newBaseHigh Py11.2.2.2 ok_t_tape ok_t_newMany ok_t_newWay ok_t_newPush ok_t_newLow ok_t_newHigh ok_t_newHold ok_v1 Py11.1 (by decide : inI 0) hs)

noncomputable def m_X11_statement_270 (t_p : Int) (t_fault : Int) (t_newBaseLow : Int) (t_newBaseHigh : Int) (t_from : Int) (t_newMany : Nat → Int) (t_newWay : Nat → Int) (t_newPush : Nat → Int) (t_newLow : Nat → Int) (t_newHigh : Nat → Int) (t_newHold : Nat → Int) (v1 : Int) (v3 : Int) (v4 : Int) : Option (Int × Int × Int × Int × Int × (Nat → Int) × (Nat → Int) × (Nat → Int) × (Nat → Int) × (Nat → Int) × (Nat → Int)) :=
  if t_fault = 0 then (m_X11_statement_288 t_p t_fault v3 v4 t_from t_newMany t_newWay t_newPush t_newLow t_newHigh t_newHold v1) else (m_X11_statement_288 t_p t_fault t_newBaseLow t_newBaseHigh t_from t_newMany t_newWay t_newPush t_newLow t_newHigh t_newHold v1)

set_option maxRecDepth 10000 in
set_option maxHeartbeats 8000000 in
theorem g_X11_statement_270 {l : Launch} {E : EE} {b0 n : Nat} {h : AH} {a_t : Nat} {t_thrown t_taped t_p t_fault t_baseLow t_baseHigh t_newBaseLow t_newBaseHigh t_from t_knots t_lines t_chosen t_undos t_redos t_aimedMany t_fits t_fitOf t_sights t_systems t_own t_cross t_curveLong t_wallFirst v1 v3 v4 : Int} {t_tape t_newMany t_newWay t_newPush t_newLow t_newHigh t_newHold : Nat → Int} {r : Int × Int × Int × Int × Int × (Nat → Int) × (Nat → Int) × (Nat → Int) × (Nat → Int) × (Nat → Int) × (Nat → Int)} (ao : AO b0 n [a_t, (a_t + 1), (a_t + 3), (a_t + 5), (a_t + 7), (a_t + 11), (a_t + 12), (a_t + 13)]) (ok_t_taped : inI t_taped) (ok_t_p : inI t_p) (ok_t_fault : inI t_fault) (ok_t_newBaseLow : inI t_newBaseLow) (ok_t_newBaseHigh : inI t_newBaseHigh) (ok_t_from : inI t_from) (ok_t_tape : okY t_tape) (ok_t_newMany : okA t_newMany) (ok_t_newWay : okA t_newWay) (ok_t_newPush : okA t_newPush) (ok_t_newLow : okA t_newLow) (ok_t_newHigh : okA t_newHigh) (ok_t_newHold : okA t_newHold) (ok_v1 : inI v1) (ok_v3 : inI v3) (ok_v4 : inI v4) (hs : m_X11_statement_270 t_p t_fault t_newBaseLow t_newBaseHigh t_from t_newMany t_newWay t_newPush t_newLow t_newHigh t_newHold v1 v3 v4 = some r) : G l E b0 M_X11_statement (fun _ => True) (ZM E b0 (none) (ov [a_t, (a_t + 1), (a_t + 3), (a_t + 5), (a_t + 7), (a_t + 11), (a_t + 12), (a_t + 13)] [.inr (11, fsX11 a_t t_thrown t_taped r.1 r.2.1 t_baseLow t_baseHigh r.2.2.1 r.2.2.2.1 r.2.2.2.2.1 t_knots t_lines t_chosen t_undos t_redos t_aimedMany t_fits t_fitOf t_sights t_systems t_own t_cross t_curveLong t_wallFirst), YA E 400 t_tape, IA E 7 r.2.2.2.2.2.1, IA E 144 r.2.2.2.2.2.2.1, IA E 21 r.2.2.2.2.2.2.2.1, IA E 100 r.2.2.2.2.2.2.2.2.1, IA E 100 r.2.2.2.2.2.2.2.2.2.1, IA E 100 r.2.2.2.2.2.2.2.2.2.2] h) n (inI r.1 ∧ inI r.2.1 ∧ inI r.2.2.1 ∧ inI r.2.2.2.1 ∧ inI r.2.2.2.2.1 ∧ okA r.2.2.2.2.2.1 ∧ okA r.2.2.2.2.2.2.1 ∧ okA r.2.2.2.2.2.2.2.1 ∧ okA r.2.2.2.2.2.2.2.2.1 ∧ okA r.2.2.2.2.2.2.2.2.2.1 ∧ okA r.2.2.2.2.2.2.2.2.2.2) 0 0) 0 0 n (ov [a_t, (a_t + 1), (a_t + 3), (a_t + 5), (a_t + 7), (a_t + 11), (a_t + 12), (a_t + 13)] [.inr (11, fsX11 a_t t_thrown t_taped t_p t_fault t_baseLow t_baseHigh t_newBaseLow t_newBaseHigh t_from t_knots t_lines t_chosen t_undos t_redos t_aimedMany t_fits t_fitOf t_sights t_systems t_own t_cross t_curveLong t_wallFirst), YA E 400 t_tape, IA E 7 t_newMany, IA E 144 t_newWay, IA E 21 t_newPush, IA E 100 t_newLow, IA E 100 t_newHigh, IA E 100 t_newHold] h) 270 [some (.ref a_t), some (vI v1), none, some (vI v3), some (vI v4)] [] := by
  rw [m_X11_statement_270] at hs
  refine g_aload_n e_X11_statement_270 rfl ?_
  refine g_get 0 3 ao rfl rfl fsX11_g3 fl_X11_168 e_X11_statement_271 ?_
  refine g_if_ne e_X11_statement_274 ok_t_fault hs (fun c274 hs => ?_) (fun c274 hs => ?_)
  · refine g_aload_n e_X11_statement_277 rfl ?_
    refine g_iload_n e_X11_statement_278 rfl ?_
    refine g_put 0 19 ao rfl rfl fsX11_k19 fsX11_s19 ls_0 fw_X11_237 (fun h => by cases h) ⟨rfl, rfl⟩ e_X11_statement_279 ?_
    refine g_aload_n e_X11_statement_282 rfl ?_
    refine g_iload e_X11_statement_283 rfl ?_
    refine g_put 0 20 ao rfl rfl fsX11_k20 fsX11_s20 ls_0 fw_X11_240 (fun h => by cases h) ⟨rfl, rfl⟩ e_X11_statement_285 ?_
    exact g_mask [true, true, true, false, false] (g_X11_statement_288 ao ok_t_taped ok_t_p ok_t_fault ok_v3 ok_v4 ok_t_from ok_t_tape ok_t_newMany ok_t_newWay ok_t_newPush ok_t_newLow ok_t_newHigh ok_t_newHold ok_v1 hs)
  · exact g_mask [true, true, true, false, false] (g_X11_statement_288 ao ok_t_taped ok_t_p ok_t_fault ok_t_newBaseLow ok_t_newBaseHigh ok_t_from ok_t_tape ok_t_newMany ok_t_newWay ok_t_newPush ok_t_newLow ok_t_newHigh ok_t_newHold ok_v1 hs)

noncomputable def m_X11_statement_240 (t_p : Int) (t_fault : Int) (t_newBaseLow : Int) (t_newBaseHigh : Int) (t_from : Int) (t_newMany : Nat → Int) (t_newWay : Nat → Int) (t_newPush : Nat → Int) (t_newLow : Nat → Int) (t_newHigh : Nat → Int) (t_newHold : Nat → Int) (v1 : Int) (v2 : Int) (v3 : Int) (v4 : Int) : Option (Int × Int × Int × Int × Int × (Nat → Int) × (Nat → Int) × (Nat → Int) × (Nat → Int) × (Nat → Int) × (Nat → Int)) :=
  if t_fault = 0 then (if v1 = 4 then (chk (inB v2 100) (chk (inB v2 100) (m_X11_statement_288 t_p t_fault t_newBaseLow t_newBaseHigh t_from t_newMany t_newWay t_newPush (up t_newLow (Int.toNat v2) v3) (up t_newHigh (Int.toNat v2) v4) t_newHold v1))) else (m_X11_statement_270 t_p t_fault t_newBaseLow t_newBaseHigh t_from t_newMany t_newWay t_newPush t_newLow t_newHigh t_newHold v1 v3 v4)) else (m_X11_statement_270 t_p t_fault t_newBaseLow t_newBaseHigh t_from t_newMany t_newWay t_newPush t_newLow t_newHigh t_newHold v1 v3 v4)

set_option maxRecDepth 10000 in
set_option maxHeartbeats 8000000 in
theorem g_X11_statement_240 {l : Launch} {E : EE} {b0 n : Nat} {h : AH} {a_t : Nat} {t_thrown t_taped t_p t_fault t_baseLow t_baseHigh t_newBaseLow t_newBaseHigh t_from t_knots t_lines t_chosen t_undos t_redos t_aimedMany t_fits t_fitOf t_sights t_systems t_own t_cross t_curveLong t_wallFirst v1 v2 v3 v4 : Int} {t_tape t_newMany t_newWay t_newPush t_newLow t_newHigh t_newHold : Nat → Int} {r : Int × Int × Int × Int × Int × (Nat → Int) × (Nat → Int) × (Nat → Int) × (Nat → Int) × (Nat → Int) × (Nat → Int)} (ao : AO b0 n [a_t, (a_t + 1), (a_t + 3), (a_t + 5), (a_t + 7), (a_t + 11), (a_t + 12), (a_t + 13)]) (ok_t_taped : inI t_taped) (ok_t_p : inI t_p) (ok_t_fault : inI t_fault) (ok_t_newBaseLow : inI t_newBaseLow) (ok_t_newBaseHigh : inI t_newBaseHigh) (ok_t_from : inI t_from) (ok_t_tape : okY t_tape) (ok_t_newMany : okA t_newMany) (ok_t_newWay : okA t_newWay) (ok_t_newPush : okA t_newPush) (ok_t_newLow : okA t_newLow) (ok_t_newHigh : okA t_newHigh) (ok_t_newHold : okA t_newHold) (ok_v1 : inI v1) (ok_v2 : inI v2) (ok_v3 : inI v3) (ok_v4 : inI v4) (hs : m_X11_statement_240 t_p t_fault t_newBaseLow t_newBaseHigh t_from t_newMany t_newWay t_newPush t_newLow t_newHigh t_newHold v1 v2 v3 v4 = some r) : G l E b0 M_X11_statement (fun _ => True) (ZM E b0 (none) (ov [a_t, (a_t + 1), (a_t + 3), (a_t + 5), (a_t + 7), (a_t + 11), (a_t + 12), (a_t + 13)] [.inr (11, fsX11 a_t t_thrown t_taped r.1 r.2.1 t_baseLow t_baseHigh r.2.2.1 r.2.2.2.1 r.2.2.2.2.1 t_knots t_lines t_chosen t_undos t_redos t_aimedMany t_fits t_fitOf t_sights t_systems t_own t_cross t_curveLong t_wallFirst), YA E 400 t_tape, IA E 7 r.2.2.2.2.2.1, IA E 144 r.2.2.2.2.2.2.1, IA E 21 r.2.2.2.2.2.2.2.1, IA E 100 r.2.2.2.2.2.2.2.2.1, IA E 100 r.2.2.2.2.2.2.2.2.2.1, IA E 100 r.2.2.2.2.2.2.2.2.2.2] h) n (inI r.1 ∧ inI r.2.1 ∧ inI r.2.2.1 ∧ inI r.2.2.2.1 ∧ inI r.2.2.2.2.1 ∧ okA r.2.2.2.2.2.1 ∧ okA r.2.2.2.2.2.2.1 ∧ okA r.2.2.2.2.2.2.2.1 ∧ okA r.2.2.2.2.2.2.2.2.1 ∧ okA r.2.2.2.2.2.2.2.2.2.1 ∧ okA r.2.2.2.2.2.2.2.2.2.2) 0 0) 0 0 n (ov [a_t, (a_t + 1), (a_t + 3), (a_t + 5), (a_t + 7), (a_t + 11), (a_t + 12), (a_t + 13)] [.inr (11, fsX11 a_t t_thrown t_taped t_p t_fault t_baseLow t_baseHigh t_newBaseLow t_newBaseHigh t_from t_knots t_lines t_chosen t_undos t_redos t_aimedMany t_fits t_fitOf t_sights t_systems t_own t_cross t_curveLong t_wallFirst), YA E 400 t_tape, IA E 7 t_newMany, IA E 144 t_newWay, IA E 21 t_newPush, IA E 100 t_newLow, IA E 100 t_newHigh, IA E 100 t_newHold] h) 240 [some (.ref a_t), some (vI v1), some (vI v2), some (vI v3), some (vI v4)] [] := by
  rw [m_X11_statement_240] at hs
  refine g_aload_n e_X11_statement_240 rfl ?_
  refine g_get 0 3 ao rfl rfl fsX11_g3 fl_X11_168 e_X11_statement_241 ?_
  refine g_if_ne e_X11_statement_244 ok_t_fault hs (fun c244 hs => ?_) (fun c244 hs => ?_)
  · refine g_iload_n e_X11_statement_247 rfl ?_
    refine g_iconst e_X11_statement_248 ?_
    refine g_icmp_ne e_X11_statement_249 ok_v1 (by decide : inI 4) hs (fun c249 hs => ?_) (fun c249 hs => ?_)
    · refine g_aload_n e_X11_statement_252 rfl ?_
      refine g_get 0 14 ao rfl rfl fsX11_g14 fl_X11_41 e_X11_statement_253 ?_
      refine g_iload_n e_X11_statement_256 rfl ?_
      refine g_iload_n e_X11_statement_257 rfl ?_
      refine g_iast 5 ao rfl rfl ls_5 (Nat.le_of_ble_eq_true rfl) e_X11_statement_258 hs (fun hi18 hs => ?_)
      refine g_aload_n e_X11_statement_259 rfl ?_
      refine g_get 0 15 ao rfl rfl fsX11_g15 fl_X11_44 e_X11_statement_260 ?_
      refine g_iload_n e_X11_statement_263 rfl ?_
      refine g_iload e_X11_statement_264 rfl ?_
      refine g_iast 6 ao rfl rfl ls_6 (Nat.le_of_ble_eq_true rfl) e_X11_statement_266 hs (fun hi19 hs => ?_)
      refine g_goto e_X11_statement_267 ?_
      exact g_mask [true, true, false, false, false] (g_X11_statement_288 ao ok_t_taped ok_t_p ok_t_fault ok_t_newBaseLow ok_t_newBaseHigh ok_t_from ok_t_tape ok_t_newMany ok_t_newWay ok_t_newPush (okA_up ok_t_newLow ok_v3) (okA_up ok_t_newHigh ok_v4) ok_t_newHold ok_v1 hs)
    · exact g_mask [true, true, false, true, true] (g_X11_statement_270 ao ok_t_taped ok_t_p ok_t_fault ok_t_newBaseLow ok_t_newBaseHigh ok_t_from ok_t_tape ok_t_newMany ok_t_newWay ok_t_newPush ok_t_newLow ok_t_newHigh ok_t_newHold ok_v1 ok_v3 ok_v4 hs)
  · exact g_mask [true, true, false, true, true] (g_X11_statement_270 ao ok_t_taped ok_t_p ok_t_fault ok_t_newBaseLow ok_t_newBaseHigh ok_t_from ok_t_tape ok_t_newMany ok_t_newWay ok_t_newPush ok_t_newLow ok_t_newHigh ok_t_newHold ok_v1 ok_v3 ok_v4 hs)

noncomputable def m_X11_statement_199 (t_taped : Int) (t_p : Int) (t_fault : Int) (t_newBaseLow : Int) (t_newBaseHigh : Int) (t_from : Int) (t_tape : Nat → Int) (t_newMany : Nat → Int) (t_newWay : Nat → Int) (t_newPush : Nat → Int) (t_newLow : Nat → Int) (t_newHigh : Nat → Int) (t_newHold : Nat → Int) (v1 : Int) (v2 : Int) : Option (Int × Int × Int × Int × Int × (Nat → Int) × (Nat → Int) × (Nat → Int) × (Nat → Int) × (Nat → Int) × (Nat → Int)) :=
  (m_X11_number t_taped t_p t_fault t_from t_tape 0 9999).bind (fun y16 => (m_X11_number t_taped y16.2.1 y16.2.2.1 y16.2.2.2 t_tape 0 9999).bind (fun y17 => if y17.2.2.1 = 0 then (if y16.1 ≤ y17.1 then (m_X11_statement_240 y17.2.1 y17.2.2.1 t_newBaseLow t_newBaseHigh y17.2.2.2 t_newMany t_newWay t_newPush t_newLow t_newHigh t_newHold v1 v2 y16.1 y17.1) else ((m_X11_fails y17.2.2.1 2 y17.2.2.2).bind (fun y20 => m_X11_statement_240 y17.2.1 y20 t_newBaseLow t_newBaseHigh y17.2.2.2 t_newMany t_newWay t_newPush t_newLow t_newHigh t_newHold v1 v2 y16.1 y17.1))) else (m_X11_statement_240 y17.2.1 y17.2.2.1 t_newBaseLow t_newBaseHigh y17.2.2.2 t_newMany t_newWay t_newPush t_newLow t_newHigh t_newHold v1 v2 y16.1 y17.1)))

set_option maxRecDepth 10000 in
set_option maxHeartbeats 8000000 in
theorem g_X11_statement_199 {l : Launch} {E : EE} {b0 n : Nat} {h : AH} {a_t : Nat} {t_thrown t_taped t_p t_fault t_baseLow t_baseHigh t_newBaseLow t_newBaseHigh t_from t_knots t_lines t_chosen t_undos t_redos t_aimedMany t_fits t_fitOf t_sights t_systems t_own t_cross t_curveLong t_wallFirst v1 v2 : Int} {t_tape t_newMany t_newWay t_newPush t_newLow t_newHigh t_newHold : Nat → Int} {r : Int × Int × Int × Int × Int × (Nat → Int) × (Nat → Int) × (Nat → Int) × (Nat → Int) × (Nat → Int) × (Nat → Int)} (ao : AO b0 n [a_t, (a_t + 1), (a_t + 3), (a_t + 5), (a_t + 7), (a_t + 11), (a_t + 12), (a_t + 13)]) (ok_t_taped : inI t_taped) (ok_t_p : inI t_p) (ok_t_fault : inI t_fault) (ok_t_newBaseLow : inI t_newBaseLow) (ok_t_newBaseHigh : inI t_newBaseHigh) (ok_t_from : inI t_from) (ok_t_tape : okY t_tape) (ok_t_newMany : okA t_newMany) (ok_t_newWay : okA t_newWay) (ok_t_newPush : okA t_newPush) (ok_t_newLow : okA t_newLow) (ok_t_newHigh : okA t_newHigh) (ok_t_newHold : okA t_newHold) (ok_v1 : inI v1) (ok_v2 : inI v2) (hs : m_X11_statement_199 t_taped t_p t_fault t_newBaseLow t_newBaseHigh t_from t_tape t_newMany t_newWay t_newPush t_newLow t_newHigh t_newHold v1 v2 = some r) : G l E b0 M_X11_statement (fun _ => True) (ZM E b0 (none) (ov [a_t, (a_t + 1), (a_t + 3), (a_t + 5), (a_t + 7), (a_t + 11), (a_t + 12), (a_t + 13)] [.inr (11, fsX11 a_t t_thrown t_taped r.1 r.2.1 t_baseLow t_baseHigh r.2.2.1 r.2.2.2.1 r.2.2.2.2.1 t_knots t_lines t_chosen t_undos t_redos t_aimedMany t_fits t_fitOf t_sights t_systems t_own t_cross t_curveLong t_wallFirst), YA E 400 t_tape, IA E 7 r.2.2.2.2.2.1, IA E 144 r.2.2.2.2.2.2.1, IA E 21 r.2.2.2.2.2.2.2.1, IA E 100 r.2.2.2.2.2.2.2.2.1, IA E 100 r.2.2.2.2.2.2.2.2.2.1, IA E 100 r.2.2.2.2.2.2.2.2.2.2] h) n (inI r.1 ∧ inI r.2.1 ∧ inI r.2.2.1 ∧ inI r.2.2.2.1 ∧ inI r.2.2.2.2.1 ∧ okA r.2.2.2.2.2.1 ∧ okA r.2.2.2.2.2.2.1 ∧ okA r.2.2.2.2.2.2.2.1 ∧ okA r.2.2.2.2.2.2.2.2.1 ∧ okA r.2.2.2.2.2.2.2.2.2.1 ∧ okA r.2.2.2.2.2.2.2.2.2.2) 0 0) 0 0 n (ov [a_t, (a_t + 1), (a_t + 3), (a_t + 5), (a_t + 7), (a_t + 11), (a_t + 12), (a_t + 13)] [.inr (11, fsX11 a_t t_thrown t_taped t_p t_fault t_baseLow t_baseHigh t_newBaseLow t_newBaseHigh t_from t_knots t_lines t_chosen t_undos t_redos t_aimedMany t_fits t_fitOf t_sights t_systems t_own t_cross t_curveLong t_wallFirst), YA E 400 t_tape, IA E 7 t_newMany, IA E 144 t_newWay, IA E 21 t_newPush, IA E 100 t_newLow, IA E 100 t_newHigh, IA E 100 t_newHold] h) 199 [some (.ref a_t), some (vI v1), some (vI v2), none, none] [] := by
  rw [m_X11_statement_199] at hs
  refine g_aload_n e_X11_statement_199 rfl ?_
  refine g_iconst e_X11_statement_200 ?_
  refine g_sipush e_X11_statement_201 sp_9999 ?_
  obtain ⟨y16, hy16, hs⟩ := bind_elim hs
  refine g_callVr [vI 0, vI 9999] cv_X11_230 ⟨rfl, rfl, Nat.le_of_ble_eq_true rfl, Nat.le_of_ble_eq_true rfl⟩ (Ct_heap (ct_X11_number (a_t := a_t) (AO_call [0, 1] ao (by decide) rfl) (FA_call [0, 1] ao.1 rfl rfl) ok_t_taped ok_t_p ok_t_fault ok_t_from ok_t_tape (by decide : inI 0) (by decide : inI 9999) hy16) (ov_call (esn := [.inr (11, fsX11 a_t t_thrown t_taped y16.2.1 y16.2.2.1 t_baseLow t_baseHigh t_newBaseLow t_newBaseHigh y16.2.2.2 t_knots t_lines t_chosen t_undos t_redos t_aimedMany t_fits t_fitOf t_sights t_systems t_own t_cross t_curveLong t_wallFirst), YA E 400 t_tape, IA E 7 t_newMany, IA E 144 t_newWay, IA E 21 t_newPush, IA E 100 t_newLow, IA E 100 t_newHigh, IA E 100 t_newHold]) [0, 1] ao.1 rfl rfl rfl rfl)) e_X11_statement_204 (ao.2 0 _ rfl) (ov_get 0 ao.1 rfl rfl) rfl rfl rfl (Nat.le_of_ble_eq_true rfl) ⟨Nat.le_refl _, Nat.le_refl _⟩ (fun Py16 => ?_)
  refine g_istore_n e_X11_statement_207 st1_3 rfl ?_
  refine g_aload_n e_X11_statement_208 rfl ?_
  refine g_iconst e_X11_statement_209 ?_
  refine g_sipush e_X11_statement_210 sp_9999 ?_
  obtain ⟨y17, hy17, hs⟩ := bind_elim hs
  refine g_callVr [vI 0, vI 9999] cv_X11_230 ⟨rfl, rfl, Nat.le_of_ble_eq_true rfl, Nat.le_of_ble_eq_true rfl⟩ (Ct_heap (ct_X11_number (a_t := a_t) (AO_call [0, 1] ao (by decide) rfl) (FA_call [0, 1] ao.1 rfl rfl) ok_t_taped Py16.2.1 Py16.2.2.1 Py16.2.2.2 ok_t_tape (by decide : inI 0) (by decide : inI 9999) hy17) (ov_call (esn := [.inr (11, fsX11 a_t t_thrown t_taped y17.2.1 y17.2.2.1 t_baseLow t_baseHigh t_newBaseLow t_newBaseHigh y17.2.2.2 t_knots t_lines t_chosen t_undos t_redos t_aimedMany t_fits t_fitOf t_sights t_systems t_own t_cross t_curveLong t_wallFirst), YA E 400 t_tape, IA E 7 t_newMany, IA E 144 t_newWay, IA E 21 t_newPush, IA E 100 t_newLow, IA E 100 t_newHigh, IA E 100 t_newHold]) [0, 1] ao.1 rfl rfl rfl rfl)) e_X11_statement_213 (ao.2 0 _ rfl) (ov_get 0 ao.1 rfl rfl) rfl rfl rfl (Nat.le_of_ble_eq_true rfl) ⟨Nat.le_refl _, Nat.le_refl _⟩ (fun Py17 => ?_)
  refine g_istore e_X11_statement_216 st1_4 rfl ?_
  refine g_aload_n e_X11_statement_218 rfl ?_
  refine g_get 0 3 ao rfl rfl fsX11_g3 fl_X11_168 e_X11_statement_219 ?_
  refine g_if_ne e_X11_statement_222 Py17.2.2.1 hs (fun c222 hs => ?_) (fun c222 hs => ?_)
  · refine g_iload e_X11_statement_225 rfl ?_
    refine g_iload_n e_X11_statement_227 rfl ?_
    refine g_icmp_ge e_X11_statement_228 Py17.1 Py16.1 hs (fun c228 hs => ?_) (fun c228 hs => ?_)
    · exact g_X11_statement_240 ao ok_t_taped Py17.2.1 Py17.2.2.1 ok_t_newBaseLow ok_t_newBaseHigh Py17.2.2.2 ok_t_tape ok_t_newMany ok_t_newWay ok_t_newPush ok_t_newLow ok_t_newHigh ok_t_newHold ok_v1 ok_v2 Py16.1 Py17.1 hs
    · refine g_aload_n e_X11_statement_231 rfl ?_
      refine g_iconst e_X11_statement_232 ?_
      refine g_aload_n e_X11_statement_233 rfl ?_
      refine g_get 0 21 ao rfl rfl fsX11_g21 fl_X11_219 e_X11_statement_234 ?_
      obtain ⟨y20, hy20, hs⟩ := bind_elim hs
      refine g_callVv [vI 2, vI y17.2.2.2] cv_X11_199 ⟨rfl, rfl, Nat.le_of_ble_eq_true rfl, Nat.le_of_ble_eq_true rfl⟩ (Ct_heap (ct_X11_fails (a_t := a_t) (AO_call [0] ao (by decide) rfl) (FA_call [0] ao.1 rfl rfl) Py17.2.2.1 (by decide : inI 2) Py17.2.2.2 hy20) (ov_call (esn := [.inr (11, fsX11 a_t t_thrown t_taped y17.2.1 y20 t_baseLow t_baseHigh t_newBaseLow t_newBaseHigh y17.2.2.2 t_knots t_lines t_chosen t_undos t_redos t_aimedMany t_fits t_fitOf t_sights t_systems t_own t_cross t_curveLong t_wallFirst), YA E 400 t_tape, IA E 7 t_newMany, IA E 144 t_newWay, IA E 21 t_newPush, IA E 100 t_newLow, IA E 100 t_newHigh, IA E 100 t_newHold]) [0] ao.1 rfl rfl rfl rfl)) e_X11_statement_237 (ao.2 0 _ rfl) (ov_get 0 ao.1 rfl rfl) rfl rfl rfl (Nat.le_of_ble_eq_true rfl) ⟨Nat.le_refl _, Nat.le_refl _⟩ (fun Py20 => ?_)
      exact g_X11_statement_240 ao ok_t_taped Py17.2.1 Py20 ok_t_newBaseLow ok_t_newBaseHigh Py17.2.2.2 ok_t_tape ok_t_newMany ok_t_newWay ok_t_newPush ok_t_newLow ok_t_newHigh ok_t_newHold ok_v1 ok_v2 Py16.1 Py17.1 hs
  · exact g_X11_statement_240 ao ok_t_taped Py17.2.1 Py17.2.2.1 ok_t_newBaseLow ok_t_newBaseHigh Py17.2.2.2 ok_t_tape ok_t_newMany ok_t_newWay ok_t_newPush ok_t_newLow ok_t_newHigh ok_t_newHold ok_v1 ok_v2 Py16.1 Py17.1 hs

noncomputable def m_X11_statement_167 (t_taped : Int) (t_p : Int) (t_fault : Int) (t_newBaseLow : Int) (t_newBaseHigh : Int) (t_from : Int) (t_tape : Nat → Int) (t_newMany : Nat → Int) (t_newWay : Nat → Int) (t_newPush : Nat → Int) (t_newLow : Nat → Int) (t_newHigh : Nat → Int) (t_newHold : Nat → Int) (v1 : Int) (s0 : Int) : Option (Int × Int × Int × Int × Int × (Nat → Int) × (Nat → Int) × (Nat → Int) × (Nat → Int) × (Nat → Int) × (Nat → Int)) :=
  if v1 = 4 then (if t_fault = 0 then (chk (inB s0 100) (if (t_newLow (Int.toNat s0)) = (-1) then (m_X11_statement_199 t_taped t_p t_fault t_newBaseLow t_newBaseHigh t_from t_tape t_newMany t_newWay t_newPush t_newLow t_newHigh t_newHold v1 s0) else ((m_X11_fails t_fault 3 t_from).bind (fun y21 => m_X11_statement_199 t_taped t_p y21 t_newBaseLow t_newBaseHigh t_from t_tape t_newMany t_newWay t_newPush t_newLow t_newHigh t_newHold v1 s0)))) else (m_X11_statement_199 t_taped t_p t_fault t_newBaseLow t_newBaseHigh t_from t_tape t_newMany t_newWay t_newPush t_newLow t_newHigh t_newHold v1 s0)) else (m_X11_statement_199 t_taped t_p t_fault t_newBaseLow t_newBaseHigh t_from t_tape t_newMany t_newWay t_newPush t_newLow t_newHigh t_newHold v1 s0)

set_option maxRecDepth 10000 in
set_option maxHeartbeats 8000000 in
theorem g_X11_statement_167 {l : Launch} {E : EE} {b0 n : Nat} {h : AH} {a_t : Nat} {t_thrown t_taped t_p t_fault t_baseLow t_baseHigh t_newBaseLow t_newBaseHigh t_from t_knots t_lines t_chosen t_undos t_redos t_aimedMany t_fits t_fitOf t_sights t_systems t_own t_cross t_curveLong t_wallFirst v1 s0 : Int} {t_tape t_newMany t_newWay t_newPush t_newLow t_newHigh t_newHold : Nat → Int} {r : Int × Int × Int × Int × Int × (Nat → Int) × (Nat → Int) × (Nat → Int) × (Nat → Int) × (Nat → Int) × (Nat → Int)} (ao : AO b0 n [a_t, (a_t + 1), (a_t + 3), (a_t + 5), (a_t + 7), (a_t + 11), (a_t + 12), (a_t + 13)]) (ok_t_taped : inI t_taped) (ok_t_p : inI t_p) (ok_t_fault : inI t_fault) (ok_t_newBaseLow : inI t_newBaseLow) (ok_t_newBaseHigh : inI t_newBaseHigh) (ok_t_from : inI t_from) (ok_t_tape : okY t_tape) (ok_t_newMany : okA t_newMany) (ok_t_newWay : okA t_newWay) (ok_t_newPush : okA t_newPush) (ok_t_newLow : okA t_newLow) (ok_t_newHigh : okA t_newHigh) (ok_t_newHold : okA t_newHold) (ok_v1 : inI v1) (ok_s0 : inI s0) (hs : m_X11_statement_167 t_taped t_p t_fault t_newBaseLow t_newBaseHigh t_from t_tape t_newMany t_newWay t_newPush t_newLow t_newHigh t_newHold v1 s0 = some r) : G l E b0 M_X11_statement (fun _ => True) (ZM E b0 (none) (ov [a_t, (a_t + 1), (a_t + 3), (a_t + 5), (a_t + 7), (a_t + 11), (a_t + 12), (a_t + 13)] [.inr (11, fsX11 a_t t_thrown t_taped r.1 r.2.1 t_baseLow t_baseHigh r.2.2.1 r.2.2.2.1 r.2.2.2.2.1 t_knots t_lines t_chosen t_undos t_redos t_aimedMany t_fits t_fitOf t_sights t_systems t_own t_cross t_curveLong t_wallFirst), YA E 400 t_tape, IA E 7 r.2.2.2.2.2.1, IA E 144 r.2.2.2.2.2.2.1, IA E 21 r.2.2.2.2.2.2.2.1, IA E 100 r.2.2.2.2.2.2.2.2.1, IA E 100 r.2.2.2.2.2.2.2.2.2.1, IA E 100 r.2.2.2.2.2.2.2.2.2.2] h) n (inI r.1 ∧ inI r.2.1 ∧ inI r.2.2.1 ∧ inI r.2.2.2.1 ∧ inI r.2.2.2.2.1 ∧ okA r.2.2.2.2.2.1 ∧ okA r.2.2.2.2.2.2.1 ∧ okA r.2.2.2.2.2.2.2.1 ∧ okA r.2.2.2.2.2.2.2.2.1 ∧ okA r.2.2.2.2.2.2.2.2.2.1 ∧ okA r.2.2.2.2.2.2.2.2.2.2) 0 0) 0 0 n (ov [a_t, (a_t + 1), (a_t + 3), (a_t + 5), (a_t + 7), (a_t + 11), (a_t + 12), (a_t + 13)] [.inr (11, fsX11 a_t t_thrown t_taped t_p t_fault t_baseLow t_baseHigh t_newBaseLow t_newBaseHigh t_from t_knots t_lines t_chosen t_undos t_redos t_aimedMany t_fits t_fitOf t_sights t_systems t_own t_cross t_curveLong t_wallFirst), YA E 400 t_tape, IA E 7 t_newMany, IA E 144 t_newWay, IA E 21 t_newPush, IA E 100 t_newLow, IA E 100 t_newHigh, IA E 100 t_newHold] h) 167 [some (.ref a_t), some (vI v1), none, none, none] [vI s0] := by
  rw [m_X11_statement_167] at hs
  refine g_istore_n e_X11_statement_167 st1_2 rfl ?_
  refine g_iload_n e_X11_statement_168 rfl ?_
  refine g_iconst e_X11_statement_169 ?_
  refine g_icmp_ne e_X11_statement_170 ok_v1 (by decide : inI 4) hs (fun c170 hs => ?_) (fun c170 hs => ?_)
  · refine g_aload_n e_X11_statement_173 rfl ?_
    refine g_get 0 3 ao rfl rfl fsX11_g3 fl_X11_168 e_X11_statement_174 ?_
    refine g_if_ne e_X11_statement_177 ok_t_fault hs (fun c177 hs => ?_) (fun c177 hs => ?_)
    · refine g_aload_n e_X11_statement_180 rfl ?_
      refine g_get 0 14 ao rfl rfl fsX11_g14 fl_X11_41 e_X11_statement_181 ?_
      refine g_iload_n e_X11_statement_184 rfl ?_
      refine g_iald 5 ao rfl rfl (Nat.le_of_ble_eq_true rfl) e_X11_statement_185 hs (fun hi15 hs => ?_)
      refine g_iconst e_X11_statement_186 ?_
      refine g_icmp_eq e_X11_statement_187 (ok_t_newLow _) (by decide : inI (-1)) hs (fun c187 hs => ?_) (fun c187 hs => ?_)
      · exact g_X11_statement_199 ao ok_t_taped ok_t_p ok_t_fault ok_t_newBaseLow ok_t_newBaseHigh ok_t_from ok_t_tape ok_t_newMany ok_t_newWay ok_t_newPush ok_t_newLow ok_t_newHigh ok_t_newHold ok_v1 ok_s0 hs
      · refine g_aload_n e_X11_statement_190 rfl ?_
        refine g_iconst e_X11_statement_191 ?_
        refine g_aload_n e_X11_statement_192 rfl ?_
        refine g_get 0 21 ao rfl rfl fsX11_g21 fl_X11_219 e_X11_statement_193 ?_
        obtain ⟨y21, hy21, hs⟩ := bind_elim hs
        refine g_callVv [vI 3, vI t_from] cv_X11_199 ⟨rfl, rfl, Nat.le_of_ble_eq_true rfl, Nat.le_of_ble_eq_true rfl⟩ (Ct_heap (ct_X11_fails (a_t := a_t) (AO_call [0] ao (by decide) rfl) (FA_call [0] ao.1 rfl rfl) ok_t_fault (by decide : inI 3) ok_t_from hy21) (ov_call (esn := [.inr (11, fsX11 a_t t_thrown t_taped t_p y21 t_baseLow t_baseHigh t_newBaseLow t_newBaseHigh t_from t_knots t_lines t_chosen t_undos t_redos t_aimedMany t_fits t_fitOf t_sights t_systems t_own t_cross t_curveLong t_wallFirst), YA E 400 t_tape, IA E 7 t_newMany, IA E 144 t_newWay, IA E 21 t_newPush, IA E 100 t_newLow, IA E 100 t_newHigh, IA E 100 t_newHold]) [0] ao.1 rfl rfl rfl rfl)) e_X11_statement_196 (ao.2 0 _ rfl) (ov_get 0 ao.1 rfl rfl) rfl rfl rfl (Nat.le_of_ble_eq_true rfl) ⟨Nat.le_refl _, Nat.le_refl _⟩ (fun Py21 => ?_)
        exact g_X11_statement_199 ao ok_t_taped ok_t_p Py21 ok_t_newBaseLow ok_t_newBaseHigh ok_t_from ok_t_tape ok_t_newMany ok_t_newWay ok_t_newPush ok_t_newLow ok_t_newHigh ok_t_newHold ok_v1 ok_s0 hs
    · exact g_X11_statement_199 ao ok_t_taped ok_t_p ok_t_fault ok_t_newBaseLow ok_t_newBaseHigh ok_t_from ok_t_tape ok_t_newMany ok_t_newWay ok_t_newPush ok_t_newLow ok_t_newHigh ok_t_newHold ok_v1 ok_s0 hs
  · exact g_X11_statement_199 ao ok_t_taped ok_t_p ok_t_fault ok_t_newBaseLow ok_t_newBaseHigh ok_t_from ok_t_tape ok_t_newMany ok_t_newWay ok_t_newPush ok_t_newLow ok_t_newHigh ok_t_newHold ok_v1 ok_s0 hs

noncomputable def m_X11_statement_0 (t_taped : Int) (t_p : Int) (t_fault : Int) (t_newBaseLow : Int) (t_newBaseHigh : Int) (t_from : Int) (t_tape : Nat → Int) (t_newMany : Nat → Int) (t_newWay : Nat → Int) (t_newPush : Nat → Int) (t_newLow : Nat → Int) (t_newHigh : Nat → Int) (t_newHold : Nat → Int) (v1 : Int) : Option (Int × Int × Int × Int × Int × (Nat → Int) × (Nat → Int) × (Nat → Int) × (Nat → Int) × (Nat → Int) × (Nat → Int)) :=
  if 3 ≤ v1 then (if v1 = 3 then ((m_X11_number t_taped t_p t_fault t_from t_tape 1 20).bind (fun y1 => if y1.2.2.1 = 0 then (chk (inB y1.1 21) (if (t_newPush (Int.toNat y1.1)) = (-1) then (m_X11_statement_52 t_taped y1.2.1 y1.2.2.1 t_newBaseLow t_newBaseHigh y1.2.2.2 t_tape t_newMany t_newWay t_newPush t_newLow t_newHigh t_newHold v1 y1.1) else ((m_X11_fails y1.2.2.1 3 y1.2.2.2).bind (fun y8 => m_X11_statement_52 t_taped y1.2.1 y8 t_newBaseLow t_newBaseHigh y1.2.2.2 t_tape t_newMany t_newWay t_newPush t_newLow t_newHigh t_newHold v1 y1.1)))) else (m_X11_statement_52 t_taped y1.2.1 y1.2.2.1 t_newBaseLow t_newBaseHigh y1.2.2.2 t_tape t_newMany t_newWay t_newPush t_newLow t_newHigh t_newHold v1 y1.1))) else (if v1 = 5 then ((m_X11_number t_taped t_p t_fault t_from t_tape 1 98).bind (fun y9 => if y9.2.2.1 = 0 then (chk (inB y9.1 100) (if (t_newHold (Int.toNat y9.1)) = (-1) then (m_X11_statement_121 t_taped y9.2.1 y9.2.2.1 t_newBaseLow t_newBaseHigh y9.2.2.2 t_tape t_newMany t_newWay t_newPush t_newLow t_newHigh t_newHold v1 y9.1) else ((m_X11_fails y9.2.2.1 3 y9.2.2.2).bind (fun y13 => m_X11_statement_121 t_taped y9.2.1 y13 t_newBaseLow t_newBaseHigh y9.2.2.2 t_tape t_newMany t_newWay t_newPush t_newLow t_newHigh t_newHold v1 y9.1)))) else (m_X11_statement_121 t_taped y9.2.1 y9.2.2.1 t_newBaseLow t_newBaseHigh y9.2.2.2 t_tape t_newMany t_newWay t_newPush t_newLow t_newHigh t_newHold v1 y9.1))) else (if v1 = 4 then ((m_X11_number t_taped t_p t_fault t_from t_tape 0 99).bind (fun y14 => m_X11_statement_167 t_taped y14.2.1 y14.2.2.1 t_newBaseLow t_newBaseHigh y14.2.2.2 t_tape t_newMany t_newWay t_newPush t_newLow t_newHigh t_newHold v1 y14.1)) else (m_X11_statement_167 t_taped t_p t_fault t_newBaseLow t_newBaseHigh t_from t_tape t_newMany t_newWay t_newPush t_newLow t_newHigh t_newHold v1 0)))) else ((m_X11_wayIn t_taped t_p t_fault t_from t_tape t_newMany t_newWay v1).bind (fun y22 => m_X11_statement_288 y22.1 y22.2.1 t_newBaseLow t_newBaseHigh y22.2.2.1 t_newMany y22.2.2.2 t_newPush t_newLow t_newHigh t_newHold v1))

set_option maxRecDepth 10000 in
set_option maxHeartbeats 8000000 in
theorem g_X11_statement_0 {l : Launch} {E : EE} {b0 n : Nat} {h : AH} {a_t : Nat} {t_thrown t_taped t_p t_fault t_baseLow t_baseHigh t_newBaseLow t_newBaseHigh t_from t_knots t_lines t_chosen t_undos t_redos t_aimedMany t_fits t_fitOf t_sights t_systems t_own t_cross t_curveLong t_wallFirst v1 : Int} {t_tape t_newMany t_newWay t_newPush t_newLow t_newHigh t_newHold : Nat → Int} {r : Int × Int × Int × Int × Int × (Nat → Int) × (Nat → Int) × (Nat → Int) × (Nat → Int) × (Nat → Int) × (Nat → Int)} (ao : AO b0 n [a_t, (a_t + 1), (a_t + 3), (a_t + 5), (a_t + 7), (a_t + 11), (a_t + 12), (a_t + 13)]) (ok_t_taped : inI t_taped) (ok_t_p : inI t_p) (ok_t_fault : inI t_fault) (ok_t_newBaseLow : inI t_newBaseLow) (ok_t_newBaseHigh : inI t_newBaseHigh) (ok_t_from : inI t_from) (ok_t_tape : okY t_tape) (ok_t_newMany : okA t_newMany) (ok_t_newWay : okA t_newWay) (ok_t_newPush : okA t_newPush) (ok_t_newLow : okA t_newLow) (ok_t_newHigh : okA t_newHigh) (ok_t_newHold : okA t_newHold) (ok_v1 : inI v1) (hs : m_X11_statement_0 t_taped t_p t_fault t_newBaseLow t_newBaseHigh t_from t_tape t_newMany t_newWay t_newPush t_newLow t_newHigh t_newHold v1 = some r) : G l E b0 M_X11_statement (fun _ => True) (ZM E b0 (none) (ov [a_t, (a_t + 1), (a_t + 3), (a_t + 5), (a_t + 7), (a_t + 11), (a_t + 12), (a_t + 13)] [.inr (11, fsX11 a_t t_thrown t_taped r.1 r.2.1 t_baseLow t_baseHigh r.2.2.1 r.2.2.2.1 r.2.2.2.2.1 t_knots t_lines t_chosen t_undos t_redos t_aimedMany t_fits t_fitOf t_sights t_systems t_own t_cross t_curveLong t_wallFirst), YA E 400 t_tape, IA E 7 r.2.2.2.2.2.1, IA E 144 r.2.2.2.2.2.2.1, IA E 21 r.2.2.2.2.2.2.2.1, IA E 100 r.2.2.2.2.2.2.2.2.1, IA E 100 r.2.2.2.2.2.2.2.2.2.1, IA E 100 r.2.2.2.2.2.2.2.2.2.2] h) n (inI r.1 ∧ inI r.2.1 ∧ inI r.2.2.1 ∧ inI r.2.2.2.1 ∧ inI r.2.2.2.2.1 ∧ okA r.2.2.2.2.2.1 ∧ okA r.2.2.2.2.2.2.1 ∧ okA r.2.2.2.2.2.2.2.1 ∧ okA r.2.2.2.2.2.2.2.2.1 ∧ okA r.2.2.2.2.2.2.2.2.2.1 ∧ okA r.2.2.2.2.2.2.2.2.2.2) 0 0) 0 0 n (ov [a_t, (a_t + 1), (a_t + 3), (a_t + 5), (a_t + 7), (a_t + 11), (a_t + 12), (a_t + 13)] [.inr (11, fsX11 a_t t_thrown t_taped t_p t_fault t_baseLow t_baseHigh t_newBaseLow t_newBaseHigh t_from t_knots t_lines t_chosen t_undos t_redos t_aimedMany t_fits t_fitOf t_sights t_systems t_own t_cross t_curveLong t_wallFirst), YA E 400 t_tape, IA E 7 t_newMany, IA E 144 t_newWay, IA E 21 t_newPush, IA E 100 t_newLow, IA E 100 t_newHigh, IA E 100 t_newHold] h) 0 [some (.ref a_t), some (vI v1), none, none, none] [] := by
  rw [m_X11_statement_0] at hs
  refine g_iload_n e_X11_statement_0 rfl ?_
  refine g_iconst e_X11_statement_1 ?_
  refine g_icmp_ge e_X11_statement_2 ok_v1 (by decide : inI 3) hs (fun c2 hs => ?_) (fun c2 hs => ?_)
  · refine g_iload_n e_X11_statement_13 rfl ?_
    refine g_iconst e_X11_statement_14 ?_
    refine g_icmp_ne e_X11_statement_15 ok_v1 (by decide : inI 3) hs (fun c15 hs => ?_) (fun c15 hs => ?_)
    · refine g_aload_n e_X11_statement_18 rfl ?_
      refine g_iconst e_X11_statement_19 ?_
      refine g_bipush e_X11_statement_20 bp_20 ?_
      obtain ⟨y1, hy1, hs⟩ := bind_elim hs
      refine g_callVr [vI 1, vI 20] cv_X11_230 ⟨rfl, rfl, Nat.le_of_ble_eq_true rfl, Nat.le_of_ble_eq_true rfl⟩ (Ct_heap (ct_X11_number (a_t := a_t) (AO_call [0, 1] ao (by decide) rfl) (FA_call [0, 1] ao.1 rfl rfl) ok_t_taped ok_t_p ok_t_fault ok_t_from ok_t_tape (by decide : inI 1) (by decide : inI 20) hy1) (ov_call (esn := [.inr (11, fsX11 a_t t_thrown t_taped y1.2.1 y1.2.2.1 t_baseLow t_baseHigh t_newBaseLow t_newBaseHigh y1.2.2.2 t_knots t_lines t_chosen t_undos t_redos t_aimedMany t_fits t_fitOf t_sights t_systems t_own t_cross t_curveLong t_wallFirst), YA E 400 t_tape, IA E 7 t_newMany, IA E 144 t_newWay, IA E 21 t_newPush, IA E 100 t_newLow, IA E 100 t_newHigh, IA E 100 t_newHold]) [0, 1] ao.1 rfl rfl rfl rfl)) e_X11_statement_22 (ao.2 0 _ rfl) (ov_get 0 ao.1 rfl rfl) rfl rfl rfl (Nat.le_of_ble_eq_true rfl) ⟨Nat.le_refl _, Nat.le_refl _⟩ (fun Py1 => ?_)
      refine g_istore_n e_X11_statement_25 st1_2 rfl ?_
      refine g_aload_n e_X11_statement_26 rfl ?_
      refine g_get 0 3 ao rfl rfl fsX11_g3 fl_X11_168 e_X11_statement_27 ?_
      refine g_if_ne e_X11_statement_30 Py1.2.2.1 hs (fun c30 hs => ?_) (fun c30 hs => ?_)
      · refine g_aload_n e_X11_statement_33 rfl ?_
        refine g_get 0 10 ao rfl rfl fsX11_g10 fl_X11_29 e_X11_statement_34 ?_
        refine g_iload_n e_X11_statement_37 rfl ?_
        refine g_iald 4 ao rfl rfl (Nat.le_of_ble_eq_true rfl) e_X11_statement_38 hs (fun hi2 hs => ?_)
        refine g_iconst e_X11_statement_39 ?_
        refine g_icmp_eq e_X11_statement_40 (ok_t_newPush _) (by decide : inI (-1)) hs (fun c40 hs => ?_) (fun c40 hs => ?_)
        · exact g_X11_statement_52 ao ok_t_taped Py1.2.1 Py1.2.2.1 ok_t_newBaseLow ok_t_newBaseHigh Py1.2.2.2 ok_t_tape ok_t_newMany ok_t_newWay ok_t_newPush ok_t_newLow ok_t_newHigh ok_t_newHold ok_v1 Py1.1 hs
        · refine g_aload_n e_X11_statement_43 rfl ?_
          refine g_iconst e_X11_statement_44 ?_
          refine g_aload_n e_X11_statement_45 rfl ?_
          refine g_get 0 21 ao rfl rfl fsX11_g21 fl_X11_219 e_X11_statement_46 ?_
          obtain ⟨y8, hy8, hs⟩ := bind_elim hs
          refine g_callVv [vI 3, vI y1.2.2.2] cv_X11_199 ⟨rfl, rfl, Nat.le_of_ble_eq_true rfl, Nat.le_of_ble_eq_true rfl⟩ (Ct_heap (ct_X11_fails (a_t := a_t) (AO_call [0] ao (by decide) rfl) (FA_call [0] ao.1 rfl rfl) Py1.2.2.1 (by decide : inI 3) Py1.2.2.2 hy8) (ov_call (esn := [.inr (11, fsX11 a_t t_thrown t_taped y1.2.1 y8 t_baseLow t_baseHigh t_newBaseLow t_newBaseHigh y1.2.2.2 t_knots t_lines t_chosen t_undos t_redos t_aimedMany t_fits t_fitOf t_sights t_systems t_own t_cross t_curveLong t_wallFirst), YA E 400 t_tape, IA E 7 t_newMany, IA E 144 t_newWay, IA E 21 t_newPush, IA E 100 t_newLow, IA E 100 t_newHigh, IA E 100 t_newHold]) [0] ao.1 rfl rfl rfl rfl)) e_X11_statement_49 (ao.2 0 _ rfl) (ov_get 0 ao.1 rfl rfl) rfl rfl rfl (Nat.le_of_ble_eq_true rfl) ⟨Nat.le_refl _, Nat.le_refl _⟩ (fun Py8 => ?_)
          exact g_X11_statement_52 ao ok_t_taped Py1.2.1 Py8 ok_t_newBaseLow ok_t_newBaseHigh Py1.2.2.2 ok_t_tape ok_t_newMany ok_t_newWay ok_t_newPush ok_t_newLow ok_t_newHigh ok_t_newHold ok_v1 Py1.1 hs
      · exact g_X11_statement_52 ao ok_t_taped Py1.2.1 Py1.2.2.1 ok_t_newBaseLow ok_t_newBaseHigh Py1.2.2.2 ok_t_tape ok_t_newMany ok_t_newWay ok_t_newPush ok_t_newLow ok_t_newHigh ok_t_newHold ok_v1 Py1.1 hs
    · refine g_iload_n e_X11_statement_82 rfl ?_
      refine g_iconst e_X11_statement_83 ?_
      refine g_icmp_ne e_X11_statement_84 ok_v1 (by decide : inI 5) hs (fun c84 hs => ?_) (fun c84 hs => ?_)
      · refine g_aload_n e_X11_statement_87 rfl ?_
        refine g_iconst e_X11_statement_88 ?_
        refine g_bipush e_X11_statement_89 bp_98 ?_
        obtain ⟨y9, hy9, hs⟩ := bind_elim hs
        refine g_callVr [vI 1, vI 98] cv_X11_230 ⟨rfl, rfl, Nat.le_of_ble_eq_true rfl, Nat.le_of_ble_eq_true rfl⟩ (Ct_heap (ct_X11_number (a_t := a_t) (AO_call [0, 1] ao (by decide) rfl) (FA_call [0, 1] ao.1 rfl rfl) ok_t_taped ok_t_p ok_t_fault ok_t_from ok_t_tape (by decide : inI 1) (by decide : inI 98) hy9) (ov_call (esn := [.inr (11, fsX11 a_t t_thrown t_taped y9.2.1 y9.2.2.1 t_baseLow t_baseHigh t_newBaseLow t_newBaseHigh y9.2.2.2 t_knots t_lines t_chosen t_undos t_redos t_aimedMany t_fits t_fitOf t_sights t_systems t_own t_cross t_curveLong t_wallFirst), YA E 400 t_tape, IA E 7 t_newMany, IA E 144 t_newWay, IA E 21 t_newPush, IA E 100 t_newLow, IA E 100 t_newHigh, IA E 100 t_newHold]) [0, 1] ao.1 rfl rfl rfl rfl)) e_X11_statement_91 (ao.2 0 _ rfl) (ov_get 0 ao.1 rfl rfl) rfl rfl rfl (Nat.le_of_ble_eq_true rfl) ⟨Nat.le_refl _, Nat.le_refl _⟩ (fun Py9 => ?_)
        refine g_istore_n e_X11_statement_94 st1_2 rfl ?_
        refine g_aload_n e_X11_statement_95 rfl ?_
        refine g_get 0 3 ao rfl rfl fsX11_g3 fl_X11_168 e_X11_statement_96 ?_
        refine g_if_ne e_X11_statement_99 Py9.2.2.1 hs (fun c99 hs => ?_) (fun c99 hs => ?_)
        · refine g_aload_n e_X11_statement_102 rfl ?_
          refine g_get 0 16 ao rfl rfl fsX11_g16 fl_X11_47 e_X11_statement_103 ?_
          refine g_iload_n e_X11_statement_106 rfl ?_
          refine g_iald 7 ao rfl rfl (Nat.le_of_ble_eq_true rfl) e_X11_statement_107 hs (fun hi10 hs => ?_)
          refine g_iconst e_X11_statement_108 ?_
          refine g_icmp_eq e_X11_statement_109 (ok_t_newHold _) (by decide : inI (-1)) hs (fun c109 hs => ?_) (fun c109 hs => ?_)
          · exact g_X11_statement_121 ao ok_t_taped Py9.2.1 Py9.2.2.1 ok_t_newBaseLow ok_t_newBaseHigh Py9.2.2.2 ok_t_tape ok_t_newMany ok_t_newWay ok_t_newPush ok_t_newLow ok_t_newHigh ok_t_newHold ok_v1 Py9.1 hs
          · refine g_aload_n e_X11_statement_112 rfl ?_
            refine g_iconst e_X11_statement_113 ?_
            refine g_aload_n e_X11_statement_114 rfl ?_
            refine g_get 0 21 ao rfl rfl fsX11_g21 fl_X11_219 e_X11_statement_115 ?_
            obtain ⟨y13, hy13, hs⟩ := bind_elim hs
            refine g_callVv [vI 3, vI y9.2.2.2] cv_X11_199 ⟨rfl, rfl, Nat.le_of_ble_eq_true rfl, Nat.le_of_ble_eq_true rfl⟩ (Ct_heap (ct_X11_fails (a_t := a_t) (AO_call [0] ao (by decide) rfl) (FA_call [0] ao.1 rfl rfl) Py9.2.2.1 (by decide : inI 3) Py9.2.2.2 hy13) (ov_call (esn := [.inr (11, fsX11 a_t t_thrown t_taped y9.2.1 y13 t_baseLow t_baseHigh t_newBaseLow t_newBaseHigh y9.2.2.2 t_knots t_lines t_chosen t_undos t_redos t_aimedMany t_fits t_fitOf t_sights t_systems t_own t_cross t_curveLong t_wallFirst), YA E 400 t_tape, IA E 7 t_newMany, IA E 144 t_newWay, IA E 21 t_newPush, IA E 100 t_newLow, IA E 100 t_newHigh, IA E 100 t_newHold]) [0] ao.1 rfl rfl rfl rfl)) e_X11_statement_118 (ao.2 0 _ rfl) (ov_get 0 ao.1 rfl rfl) rfl rfl rfl (Nat.le_of_ble_eq_true rfl) ⟨Nat.le_refl _, Nat.le_refl _⟩ (fun Py13 => ?_)
            exact g_X11_statement_121 ao ok_t_taped Py9.2.1 Py13 ok_t_newBaseLow ok_t_newBaseHigh Py9.2.2.2 ok_t_tape ok_t_newMany ok_t_newWay ok_t_newPush ok_t_newLow ok_t_newHigh ok_t_newHold ok_v1 Py9.1 hs
        · exact g_X11_statement_121 ao ok_t_taped Py9.2.1 Py9.2.2.1 ok_t_newBaseLow ok_t_newBaseHigh Py9.2.2.2 ok_t_tape ok_t_newMany ok_t_newWay ok_t_newPush ok_t_newLow ok_t_newHigh ok_t_newHold ok_v1 Py9.1 hs
      · refine g_iload_n e_X11_statement_151 rfl ?_
        refine g_iconst e_X11_statement_152 ?_
        refine g_icmp_ne e_X11_statement_153 ok_v1 (by decide : inI 4) hs (fun c153 hs => ?_) (fun c153 hs => ?_)
        · refine g_aload_n e_X11_statement_156 rfl ?_
          refine g_iconst e_X11_statement_157 ?_
          refine g_bipush e_X11_statement_158 bp_99 ?_
          obtain ⟨y14, hy14, hs⟩ := bind_elim hs
          refine g_callVr [vI 0, vI 99] cv_X11_230 ⟨rfl, rfl, Nat.le_of_ble_eq_true rfl, Nat.le_of_ble_eq_true rfl⟩ (Ct_heap (ct_X11_number (a_t := a_t) (AO_call [0, 1] ao (by decide) rfl) (FA_call [0, 1] ao.1 rfl rfl) ok_t_taped ok_t_p ok_t_fault ok_t_from ok_t_tape (by decide : inI 0) (by decide : inI 99) hy14) (ov_call (esn := [.inr (11, fsX11 a_t t_thrown t_taped y14.2.1 y14.2.2.1 t_baseLow t_baseHigh t_newBaseLow t_newBaseHigh y14.2.2.2 t_knots t_lines t_chosen t_undos t_redos t_aimedMany t_fits t_fitOf t_sights t_systems t_own t_cross t_curveLong t_wallFirst), YA E 400 t_tape, IA E 7 t_newMany, IA E 144 t_newWay, IA E 21 t_newPush, IA E 100 t_newLow, IA E 100 t_newHigh, IA E 100 t_newHold]) [0, 1] ao.1 rfl rfl rfl rfl)) e_X11_statement_160 (ao.2 0 _ rfl) (ov_get 0 ao.1 rfl rfl) rfl rfl rfl (Nat.le_of_ble_eq_true rfl) ⟨Nat.le_refl _, Nat.le_refl _⟩ (fun Py14 => ?_)
          refine g_goto e_X11_statement_163 ?_
          exact g_X11_statement_167 ao ok_t_taped Py14.2.1 Py14.2.2.1 ok_t_newBaseLow ok_t_newBaseHigh Py14.2.2.2 ok_t_tape ok_t_newMany ok_t_newWay ok_t_newPush ok_t_newLow ok_t_newHigh ok_t_newHold ok_v1 Py14.1 hs
        · refine g_iconst e_X11_statement_166 ?_
          exact g_X11_statement_167 ao ok_t_taped ok_t_p ok_t_fault ok_t_newBaseLow ok_t_newBaseHigh ok_t_from ok_t_tape ok_t_newMany ok_t_newWay ok_t_newPush ok_t_newLow ok_t_newHigh ok_t_newHold ok_v1 (by decide : inI 0) hs
  · refine g_aload_n e_X11_statement_5 rfl ?_
    refine g_iload_n e_X11_statement_6 rfl ?_
    obtain ⟨y22, hy22, hs⟩ := bind_elim hs
    refine g_callVv [vI v1] cv_X11_234 ⟨rfl, rfl, Nat.le_of_ble_eq_true rfl, Nat.le_of_ble_eq_true rfl⟩ (Ct_heap (ct_X11_wayIn (a_t := a_t) (AO_call [0, 1, 2, 3] ao (by decide) rfl) (FA_call [0, 1, 2, 3] ao.1 rfl rfl) ok_t_taped ok_t_p ok_t_fault ok_t_from ok_t_tape ok_t_newMany ok_t_newWay ok_v1 hy22) (ov_call (esn := [.inr (11, fsX11 a_t t_thrown t_taped y22.1 y22.2.1 t_baseLow t_baseHigh t_newBaseLow t_newBaseHigh y22.2.2.1 t_knots t_lines t_chosen t_undos t_redos t_aimedMany t_fits t_fitOf t_sights t_systems t_own t_cross t_curveLong t_wallFirst), YA E 400 t_tape, IA E 7 t_newMany, IA E 144 y22.2.2.2, IA E 21 t_newPush, IA E 100 t_newLow, IA E 100 t_newHigh, IA E 100 t_newHold]) [0, 1, 2, 3] ao.1 rfl rfl rfl rfl)) e_X11_statement_7 (ao.2 0 _ rfl) (ov_get 0 ao.1 rfl rfl) rfl rfl rfl (Nat.le_of_ble_eq_true rfl) ⟨Nat.le_refl _, Nat.le_refl _⟩ (fun Py22 => ?_)
    refine g_goto e_X11_statement_10 ?_
    exact g_X11_statement_288 ao ok_t_taped Py22.1 Py22.2.1 ok_t_newBaseLow ok_t_newBaseHigh Py22.2.2.1 ok_t_tape ok_t_newMany Py22.2.2.2 ok_t_newPush ok_t_newLow ok_t_newHigh ok_t_newHold ok_v1 hs

noncomputable def m_X11_statement (t_taped : Int) (t_p : Int) (t_fault : Int) (t_newBaseLow : Int) (t_newBaseHigh : Int) (t_from : Int) (t_tape : Nat → Int) (t_newMany : Nat → Int) (t_newWay : Nat → Int) (t_newPush : Nat → Int) (t_newLow : Nat → Int) (t_newHigh : Nat → Int) (t_newHold : Nat → Int) (v1 : Int) : Option (Int × Int × Int × Int × Int × (Nat → Int) × (Nat → Int) × (Nat → Int) × (Nat → Int) × (Nat → Int) × (Nat → Int)) := m_X11_statement_0 t_taped t_p t_fault t_newBaseLow t_newBaseHigh t_from t_tape t_newMany t_newWay t_newPush t_newLow t_newHigh t_newHold v1

set_option maxRecDepth 10000 in
set_option maxHeartbeats 8000000 in
theorem ct_X11_statement {l : Launch} {E : EE} {b0 n : Nat} {h : AH} {a_t : Nat} {t_thrown t_taped t_p t_fault t_baseLow t_baseHigh t_newBaseLow t_newBaseHigh t_from t_knots t_lines t_chosen t_undos t_redos t_aimedMany t_fits t_fitOf t_sights t_systems t_own t_cross t_curveLong t_wallFirst : Int} {t_tape t_newMany t_newWay t_newPush t_newLow t_newHigh t_newHold : Nat → Int} {v1 : Int} (ao : AO b0 n [a_t, (a_t + 1), (a_t + 3), (a_t + 5), (a_t + 7), (a_t + 11), (a_t + 12), (a_t + 13)]) (hf : FA h [a_t, (a_t + 1), (a_t + 3), (a_t + 5), (a_t + 7), (a_t + 11), (a_t + 12), (a_t + 13)] [.inr (11, fsX11 a_t t_thrown t_taped t_p t_fault t_baseLow t_baseHigh t_newBaseLow t_newBaseHigh t_from t_knots t_lines t_chosen t_undos t_redos t_aimedMany t_fits t_fitOf t_sights t_systems t_own t_cross t_curveLong t_wallFirst), YA E 400 t_tape, IA E 7 t_newMany, IA E 144 t_newWay, IA E 21 t_newPush, IA E 100 t_newLow, IA E 100 t_newHigh, IA E 100 t_newHold]) (ok_t_taped : inI t_taped) (ok_t_p : inI t_p) (ok_t_fault : inI t_fault) (ok_t_newBaseLow : inI t_newBaseLow) (ok_t_newBaseHigh : inI t_newBaseHigh) (ok_t_from : inI t_from) (ok_t_tape : okY t_tape) (ok_t_newMany : okA t_newMany) (ok_t_newWay : okA t_newWay) (ok_t_newPush : okA t_newPush) (ok_t_newLow : okA t_newLow) (ok_t_newHigh : okA t_newHigh) (ok_t_newHold : okA t_newHold) (ok_v1 : inI v1) {r : Int × Int × Int × Int × Int × (Nat → Int) × (Nat → Int) × (Nat → Int) × (Nat → Int) × (Nat → Int) × (Nat → Int)} (hm : m_X11_statement t_taped t_p t_fault t_newBaseLow t_newBaseHigh t_from t_tape t_newMany t_newWay t_newPush t_newLow t_newHigh t_newHold v1 = some r) : Ct l E b0 M_X11_statement 0 0 [.ref a_t, vI v1] h n (none) (ov [a_t, (a_t + 1), (a_t + 3), (a_t + 5), (a_t + 7), (a_t + 11), (a_t + 12), (a_t + 13)] [.inr (11, fsX11 a_t t_thrown t_taped r.1 r.2.1 t_baseLow t_baseHigh r.2.2.1 r.2.2.2.1 r.2.2.2.2.1 t_knots t_lines t_chosen t_undos t_redos t_aimedMany t_fits t_fitOf t_sights t_systems t_own t_cross t_curveLong t_wallFirst), YA E 400 t_tape, IA E 7 r.2.2.2.2.2.1, IA E 144 r.2.2.2.2.2.2.1, IA E 21 r.2.2.2.2.2.2.2.1, IA E 100 r.2.2.2.2.2.2.2.2.1, IA E 100 r.2.2.2.2.2.2.2.2.2.1, IA E 100 r.2.2.2.2.2.2.2.2.2.2] h) n (inI r.1 ∧ inI r.2.1 ∧ inI r.2.2.1 ∧ inI r.2.2.2.1 ∧ inI r.2.2.2.2.1 ∧ okA r.2.2.2.2.2.1 ∧ okA r.2.2.2.2.2.2.1 ∧ okA r.2.2.2.2.2.2.2.1 ∧ okA r.2.2.2.2.2.2.2.2.1 ∧ okA r.2.2.2.2.2.2.2.2.2.1 ∧ okA r.2.2.2.2.2.2.2.2.2.2) := by
  rw [m_X11_statement] at hm
  have hg : G l E b0 M_X11_statement (fun _ => True) (ZM E b0 (none) (ov [a_t, (a_t + 1), (a_t + 3), (a_t + 5), (a_t + 7), (a_t + 11), (a_t + 12), (a_t + 13)] [.inr (11, fsX11 a_t t_thrown t_taped r.1 r.2.1 t_baseLow t_baseHigh r.2.2.1 r.2.2.2.1 r.2.2.2.2.1 t_knots t_lines t_chosen t_undos t_redos t_aimedMany t_fits t_fitOf t_sights t_systems t_own t_cross t_curveLong t_wallFirst), YA E 400 t_tape, IA E 7 r.2.2.2.2.2.1, IA E 144 r.2.2.2.2.2.2.1, IA E 21 r.2.2.2.2.2.2.2.1, IA E 100 r.2.2.2.2.2.2.2.2.1, IA E 100 r.2.2.2.2.2.2.2.2.2.1, IA E 100 r.2.2.2.2.2.2.2.2.2.2] h) n (inI r.1 ∧ inI r.2.1 ∧ inI r.2.2.1 ∧ inI r.2.2.2.1 ∧ inI r.2.2.2.2.1 ∧ okA r.2.2.2.2.2.1 ∧ okA r.2.2.2.2.2.2.1 ∧ okA r.2.2.2.2.2.2.2.1 ∧ okA r.2.2.2.2.2.2.2.2.1 ∧ okA r.2.2.2.2.2.2.2.2.2.1 ∧ okA r.2.2.2.2.2.2.2.2.2.2) 0 0) 0 0 n (ov [a_t, (a_t + 1), (a_t + 3), (a_t + 5), (a_t + 7), (a_t + 11), (a_t + 12), (a_t + 13)] [.inr (11, fsX11 a_t t_thrown t_taped t_p t_fault t_baseLow t_baseHigh t_newBaseLow t_newBaseHigh t_from t_knots t_lines t_chosen t_undos t_redos t_aimedMany t_fits t_fitOf t_sights t_systems t_own t_cross t_curveLong t_wallFirst), YA E 400 t_tape, IA E 7 t_newMany, IA E 144 t_newWay, IA E 21 t_newPush, IA E 100 t_newLow, IA E 100 t_newHigh, IA E 100 t_newHold] h) 0 [some (.ref a_t), some (vI v1), none, none, none] [] := by
    have hs := hm
    exact g_X11_statement_0 ao ok_t_taped ok_t_p ok_t_fault ok_t_newBaseLow ok_t_newBaseHigh ok_t_from ok_t_tape ok_t_newMany ok_t_newWay ok_t_newPush ok_t_newLow ok_t_newHigh ok_t_newHold ok_v1 hs
  rw [FA_id hf] at hg
  exact Ct_of [some (.ref a_t), some (vI v1), none, none, none] ⟨by decide +kernel, rfl⟩ rfl (Nat.le_of_ble_eq_true rfl) hg

/-! ===== X11_comes ===== -/
theorem e_X11_comes_0 : DC cX11_comes 0 (.iconst 0) 1 1 := ⟨by decide +kernel, rfl⟩
theorem e_X11_comes_1 : DC cX11_comes 1 (.istore_n 1) 1 2 := ⟨by decide +kernel, rfl⟩
theorem e_X11_comes_2 : DC cX11_comes 2 (.iload_n 1) 1 3 := ⟨by decide +kernel, rfl⟩
theorem e_X11_comes_3 : DC cX11_comes 3 (.bipush 7) 2 5 := ⟨by decide +kernel, rfl⟩
theorem e_X11_comes_5 : DB cX11_comes 5 (.if_icmp .ge 21) (21) 3 8 26 := ⟨by decide +kernel, rfl, rfl⟩
theorem e_X11_comes_8 : DC cX11_comes 8 (.aload_n 0) 1 9 := ⟨by decide +kernel, rfl⟩
theorem e_X11_comes_9 : DC cX11_comes 9 (.getfield 13) 3 12 := ⟨by decide +kernel, rfl⟩
theorem e_X11_comes_12 : DC cX11_comes 12 (.iload_n 1) 1 13 := ⟨by decide +kernel, rfl⟩
theorem e_X11_comes_13 : DC cX11_comes 13 (.aload_n 0) 1 14 := ⟨by decide +kernel, rfl⟩
theorem e_X11_comes_14 : DC cX11_comes 14 (.getfield 17) 3 17 := ⟨by decide +kernel, rfl⟩
theorem e_X11_comes_17 : DC cX11_comes 17 (.iload_n 1) 1 18 := ⟨by decide +kernel, rfl⟩
theorem e_X11_comes_18 : DC cX11_comes 18 (.iaload) 1 19 := ⟨by decide +kernel, rfl⟩
theorem e_X11_comes_19 : DC cX11_comes 19 (.iastore) 1 20 := ⟨by decide +kernel, rfl⟩
theorem e_X11_comes_20 : DC cX11_comes 20 (.iinc 1 1) 3 23 := ⟨by decide +kernel, rfl⟩
theorem e_X11_comes_23 : DB cX11_comes 23 (.goto (-21)) (-21) 3 26 2 := ⟨by decide +kernel, rfl, rfl⟩
theorem e_X11_comes_26 : DC cX11_comes 26 (.iconst 0) 1 27 := ⟨by decide +kernel, rfl⟩
theorem e_X11_comes_27 : DC cX11_comes 27 (.istore_n 1) 1 28 := ⟨by decide +kernel, rfl⟩
theorem e_X11_comes_28 : DC cX11_comes 28 (.iload_n 1) 1 29 := ⟨by decide +kernel, rfl⟩
theorem e_X11_comes_29 : DC cX11_comes 29 (.sipush 144) 3 32 := ⟨by decide +kernel, rfl⟩
theorem e_X11_comes_32 : DB cX11_comes 32 (.if_icmp .ge 21) (21) 3 35 53 := ⟨by decide +kernel, rfl, rfl⟩
theorem e_X11_comes_35 : DC cX11_comes 35 (.aload_n 0) 1 36 := ⟨by decide +kernel, rfl⟩
theorem e_X11_comes_36 : DC cX11_comes 36 (.getfield 20) 3 39 := ⟨by decide +kernel, rfl⟩
theorem e_X11_comes_39 : DC cX11_comes 39 (.iload_n 1) 1 40 := ⟨by decide +kernel, rfl⟩
theorem e_X11_comes_40 : DC cX11_comes 40 (.aload_n 0) 1 41 := ⟨by decide +kernel, rfl⟩
theorem e_X11_comes_41 : DC cX11_comes 41 (.getfield 23) 3 44 := ⟨by decide +kernel, rfl⟩
theorem e_X11_comes_44 : DC cX11_comes 44 (.iload_n 1) 1 45 := ⟨by decide +kernel, rfl⟩
theorem e_X11_comes_45 : DC cX11_comes 45 (.iaload) 1 46 := ⟨by decide +kernel, rfl⟩
theorem e_X11_comes_46 : DC cX11_comes 46 (.iastore) 1 47 := ⟨by decide +kernel, rfl⟩
theorem e_X11_comes_47 : DC cX11_comes 47 (.iinc 1 1) 3 50 := ⟨by decide +kernel, rfl⟩
theorem e_X11_comes_50 : DB cX11_comes 50 (.goto (-22)) (-22) 3 53 28 := ⟨by decide +kernel, rfl, rfl⟩
theorem e_X11_comes_53 : DC cX11_comes 53 (.iconst 0) 1 54 := ⟨by decide +kernel, rfl⟩
theorem e_X11_comes_54 : DC cX11_comes 54 (.istore_n 1) 1 55 := ⟨by decide +kernel, rfl⟩
theorem e_X11_comes_55 : DC cX11_comes 55 (.iload_n 1) 1 56 := ⟨by decide +kernel, rfl⟩
theorem e_X11_comes_56 : DC cX11_comes 56 (.bipush 21) 2 58 := ⟨by decide +kernel, rfl⟩
theorem e_X11_comes_58 : DB cX11_comes 58 (.if_icmp .ge 35) (35) 3 61 93 := ⟨by decide +kernel, rfl, rfl⟩
theorem e_X11_comes_61 : DC cX11_comes 61 (.aload_n 0) 1 62 := ⟨by decide +kernel, rfl⟩
theorem e_X11_comes_62 : DC cX11_comes 62 (.getfield 26) 3 65 := ⟨by decide +kernel, rfl⟩
theorem e_X11_comes_65 : DC cX11_comes 65 (.iload_n 1) 1 66 := ⟨by decide +kernel, rfl⟩
theorem e_X11_comes_66 : DC cX11_comes 66 (.aload_n 0) 1 67 := ⟨by decide +kernel, rfl⟩
theorem e_X11_comes_67 : DC cX11_comes 67 (.getfield 29) 3 70 := ⟨by decide +kernel, rfl⟩
theorem e_X11_comes_70 : DC cX11_comes 70 (.iload_n 1) 1 71 := ⟨by decide +kernel, rfl⟩
theorem e_X11_comes_71 : DC cX11_comes 71 (.iaload) 1 72 := ⟨by decide +kernel, rfl⟩
theorem e_X11_comes_72 : DC cX11_comes 72 (.iconst (-1)) 1 73 := ⟨by decide +kernel, rfl⟩
theorem e_X11_comes_73 : DB cX11_comes 73 (.if_icmp .ne 7) (7) 3 76 80 := ⟨by decide +kernel, rfl, rfl⟩
theorem e_X11_comes_76 : DC cX11_comes 76 (.iconst 0) 1 77 := ⟨by decide +kernel, rfl⟩
theorem e_X11_comes_77 : DB cX11_comes 77 (.goto 9) (9) 3 80 86 := ⟨by decide +kernel, rfl, rfl⟩
theorem e_X11_comes_80 : DC cX11_comes 80 (.aload_n 0) 1 81 := ⟨by decide +kernel, rfl⟩
theorem e_X11_comes_81 : DC cX11_comes 81 (.getfield 29) 3 84 := ⟨by decide +kernel, rfl⟩
theorem e_X11_comes_84 : DC cX11_comes 84 (.iload_n 1) 1 85 := ⟨by decide +kernel, rfl⟩
theorem e_X11_comes_85 : DC cX11_comes 85 (.iaload) 1 86 := ⟨by decide +kernel, rfl⟩
theorem e_X11_comes_86 : DC cX11_comes 86 (.iastore) 1 87 := ⟨by decide +kernel, rfl⟩
theorem e_X11_comes_87 : DC cX11_comes 87 (.iinc 1 1) 3 90 := ⟨by decide +kernel, rfl⟩
theorem e_X11_comes_90 : DB cX11_comes 90 (.goto (-35)) (-35) 3 93 55 := ⟨by decide +kernel, rfl, rfl⟩
theorem e_X11_comes_93 : DC cX11_comes 93 (.iconst 0) 1 94 := ⟨by decide +kernel, rfl⟩
theorem e_X11_comes_94 : DC cX11_comes 94 (.istore_n 1) 1 95 := ⟨by decide +kernel, rfl⟩
theorem e_X11_comes_95 : DC cX11_comes 95 (.iload_n 1) 1 96 := ⟨by decide +kernel, rfl⟩
theorem e_X11_comes_96 : DC cX11_comes 96 (.bipush 100) 2 98 := ⟨by decide +kernel, rfl⟩
theorem e_X11_comes_98 : DB cX11_comes 98 (.if_icmp .ge 45) (45) 3 101 143 := ⟨by decide +kernel, rfl, rfl⟩
theorem e_X11_comes_101 : DC cX11_comes 101 (.aload_n 0) 1 102 := ⟨by decide +kernel, rfl⟩
theorem e_X11_comes_102 : DC cX11_comes 102 (.getfield 32) 3 105 := ⟨by decide +kernel, rfl⟩
theorem e_X11_comes_105 : DC cX11_comes 105 (.iload_n 1) 1 106 := ⟨by decide +kernel, rfl⟩
theorem e_X11_comes_106 : DC cX11_comes 106 (.aload_n 0) 1 107 := ⟨by decide +kernel, rfl⟩
theorem e_X11_comes_107 : DC cX11_comes 107 (.getfield 41) 3 110 := ⟨by decide +kernel, rfl⟩
theorem e_X11_comes_110 : DC cX11_comes 110 (.iload_n 1) 1 111 := ⟨by decide +kernel, rfl⟩
theorem e_X11_comes_111 : DC cX11_comes 111 (.iaload) 1 112 := ⟨by decide +kernel, rfl⟩
theorem e_X11_comes_112 : DC cX11_comes 112 (.iastore) 1 113 := ⟨by decide +kernel, rfl⟩
theorem e_X11_comes_113 : DC cX11_comes 113 (.aload_n 0) 1 114 := ⟨by decide +kernel, rfl⟩
theorem e_X11_comes_114 : DC cX11_comes 114 (.getfield 35) 3 117 := ⟨by decide +kernel, rfl⟩
theorem e_X11_comes_117 : DC cX11_comes 117 (.iload_n 1) 1 118 := ⟨by decide +kernel, rfl⟩
theorem e_X11_comes_118 : DC cX11_comes 118 (.aload_n 0) 1 119 := ⟨by decide +kernel, rfl⟩
theorem e_X11_comes_119 : DC cX11_comes 119 (.getfield 44) 3 122 := ⟨by decide +kernel, rfl⟩
theorem e_X11_comes_122 : DC cX11_comes 122 (.iload_n 1) 1 123 := ⟨by decide +kernel, rfl⟩
theorem e_X11_comes_123 : DC cX11_comes 123 (.iaload) 1 124 := ⟨by decide +kernel, rfl⟩
theorem e_X11_comes_124 : DC cX11_comes 124 (.iastore) 1 125 := ⟨by decide +kernel, rfl⟩
theorem e_X11_comes_125 : DC cX11_comes 125 (.aload_n 0) 1 126 := ⟨by decide +kernel, rfl⟩
theorem e_X11_comes_126 : DC cX11_comes 126 (.getfield 38) 3 129 := ⟨by decide +kernel, rfl⟩
theorem e_X11_comes_129 : DC cX11_comes 129 (.iload_n 1) 1 130 := ⟨by decide +kernel, rfl⟩
theorem e_X11_comes_130 : DC cX11_comes 130 (.aload_n 0) 1 131 := ⟨by decide +kernel, rfl⟩
theorem e_X11_comes_131 : DC cX11_comes 131 (.getfield 47) 3 134 := ⟨by decide +kernel, rfl⟩
theorem e_X11_comes_134 : DC cX11_comes 134 (.iload_n 1) 1 135 := ⟨by decide +kernel, rfl⟩
theorem e_X11_comes_135 : DC cX11_comes 135 (.iaload) 1 136 := ⟨by decide +kernel, rfl⟩
theorem e_X11_comes_136 : DC cX11_comes 136 (.iastore) 1 137 := ⟨by decide +kernel, rfl⟩
theorem e_X11_comes_137 : DC cX11_comes 137 (.iinc 1 1) 3 140 := ⟨by decide +kernel, rfl⟩
theorem e_X11_comes_140 : DB cX11_comes 140 (.goto (-45)) (-45) 3 143 95 := ⟨by decide +kernel, rfl, rfl⟩
theorem e_X11_comes_143 : DC cX11_comes 143 (.aload_n 0) 1 144 := ⟨by decide +kernel, rfl⟩
theorem e_X11_comes_144 : DC cX11_comes 144 (.aload_n 0) 1 145 := ⟨by decide +kernel, rfl⟩
theorem e_X11_comes_145 : DC cX11_comes 145 (.getfield 237) 3 148 := ⟨by decide +kernel, rfl⟩
theorem e_X11_comes_148 : DC cX11_comes 148 (.putfield 252) 3 151 := ⟨by decide +kernel, rfl⟩
theorem e_X11_comes_151 : DC cX11_comes 151 (.aload_n 0) 1 152 := ⟨by decide +kernel, rfl⟩
theorem e_X11_comes_152 : DC cX11_comes 152 (.aload_n 0) 1 153 := ⟨by decide +kernel, rfl⟩
theorem e_X11_comes_153 : DC cX11_comes 153 (.getfield 240) 3 156 := ⟨by decide +kernel, rfl⟩
theorem e_X11_comes_156 : DC cX11_comes 156 (.putfield 255) 3 159 := ⟨by decide +kernel, rfl⟩
theorem e_X11_comes_159 : DC cX11_comes 159 (.aload_n 0) 1 160 := ⟨by decide +kernel, rfl⟩
theorem e_X11_comes_160 : DC cX11_comes 160 (.iconst 0) 1 161 := ⟨by decide +kernel, rfl⟩
theorem e_X11_comes_161 : DC cX11_comes 161 (.putfield 258) 3 164 := ⟨by decide +kernel, rfl⟩
theorem e_X11_comes_164 : DC cX11_comes 164 (.return_) 1 165 := ⟨by decide +kernel, rfl⟩
noncomputable def m_X11_comes_2 (t_newMany : Nat → Int) (k_26 : (Nat → Int) → Int → Option (Int × Int × Int × (Nat → Int) × (Nat → Int) × (Nat → Int) × (Nat → Int) × (Nat → Int) × (Nat → Int))) : Nat → (Nat → Int) → Int → Option (Int × Int × Int × (Nat → Int) × (Nat → Int) × (Nat → Int) × (Nat → Int) × (Nat → Int) × (Nat → Int))
  | 0, _, _ => none
  | F + 1, t_many, v1 => if 7 ≤ v1 then (k_26 t_many v1) else (chk (inB v1 7) (chk (inB v1 7) (chk (inI (v1 + 1)) (m_X11_comes_2 t_newMany k_26 F (up t_many (Int.toNat v1) (t_newMany (Int.toNat v1))) (v1 + 1)))))

set_option maxRecDepth 10000 in
set_option maxHeartbeats 8000000 in
theorem g_X11_comes_2 {l : Launch} {E : EE} {b0 n : Nat} {h : AH} {a_t : Nat} {t_thrown t_taped t_p t_fault t_baseLow t_baseHigh t_newBaseLow t_newBaseHigh t_from t_knots t_lines t_chosen t_undos t_redos t_aimedMany t_fits t_fitOf t_sights t_systems t_own t_cross t_curveLong t_wallFirst : Int} {t_newMany t_way t_newWay t_push t_newPush t_speckLow t_speckHigh t_sourceHold t_newLow t_newHigh t_newHold : Nat → Int} {r : Int × Int × Int × (Nat → Int) × (Nat → Int) × (Nat → Int) × (Nat → Int) × (Nat → Int) × (Nat → Int)} {k_26 : (Nat → Int) → Int → Option (Int × Int × Int × (Nat → Int) × (Nat → Int) × (Nat → Int) × (Nat → Int) × (Nat → Int) × (Nat → Int))} (ao : AO b0 n [a_t, (a_t + 2), (a_t + 3), (a_t + 4), (a_t + 5), (a_t + 6), (a_t + 7), (a_t + 8), (a_t + 9), (a_t + 10), (a_t + 11), (a_t + 12), (a_t + 13)]) (ok_t_baseLow : inI t_baseLow) (ok_t_baseHigh : inI t_baseHigh) (ok_t_newBaseLow : inI t_newBaseLow) (ok_t_newBaseHigh : inI t_newBaseHigh) (ok_t_sights : inI t_sights) (ok_t_newMany : okA t_newMany) (ok_t_way : okA t_way) (ok_t_newWay : okA t_newWay) (ok_t_push : okA t_push) (ok_t_newPush : okA t_newPush) (ok_t_speckLow : okA t_speckLow) (ok_t_speckHigh : okA t_speckHigh) (ok_t_sourceHold : okA t_sourceHold) (ok_t_newLow : okA t_newLow) (ok_t_newHigh : okA t_newHigh) (ok_t_newHold : okA t_newHold) (hk_26 : ∀ (t_many_ : Nat → Int) (v1_ : Int), okA t_many_ → inI v1_ → k_26 t_many_ v1_ = some r → G l E b0 M_X11_comes (fun _ => True) (ZM E b0 (none) (ov [a_t, (a_t + 2), (a_t + 3), (a_t + 4), (a_t + 5), (a_t + 6), (a_t + 7), (a_t + 8), (a_t + 9), (a_t + 10), (a_t + 11), (a_t + 12), (a_t + 13)] [.inr (11, fsX11 a_t t_thrown t_taped t_p t_fault r.1 r.2.1 t_newBaseLow t_newBaseHigh t_from t_knots t_lines t_chosen t_undos t_redos t_aimedMany t_fits t_fitOf r.2.2.1 t_systems t_own t_cross t_curveLong t_wallFirst), IA E 7 r.2.2.2.1, IA E 7 t_newMany, IA E 144 r.2.2.2.2.1, IA E 144 t_newWay, IA E 21 r.2.2.2.2.2.1, IA E 21 t_newPush, IA E 100 r.2.2.2.2.2.2.1, IA E 100 r.2.2.2.2.2.2.2.1, IA E 100 r.2.2.2.2.2.2.2.2, IA E 100 t_newLow, IA E 100 t_newHigh, IA E 100 t_newHold] h) n (inI r.1 ∧ inI r.2.1 ∧ inI r.2.2.1 ∧ okA r.2.2.2.1 ∧ okA r.2.2.2.2.1 ∧ okA r.2.2.2.2.2.1 ∧ okA r.2.2.2.2.2.2.1 ∧ okA r.2.2.2.2.2.2.2.1 ∧ okA r.2.2.2.2.2.2.2.2) 0 0) 0 0 n (ov [a_t, (a_t + 2), (a_t + 3), (a_t + 4), (a_t + 5), (a_t + 6), (a_t + 7), (a_t + 8), (a_t + 9), (a_t + 10), (a_t + 11), (a_t + 12), (a_t + 13)] [.inr (11, fsX11 a_t t_thrown t_taped t_p t_fault t_baseLow t_baseHigh t_newBaseLow t_newBaseHigh t_from t_knots t_lines t_chosen t_undos t_redos t_aimedMany t_fits t_fitOf t_sights t_systems t_own t_cross t_curveLong t_wallFirst), IA E 7 t_many_, IA E 7 t_newMany, IA E 144 t_way, IA E 144 t_newWay, IA E 21 t_push, IA E 21 t_newPush, IA E 100 t_speckLow, IA E 100 t_speckHigh, IA E 100 t_sourceHold, IA E 100 t_newLow, IA E 100 t_newHigh, IA E 100 t_newHold] h) 26 [some (.ref a_t), none] []) :
    ∀ (F : Nat) (t_many : Nat → Int) (v1 : Int), okA t_many → inI v1 → m_X11_comes_2 t_newMany k_26 F t_many v1 = some r → G l E b0 M_X11_comes (fun _ => True) (ZM E b0 (none) (ov [a_t, (a_t + 2), (a_t + 3), (a_t + 4), (a_t + 5), (a_t + 6), (a_t + 7), (a_t + 8), (a_t + 9), (a_t + 10), (a_t + 11), (a_t + 12), (a_t + 13)] [.inr (11, fsX11 a_t t_thrown t_taped t_p t_fault r.1 r.2.1 t_newBaseLow t_newBaseHigh t_from t_knots t_lines t_chosen t_undos t_redos t_aimedMany t_fits t_fitOf r.2.2.1 t_systems t_own t_cross t_curveLong t_wallFirst), IA E 7 r.2.2.2.1, IA E 7 t_newMany, IA E 144 r.2.2.2.2.1, IA E 144 t_newWay, IA E 21 r.2.2.2.2.2.1, IA E 21 t_newPush, IA E 100 r.2.2.2.2.2.2.1, IA E 100 r.2.2.2.2.2.2.2.1, IA E 100 r.2.2.2.2.2.2.2.2, IA E 100 t_newLow, IA E 100 t_newHigh, IA E 100 t_newHold] h) n (inI r.1 ∧ inI r.2.1 ∧ inI r.2.2.1 ∧ okA r.2.2.2.1 ∧ okA r.2.2.2.2.1 ∧ okA r.2.2.2.2.2.1 ∧ okA r.2.2.2.2.2.2.1 ∧ okA r.2.2.2.2.2.2.2.1 ∧ okA r.2.2.2.2.2.2.2.2) 0 0) 0 0 n (ov [a_t, (a_t + 2), (a_t + 3), (a_t + 4), (a_t + 5), (a_t + 6), (a_t + 7), (a_t + 8), (a_t + 9), (a_t + 10), (a_t + 11), (a_t + 12), (a_t + 13)] [.inr (11, fsX11 a_t t_thrown t_taped t_p t_fault t_baseLow t_baseHigh t_newBaseLow t_newBaseHigh t_from t_knots t_lines t_chosen t_undos t_redos t_aimedMany t_fits t_fitOf t_sights t_systems t_own t_cross t_curveLong t_wallFirst), IA E 7 t_many, IA E 7 t_newMany, IA E 144 t_way, IA E 144 t_newWay, IA E 21 t_push, IA E 21 t_newPush, IA E 100 t_speckLow, IA E 100 t_speckHigh, IA E 100 t_sourceHold, IA E 100 t_newLow, IA E 100 t_newHigh, IA E 100 t_newHold] h) 2 [some (.ref a_t), some (vI v1)] [] := by
  intro F
  induction F with
  | zero =>
    intro t_many v1 ok_t_many ok_v1 hs
    rw [m_X11_comes_2] at hs
    cases hs
  | succ F ih =>
    intro t_many v1 ok_t_many ok_v1 hs
    rw [m_X11_comes_2] at hs
    refine g_iload_n e_X11_comes_2 rfl ?_
    refine g_bipush e_X11_comes_3 bp_7 ?_
    refine g_icmp_ge e_X11_comes_5 ok_v1 (by decide : inI 7) hs (fun c5 hs => ?_) (fun c5 hs => ?_)
    · exact g_mask [true, false] (hk_26 _ _ ok_t_many ok_v1 hs)
    · refine g_aload_n e_X11_comes_8 rfl ?_
      refine g_get 0 5 ao rfl rfl fsX11_g5 fl_X11_13 e_X11_comes_9 ?_
      refine g_iload_n e_X11_comes_12 rfl ?_
      refine g_aload_n e_X11_comes_13 rfl ?_
      refine g_get 0 6 ao rfl rfl fsX11_g6 fl_X11_17 e_X11_comes_14 ?_
      refine g_iload_n e_X11_comes_17 rfl ?_
      refine g_iald 2 ao rfl rfl (Nat.le_of_ble_eq_true rfl) e_X11_comes_18 hs (fun hi1 hs => ?_)
      refine g_iast 1 ao rfl rfl ls_1 (Nat.le_of_ble_eq_true rfl) e_X11_comes_19 hs (fun hi2 hs => ?_)
      refine g_iinc e_X11_comes_20 rfl st1_1 rfl ?_
      refine g_goto e_X11_comes_23 ?_
      obtain ⟨hc3, hs⟩ := chk_elim hs
      exact ih _ _ (okA_up ok_t_many (ok_t_newMany _)) hc3 hs

noncomputable def m_X11_comes_28 (t_newWay : Nat → Int) (k_53 : (Nat → Int) → Int → Option (Int × Int × Int × (Nat → Int) × (Nat → Int) × (Nat → Int) × (Nat → Int) × (Nat → Int) × (Nat → Int))) : Nat → (Nat → Int) → Int → Option (Int × Int × Int × (Nat → Int) × (Nat → Int) × (Nat → Int) × (Nat → Int) × (Nat → Int) × (Nat → Int))
  | 0, _, _ => none
  | F + 1, t_way, v1 => if 144 ≤ v1 then (k_53 t_way v1) else (chk (inB v1 144) (chk (inB v1 144) (chk (inI (v1 + 1)) (m_X11_comes_28 t_newWay k_53 F (up t_way (Int.toNat v1) (t_newWay (Int.toNat v1))) (v1 + 1)))))

set_option maxRecDepth 10000 in
set_option maxHeartbeats 8000000 in
theorem g_X11_comes_28 {l : Launch} {E : EE} {b0 n : Nat} {h : AH} {a_t : Nat} {t_thrown t_taped t_p t_fault t_baseLow t_baseHigh t_newBaseLow t_newBaseHigh t_from t_knots t_lines t_chosen t_undos t_redos t_aimedMany t_fits t_fitOf t_sights t_systems t_own t_cross t_curveLong t_wallFirst : Int} {t_many t_newMany t_newWay t_push t_newPush t_speckLow t_speckHigh t_sourceHold t_newLow t_newHigh t_newHold : Nat → Int} {r : Int × Int × Int × (Nat → Int) × (Nat → Int) × (Nat → Int) × (Nat → Int) × (Nat → Int) × (Nat → Int)} {k_53 : (Nat → Int) → Int → Option (Int × Int × Int × (Nat → Int) × (Nat → Int) × (Nat → Int) × (Nat → Int) × (Nat → Int) × (Nat → Int))} (ao : AO b0 n [a_t, (a_t + 2), (a_t + 3), (a_t + 4), (a_t + 5), (a_t + 6), (a_t + 7), (a_t + 8), (a_t + 9), (a_t + 10), (a_t + 11), (a_t + 12), (a_t + 13)]) (ok_t_baseLow : inI t_baseLow) (ok_t_baseHigh : inI t_baseHigh) (ok_t_newBaseLow : inI t_newBaseLow) (ok_t_newBaseHigh : inI t_newBaseHigh) (ok_t_sights : inI t_sights) (ok_t_many : okA t_many) (ok_t_newMany : okA t_newMany) (ok_t_newWay : okA t_newWay) (ok_t_push : okA t_push) (ok_t_newPush : okA t_newPush) (ok_t_speckLow : okA t_speckLow) (ok_t_speckHigh : okA t_speckHigh) (ok_t_sourceHold : okA t_sourceHold) (ok_t_newLow : okA t_newLow) (ok_t_newHigh : okA t_newHigh) (ok_t_newHold : okA t_newHold) (hk_53 : ∀ (t_way_ : Nat → Int) (v1_ : Int), okA t_way_ → inI v1_ → k_53 t_way_ v1_ = some r → G l E b0 M_X11_comes (fun _ => True) (ZM E b0 (none) (ov [a_t, (a_t + 2), (a_t + 3), (a_t + 4), (a_t + 5), (a_t + 6), (a_t + 7), (a_t + 8), (a_t + 9), (a_t + 10), (a_t + 11), (a_t + 12), (a_t + 13)] [.inr (11, fsX11 a_t t_thrown t_taped t_p t_fault r.1 r.2.1 t_newBaseLow t_newBaseHigh t_from t_knots t_lines t_chosen t_undos t_redos t_aimedMany t_fits t_fitOf r.2.2.1 t_systems t_own t_cross t_curveLong t_wallFirst), IA E 7 r.2.2.2.1, IA E 7 t_newMany, IA E 144 r.2.2.2.2.1, IA E 144 t_newWay, IA E 21 r.2.2.2.2.2.1, IA E 21 t_newPush, IA E 100 r.2.2.2.2.2.2.1, IA E 100 r.2.2.2.2.2.2.2.1, IA E 100 r.2.2.2.2.2.2.2.2, IA E 100 t_newLow, IA E 100 t_newHigh, IA E 100 t_newHold] h) n (inI r.1 ∧ inI r.2.1 ∧ inI r.2.2.1 ∧ okA r.2.2.2.1 ∧ okA r.2.2.2.2.1 ∧ okA r.2.2.2.2.2.1 ∧ okA r.2.2.2.2.2.2.1 ∧ okA r.2.2.2.2.2.2.2.1 ∧ okA r.2.2.2.2.2.2.2.2) 0 0) 0 0 n (ov [a_t, (a_t + 2), (a_t + 3), (a_t + 4), (a_t + 5), (a_t + 6), (a_t + 7), (a_t + 8), (a_t + 9), (a_t + 10), (a_t + 11), (a_t + 12), (a_t + 13)] [.inr (11, fsX11 a_t t_thrown t_taped t_p t_fault t_baseLow t_baseHigh t_newBaseLow t_newBaseHigh t_from t_knots t_lines t_chosen t_undos t_redos t_aimedMany t_fits t_fitOf t_sights t_systems t_own t_cross t_curveLong t_wallFirst), IA E 7 t_many, IA E 7 t_newMany, IA E 144 t_way_, IA E 144 t_newWay, IA E 21 t_push, IA E 21 t_newPush, IA E 100 t_speckLow, IA E 100 t_speckHigh, IA E 100 t_sourceHold, IA E 100 t_newLow, IA E 100 t_newHigh, IA E 100 t_newHold] h) 53 [some (.ref a_t), none] []) :
    ∀ (F : Nat) (t_way : Nat → Int) (v1 : Int), okA t_way → inI v1 → m_X11_comes_28 t_newWay k_53 F t_way v1 = some r → G l E b0 M_X11_comes (fun _ => True) (ZM E b0 (none) (ov [a_t, (a_t + 2), (a_t + 3), (a_t + 4), (a_t + 5), (a_t + 6), (a_t + 7), (a_t + 8), (a_t + 9), (a_t + 10), (a_t + 11), (a_t + 12), (a_t + 13)] [.inr (11, fsX11 a_t t_thrown t_taped t_p t_fault r.1 r.2.1 t_newBaseLow t_newBaseHigh t_from t_knots t_lines t_chosen t_undos t_redos t_aimedMany t_fits t_fitOf r.2.2.1 t_systems t_own t_cross t_curveLong t_wallFirst), IA E 7 r.2.2.2.1, IA E 7 t_newMany, IA E 144 r.2.2.2.2.1, IA E 144 t_newWay, IA E 21 r.2.2.2.2.2.1, IA E 21 t_newPush, IA E 100 r.2.2.2.2.2.2.1, IA E 100 r.2.2.2.2.2.2.2.1, IA E 100 r.2.2.2.2.2.2.2.2, IA E 100 t_newLow, IA E 100 t_newHigh, IA E 100 t_newHold] h) n (inI r.1 ∧ inI r.2.1 ∧ inI r.2.2.1 ∧ okA r.2.2.2.1 ∧ okA r.2.2.2.2.1 ∧ okA r.2.2.2.2.2.1 ∧ okA r.2.2.2.2.2.2.1 ∧ okA r.2.2.2.2.2.2.2.1 ∧ okA r.2.2.2.2.2.2.2.2) 0 0) 0 0 n (ov [a_t, (a_t + 2), (a_t + 3), (a_t + 4), (a_t + 5), (a_t + 6), (a_t + 7), (a_t + 8), (a_t + 9), (a_t + 10), (a_t + 11), (a_t + 12), (a_t + 13)] [.inr (11, fsX11 a_t t_thrown t_taped t_p t_fault t_baseLow t_baseHigh t_newBaseLow t_newBaseHigh t_from t_knots t_lines t_chosen t_undos t_redos t_aimedMany t_fits t_fitOf t_sights t_systems t_own t_cross t_curveLong t_wallFirst), IA E 7 t_many, IA E 7 t_newMany, IA E 144 t_way, IA E 144 t_newWay, IA E 21 t_push, IA E 21 t_newPush, IA E 100 t_speckLow, IA E 100 t_speckHigh, IA E 100 t_sourceHold, IA E 100 t_newLow, IA E 100 t_newHigh, IA E 100 t_newHold] h) 28 [some (.ref a_t), some (vI v1)] [] := by
  intro F
  induction F with
  | zero =>
    intro t_way v1 ok_t_way ok_v1 hs
    rw [m_X11_comes_28] at hs
    cases hs
  | succ F ih =>
    intro t_way v1 ok_t_way ok_v1 hs
    rw [m_X11_comes_28] at hs
    refine g_iload_n e_X11_comes_28 rfl ?_
    refine g_sipush e_X11_comes_29 sp_144 ?_
    refine g_icmp_ge e_X11_comes_32 ok_v1 (by decide : inI 144) hs (fun c32 hs => ?_) (fun c32 hs => ?_)
    · exact g_mask [true, false] (hk_53 _ _ ok_t_way ok_v1 hs)
    · refine g_aload_n e_X11_comes_35 rfl ?_
      refine g_get 0 7 ao rfl rfl fsX11_g7 fl_X11_20 e_X11_comes_36 ?_
      refine g_iload_n e_X11_comes_39 rfl ?_
      refine g_aload_n e_X11_comes_40 rfl ?_
      refine g_get 0 8 ao rfl rfl fsX11_g8 fl_X11_23 e_X11_comes_41 ?_
      refine g_iload_n e_X11_comes_44 rfl ?_
      refine g_iald 4 ao rfl rfl (Nat.le_of_ble_eq_true rfl) e_X11_comes_45 hs (fun hi4 hs => ?_)
      refine g_iast 3 ao rfl rfl ls_3 (Nat.le_of_ble_eq_true rfl) e_X11_comes_46 hs (fun hi5 hs => ?_)
      refine g_iinc e_X11_comes_47 rfl st1_1 rfl ?_
      refine g_goto e_X11_comes_50 ?_
      obtain ⟨hc6, hs⟩ := chk_elim hs
      exact ih _ _ (okA_up ok_t_way (ok_t_newWay _)) hc6 hs

noncomputable def m_X11_comes_86 (t_push : Nat → Int) (t_newPush : Nat → Int) (v1 : Int) (s1 : Int) (s2 : Int) (ag : (Nat → Int) → Int → Option (Int × Int × Int × (Nat → Int) × (Nat → Int) × (Nat → Int) × (Nat → Int) × (Nat → Int) × (Nat → Int))) (k_93 : (Nat → Int) → Int → Option (Int × Int × Int × (Nat → Int) × (Nat → Int) × (Nat → Int) × (Nat → Int) × (Nat → Int) × (Nat → Int))) : Option (Int × Int × Int × (Nat → Int) × (Nat → Int) × (Nat → Int) × (Nat → Int) × (Nat → Int) × (Nat → Int)) :=
  chk (inB s1 21) (chk (inI (v1 + 1)) (ag (up t_push (Int.toNat s1) s2) (v1 + 1)))

set_option maxRecDepth 10000 in
set_option maxHeartbeats 8000000 in
theorem g_X11_comes_86 {l : Launch} {E : EE} {b0 n : Nat} {h : AH} {a_t : Nat} {t_thrown t_taped t_p t_fault t_baseLow t_baseHigh t_newBaseLow t_newBaseHigh t_from t_knots t_lines t_chosen t_undos t_redos t_aimedMany t_fits t_fitOf t_sights t_systems t_own t_cross t_curveLong t_wallFirst v1 s1 s2 : Int} {t_many t_newMany t_way t_newWay t_push t_newPush t_speckLow t_speckHigh t_sourceHold t_newLow t_newHigh t_newHold : Nat → Int} {r : Int × Int × Int × (Nat → Int) × (Nat → Int) × (Nat → Int) × (Nat → Int) × (Nat → Int) × (Nat → Int)} {ag : (Nat → Int) → Int → Option (Int × Int × Int × (Nat → Int) × (Nat → Int) × (Nat → Int) × (Nat → Int) × (Nat → Int) × (Nat → Int))} {k_93 : (Nat → Int) → Int → Option (Int × Int × Int × (Nat → Int) × (Nat → Int) × (Nat → Int) × (Nat → Int) × (Nat → Int) × (Nat → Int))} (ao : AO b0 n [a_t, (a_t + 2), (a_t + 3), (a_t + 4), (a_t + 5), (a_t + 6), (a_t + 7), (a_t + 8), (a_t + 9), (a_t + 10), (a_t + 11), (a_t + 12), (a_t + 13)]) (ok_t_baseLow : inI t_baseLow) (ok_t_baseHigh : inI t_baseHigh) (ok_t_newBaseLow : inI t_newBaseLow) (ok_t_newBaseHigh : inI t_newBaseHigh) (ok_t_sights : inI t_sights) (ok_t_many : okA t_many) (ok_t_newMany : okA t_newMany) (ok_t_way : okA t_way) (ok_t_newWay : okA t_newWay) (ok_t_push : okA t_push) (ok_t_newPush : okA t_newPush) (ok_t_speckLow : okA t_speckLow) (ok_t_speckHigh : okA t_speckHigh) (ok_t_sourceHold : okA t_sourceHold) (ok_t_newLow : okA t_newLow) (ok_t_newHigh : okA t_newHigh) (ok_t_newHold : okA t_newHold) (ok_v1 : inI v1) (ok_s1 : inI s1) (ok_s2 : inI s2) (hag : ∀ (t_push_ : Nat → Int) (v1_ : Int), okA t_push_ → inI v1_ → ag t_push_ v1_ = some r → G l E b0 M_X11_comes (fun _ => True) (ZM E b0 (none) (ov [a_t, (a_t + 2), (a_t + 3), (a_t + 4), (a_t + 5), (a_t + 6), (a_t + 7), (a_t + 8), (a_t + 9), (a_t + 10), (a_t + 11), (a_t + 12), (a_t + 13)] [.inr (11, fsX11 a_t t_thrown t_taped t_p t_fault r.1 r.2.1 t_newBaseLow t_newBaseHigh t_from t_knots t_lines t_chosen t_undos t_redos t_aimedMany t_fits t_fitOf r.2.2.1 t_systems t_own t_cross t_curveLong t_wallFirst), IA E 7 r.2.2.2.1, IA E 7 t_newMany, IA E 144 r.2.2.2.2.1, IA E 144 t_newWay, IA E 21 r.2.2.2.2.2.1, IA E 21 t_newPush, IA E 100 r.2.2.2.2.2.2.1, IA E 100 r.2.2.2.2.2.2.2.1, IA E 100 r.2.2.2.2.2.2.2.2, IA E 100 t_newLow, IA E 100 t_newHigh, IA E 100 t_newHold] h) n (inI r.1 ∧ inI r.2.1 ∧ inI r.2.2.1 ∧ okA r.2.2.2.1 ∧ okA r.2.2.2.2.1 ∧ okA r.2.2.2.2.2.1 ∧ okA r.2.2.2.2.2.2.1 ∧ okA r.2.2.2.2.2.2.2.1 ∧ okA r.2.2.2.2.2.2.2.2) 0 0) 0 0 n (ov [a_t, (a_t + 2), (a_t + 3), (a_t + 4), (a_t + 5), (a_t + 6), (a_t + 7), (a_t + 8), (a_t + 9), (a_t + 10), (a_t + 11), (a_t + 12), (a_t + 13)] [.inr (11, fsX11 a_t t_thrown t_taped t_p t_fault t_baseLow t_baseHigh t_newBaseLow t_newBaseHigh t_from t_knots t_lines t_chosen t_undos t_redos t_aimedMany t_fits t_fitOf t_sights t_systems t_own t_cross t_curveLong t_wallFirst), IA E 7 t_many, IA E 7 t_newMany, IA E 144 t_way, IA E 144 t_newWay, IA E 21 t_push_, IA E 21 t_newPush, IA E 100 t_speckLow, IA E 100 t_speckHigh, IA E 100 t_sourceHold, IA E 100 t_newLow, IA E 100 t_newHigh, IA E 100 t_newHold] h) 55 [some (.ref a_t), some (vI v1_)] []) (hk_93 : ∀ (t_push_ : Nat → Int) (v1_ : Int), okA t_push_ → inI v1_ → k_93 t_push_ v1_ = some r → G l E b0 M_X11_comes (fun _ => True) (ZM E b0 (none) (ov [a_t, (a_t + 2), (a_t + 3), (a_t + 4), (a_t + 5), (a_t + 6), (a_t + 7), (a_t + 8), (a_t + 9), (a_t + 10), (a_t + 11), (a_t + 12), (a_t + 13)] [.inr (11, fsX11 a_t t_thrown t_taped t_p t_fault r.1 r.2.1 t_newBaseLow t_newBaseHigh t_from t_knots t_lines t_chosen t_undos t_redos t_aimedMany t_fits t_fitOf r.2.2.1 t_systems t_own t_cross t_curveLong t_wallFirst), IA E 7 r.2.2.2.1, IA E 7 t_newMany, IA E 144 r.2.2.2.2.1, IA E 144 t_newWay, IA E 21 r.2.2.2.2.2.1, IA E 21 t_newPush, IA E 100 r.2.2.2.2.2.2.1, IA E 100 r.2.2.2.2.2.2.2.1, IA E 100 r.2.2.2.2.2.2.2.2, IA E 100 t_newLow, IA E 100 t_newHigh, IA E 100 t_newHold] h) n (inI r.1 ∧ inI r.2.1 ∧ inI r.2.2.1 ∧ okA r.2.2.2.1 ∧ okA r.2.2.2.2.1 ∧ okA r.2.2.2.2.2.1 ∧ okA r.2.2.2.2.2.2.1 ∧ okA r.2.2.2.2.2.2.2.1 ∧ okA r.2.2.2.2.2.2.2.2) 0 0) 0 0 n (ov [a_t, (a_t + 2), (a_t + 3), (a_t + 4), (a_t + 5), (a_t + 6), (a_t + 7), (a_t + 8), (a_t + 9), (a_t + 10), (a_t + 11), (a_t + 12), (a_t + 13)] [.inr (11, fsX11 a_t t_thrown t_taped t_p t_fault t_baseLow t_baseHigh t_newBaseLow t_newBaseHigh t_from t_knots t_lines t_chosen t_undos t_redos t_aimedMany t_fits t_fitOf t_sights t_systems t_own t_cross t_curveLong t_wallFirst), IA E 7 t_many, IA E 7 t_newMany, IA E 144 t_way, IA E 144 t_newWay, IA E 21 t_push_, IA E 21 t_newPush, IA E 100 t_speckLow, IA E 100 t_speckHigh, IA E 100 t_sourceHold, IA E 100 t_newLow, IA E 100 t_newHigh, IA E 100 t_newHold] h) 93 [some (.ref a_t), none] []) (hs : m_X11_comes_86 t_push t_newPush v1 s1 s2 ag k_93 = some r) : G l E b0 M_X11_comes (fun _ => True) (ZM E b0 (none) (ov [a_t, (a_t + 2), (a_t + 3), (a_t + 4), (a_t + 5), (a_t + 6), (a_t + 7), (a_t + 8), (a_t + 9), (a_t + 10), (a_t + 11), (a_t + 12), (a_t + 13)] [.inr (11, fsX11 a_t t_thrown t_taped t_p t_fault r.1 r.2.1 t_newBaseLow t_newBaseHigh t_from t_knots t_lines t_chosen t_undos t_redos t_aimedMany t_fits t_fitOf r.2.2.1 t_systems t_own t_cross t_curveLong t_wallFirst), IA E 7 r.2.2.2.1, IA E 7 t_newMany, IA E 144 r.2.2.2.2.1, IA E 144 t_newWay, IA E 21 r.2.2.2.2.2.1, IA E 21 t_newPush, IA E 100 r.2.2.2.2.2.2.1, IA E 100 r.2.2.2.2.2.2.2.1, IA E 100 r.2.2.2.2.2.2.2.2, IA E 100 t_newLow, IA E 100 t_newHigh, IA E 100 t_newHold] h) n (inI r.1 ∧ inI r.2.1 ∧ inI r.2.2.1 ∧ okA r.2.2.2.1 ∧ okA r.2.2.2.2.1 ∧ okA r.2.2.2.2.2.1 ∧ okA r.2.2.2.2.2.2.1 ∧ okA r.2.2.2.2.2.2.2.1 ∧ okA r.2.2.2.2.2.2.2.2) 0 0) 0 0 n (ov [a_t, (a_t + 2), (a_t + 3), (a_t + 4), (a_t + 5), (a_t + 6), (a_t + 7), (a_t + 8), (a_t + 9), (a_t + 10), (a_t + 11), (a_t + 12), (a_t + 13)] [.inr (11, fsX11 a_t t_thrown t_taped t_p t_fault t_baseLow t_baseHigh t_newBaseLow t_newBaseHigh t_from t_knots t_lines t_chosen t_undos t_redos t_aimedMany t_fits t_fitOf t_sights t_systems t_own t_cross t_curveLong t_wallFirst), IA E 7 t_many, IA E 7 t_newMany, IA E 144 t_way, IA E 144 t_newWay, IA E 21 t_push, IA E 21 t_newPush, IA E 100 t_speckLow, IA E 100 t_speckHigh, IA E 100 t_sourceHold, IA E 100 t_newLow, IA E 100 t_newHigh, IA E 100 t_newHold] h) 86 [some (.ref a_t), some (vI v1)] [vI s2, vI s1, .ref (a_t + 6)] := by
  rw [m_X11_comes_86] at hs
  refine g_iast 5 ao rfl rfl ls_5 (Nat.le_of_ble_eq_true rfl) e_X11_comes_86 hs (fun hi8 hs => ?_)
  refine g_iinc e_X11_comes_87 rfl st1_1 rfl ?_
  refine g_goto e_X11_comes_90 ?_
  obtain ⟨hc9, hs⟩ := chk_elim hs
  exact hag _ _ (okA_up ok_t_push ok_s2) hc9 hs

noncomputable def m_X11_comes_55 (t_newPush : Nat → Int) (k_93 : (Nat → Int) → Int → Option (Int × Int × Int × (Nat → Int) × (Nat → Int) × (Nat → Int) × (Nat → Int) × (Nat → Int) × (Nat → Int))) : Nat → (Nat → Int) → Int → Option (Int × Int × Int × (Nat → Int) × (Nat → Int) × (Nat → Int) × (Nat → Int) × (Nat → Int) × (Nat → Int))
  | 0, _, _ => none
  | F + 1, t_push, v1 => if 21 ≤ v1 then (k_93 t_push v1) else (chk (inB v1 21) (if (t_newPush (Int.toNat v1)) = (-1) then (m_X11_comes_86 t_push t_newPush v1 v1 0 (m_X11_comes_55 t_newPush k_93 F) k_93) else (chk (inB v1 21) (m_X11_comes_86 t_push t_newPush v1 v1 (t_newPush (Int.toNat v1)) (m_X11_comes_55 t_newPush k_93 F) k_93))))

set_option maxRecDepth 10000 in
set_option maxHeartbeats 8000000 in
theorem g_X11_comes_55 {l : Launch} {E : EE} {b0 n : Nat} {h : AH} {a_t : Nat} {t_thrown t_taped t_p t_fault t_baseLow t_baseHigh t_newBaseLow t_newBaseHigh t_from t_knots t_lines t_chosen t_undos t_redos t_aimedMany t_fits t_fitOf t_sights t_systems t_own t_cross t_curveLong t_wallFirst : Int} {t_many t_newMany t_way t_newWay t_newPush t_speckLow t_speckHigh t_sourceHold t_newLow t_newHigh t_newHold : Nat → Int} {r : Int × Int × Int × (Nat → Int) × (Nat → Int) × (Nat → Int) × (Nat → Int) × (Nat → Int) × (Nat → Int)} {k_93 : (Nat → Int) → Int → Option (Int × Int × Int × (Nat → Int) × (Nat → Int) × (Nat → Int) × (Nat → Int) × (Nat → Int) × (Nat → Int))} (ao : AO b0 n [a_t, (a_t + 2), (a_t + 3), (a_t + 4), (a_t + 5), (a_t + 6), (a_t + 7), (a_t + 8), (a_t + 9), (a_t + 10), (a_t + 11), (a_t + 12), (a_t + 13)]) (ok_t_baseLow : inI t_baseLow) (ok_t_baseHigh : inI t_baseHigh) (ok_t_newBaseLow : inI t_newBaseLow) (ok_t_newBaseHigh : inI t_newBaseHigh) (ok_t_sights : inI t_sights) (ok_t_many : okA t_many) (ok_t_newMany : okA t_newMany) (ok_t_way : okA t_way) (ok_t_newWay : okA t_newWay) (ok_t_newPush : okA t_newPush) (ok_t_speckLow : okA t_speckLow) (ok_t_speckHigh : okA t_speckHigh) (ok_t_sourceHold : okA t_sourceHold) (ok_t_newLow : okA t_newLow) (ok_t_newHigh : okA t_newHigh) (ok_t_newHold : okA t_newHold) (hk_93 : ∀ (t_push_ : Nat → Int) (v1_ : Int), okA t_push_ → inI v1_ → k_93 t_push_ v1_ = some r → G l E b0 M_X11_comes (fun _ => True) (ZM E b0 (none) (ov [a_t, (a_t + 2), (a_t + 3), (a_t + 4), (a_t + 5), (a_t + 6), (a_t + 7), (a_t + 8), (a_t + 9), (a_t + 10), (a_t + 11), (a_t + 12), (a_t + 13)] [.inr (11, fsX11 a_t t_thrown t_taped t_p t_fault r.1 r.2.1 t_newBaseLow t_newBaseHigh t_from t_knots t_lines t_chosen t_undos t_redos t_aimedMany t_fits t_fitOf r.2.2.1 t_systems t_own t_cross t_curveLong t_wallFirst), IA E 7 r.2.2.2.1, IA E 7 t_newMany, IA E 144 r.2.2.2.2.1, IA E 144 t_newWay, IA E 21 r.2.2.2.2.2.1, IA E 21 t_newPush, IA E 100 r.2.2.2.2.2.2.1, IA E 100 r.2.2.2.2.2.2.2.1, IA E 100 r.2.2.2.2.2.2.2.2, IA E 100 t_newLow, IA E 100 t_newHigh, IA E 100 t_newHold] h) n (inI r.1 ∧ inI r.2.1 ∧ inI r.2.2.1 ∧ okA r.2.2.2.1 ∧ okA r.2.2.2.2.1 ∧ okA r.2.2.2.2.2.1 ∧ okA r.2.2.2.2.2.2.1 ∧ okA r.2.2.2.2.2.2.2.1 ∧ okA r.2.2.2.2.2.2.2.2) 0 0) 0 0 n (ov [a_t, (a_t + 2), (a_t + 3), (a_t + 4), (a_t + 5), (a_t + 6), (a_t + 7), (a_t + 8), (a_t + 9), (a_t + 10), (a_t + 11), (a_t + 12), (a_t + 13)] [.inr (11, fsX11 a_t t_thrown t_taped t_p t_fault t_baseLow t_baseHigh t_newBaseLow t_newBaseHigh t_from t_knots t_lines t_chosen t_undos t_redos t_aimedMany t_fits t_fitOf t_sights t_systems t_own t_cross t_curveLong t_wallFirst), IA E 7 t_many, IA E 7 t_newMany, IA E 144 t_way, IA E 144 t_newWay, IA E 21 t_push_, IA E 21 t_newPush, IA E 100 t_speckLow, IA E 100 t_speckHigh, IA E 100 t_sourceHold, IA E 100 t_newLow, IA E 100 t_newHigh, IA E 100 t_newHold] h) 93 [some (.ref a_t), none] []) :
    ∀ (F : Nat) (t_push : Nat → Int) (v1 : Int), okA t_push → inI v1 → m_X11_comes_55 t_newPush k_93 F t_push v1 = some r → G l E b0 M_X11_comes (fun _ => True) (ZM E b0 (none) (ov [a_t, (a_t + 2), (a_t + 3), (a_t + 4), (a_t + 5), (a_t + 6), (a_t + 7), (a_t + 8), (a_t + 9), (a_t + 10), (a_t + 11), (a_t + 12), (a_t + 13)] [.inr (11, fsX11 a_t t_thrown t_taped t_p t_fault r.1 r.2.1 t_newBaseLow t_newBaseHigh t_from t_knots t_lines t_chosen t_undos t_redos t_aimedMany t_fits t_fitOf r.2.2.1 t_systems t_own t_cross t_curveLong t_wallFirst), IA E 7 r.2.2.2.1, IA E 7 t_newMany, IA E 144 r.2.2.2.2.1, IA E 144 t_newWay, IA E 21 r.2.2.2.2.2.1, IA E 21 t_newPush, IA E 100 r.2.2.2.2.2.2.1, IA E 100 r.2.2.2.2.2.2.2.1, IA E 100 r.2.2.2.2.2.2.2.2, IA E 100 t_newLow, IA E 100 t_newHigh, IA E 100 t_newHold] h) n (inI r.1 ∧ inI r.2.1 ∧ inI r.2.2.1 ∧ okA r.2.2.2.1 ∧ okA r.2.2.2.2.1 ∧ okA r.2.2.2.2.2.1 ∧ okA r.2.2.2.2.2.2.1 ∧ okA r.2.2.2.2.2.2.2.1 ∧ okA r.2.2.2.2.2.2.2.2) 0 0) 0 0 n (ov [a_t, (a_t + 2), (a_t + 3), (a_t + 4), (a_t + 5), (a_t + 6), (a_t + 7), (a_t + 8), (a_t + 9), (a_t + 10), (a_t + 11), (a_t + 12), (a_t + 13)] [.inr (11, fsX11 a_t t_thrown t_taped t_p t_fault t_baseLow t_baseHigh t_newBaseLow t_newBaseHigh t_from t_knots t_lines t_chosen t_undos t_redos t_aimedMany t_fits t_fitOf t_sights t_systems t_own t_cross t_curveLong t_wallFirst), IA E 7 t_many, IA E 7 t_newMany, IA E 144 t_way, IA E 144 t_newWay, IA E 21 t_push, IA E 21 t_newPush, IA E 100 t_speckLow, IA E 100 t_speckHigh, IA E 100 t_sourceHold, IA E 100 t_newLow, IA E 100 t_newHigh, IA E 100 t_newHold] h) 55 [some (.ref a_t), some (vI v1)] [] := by
  intro F
  induction F with
  | zero =>
    intro t_push v1 ok_t_push ok_v1 hs
    rw [m_X11_comes_55] at hs
    cases hs
  | succ F ih =>
    intro t_push v1 ok_t_push ok_v1 hs
    rw [m_X11_comes_55] at hs
    refine g_iload_n e_X11_comes_55 rfl ?_
    refine g_bipush e_X11_comes_56 bp_21 ?_
    refine g_icmp_ge e_X11_comes_58 ok_v1 (by decide : inI 21) hs (fun c58 hs => ?_) (fun c58 hs => ?_)
    · exact g_mask [true, false] (hk_93 _ _ ok_t_push ok_v1 hs)
    · refine g_aload_n e_X11_comes_61 rfl ?_
      refine g_get 0 9 ao rfl rfl fsX11_g9 fl_X11_26 e_X11_comes_62 ?_
      refine g_iload_n e_X11_comes_65 rfl ?_
      refine g_aload_n e_X11_comes_66 rfl ?_
      refine g_get 0 10 ao rfl rfl fsX11_g10 fl_X11_29 e_X11_comes_67 ?_
      refine g_iload_n e_X11_comes_70 rfl ?_
      refine g_iald 6 ao rfl rfl (Nat.le_of_ble_eq_true rfl) e_X11_comes_71 hs (fun hi7 hs => ?_)
      refine g_iconst e_X11_comes_72 ?_
      refine g_icmp_ne e_X11_comes_73 (ok_t_newPush _) (by decide : inI (-1)) hs (fun c73 hs => ?_) (fun c73 hs => ?_)
      · refine g_iconst e_X11_comes_76 ?_
        refine g_goto e_X11_comes_77 ?_
        exact g_X11_comes_86 ao ok_t_baseLow ok_t_baseHigh ok_t_newBaseLow ok_t_newBaseHigh ok_t_sights ok_t_many ok_t_newMany ok_t_way ok_t_newWay ok_t_push ok_t_newPush ok_t_speckLow ok_t_speckHigh ok_t_sourceHold ok_t_newLow ok_t_newHigh ok_t_newHold ok_v1 ok_v1 (by decide : inI 0) ih hk_93 hs
      · refine g_aload_n e_X11_comes_80 rfl ?_
        refine g_get 0 10 ao rfl rfl fsX11_g10 fl_X11_29 e_X11_comes_81 ?_
        refine g_iload_n e_X11_comes_84 rfl ?_
        refine g_iald 6 ao rfl rfl (Nat.le_of_ble_eq_true rfl) e_X11_comes_85 hs (fun hi10 hs => ?_)
        exact g_X11_comes_86 ao ok_t_baseLow ok_t_baseHigh ok_t_newBaseLow ok_t_newBaseHigh ok_t_sights ok_t_many ok_t_newMany ok_t_way ok_t_newWay ok_t_push ok_t_newPush ok_t_speckLow ok_t_speckHigh ok_t_sourceHold ok_t_newLow ok_t_newHigh ok_t_newHold ok_v1 ok_v1 (ok_t_newPush _) ih hk_93 hs

noncomputable def m_X11_comes_95 (t_newLow : Nat → Int) (t_newHigh : Nat → Int) (t_newHold : Nat → Int) (k_143 : (Nat → Int) → (Nat → Int) → (Nat → Int) → Int → Option (Int × Int × Int × (Nat → Int) × (Nat → Int) × (Nat → Int) × (Nat → Int) × (Nat → Int) × (Nat → Int))) : Nat → (Nat → Int) → (Nat → Int) → (Nat → Int) → Int → Option (Int × Int × Int × (Nat → Int) × (Nat → Int) × (Nat → Int) × (Nat → Int) × (Nat → Int) × (Nat → Int))
  | 0, _, _, _, _ => none
  | F + 1, t_speckLow, t_speckHigh, t_sourceHold, v1 => if 100 ≤ v1 then (k_143 t_speckLow t_speckHigh t_sourceHold v1) else (chk (inB v1 100) (chk (inB v1 100) (chk (inB v1 100) (chk (inB v1 100) (chk (inB v1 100) (chk (inB v1 100) (chk (inI (v1 + 1)) (m_X11_comes_95 t_newLow t_newHigh t_newHold k_143 F (up t_speckLow (Int.toNat v1) (t_newLow (Int.toNat v1))) (up t_speckHigh (Int.toNat v1) (t_newHigh (Int.toNat v1))) (up t_sourceHold (Int.toNat v1) (t_newHold (Int.toNat v1))) (v1 + 1)))))))))

set_option maxRecDepth 10000 in
set_option maxHeartbeats 8000000 in
theorem g_X11_comes_95 {l : Launch} {E : EE} {b0 n : Nat} {h : AH} {a_t : Nat} {t_thrown t_taped t_p t_fault t_baseLow t_baseHigh t_newBaseLow t_newBaseHigh t_from t_knots t_lines t_chosen t_undos t_redos t_aimedMany t_fits t_fitOf t_sights t_systems t_own t_cross t_curveLong t_wallFirst : Int} {t_many t_newMany t_way t_newWay t_push t_newPush t_newLow t_newHigh t_newHold : Nat → Int} {r : Int × Int × Int × (Nat → Int) × (Nat → Int) × (Nat → Int) × (Nat → Int) × (Nat → Int) × (Nat → Int)} {k_143 : (Nat → Int) → (Nat → Int) → (Nat → Int) → Int → Option (Int × Int × Int × (Nat → Int) × (Nat → Int) × (Nat → Int) × (Nat → Int) × (Nat → Int) × (Nat → Int))} (ao : AO b0 n [a_t, (a_t + 2), (a_t + 3), (a_t + 4), (a_t + 5), (a_t + 6), (a_t + 7), (a_t + 8), (a_t + 9), (a_t + 10), (a_t + 11), (a_t + 12), (a_t + 13)]) (ok_t_baseLow : inI t_baseLow) (ok_t_baseHigh : inI t_baseHigh) (ok_t_newBaseLow : inI t_newBaseLow) (ok_t_newBaseHigh : inI t_newBaseHigh) (ok_t_sights : inI t_sights) (ok_t_many : okA t_many) (ok_t_newMany : okA t_newMany) (ok_t_way : okA t_way) (ok_t_newWay : okA t_newWay) (ok_t_push : okA t_push) (ok_t_newPush : okA t_newPush) (ok_t_newLow : okA t_newLow) (ok_t_newHigh : okA t_newHigh) (ok_t_newHold : okA t_newHold) (hk_143 : ∀ (t_speckLow_ : Nat → Int) (t_speckHigh_ : Nat → Int) (t_sourceHold_ : Nat → Int) (v1_ : Int), okA t_speckLow_ → okA t_speckHigh_ → okA t_sourceHold_ → inI v1_ → k_143 t_speckLow_ t_speckHigh_ t_sourceHold_ v1_ = some r → G l E b0 M_X11_comes (fun _ => True) (ZM E b0 (none) (ov [a_t, (a_t + 2), (a_t + 3), (a_t + 4), (a_t + 5), (a_t + 6), (a_t + 7), (a_t + 8), (a_t + 9), (a_t + 10), (a_t + 11), (a_t + 12), (a_t + 13)] [.inr (11, fsX11 a_t t_thrown t_taped t_p t_fault r.1 r.2.1 t_newBaseLow t_newBaseHigh t_from t_knots t_lines t_chosen t_undos t_redos t_aimedMany t_fits t_fitOf r.2.2.1 t_systems t_own t_cross t_curveLong t_wallFirst), IA E 7 r.2.2.2.1, IA E 7 t_newMany, IA E 144 r.2.2.2.2.1, IA E 144 t_newWay, IA E 21 r.2.2.2.2.2.1, IA E 21 t_newPush, IA E 100 r.2.2.2.2.2.2.1, IA E 100 r.2.2.2.2.2.2.2.1, IA E 100 r.2.2.2.2.2.2.2.2, IA E 100 t_newLow, IA E 100 t_newHigh, IA E 100 t_newHold] h) n (inI r.1 ∧ inI r.2.1 ∧ inI r.2.2.1 ∧ okA r.2.2.2.1 ∧ okA r.2.2.2.2.1 ∧ okA r.2.2.2.2.2.1 ∧ okA r.2.2.2.2.2.2.1 ∧ okA r.2.2.2.2.2.2.2.1 ∧ okA r.2.2.2.2.2.2.2.2) 0 0) 0 0 n (ov [a_t, (a_t + 2), (a_t + 3), (a_t + 4), (a_t + 5), (a_t + 6), (a_t + 7), (a_t + 8), (a_t + 9), (a_t + 10), (a_t + 11), (a_t + 12), (a_t + 13)] [.inr (11, fsX11 a_t t_thrown t_taped t_p t_fault t_baseLow t_baseHigh t_newBaseLow t_newBaseHigh t_from t_knots t_lines t_chosen t_undos t_redos t_aimedMany t_fits t_fitOf t_sights t_systems t_own t_cross t_curveLong t_wallFirst), IA E 7 t_many, IA E 7 t_newMany, IA E 144 t_way, IA E 144 t_newWay, IA E 21 t_push, IA E 21 t_newPush, IA E 100 t_speckLow_, IA E 100 t_speckHigh_, IA E 100 t_sourceHold_, IA E 100 t_newLow, IA E 100 t_newHigh, IA E 100 t_newHold] h) 143 [some (.ref a_t), none] []) :
    ∀ (F : Nat) (t_speckLow : Nat → Int) (t_speckHigh : Nat → Int) (t_sourceHold : Nat → Int) (v1 : Int), okA t_speckLow → okA t_speckHigh → okA t_sourceHold → inI v1 → m_X11_comes_95 t_newLow t_newHigh t_newHold k_143 F t_speckLow t_speckHigh t_sourceHold v1 = some r → G l E b0 M_X11_comes (fun _ => True) (ZM E b0 (none) (ov [a_t, (a_t + 2), (a_t + 3), (a_t + 4), (a_t + 5), (a_t + 6), (a_t + 7), (a_t + 8), (a_t + 9), (a_t + 10), (a_t + 11), (a_t + 12), (a_t + 13)] [.inr (11, fsX11 a_t t_thrown t_taped t_p t_fault r.1 r.2.1 t_newBaseLow t_newBaseHigh t_from t_knots t_lines t_chosen t_undos t_redos t_aimedMany t_fits t_fitOf r.2.2.1 t_systems t_own t_cross t_curveLong t_wallFirst), IA E 7 r.2.2.2.1, IA E 7 t_newMany, IA E 144 r.2.2.2.2.1, IA E 144 t_newWay, IA E 21 r.2.2.2.2.2.1, IA E 21 t_newPush, IA E 100 r.2.2.2.2.2.2.1, IA E 100 r.2.2.2.2.2.2.2.1, IA E 100 r.2.2.2.2.2.2.2.2, IA E 100 t_newLow, IA E 100 t_newHigh, IA E 100 t_newHold] h) n (inI r.1 ∧ inI r.2.1 ∧ inI r.2.2.1 ∧ okA r.2.2.2.1 ∧ okA r.2.2.2.2.1 ∧ okA r.2.2.2.2.2.1 ∧ okA r.2.2.2.2.2.2.1 ∧ okA r.2.2.2.2.2.2.2.1 ∧ okA r.2.2.2.2.2.2.2.2) 0 0) 0 0 n (ov [a_t, (a_t + 2), (a_t + 3), (a_t + 4), (a_t + 5), (a_t + 6), (a_t + 7), (a_t + 8), (a_t + 9), (a_t + 10), (a_t + 11), (a_t + 12), (a_t + 13)] [.inr (11, fsX11 a_t t_thrown t_taped t_p t_fault t_baseLow t_baseHigh t_newBaseLow t_newBaseHigh t_from t_knots t_lines t_chosen t_undos t_redos t_aimedMany t_fits t_fitOf t_sights t_systems t_own t_cross t_curveLong t_wallFirst), IA E 7 t_many, IA E 7 t_newMany, IA E 144 t_way, IA E 144 t_newWay, IA E 21 t_push, IA E 21 t_newPush, IA E 100 t_speckLow, IA E 100 t_speckHigh, IA E 100 t_sourceHold, IA E 100 t_newLow, IA E 100 t_newHigh, IA E 100 t_newHold] h) 95 [some (.ref a_t), some (vI v1)] [] := by
  intro F
  induction F with
  | zero =>
    intro t_speckLow t_speckHigh t_sourceHold v1 ok_t_speckLow ok_t_speckHigh ok_t_sourceHold ok_v1 hs
    rw [m_X11_comes_95] at hs
    cases hs
  | succ F ih =>
    intro t_speckLow t_speckHigh t_sourceHold v1 ok_t_speckLow ok_t_speckHigh ok_t_sourceHold ok_v1 hs
    rw [m_X11_comes_95] at hs
    refine g_iload_n e_X11_comes_95 rfl ?_
    refine g_bipush e_X11_comes_96 bp_100 ?_
    refine g_icmp_ge e_X11_comes_98 ok_v1 (by decide : inI 100) hs (fun c98 hs => ?_) (fun c98 hs => ?_)
    · exact g_mask [true, false] (hk_143 _ _ _ _ ok_t_speckLow ok_t_speckHigh ok_t_sourceHold ok_v1 hs)
    · refine g_aload_n e_X11_comes_101 rfl ?_
      refine g_get 0 11 ao rfl rfl fsX11_g11 fl_X11_32 e_X11_comes_102 ?_
      refine g_iload_n e_X11_comes_105 rfl ?_
      refine g_aload_n e_X11_comes_106 rfl ?_
      refine g_get 0 14 ao rfl rfl fsX11_g14 fl_X11_41 e_X11_comes_107 ?_
      refine g_iload_n e_X11_comes_110 rfl ?_
      refine g_iald 10 ao rfl rfl (Nat.le_of_ble_eq_true rfl) e_X11_comes_111 hs (fun hi11 hs => ?_)
      refine g_iast 7 ao rfl rfl ls_7 (Nat.le_of_ble_eq_true rfl) e_X11_comes_112 hs (fun hi12 hs => ?_)
      refine g_aload_n e_X11_comes_113 rfl ?_
      refine g_get 0 12 ao rfl rfl fsX11_g12 fl_X11_35 e_X11_comes_114 ?_
      refine g_iload_n e_X11_comes_117 rfl ?_
      refine g_aload_n e_X11_comes_118 rfl ?_
      refine g_get 0 15 ao rfl rfl fsX11_g15 fl_X11_44 e_X11_comes_119 ?_
      refine g_iload_n e_X11_comes_122 rfl ?_
      refine g_iald 11 ao rfl rfl (Nat.le_of_ble_eq_true rfl) e_X11_comes_123 hs (fun hi13 hs => ?_)
      refine g_iast 8 ao rfl rfl ls_8 (Nat.le_of_ble_eq_true rfl) e_X11_comes_124 hs (fun hi14 hs => ?_)
      refine g_aload_n e_X11_comes_125 rfl ?_
      refine g_get 0 13 ao rfl rfl fsX11_g13 fl_X11_38 e_X11_comes_126 ?_
      refine g_iload_n e_X11_comes_129 rfl ?_
      refine g_aload_n e_X11_comes_130 rfl ?_
      refine g_get 0 16 ao rfl rfl fsX11_g16 fl_X11_47 e_X11_comes_131 ?_
      refine g_iload_n e_X11_comes_134 rfl ?_
      refine g_iald 12 ao rfl rfl (Nat.le_of_ble_eq_true rfl) e_X11_comes_135 hs (fun hi15 hs => ?_)
      refine g_iast 9 ao rfl rfl ls_9 (Nat.le_of_ble_eq_true rfl) e_X11_comes_136 hs (fun hi16 hs => ?_)
      refine g_iinc e_X11_comes_137 rfl st1_1 rfl ?_
      refine g_goto e_X11_comes_140 ?_
      obtain ⟨hc17, hs⟩ := chk_elim hs
      exact ih _ _ _ _ (okA_up ok_t_speckLow (ok_t_newLow _)) (okA_up ok_t_speckHigh (ok_t_newHigh _)) (okA_up ok_t_sourceHold (ok_t_newHold _)) hc17 hs

noncomputable def m_X11_comes_143 (t_baseLow : Int) (t_baseHigh : Int) (t_newBaseLow : Int) (t_newBaseHigh : Int) (t_sights : Int) (t_many : Nat → Int) (t_way : Nat → Int) (t_push : Nat → Int) (t_speckLow : Nat → Int) (t_speckHigh : Nat → Int) (t_sourceHold : Nat → Int) : Option (Int × Int × Int × (Nat → Int) × (Nat → Int) × (Nat → Int) × (Nat → Int) × (Nat → Int) × (Nat → Int)) :=
  some (t_newBaseLow, t_newBaseHigh, 0, t_many, t_way, t_push, t_speckLow, t_speckHigh, t_sourceHold)

set_option maxRecDepth 10000 in
set_option maxHeartbeats 8000000 in
theorem g_X11_comes_143 {l : Launch} {E : EE} {b0 n : Nat} {h : AH} {a_t : Nat} {t_thrown t_taped t_p t_fault t_baseLow t_baseHigh t_newBaseLow t_newBaseHigh t_from t_knots t_lines t_chosen t_undos t_redos t_aimedMany t_fits t_fitOf t_sights t_systems t_own t_cross t_curveLong t_wallFirst : Int} {t_many t_newMany t_way t_newWay t_push t_newPush t_speckLow t_speckHigh t_sourceHold t_newLow t_newHigh t_newHold : Nat → Int} {r : Int × Int × Int × (Nat → Int) × (Nat → Int) × (Nat → Int) × (Nat → Int) × (Nat → Int) × (Nat → Int)} (ao : AO b0 n [a_t, (a_t + 2), (a_t + 3), (a_t + 4), (a_t + 5), (a_t + 6), (a_t + 7), (a_t + 8), (a_t + 9), (a_t + 10), (a_t + 11), (a_t + 12), (a_t + 13)]) (ok_t_baseLow : inI t_baseLow) (ok_t_baseHigh : inI t_baseHigh) (ok_t_newBaseLow : inI t_newBaseLow) (ok_t_newBaseHigh : inI t_newBaseHigh) (ok_t_sights : inI t_sights) (ok_t_many : okA t_many) (ok_t_newMany : okA t_newMany) (ok_t_way : okA t_way) (ok_t_newWay : okA t_newWay) (ok_t_push : okA t_push) (ok_t_newPush : okA t_newPush) (ok_t_speckLow : okA t_speckLow) (ok_t_speckHigh : okA t_speckHigh) (ok_t_sourceHold : okA t_sourceHold) (ok_t_newLow : okA t_newLow) (ok_t_newHigh : okA t_newHigh) (ok_t_newHold : okA t_newHold) (hs : m_X11_comes_143 t_baseLow t_baseHigh t_newBaseLow t_newBaseHigh t_sights t_many t_way t_push t_speckLow t_speckHigh t_sourceHold = some r) : G l E b0 M_X11_comes (fun _ => True) (ZM E b0 (none) (ov [a_t, (a_t + 2), (a_t + 3), (a_t + 4), (a_t + 5), (a_t + 6), (a_t + 7), (a_t + 8), (a_t + 9), (a_t + 10), (a_t + 11), (a_t + 12), (a_t + 13)] [.inr (11, fsX11 a_t t_thrown t_taped t_p t_fault r.1 r.2.1 t_newBaseLow t_newBaseHigh t_from t_knots t_lines t_chosen t_undos t_redos t_aimedMany t_fits t_fitOf r.2.2.1 t_systems t_own t_cross t_curveLong t_wallFirst), IA E 7 r.2.2.2.1, IA E 7 t_newMany, IA E 144 r.2.2.2.2.1, IA E 144 t_newWay, IA E 21 r.2.2.2.2.2.1, IA E 21 t_newPush, IA E 100 r.2.2.2.2.2.2.1, IA E 100 r.2.2.2.2.2.2.2.1, IA E 100 r.2.2.2.2.2.2.2.2, IA E 100 t_newLow, IA E 100 t_newHigh, IA E 100 t_newHold] h) n (inI r.1 ∧ inI r.2.1 ∧ inI r.2.2.1 ∧ okA r.2.2.2.1 ∧ okA r.2.2.2.2.1 ∧ okA r.2.2.2.2.2.1 ∧ okA r.2.2.2.2.2.2.1 ∧ okA r.2.2.2.2.2.2.2.1 ∧ okA r.2.2.2.2.2.2.2.2) 0 0) 0 0 n (ov [a_t, (a_t + 2), (a_t + 3), (a_t + 4), (a_t + 5), (a_t + 6), (a_t + 7), (a_t + 8), (a_t + 9), (a_t + 10), (a_t + 11), (a_t + 12), (a_t + 13)] [.inr (11, fsX11 a_t t_thrown t_taped t_p t_fault t_baseLow t_baseHigh t_newBaseLow t_newBaseHigh t_from t_knots t_lines t_chosen t_undos t_redos t_aimedMany t_fits t_fitOf t_sights t_systems t_own t_cross t_curveLong t_wallFirst), IA E 7 t_many, IA E 7 t_newMany, IA E 144 t_way, IA E 144 t_newWay, IA E 21 t_push, IA E 21 t_newPush, IA E 100 t_speckLow, IA E 100 t_speckHigh, IA E 100 t_sourceHold, IA E 100 t_newLow, IA E 100 t_newHigh, IA E 100 t_newHold] h) 143 [some (.ref a_t), none] [] := by
  rw [m_X11_comes_143] at hs
  refine g_aload_n e_X11_comes_143 rfl ?_
  refine g_aload_n e_X11_comes_144 rfl ?_
  refine g_get 0 19 ao rfl rfl fsX11_g19 fl_X11_237 e_X11_comes_145 ?_
  refine g_put 0 17 ao rfl rfl fsX11_k17 fsX11_s17 ls_0 fw_X11_252 (fun h => by cases h) ⟨rfl, rfl⟩ e_X11_comes_148 ?_
  refine g_aload_n e_X11_comes_151 rfl ?_
  refine g_aload_n e_X11_comes_152 rfl ?_
  refine g_get 0 20 ao rfl rfl fsX11_g20 fl_X11_240 e_X11_comes_153 ?_
  refine g_put 0 18 ao rfl rfl fsX11_k18 fsX11_s18 ls_0 fw_X11_255 (fun h => by cases h) ⟨rfl, rfl⟩ e_X11_comes_156 ?_
  refine g_aload_n e_X11_comes_159 rfl ?_
  refine g_iconst e_X11_comes_160 ?_
  refine g_put 0 58 ao rfl rfl fsX11_k58 fsX11_s58 ls_0 fw_X11_258 (fun h => by cases h) ⟨rfl, rfl⟩ e_X11_comes_161 ?_
  obtain rfl := Option.some.inj hs
  exact g_vret rfl ⟨ok_t_newBaseLow, ok_t_newBaseHigh, (by decide : inI 0), ok_t_many, ok_t_way, ok_t_push, ok_t_speckLow, ok_t_speckHigh, ok_t_sourceHold⟩ e_X11_comes_164

noncomputable def m_X11_comes_93 (t_baseLow : Int) (t_baseHigh : Int) (t_newBaseLow : Int) (t_newBaseHigh : Int) (t_sights : Int) (t_many : Nat → Int) (t_way : Nat → Int) (t_push : Nat → Int) (t_speckLow : Nat → Int) (t_speckHigh : Nat → Int) (t_sourceHold : Nat → Int) (t_newLow : Nat → Int) (t_newHigh : Nat → Int) (t_newHold : Nat → Int) : Option (Int × Int × Int × (Nat → Int) × (Nat → Int) × (Nat → Int) × (Nat → Int) × (Nat → Int) × (Nat → Int)) :=
  m_X11_comes_95 t_newLow t_newHigh t_newHold (fun t_speckLow' t_speckHigh' t_sourceHold' v1' => m_X11_comes_143 t_baseLow t_baseHigh t_newBaseLow t_newBaseHigh t_sights t_many t_way t_push t_speckLow' t_speckHigh' t_sourceHold') FU t_speckLow t_speckHigh t_sourceHold 0

set_option maxRecDepth 10000 in
set_option maxHeartbeats 8000000 in
theorem g_X11_comes_93 {l : Launch} {E : EE} {b0 n : Nat} {h : AH} {a_t : Nat} {t_thrown t_taped t_p t_fault t_baseLow t_baseHigh t_newBaseLow t_newBaseHigh t_from t_knots t_lines t_chosen t_undos t_redos t_aimedMany t_fits t_fitOf t_sights t_systems t_own t_cross t_curveLong t_wallFirst : Int} {t_many t_newMany t_way t_newWay t_push t_newPush t_speckLow t_speckHigh t_sourceHold t_newLow t_newHigh t_newHold : Nat → Int} {r : Int × Int × Int × (Nat → Int) × (Nat → Int) × (Nat → Int) × (Nat → Int) × (Nat → Int) × (Nat → Int)} (ao : AO b0 n [a_t, (a_t + 2), (a_t + 3), (a_t + 4), (a_t + 5), (a_t + 6), (a_t + 7), (a_t + 8), (a_t + 9), (a_t + 10), (a_t + 11), (a_t + 12), (a_t + 13)]) (ok_t_baseLow : inI t_baseLow) (ok_t_baseHigh : inI t_baseHigh) (ok_t_newBaseLow : inI t_newBaseLow) (ok_t_newBaseHigh : inI t_newBaseHigh) (ok_t_sights : inI t_sights) (ok_t_many : okA t_many) (ok_t_newMany : okA t_newMany) (ok_t_way : okA t_way) (ok_t_newWay : okA t_newWay) (ok_t_push : okA t_push) (ok_t_newPush : okA t_newPush) (ok_t_speckLow : okA t_speckLow) (ok_t_speckHigh : okA t_speckHigh) (ok_t_sourceHold : okA t_sourceHold) (ok_t_newLow : okA t_newLow) (ok_t_newHigh : okA t_newHigh) (ok_t_newHold : okA t_newHold) (hs : m_X11_comes_93 t_baseLow t_baseHigh t_newBaseLow t_newBaseHigh t_sights t_many t_way t_push t_speckLow t_speckHigh t_sourceHold t_newLow t_newHigh t_newHold = some r) : G l E b0 M_X11_comes (fun _ => True) (ZM E b0 (none) (ov [a_t, (a_t + 2), (a_t + 3), (a_t + 4), (a_t + 5), (a_t + 6), (a_t + 7), (a_t + 8), (a_t + 9), (a_t + 10), (a_t + 11), (a_t + 12), (a_t + 13)] [.inr (11, fsX11 a_t t_thrown t_taped t_p t_fault r.1 r.2.1 t_newBaseLow t_newBaseHigh t_from t_knots t_lines t_chosen t_undos t_redos t_aimedMany t_fits t_fitOf r.2.2.1 t_systems t_own t_cross t_curveLong t_wallFirst), IA E 7 r.2.2.2.1, IA E 7 t_newMany, IA E 144 r.2.2.2.2.1, IA E 144 t_newWay, IA E 21 r.2.2.2.2.2.1, IA E 21 t_newPush, IA E 100 r.2.2.2.2.2.2.1, IA E 100 r.2.2.2.2.2.2.2.1, IA E 100 r.2.2.2.2.2.2.2.2, IA E 100 t_newLow, IA E 100 t_newHigh, IA E 100 t_newHold] h) n (inI r.1 ∧ inI r.2.1 ∧ inI r.2.2.1 ∧ okA r.2.2.2.1 ∧ okA r.2.2.2.2.1 ∧ okA r.2.2.2.2.2.1 ∧ okA r.2.2.2.2.2.2.1 ∧ okA r.2.2.2.2.2.2.2.1 ∧ okA r.2.2.2.2.2.2.2.2) 0 0) 0 0 n (ov [a_t, (a_t + 2), (a_t + 3), (a_t + 4), (a_t + 5), (a_t + 6), (a_t + 7), (a_t + 8), (a_t + 9), (a_t + 10), (a_t + 11), (a_t + 12), (a_t + 13)] [.inr (11, fsX11 a_t t_thrown t_taped t_p t_fault t_baseLow t_baseHigh t_newBaseLow t_newBaseHigh t_from t_knots t_lines t_chosen t_undos t_redos t_aimedMany t_fits t_fitOf t_sights t_systems t_own t_cross t_curveLong t_wallFirst), IA E 7 t_many, IA E 7 t_newMany, IA E 144 t_way, IA E 144 t_newWay, IA E 21 t_push, IA E 21 t_newPush, IA E 100 t_speckLow, IA E 100 t_speckHigh, IA E 100 t_sourceHold, IA E 100 t_newLow, IA E 100 t_newHigh, IA E 100 t_newHold] h) 93 [some (.ref a_t), none] [] := by
  rw [m_X11_comes_93] at hs
  refine g_iconst e_X11_comes_93 ?_
  refine g_istore_n e_X11_comes_94 st1_1 rfl ?_
  exact g_X11_comes_95 ao ok_t_baseLow ok_t_baseHigh ok_t_newBaseLow ok_t_newBaseHigh ok_t_sights ok_t_many ok_t_newMany ok_t_way ok_t_newWay ok_t_push ok_t_newPush ok_t_newLow ok_t_newHigh ok_t_newHold (hk_143 := by
      intro t_speckLow' t_speckHigh' t_sourceHold' v1' ok_t_speckLow' ok_t_speckHigh' ok_t_sourceHold' ok_v1' hs
      exact g_X11_comes_143 ao ok_t_baseLow ok_t_baseHigh ok_t_newBaseLow ok_t_newBaseHigh ok_t_sights ok_t_many ok_t_newMany ok_t_way ok_t_newWay ok_t_push ok_t_newPush ok_t_speckLow' ok_t_speckHigh' ok_t_sourceHold' ok_t_newLow ok_t_newHigh ok_t_newHold hs) FU _ _ _ _ ok_t_speckLow ok_t_speckHigh ok_t_sourceHold (by decide : inI 0) hs

noncomputable def m_X11_comes_53 (t_baseLow : Int) (t_baseHigh : Int) (t_newBaseLow : Int) (t_newBaseHigh : Int) (t_sights : Int) (t_many : Nat → Int) (t_way : Nat → Int) (t_push : Nat → Int) (t_newPush : Nat → Int) (t_speckLow : Nat → Int) (t_speckHigh : Nat → Int) (t_sourceHold : Nat → Int) (t_newLow : Nat → Int) (t_newHigh : Nat → Int) (t_newHold : Nat → Int) : Option (Int × Int × Int × (Nat → Int) × (Nat → Int) × (Nat → Int) × (Nat → Int) × (Nat → Int) × (Nat → Int)) :=
  m_X11_comes_55 t_newPush (fun t_push' v1' => m_X11_comes_93 t_baseLow t_baseHigh t_newBaseLow t_newBaseHigh t_sights t_many t_way t_push' t_speckLow t_speckHigh t_sourceHold t_newLow t_newHigh t_newHold) FU t_push 0

set_option maxRecDepth 10000 in
set_option maxHeartbeats 8000000 in
theorem g_X11_comes_53 {l : Launch} {E : EE} {b0 n : Nat} {h : AH} {a_t : Nat} {t_thrown t_taped t_p t_fault t_baseLow t_baseHigh t_newBaseLow t_newBaseHigh t_from t_knots t_lines t_chosen t_undos t_redos t_aimedMany t_fits t_fitOf t_sights t_systems t_own t_cross t_curveLong t_wallFirst : Int} {t_many t_newMany t_way t_newWay t_push t_newPush t_speckLow t_speckHigh t_sourceHold t_newLow t_newHigh t_newHold : Nat → Int} {r : Int × Int × Int × (Nat → Int) × (Nat → Int) × (Nat → Int) × (Nat → Int) × (Nat → Int) × (Nat → Int)} (ao : AO b0 n [a_t, (a_t + 2), (a_t + 3), (a_t + 4), (a_t + 5), (a_t + 6), (a_t + 7), (a_t + 8), (a_t + 9), (a_t + 10), (a_t + 11), (a_t + 12), (a_t + 13)]) (ok_t_baseLow : inI t_baseLow) (ok_t_baseHigh : inI t_baseHigh) (ok_t_newBaseLow : inI t_newBaseLow) (ok_t_newBaseHigh : inI t_newBaseHigh) (ok_t_sights : inI t_sights) (ok_t_many : okA t_many) (ok_t_newMany : okA t_newMany) (ok_t_way : okA t_way) (ok_t_newWay : okA t_newWay) (ok_t_push : okA t_push) (ok_t_newPush : okA t_newPush) (ok_t_speckLow : okA t_speckLow) (ok_t_speckHigh : okA t_speckHigh) (ok_t_sourceHold : okA t_sourceHold) (ok_t_newLow : okA t_newLow) (ok_t_newHigh : okA t_newHigh) (ok_t_newHold : okA t_newHold) (hs : m_X11_comes_53 t_baseLow t_baseHigh t_newBaseLow t_newBaseHigh t_sights t_many t_way t_push t_newPush t_speckLow t_speckHigh t_sourceHold t_newLow t_newHigh t_newHold = some r) : G l E b0 M_X11_comes (fun _ => True) (ZM E b0 (none) (ov [a_t, (a_t + 2), (a_t + 3), (a_t + 4), (a_t + 5), (a_t + 6), (a_t + 7), (a_t + 8), (a_t + 9), (a_t + 10), (a_t + 11), (a_t + 12), (a_t + 13)] [.inr (11, fsX11 a_t t_thrown t_taped t_p t_fault r.1 r.2.1 t_newBaseLow t_newBaseHigh t_from t_knots t_lines t_chosen t_undos t_redos t_aimedMany t_fits t_fitOf r.2.2.1 t_systems t_own t_cross t_curveLong t_wallFirst), IA E 7 r.2.2.2.1, IA E 7 t_newMany, IA E 144 r.2.2.2.2.1, IA E 144 t_newWay, IA E 21 r.2.2.2.2.2.1, IA E 21 t_newPush, IA E 100 r.2.2.2.2.2.2.1, IA E 100 r.2.2.2.2.2.2.2.1, IA E 100 r.2.2.2.2.2.2.2.2, IA E 100 t_newLow, IA E 100 t_newHigh, IA E 100 t_newHold] h) n (inI r.1 ∧ inI r.2.1 ∧ inI r.2.2.1 ∧ okA r.2.2.2.1 ∧ okA r.2.2.2.2.1 ∧ okA r.2.2.2.2.2.1 ∧ okA r.2.2.2.2.2.2.1 ∧ okA r.2.2.2.2.2.2.2.1 ∧ okA r.2.2.2.2.2.2.2.2) 0 0) 0 0 n (ov [a_t, (a_t + 2), (a_t + 3), (a_t + 4), (a_t + 5), (a_t + 6), (a_t + 7), (a_t + 8), (a_t + 9), (a_t + 10), (a_t + 11), (a_t + 12), (a_t + 13)] [.inr (11, fsX11 a_t t_thrown t_taped t_p t_fault t_baseLow t_baseHigh t_newBaseLow t_newBaseHigh t_from t_knots t_lines t_chosen t_undos t_redos t_aimedMany t_fits t_fitOf t_sights t_systems t_own t_cross t_curveLong t_wallFirst), IA E 7 t_many, IA E 7 t_newMany, IA E 144 t_way, IA E 144 t_newWay, IA E 21 t_push, IA E 21 t_newPush, IA E 100 t_speckLow, IA E 100 t_speckHigh, IA E 100 t_sourceHold, IA E 100 t_newLow, IA E 100 t_newHigh, IA E 100 t_newHold] h) 53 [some (.ref a_t), none] [] := by
  rw [m_X11_comes_53] at hs
  refine g_iconst e_X11_comes_53 ?_
  refine g_istore_n e_X11_comes_54 st1_1 rfl ?_
  exact g_X11_comes_55 ao ok_t_baseLow ok_t_baseHigh ok_t_newBaseLow ok_t_newBaseHigh ok_t_sights ok_t_many ok_t_newMany ok_t_way ok_t_newWay ok_t_newPush ok_t_speckLow ok_t_speckHigh ok_t_sourceHold ok_t_newLow ok_t_newHigh ok_t_newHold (hk_93 := by
      intro t_push' v1' ok_t_push' ok_v1' hs
      exact g_X11_comes_93 ao ok_t_baseLow ok_t_baseHigh ok_t_newBaseLow ok_t_newBaseHigh ok_t_sights ok_t_many ok_t_newMany ok_t_way ok_t_newWay ok_t_push' ok_t_newPush ok_t_speckLow ok_t_speckHigh ok_t_sourceHold ok_t_newLow ok_t_newHigh ok_t_newHold hs) FU _ _ ok_t_push (by decide : inI 0) hs

noncomputable def m_X11_comes_26 (t_baseLow : Int) (t_baseHigh : Int) (t_newBaseLow : Int) (t_newBaseHigh : Int) (t_sights : Int) (t_many : Nat → Int) (t_way : Nat → Int) (t_newWay : Nat → Int) (t_push : Nat → Int) (t_newPush : Nat → Int) (t_speckLow : Nat → Int) (t_speckHigh : Nat → Int) (t_sourceHold : Nat → Int) (t_newLow : Nat → Int) (t_newHigh : Nat → Int) (t_newHold : Nat → Int) : Option (Int × Int × Int × (Nat → Int) × (Nat → Int) × (Nat → Int) × (Nat → Int) × (Nat → Int) × (Nat → Int)) :=
  m_X11_comes_28 t_newWay (fun t_way' v1' => m_X11_comes_53 t_baseLow t_baseHigh t_newBaseLow t_newBaseHigh t_sights t_many t_way' t_push t_newPush t_speckLow t_speckHigh t_sourceHold t_newLow t_newHigh t_newHold) FU t_way 0

set_option maxRecDepth 10000 in
set_option maxHeartbeats 8000000 in
theorem g_X11_comes_26 {l : Launch} {E : EE} {b0 n : Nat} {h : AH} {a_t : Nat} {t_thrown t_taped t_p t_fault t_baseLow t_baseHigh t_newBaseLow t_newBaseHigh t_from t_knots t_lines t_chosen t_undos t_redos t_aimedMany t_fits t_fitOf t_sights t_systems t_own t_cross t_curveLong t_wallFirst : Int} {t_many t_newMany t_way t_newWay t_push t_newPush t_speckLow t_speckHigh t_sourceHold t_newLow t_newHigh t_newHold : Nat → Int} {r : Int × Int × Int × (Nat → Int) × (Nat → Int) × (Nat → Int) × (Nat → Int) × (Nat → Int) × (Nat → Int)} (ao : AO b0 n [a_t, (a_t + 2), (a_t + 3), (a_t + 4), (a_t + 5), (a_t + 6), (a_t + 7), (a_t + 8), (a_t + 9), (a_t + 10), (a_t + 11), (a_t + 12), (a_t + 13)]) (ok_t_baseLow : inI t_baseLow) (ok_t_baseHigh : inI t_baseHigh) (ok_t_newBaseLow : inI t_newBaseLow) (ok_t_newBaseHigh : inI t_newBaseHigh) (ok_t_sights : inI t_sights) (ok_t_many : okA t_many) (ok_t_newMany : okA t_newMany) (ok_t_way : okA t_way) (ok_t_newWay : okA t_newWay) (ok_t_push : okA t_push) (ok_t_newPush : okA t_newPush) (ok_t_speckLow : okA t_speckLow) (ok_t_speckHigh : okA t_speckHigh) (ok_t_sourceHold : okA t_sourceHold) (ok_t_newLow : okA t_newLow) (ok_t_newHigh : okA t_newHigh) (ok_t_newHold : okA t_newHold) (hs : m_X11_comes_26 t_baseLow t_baseHigh t_newBaseLow t_newBaseHigh t_sights t_many t_way t_newWay t_push t_newPush t_speckLow t_speckHigh t_sourceHold t_newLow t_newHigh t_newHold = some r) : G l E b0 M_X11_comes (fun _ => True) (ZM E b0 (none) (ov [a_t, (a_t + 2), (a_t + 3), (a_t + 4), (a_t + 5), (a_t + 6), (a_t + 7), (a_t + 8), (a_t + 9), (a_t + 10), (a_t + 11), (a_t + 12), (a_t + 13)] [.inr (11, fsX11 a_t t_thrown t_taped t_p t_fault r.1 r.2.1 t_newBaseLow t_newBaseHigh t_from t_knots t_lines t_chosen t_undos t_redos t_aimedMany t_fits t_fitOf r.2.2.1 t_systems t_own t_cross t_curveLong t_wallFirst), IA E 7 r.2.2.2.1, IA E 7 t_newMany, IA E 144 r.2.2.2.2.1, IA E 144 t_newWay, IA E 21 r.2.2.2.2.2.1, IA E 21 t_newPush, IA E 100 r.2.2.2.2.2.2.1, IA E 100 r.2.2.2.2.2.2.2.1, IA E 100 r.2.2.2.2.2.2.2.2, IA E 100 t_newLow, IA E 100 t_newHigh, IA E 100 t_newHold] h) n (inI r.1 ∧ inI r.2.1 ∧ inI r.2.2.1 ∧ okA r.2.2.2.1 ∧ okA r.2.2.2.2.1 ∧ okA r.2.2.2.2.2.1 ∧ okA r.2.2.2.2.2.2.1 ∧ okA r.2.2.2.2.2.2.2.1 ∧ okA r.2.2.2.2.2.2.2.2) 0 0) 0 0 n (ov [a_t, (a_t + 2), (a_t + 3), (a_t + 4), (a_t + 5), (a_t + 6), (a_t + 7), (a_t + 8), (a_t + 9), (a_t + 10), (a_t + 11), (a_t + 12), (a_t + 13)] [.inr (11, fsX11 a_t t_thrown t_taped t_p t_fault t_baseLow t_baseHigh t_newBaseLow t_newBaseHigh t_from t_knots t_lines t_chosen t_undos t_redos t_aimedMany t_fits t_fitOf t_sights t_systems t_own t_cross t_curveLong t_wallFirst), IA E 7 t_many, IA E 7 t_newMany, IA E 144 t_way, IA E 144 t_newWay, IA E 21 t_push, IA E 21 t_newPush, IA E 100 t_speckLow, IA E 100 t_speckHigh, IA E 100 t_sourceHold, IA E 100 t_newLow, IA E 100 t_newHigh, IA E 100 t_newHold] h) 26 [some (.ref a_t), none] [] := by
  rw [m_X11_comes_26] at hs
  refine g_iconst e_X11_comes_26 ?_
  refine g_istore_n e_X11_comes_27 st1_1 rfl ?_
  exact g_X11_comes_28 ao ok_t_baseLow ok_t_baseHigh ok_t_newBaseLow ok_t_newBaseHigh ok_t_sights ok_t_many ok_t_newMany ok_t_newWay ok_t_push ok_t_newPush ok_t_speckLow ok_t_speckHigh ok_t_sourceHold ok_t_newLow ok_t_newHigh ok_t_newHold (hk_53 := by
      intro t_way' v1' ok_t_way' ok_v1' hs
      exact g_X11_comes_53 ao ok_t_baseLow ok_t_baseHigh ok_t_newBaseLow ok_t_newBaseHigh ok_t_sights ok_t_many ok_t_newMany ok_t_way' ok_t_newWay ok_t_push ok_t_newPush ok_t_speckLow ok_t_speckHigh ok_t_sourceHold ok_t_newLow ok_t_newHigh ok_t_newHold hs) FU _ _ ok_t_way (by decide : inI 0) hs

noncomputable def m_X11_comes_0 (t_baseLow : Int) (t_baseHigh : Int) (t_newBaseLow : Int) (t_newBaseHigh : Int) (t_sights : Int) (t_many : Nat → Int) (t_newMany : Nat → Int) (t_way : Nat → Int) (t_newWay : Nat → Int) (t_push : Nat → Int) (t_newPush : Nat → Int) (t_speckLow : Nat → Int) (t_speckHigh : Nat → Int) (t_sourceHold : Nat → Int) (t_newLow : Nat → Int) (t_newHigh : Nat → Int) (t_newHold : Nat → Int) : Option (Int × Int × Int × (Nat → Int) × (Nat → Int) × (Nat → Int) × (Nat → Int) × (Nat → Int) × (Nat → Int)) :=
  m_X11_comes_2 t_newMany (fun t_many' v1' => m_X11_comes_26 t_baseLow t_baseHigh t_newBaseLow t_newBaseHigh t_sights t_many' t_way t_newWay t_push t_newPush t_speckLow t_speckHigh t_sourceHold t_newLow t_newHigh t_newHold) FU t_many 0

set_option maxRecDepth 10000 in
set_option maxHeartbeats 8000000 in
theorem g_X11_comes_0 {l : Launch} {E : EE} {b0 n : Nat} {h : AH} {a_t : Nat} {t_thrown t_taped t_p t_fault t_baseLow t_baseHigh t_newBaseLow t_newBaseHigh t_from t_knots t_lines t_chosen t_undos t_redos t_aimedMany t_fits t_fitOf t_sights t_systems t_own t_cross t_curveLong t_wallFirst : Int} {t_many t_newMany t_way t_newWay t_push t_newPush t_speckLow t_speckHigh t_sourceHold t_newLow t_newHigh t_newHold : Nat → Int} {r : Int × Int × Int × (Nat → Int) × (Nat → Int) × (Nat → Int) × (Nat → Int) × (Nat → Int) × (Nat → Int)} (ao : AO b0 n [a_t, (a_t + 2), (a_t + 3), (a_t + 4), (a_t + 5), (a_t + 6), (a_t + 7), (a_t + 8), (a_t + 9), (a_t + 10), (a_t + 11), (a_t + 12), (a_t + 13)]) (ok_t_baseLow : inI t_baseLow) (ok_t_baseHigh : inI t_baseHigh) (ok_t_newBaseLow : inI t_newBaseLow) (ok_t_newBaseHigh : inI t_newBaseHigh) (ok_t_sights : inI t_sights) (ok_t_many : okA t_many) (ok_t_newMany : okA t_newMany) (ok_t_way : okA t_way) (ok_t_newWay : okA t_newWay) (ok_t_push : okA t_push) (ok_t_newPush : okA t_newPush) (ok_t_speckLow : okA t_speckLow) (ok_t_speckHigh : okA t_speckHigh) (ok_t_sourceHold : okA t_sourceHold) (ok_t_newLow : okA t_newLow) (ok_t_newHigh : okA t_newHigh) (ok_t_newHold : okA t_newHold) (hs : m_X11_comes_0 t_baseLow t_baseHigh t_newBaseLow t_newBaseHigh t_sights t_many t_newMany t_way t_newWay t_push t_newPush t_speckLow t_speckHigh t_sourceHold t_newLow t_newHigh t_newHold = some r) : G l E b0 M_X11_comes (fun _ => True) (ZM E b0 (none) (ov [a_t, (a_t + 2), (a_t + 3), (a_t + 4), (a_t + 5), (a_t + 6), (a_t + 7), (a_t + 8), (a_t + 9), (a_t + 10), (a_t + 11), (a_t + 12), (a_t + 13)] [.inr (11, fsX11 a_t t_thrown t_taped t_p t_fault r.1 r.2.1 t_newBaseLow t_newBaseHigh t_from t_knots t_lines t_chosen t_undos t_redos t_aimedMany t_fits t_fitOf r.2.2.1 t_systems t_own t_cross t_curveLong t_wallFirst), IA E 7 r.2.2.2.1, IA E 7 t_newMany, IA E 144 r.2.2.2.2.1, IA E 144 t_newWay, IA E 21 r.2.2.2.2.2.1, IA E 21 t_newPush, IA E 100 r.2.2.2.2.2.2.1, IA E 100 r.2.2.2.2.2.2.2.1, IA E 100 r.2.2.2.2.2.2.2.2, IA E 100 t_newLow, IA E 100 t_newHigh, IA E 100 t_newHold] h) n (inI r.1 ∧ inI r.2.1 ∧ inI r.2.2.1 ∧ okA r.2.2.2.1 ∧ okA r.2.2.2.2.1 ∧ okA r.2.2.2.2.2.1 ∧ okA r.2.2.2.2.2.2.1 ∧ okA r.2.2.2.2.2.2.2.1 ∧ okA r.2.2.2.2.2.2.2.2) 0 0) 0 0 n (ov [a_t, (a_t + 2), (a_t + 3), (a_t + 4), (a_t + 5), (a_t + 6), (a_t + 7), (a_t + 8), (a_t + 9), (a_t + 10), (a_t + 11), (a_t + 12), (a_t + 13)] [.inr (11, fsX11 a_t t_thrown t_taped t_p t_fault t_baseLow t_baseHigh t_newBaseLow t_newBaseHigh t_from t_knots t_lines t_chosen t_undos t_redos t_aimedMany t_fits t_fitOf t_sights t_systems t_own t_cross t_curveLong t_wallFirst), IA E 7 t_many, IA E 7 t_newMany, IA E 144 t_way, IA E 144 t_newWay, IA E 21 t_push, IA E 21 t_newPush, IA E 100 t_speckLow, IA E 100 t_speckHigh, IA E 100 t_sourceHold, IA E 100 t_newLow, IA E 100 t_newHigh, IA E 100 t_newHold] h) 0 [some (.ref a_t), none] [] := by
  rw [m_X11_comes_0] at hs
  refine g_iconst e_X11_comes_0 ?_
  refine g_istore_n e_X11_comes_1 st1_1 rfl ?_
  exact g_X11_comes_2 ao ok_t_baseLow ok_t_baseHigh ok_t_newBaseLow ok_t_newBaseHigh ok_t_sights ok_t_newMany ok_t_way ok_t_newWay ok_t_push ok_t_newPush ok_t_speckLow ok_t_speckHigh ok_t_sourceHold ok_t_newLow ok_t_newHigh ok_t_newHold (hk_26 := by
      intro t_many' v1' ok_t_many' ok_v1' hs
      exact g_X11_comes_26 ao ok_t_baseLow ok_t_baseHigh ok_t_newBaseLow ok_t_newBaseHigh ok_t_sights ok_t_many' ok_t_newMany ok_t_way ok_t_newWay ok_t_push ok_t_newPush ok_t_speckLow ok_t_speckHigh ok_t_sourceHold ok_t_newLow ok_t_newHigh ok_t_newHold hs) FU _ _ ok_t_many (by decide : inI 0) hs

noncomputable def m_X11_comes (t_baseLow : Int) (t_baseHigh : Int) (t_newBaseLow : Int) (t_newBaseHigh : Int) (t_sights : Int) (t_many : Nat → Int) (t_newMany : Nat → Int) (t_way : Nat → Int) (t_newWay : Nat → Int) (t_push : Nat → Int) (t_newPush : Nat → Int) (t_speckLow : Nat → Int) (t_speckHigh : Nat → Int) (t_sourceHold : Nat → Int) (t_newLow : Nat → Int) (t_newHigh : Nat → Int) (t_newHold : Nat → Int) : Option (Int × Int × Int × (Nat → Int) × (Nat → Int) × (Nat → Int) × (Nat → Int) × (Nat → Int) × (Nat → Int)) := m_X11_comes_0 t_baseLow t_baseHigh t_newBaseLow t_newBaseHigh t_sights t_many t_newMany t_way t_newWay t_push t_newPush t_speckLow t_speckHigh t_sourceHold t_newLow t_newHigh t_newHold

set_option maxRecDepth 10000 in
set_option maxHeartbeats 8000000 in
theorem ct_X11_comes {l : Launch} {E : EE} {b0 n : Nat} {h : AH} {a_t : Nat} {t_thrown t_taped t_p t_fault t_baseLow t_baseHigh t_newBaseLow t_newBaseHigh t_from t_knots t_lines t_chosen t_undos t_redos t_aimedMany t_fits t_fitOf t_sights t_systems t_own t_cross t_curveLong t_wallFirst : Int} {t_many t_newMany t_way t_newWay t_push t_newPush t_speckLow t_speckHigh t_sourceHold t_newLow t_newHigh t_newHold : Nat → Int} (ao : AO b0 n [a_t, (a_t + 2), (a_t + 3), (a_t + 4), (a_t + 5), (a_t + 6), (a_t + 7), (a_t + 8), (a_t + 9), (a_t + 10), (a_t + 11), (a_t + 12), (a_t + 13)]) (hf : FA h [a_t, (a_t + 2), (a_t + 3), (a_t + 4), (a_t + 5), (a_t + 6), (a_t + 7), (a_t + 8), (a_t + 9), (a_t + 10), (a_t + 11), (a_t + 12), (a_t + 13)] [.inr (11, fsX11 a_t t_thrown t_taped t_p t_fault t_baseLow t_baseHigh t_newBaseLow t_newBaseHigh t_from t_knots t_lines t_chosen t_undos t_redos t_aimedMany t_fits t_fitOf t_sights t_systems t_own t_cross t_curveLong t_wallFirst), IA E 7 t_many, IA E 7 t_newMany, IA E 144 t_way, IA E 144 t_newWay, IA E 21 t_push, IA E 21 t_newPush, IA E 100 t_speckLow, IA E 100 t_speckHigh, IA E 100 t_sourceHold, IA E 100 t_newLow, IA E 100 t_newHigh, IA E 100 t_newHold]) (ok_t_baseLow : inI t_baseLow) (ok_t_baseHigh : inI t_baseHigh) (ok_t_newBaseLow : inI t_newBaseLow) (ok_t_newBaseHigh : inI t_newBaseHigh) (ok_t_sights : inI t_sights) (ok_t_many : okA t_many) (ok_t_newMany : okA t_newMany) (ok_t_way : okA t_way) (ok_t_newWay : okA t_newWay) (ok_t_push : okA t_push) (ok_t_newPush : okA t_newPush) (ok_t_speckLow : okA t_speckLow) (ok_t_speckHigh : okA t_speckHigh) (ok_t_sourceHold : okA t_sourceHold) (ok_t_newLow : okA t_newLow) (ok_t_newHigh : okA t_newHigh) (ok_t_newHold : okA t_newHold) {r : Int × Int × Int × (Nat → Int) × (Nat → Int) × (Nat → Int) × (Nat → Int) × (Nat → Int) × (Nat → Int)} (hm : m_X11_comes t_baseLow t_baseHigh t_newBaseLow t_newBaseHigh t_sights t_many t_newMany t_way t_newWay t_push t_newPush t_speckLow t_speckHigh t_sourceHold t_newLow t_newHigh t_newHold = some r) : Ct l E b0 M_X11_comes 0 0 [.ref a_t] h n (none) (ov [a_t, (a_t + 2), (a_t + 3), (a_t + 4), (a_t + 5), (a_t + 6), (a_t + 7), (a_t + 8), (a_t + 9), (a_t + 10), (a_t + 11), (a_t + 12), (a_t + 13)] [.inr (11, fsX11 a_t t_thrown t_taped t_p t_fault r.1 r.2.1 t_newBaseLow t_newBaseHigh t_from t_knots t_lines t_chosen t_undos t_redos t_aimedMany t_fits t_fitOf r.2.2.1 t_systems t_own t_cross t_curveLong t_wallFirst), IA E 7 r.2.2.2.1, IA E 7 t_newMany, IA E 144 r.2.2.2.2.1, IA E 144 t_newWay, IA E 21 r.2.2.2.2.2.1, IA E 21 t_newPush, IA E 100 r.2.2.2.2.2.2.1, IA E 100 r.2.2.2.2.2.2.2.1, IA E 100 r.2.2.2.2.2.2.2.2, IA E 100 t_newLow, IA E 100 t_newHigh, IA E 100 t_newHold] h) n (inI r.1 ∧ inI r.2.1 ∧ inI r.2.2.1 ∧ okA r.2.2.2.1 ∧ okA r.2.2.2.2.1 ∧ okA r.2.2.2.2.2.1 ∧ okA r.2.2.2.2.2.2.1 ∧ okA r.2.2.2.2.2.2.2.1 ∧ okA r.2.2.2.2.2.2.2.2) := by
  rw [m_X11_comes] at hm
  have hg : G l E b0 M_X11_comes (fun _ => True) (ZM E b0 (none) (ov [a_t, (a_t + 2), (a_t + 3), (a_t + 4), (a_t + 5), (a_t + 6), (a_t + 7), (a_t + 8), (a_t + 9), (a_t + 10), (a_t + 11), (a_t + 12), (a_t + 13)] [.inr (11, fsX11 a_t t_thrown t_taped t_p t_fault r.1 r.2.1 t_newBaseLow t_newBaseHigh t_from t_knots t_lines t_chosen t_undos t_redos t_aimedMany t_fits t_fitOf r.2.2.1 t_systems t_own t_cross t_curveLong t_wallFirst), IA E 7 r.2.2.2.1, IA E 7 t_newMany, IA E 144 r.2.2.2.2.1, IA E 144 t_newWay, IA E 21 r.2.2.2.2.2.1, IA E 21 t_newPush, IA E 100 r.2.2.2.2.2.2.1, IA E 100 r.2.2.2.2.2.2.2.1, IA E 100 r.2.2.2.2.2.2.2.2, IA E 100 t_newLow, IA E 100 t_newHigh, IA E 100 t_newHold] h) n (inI r.1 ∧ inI r.2.1 ∧ inI r.2.2.1 ∧ okA r.2.2.2.1 ∧ okA r.2.2.2.2.1 ∧ okA r.2.2.2.2.2.1 ∧ okA r.2.2.2.2.2.2.1 ∧ okA r.2.2.2.2.2.2.2.1 ∧ okA r.2.2.2.2.2.2.2.2) 0 0) 0 0 n (ov [a_t, (a_t + 2), (a_t + 3), (a_t + 4), (a_t + 5), (a_t + 6), (a_t + 7), (a_t + 8), (a_t + 9), (a_t + 10), (a_t + 11), (a_t + 12), (a_t + 13)] [.inr (11, fsX11 a_t t_thrown t_taped t_p t_fault t_baseLow t_baseHigh t_newBaseLow t_newBaseHigh t_from t_knots t_lines t_chosen t_undos t_redos t_aimedMany t_fits t_fitOf t_sights t_systems t_own t_cross t_curveLong t_wallFirst), IA E 7 t_many, IA E 7 t_newMany, IA E 144 t_way, IA E 144 t_newWay, IA E 21 t_push, IA E 21 t_newPush, IA E 100 t_speckLow, IA E 100 t_speckHigh, IA E 100 t_sourceHold, IA E 100 t_newLow, IA E 100 t_newHigh, IA E 100 t_newHold] h) 0 [some (.ref a_t), none] [] := by
    have hs := hm
    exact g_X11_comes_0 ao ok_t_baseLow ok_t_baseHigh ok_t_newBaseLow ok_t_newBaseHigh ok_t_sights ok_t_many ok_t_newMany ok_t_way ok_t_newWay ok_t_push ok_t_newPush ok_t_speckLow ok_t_speckHigh ok_t_sourceHold ok_t_newLow ok_t_newHigh ok_t_newHold hs
  rw [FA_id hf] at hg
  exact Ct_of [some (.ref a_t), none] ⟨by decide +kernel, rfl⟩ rfl (Nat.le_of_ble_eq_true rfl) hg

/-! ===== X11_isTold ===== -/
theorem e_X11_isTold_0 : DC cX11_isTold 0 (.iload_n 1) 1 1 := ⟨by decide +kernel, rfl⟩
theorem e_X11_isTold_1 : DC cX11_isTold 1 (.iconst 0) 1 2 := ⟨by decide +kernel, rfl⟩
theorem e_X11_isTold_2 : DC cX11_isTold 2 (.iconst 2) 1 3 := ⟨by decide +kernel, rfl⟩
theorem e_X11_isTold_3 : DC cX11_isTold 3 (.invokestatic 226) 3 6 := ⟨by decide +kernel, rfl⟩
theorem e_X11_isTold_6 : DB cX11_isTold 6 (.ifCond .eq 23) (23) 3 9 29 := ⟨by decide +kernel, rfl, rfl⟩
theorem e_X11_isTold_9 : DC cX11_isTold 9 (.iload_n 2) 1 10 := ⟨by decide +kernel, rfl⟩
theorem e_X11_isTold_10 : DC cX11_isTold 10 (.iconst 0) 1 11 := ⟨by decide +kernel, rfl⟩
theorem e_X11_isTold_11 : DC cX11_isTold 11 (.aload_n 0) 1 12 := ⟨by decide +kernel, rfl⟩
theorem e_X11_isTold_12 : DC cX11_isTold 12 (.getfield 13) 3 15 := ⟨by decide +kernel, rfl⟩
theorem e_X11_isTold_15 : DC cX11_isTold 15 (.iload_n 1) 1 16 := ⟨by decide +kernel, rfl⟩
theorem e_X11_isTold_16 : DC cX11_isTold 16 (.iaload) 1 17 := ⟨by decide +kernel, rfl⟩
theorem e_X11_isTold_17 : DC cX11_isTold 17 (.iconst 1) 1 18 := ⟨by decide +kernel, rfl⟩
theorem e_X11_isTold_18 : DC cX11_isTold 18 (.isub) 1 19 := ⟨by decide +kernel, rfl⟩
theorem e_X11_isTold_19 : DC cX11_isTold 19 (.invokestatic 226) 3 22 := ⟨by decide +kernel, rfl⟩
theorem e_X11_isTold_22 : DB cX11_isTold 22 (.ifCond .eq 7) (7) 3 25 29 := ⟨by decide +kernel, rfl, rfl⟩
theorem e_X11_isTold_25 : DC cX11_isTold 25 (.iconst 1) 1 26 := ⟨by decide +kernel, rfl⟩
theorem e_X11_isTold_26 : DB cX11_isTold 26 (.goto 4) (4) 3 29 30 := ⟨by decide +kernel, rfl, rfl⟩
theorem e_X11_isTold_29 : DC cX11_isTold 29 (.iconst 0) 1 30 := ⟨by decide +kernel, rfl⟩
theorem e_X11_isTold_30 : DC cX11_isTold 30 (.ireturn) 1 31 := ⟨by decide +kernel, rfl⟩
noncomputable def m_X11_isTold_0 (t_many : Nat → Int) (v1 : Int) (v2 : Int) : Option (Int) :=
  (m_X11_in v1 0 2).bind (fun y1 => if y1 = 0 then (some (0)) else (chk (inB v1 7) (chk (inI ((t_many (Int.toNat v1)) - 1)) ((m_X11_in v2 0 ((t_many (Int.toNat v1)) - 1)).bind (fun y4 => if y4 = 0 then (some (0)) else (some (1)))))))

set_option maxRecDepth 10000 in
set_option maxHeartbeats 8000000 in
theorem g_X11_isTold_0 {l : Launch} {E : EE} {b0 n : Nat} {h : AH} {a_t : Nat} {t_thrown t_taped t_p t_fault t_baseLow t_baseHigh t_newBaseLow t_newBaseHigh t_from t_knots t_lines t_chosen t_undos t_redos t_aimedMany t_fits t_fitOf t_sights t_systems t_own t_cross t_curveLong t_wallFirst v1 v2 : Int} {t_many : Nat → Int} {r : Int} (ao : AO b0 n [a_t, (a_t + 2)]) (ok_t_many : okA t_many) (ok_v1 : inI v1) (ok_v2 : inI v2) (hs : m_X11_isTold_0 t_many v1 v2 = some r) : G l E b0 M_X11_isTold (fun _ => True) (ZM E b0 (some (vI r)) (ov [a_t, (a_t + 2)] [.inr (11, fsX11 a_t t_thrown t_taped t_p t_fault t_baseLow t_baseHigh t_newBaseLow t_newBaseHigh t_from t_knots t_lines t_chosen t_undos t_redos t_aimedMany t_fits t_fitOf t_sights t_systems t_own t_cross t_curveLong t_wallFirst), IA E 7 t_many] h) n (inZ r) 0 0) 0 0 n (ov [a_t, (a_t + 2)] [.inr (11, fsX11 a_t t_thrown t_taped t_p t_fault t_baseLow t_baseHigh t_newBaseLow t_newBaseHigh t_from t_knots t_lines t_chosen t_undos t_redos t_aimedMany t_fits t_fitOf t_sights t_systems t_own t_cross t_curveLong t_wallFirst), IA E 7 t_many] h) 0 [some (.ref a_t), some (vI v1), some (vI v2)] [] := by
  rw [m_X11_isTold_0] at hs
  refine g_iload_n e_X11_isTold_0 rfl ?_
  refine g_iconst e_X11_isTold_1 ?_
  refine g_iconst e_X11_isTold_2 ?_
  obtain ⟨y1, hy1, hs⟩ := bind_elim hs
  refine g_callSr [vI v1, vI 0, vI 2] cs_X11_226 ⟨rfl, rfl, Nat.le_of_ble_eq_true rfl, Nat.le_of_ble_eq_true rfl⟩ (ct_X11_in ⟨List.nodup_nil, fun i a h => by simp at h⟩ (fun i a e h => by simp at h) ok_v1 (by decide : inI 0) (by decide : inI 2) hy1) e_X11_isTold_3 rfl rfl (Nat.le_of_ble_eq_true rfl) ⟨Nat.le_refl _, Nat.le_refl _⟩ (fun Py1 => ?_)
  refine g_if_eq e_X11_isTold_6 (inZ_I Py1) hs (fun c6 hs => ?_) (fun c6 hs => ?_)
  · refine g_iconst e_X11_isTold_29 ?_
    obtain rfl := Option.some.inj hs
    exact g_zret rfl (by decide : inZ 0) (by decide : inZ 0) e_X11_isTold_30
  · refine g_iload_n e_X11_isTold_9 rfl ?_
    refine g_iconst e_X11_isTold_10 ?_
    refine g_aload_n e_X11_isTold_11 rfl ?_
    refine g_get 0 5 ao rfl rfl fsX11_g5 fl_X11_13 e_X11_isTold_12 ?_
    refine g_iload_n e_X11_isTold_15 rfl ?_
    refine g_iald 1 ao rfl rfl (Nat.le_of_ble_eq_true rfl) e_X11_isTold_16 hs (fun hi2 hs => ?_)
    refine g_iconst e_X11_isTold_17 ?_
    refine g_isub e_X11_isTold_18 ?_
    obtain ⟨hc3, hs⟩ := chk_elim hs
    obtain ⟨y4, hy4, hs⟩ := bind_elim hs
    refine g_callSr [vI v2, vI 0, vI ((t_many (Int.toNat v1)) - 1)] cs_X11_226 ⟨rfl, rfl, Nat.le_of_ble_eq_true rfl, Nat.le_of_ble_eq_true rfl⟩ (ct_X11_in ⟨List.nodup_nil, fun i a h => by simp at h⟩ (fun i a e h => by simp at h) ok_v2 (by decide : inI 0) hc3 hy4) e_X11_isTold_19 rfl rfl (Nat.le_of_ble_eq_true rfl) ⟨Nat.le_refl _, Nat.le_refl _⟩ (fun Py4 => ?_)
    refine g_if_eq e_X11_isTold_22 (inZ_I Py4) hs (fun c22 hs => ?_) (fun c22 hs => ?_)
    · refine g_iconst e_X11_isTold_29 ?_
      obtain rfl := Option.some.inj hs
      exact g_zret rfl (by decide : inZ 0) (by decide : inZ 0) e_X11_isTold_30
    · refine g_iconst e_X11_isTold_25 ?_
      refine g_goto e_X11_isTold_26 ?_
      obtain rfl := Option.some.inj hs
      exact g_zret rfl (by decide : inZ 1) (by decide : inZ 1) e_X11_isTold_30

noncomputable def m_X11_isTold (t_many : Nat → Int) (v1 : Int) (v2 : Int) : Option (Int) := m_X11_isTold_0 t_many v1 v2

set_option maxRecDepth 10000 in
set_option maxHeartbeats 8000000 in
theorem ct_X11_isTold {l : Launch} {E : EE} {b0 n : Nat} {h : AH} {a_t : Nat} {t_thrown t_taped t_p t_fault t_baseLow t_baseHigh t_newBaseLow t_newBaseHigh t_from t_knots t_lines t_chosen t_undos t_redos t_aimedMany t_fits t_fitOf t_sights t_systems t_own t_cross t_curveLong t_wallFirst : Int} {t_many : Nat → Int} {v1 v2 : Int} (ao : AO b0 n [a_t, (a_t + 2)]) (hf : FA h [a_t, (a_t + 2)] [.inr (11, fsX11 a_t t_thrown t_taped t_p t_fault t_baseLow t_baseHigh t_newBaseLow t_newBaseHigh t_from t_knots t_lines t_chosen t_undos t_redos t_aimedMany t_fits t_fitOf t_sights t_systems t_own t_cross t_curveLong t_wallFirst), IA E 7 t_many]) (ok_t_many : okA t_many) (ok_v1 : inI v1) (ok_v2 : inI v2) {r : Int} (hm : m_X11_isTold t_many v1 v2 = some r) : Ct l E b0 M_X11_isTold 0 0 [.ref a_t, vI v1, vI v2] h n (some (vI r)) h n (inZ r) := by
  rw [m_X11_isTold] at hm
  have hg : G l E b0 M_X11_isTold (fun _ => True) (ZM E b0 (some (vI r)) (ov [a_t, (a_t + 2)] [.inr (11, fsX11 a_t t_thrown t_taped t_p t_fault t_baseLow t_baseHigh t_newBaseLow t_newBaseHigh t_from t_knots t_lines t_chosen t_undos t_redos t_aimedMany t_fits t_fitOf t_sights t_systems t_own t_cross t_curveLong t_wallFirst), IA E 7 t_many] h) n (inZ r) 0 0) 0 0 n (ov [a_t, (a_t + 2)] [.inr (11, fsX11 a_t t_thrown t_taped t_p t_fault t_baseLow t_baseHigh t_newBaseLow t_newBaseHigh t_from t_knots t_lines t_chosen t_undos t_redos t_aimedMany t_fits t_fitOf t_sights t_systems t_own t_cross t_curveLong t_wallFirst), IA E 7 t_many] h) 0 [some (.ref a_t), some (vI v1), some (vI v2)] [] := by
    have hs := hm
    exact g_X11_isTold_0 ao ok_t_many ok_v1 ok_v2 hs
  rw [FA_id hf] at hg
  exact Ct_of [some (.ref a_t), some (vI v1), some (vI v2)] ⟨by decide +kernel, rfl⟩ rfl (Nat.le_of_ble_eq_true rfl) hg

/-! ===== X11_told ===== -/
theorem e_X11_told_0 : DC cX11_told 0 (.iload_n 1) 1 1 := ⟨by decide +kernel, rfl⟩
theorem e_X11_told_1 : DC cX11_told 1 (.iconst 0) 1 2 := ⟨by decide +kernel, rfl⟩
theorem e_X11_told_2 : DC cX11_told 2 (.iconst 2) 1 3 := ⟨by decide +kernel, rfl⟩
theorem e_X11_told_3 : DC cX11_told 3 (.invokestatic 226) 3 6 := ⟨by decide +kernel, rfl⟩
theorem e_X11_told_6 : DB cX11_told 6 (.ifCond .eq 39) (39) 3 9 45 := ⟨by decide +kernel, rfl, rfl⟩
theorem e_X11_told_9 : DC cX11_told 9 (.aload_n 0) 1 10 := ⟨by decide +kernel, rfl⟩
theorem e_X11_told_10 : DC cX11_told 10 (.iload_n 1) 1 11 := ⟨by decide +kernel, rfl⟩
theorem e_X11_told_11 : DC cX11_told 11 (.iload_n 2) 1 12 := ⟨by decide +kernel, rfl⟩
theorem e_X11_told_12 : DC cX11_told 12 (.invokevirtual 261) 3 15 := ⟨by decide +kernel, rfl⟩
theorem e_X11_told_15 : DB cX11_told 15 (.ifCond .eq 30) (30) 3 18 45 := ⟨by decide +kernel, rfl, rfl⟩
theorem e_X11_told_18 : DC cX11_told 18 (.iload_n 3) 1 19 := ⟨by decide +kernel, rfl⟩
theorem e_X11_told_19 : DC cX11_told 19 (.iconst 0) 1 20 := ⟨by decide +kernel, rfl⟩
theorem e_X11_told_20 : DC cX11_told 20 (.iconst 2) 1 21 := ⟨by decide +kernel, rfl⟩
theorem e_X11_told_21 : DC cX11_told 21 (.invokestatic 226) 3 24 := ⟨by decide +kernel, rfl⟩
theorem e_X11_told_24 : DB cX11_told 24 (.ifCond .eq 21) (21) 3 27 45 := ⟨by decide +kernel, rfl, rfl⟩
theorem e_X11_told_27 : DC cX11_told 27 (.aload_n 0) 1 28 := ⟨by decide +kernel, rfl⟩
theorem e_X11_told_28 : DC cX11_told 28 (.getfield 20) 3 31 := ⟨by decide +kernel, rfl⟩
theorem e_X11_told_31 : DC cX11_told 31 (.bipush 48) 2 33 := ⟨by decide +kernel, rfl⟩
theorem e_X11_told_33 : DC cX11_told 33 (.iload_n 1) 1 34 := ⟨by decide +kernel, rfl⟩
theorem e_X11_told_34 : DC cX11_told 34 (.imul) 1 35 := ⟨by decide +kernel, rfl⟩
theorem e_X11_told_35 : DC cX11_told 35 (.iconst 3) 1 36 := ⟨by decide +kernel, rfl⟩
theorem e_X11_told_36 : DC cX11_told 36 (.iload_n 2) 1 37 := ⟨by decide +kernel, rfl⟩
theorem e_X11_told_37 : DC cX11_told 37 (.imul) 1 38 := ⟨by decide +kernel, rfl⟩
theorem e_X11_told_38 : DC cX11_told 38 (.iadd) 1 39 := ⟨by decide +kernel, rfl⟩
theorem e_X11_told_39 : DC cX11_told 39 (.iload_n 3) 1 40 := ⟨by decide +kernel, rfl⟩
theorem e_X11_told_40 : DC cX11_told 40 (.iadd) 1 41 := ⟨by decide +kernel, rfl⟩
theorem e_X11_told_41 : DC cX11_told 41 (.iaload) 1 42 := ⟨by decide +kernel, rfl⟩
theorem e_X11_told_42 : DB cX11_told 42 (.goto 5) (5) 3 45 47 := ⟨by decide +kernel, rfl, rfl⟩
theorem e_X11_told_45 : DC cX11_told 45 (.bipush (-100)) 2 47 := ⟨by decide +kernel, rfl⟩
theorem e_X11_told_47 : DC cX11_told 47 (.ireturn) 1 48 := ⟨by decide +kernel, rfl⟩
noncomputable def m_X11_told_0 (t_many : Nat → Int) (t_way : Nat → Int) (v1 : Int) (v2 : Int) (v3 : Int) : Option (Int) :=
  (m_X11_in v1 0 2).bind (fun y1 => if y1 = 0 then (some ((-100))) else ((m_X11_isTold t_many v1 v2).bind (fun y2 => if y2 = 0 then (some ((-100))) else ((m_X11_in v3 0 2).bind (fun y3 => if y3 = 0 then (some ((-100))) else (chk (inB (((48 * v1) + (3 * v2)) + v3) 144) (some (t_way (Int.toNat (((48 * v1) + (3 * v2)) + v3))))))))))

set_option maxRecDepth 10000 in
set_option maxHeartbeats 8000000 in
theorem g_X11_told_0 {l : Launch} {E : EE} {b0 n : Nat} {h : AH} {a_t : Nat} {t_thrown t_taped t_p t_fault t_baseLow t_baseHigh t_newBaseLow t_newBaseHigh t_from t_knots t_lines t_chosen t_undos t_redos t_aimedMany t_fits t_fitOf t_sights t_systems t_own t_cross t_curveLong t_wallFirst v1 v2 v3 : Int} {t_many t_way : Nat → Int} {r : Int} (ao : AO b0 n [a_t, (a_t + 2), (a_t + 4)]) (ok_t_many : okA t_many) (ok_t_way : okA t_way) (ok_v1 : inI v1) (ok_v2 : inI v2) (ok_v3 : inI v3) (hs : m_X11_told_0 t_many t_way v1 v2 v3 = some r) : G l E b0 M_X11_told (fun _ => True) (ZM E b0 (some (vI r)) (ov [a_t, (a_t + 2), (a_t + 4)] [.inr (11, fsX11 a_t t_thrown t_taped t_p t_fault t_baseLow t_baseHigh t_newBaseLow t_newBaseHigh t_from t_knots t_lines t_chosen t_undos t_redos t_aimedMany t_fits t_fitOf t_sights t_systems t_own t_cross t_curveLong t_wallFirst), IA E 7 t_many, IA E 144 t_way] h) n (inI r) 0 0) 0 0 n (ov [a_t, (a_t + 2), (a_t + 4)] [.inr (11, fsX11 a_t t_thrown t_taped t_p t_fault t_baseLow t_baseHigh t_newBaseLow t_newBaseHigh t_from t_knots t_lines t_chosen t_undos t_redos t_aimedMany t_fits t_fitOf t_sights t_systems t_own t_cross t_curveLong t_wallFirst), IA E 7 t_many, IA E 144 t_way] h) 0 [some (.ref a_t), some (vI v1), some (vI v2), some (vI v3)] [] := by
  rw [m_X11_told_0] at hs
  refine g_iload_n e_X11_told_0 rfl ?_
  refine g_iconst e_X11_told_1 ?_
  refine g_iconst e_X11_told_2 ?_
  obtain ⟨y1, hy1, hs⟩ := bind_elim hs
  refine g_callSr [vI v1, vI 0, vI 2] cs_X11_226 ⟨rfl, rfl, Nat.le_of_ble_eq_true rfl, Nat.le_of_ble_eq_true rfl⟩ (ct_X11_in ⟨List.nodup_nil, fun i a h => by simp at h⟩ (fun i a e h => by simp at h) ok_v1 (by decide : inI 0) (by decide : inI 2) hy1) e_X11_told_3 rfl rfl (Nat.le_of_ble_eq_true rfl) ⟨Nat.le_refl _, Nat.le_refl _⟩ (fun Py1 => ?_)
  refine g_if_eq e_X11_told_6 (inZ_I Py1) hs (fun c6 hs => ?_) (fun c6 hs => ?_)
  · refine g_bipush e_X11_told_45 bp_m100 ?_
    obtain rfl := Option.some.inj hs
    exact g_iret rfl (by decide : inI (-100)) e_X11_told_47
  · refine g_aload_n e_X11_told_9 rfl ?_
    refine g_iload_n e_X11_told_10 rfl ?_
    refine g_iload_n e_X11_told_11 rfl ?_
    obtain ⟨y2, hy2, hs⟩ := bind_elim hs
    refine g_callVr [vI v1, vI v2] cv_X11_261 ⟨rfl, rfl, Nat.le_of_ble_eq_true rfl, Nat.le_of_ble_eq_true rfl⟩ (ct_X11_isTold (a_t := a_t) (AO_call [0, 1] ao (by decide) rfl) (FA_call [0, 1] ao.1 rfl rfl) ok_t_many ok_v1 ok_v2 hy2) e_X11_told_12 (ao.2 0 _ rfl) (ov_get 0 ao.1 rfl rfl) rfl rfl rfl (Nat.le_of_ble_eq_true rfl) ⟨Nat.le_refl _, Nat.le_refl _⟩ (fun Py2 => ?_)
    refine g_if_eq e_X11_told_15 (inZ_I Py2) hs (fun c15 hs => ?_) (fun c15 hs => ?_)
    · refine g_bipush e_X11_told_45 bp_m100 ?_
      obtain rfl := Option.some.inj hs
      exact g_iret rfl (by decide : inI (-100)) e_X11_told_47
    · refine g_iload_n e_X11_told_18 rfl ?_
      refine g_iconst e_X11_told_19 ?_
      refine g_iconst e_X11_told_20 ?_
      obtain ⟨y3, hy3, hs⟩ := bind_elim hs
      refine g_callSr [vI v3, vI 0, vI 2] cs_X11_226 ⟨rfl, rfl, Nat.le_of_ble_eq_true rfl, Nat.le_of_ble_eq_true rfl⟩ (ct_X11_in ⟨List.nodup_nil, fun i a h => by simp at h⟩ (fun i a e h => by simp at h) ok_v3 (by decide : inI 0) (by decide : inI 2) hy3) e_X11_told_21 rfl rfl (Nat.le_of_ble_eq_true rfl) ⟨Nat.le_refl _, Nat.le_refl _⟩ (fun Py3 => ?_)
      refine g_if_eq e_X11_told_24 (inZ_I Py3) hs (fun c24 hs => ?_) (fun c24 hs => ?_)
      · refine g_bipush e_X11_told_45 bp_m100 ?_
        obtain rfl := Option.some.inj hs
        exact g_iret rfl (by decide : inI (-100)) e_X11_told_47
      · refine g_aload_n e_X11_told_27 rfl ?_
        refine g_get 0 7 ao rfl rfl fsX11_g7 fl_X11_20 e_X11_told_28 ?_
        refine g_bipush e_X11_told_31 bp_48 ?_
        refine g_iload_n e_X11_told_33 rfl ?_
        refine g_imul e_X11_told_34 ?_
        refine g_iconst e_X11_told_35 ?_
        refine g_iload_n e_X11_told_36 rfl ?_
        refine g_imul e_X11_told_37 ?_
        refine g_iadd e_X11_told_38 ?_
        refine g_iload_n e_X11_told_39 rfl ?_
        refine g_iadd e_X11_told_40 ?_
        refine g_iald 2 ao rfl rfl (Nat.le_of_ble_eq_true rfl) e_X11_told_41 hs (fun hi4 hs => ?_)
        refine g_goto e_X11_told_42 ?_
        obtain rfl := Option.some.inj hs
        exact g_iret rfl (ok_t_way _) e_X11_told_47

noncomputable def m_X11_told (t_many : Nat → Int) (t_way : Nat → Int) (v1 : Int) (v2 : Int) (v3 : Int) : Option (Int) := m_X11_told_0 t_many t_way v1 v2 v3

set_option maxRecDepth 10000 in
set_option maxHeartbeats 8000000 in
theorem ct_X11_told {l : Launch} {E : EE} {b0 n : Nat} {h : AH} {a_t : Nat} {t_thrown t_taped t_p t_fault t_baseLow t_baseHigh t_newBaseLow t_newBaseHigh t_from t_knots t_lines t_chosen t_undos t_redos t_aimedMany t_fits t_fitOf t_sights t_systems t_own t_cross t_curveLong t_wallFirst : Int} {t_many t_way : Nat → Int} {v1 v2 v3 : Int} (ao : AO b0 n [a_t, (a_t + 2), (a_t + 4)]) (hf : FA h [a_t, (a_t + 2), (a_t + 4)] [.inr (11, fsX11 a_t t_thrown t_taped t_p t_fault t_baseLow t_baseHigh t_newBaseLow t_newBaseHigh t_from t_knots t_lines t_chosen t_undos t_redos t_aimedMany t_fits t_fitOf t_sights t_systems t_own t_cross t_curveLong t_wallFirst), IA E 7 t_many, IA E 144 t_way]) (ok_t_many : okA t_many) (ok_t_way : okA t_way) (ok_v1 : inI v1) (ok_v2 : inI v2) (ok_v3 : inI v3) {r : Int} (hm : m_X11_told t_many t_way v1 v2 v3 = some r) : Ct l E b0 M_X11_told 0 0 [.ref a_t, vI v1, vI v2, vI v3] h n (some (vI r)) h n (inI r) := by
  rw [m_X11_told] at hm
  have hg : G l E b0 M_X11_told (fun _ => True) (ZM E b0 (some (vI r)) (ov [a_t, (a_t + 2), (a_t + 4)] [.inr (11, fsX11 a_t t_thrown t_taped t_p t_fault t_baseLow t_baseHigh t_newBaseLow t_newBaseHigh t_from t_knots t_lines t_chosen t_undos t_redos t_aimedMany t_fits t_fitOf t_sights t_systems t_own t_cross t_curveLong t_wallFirst), IA E 7 t_many, IA E 144 t_way] h) n (inI r) 0 0) 0 0 n (ov [a_t, (a_t + 2), (a_t + 4)] [.inr (11, fsX11 a_t t_thrown t_taped t_p t_fault t_baseLow t_baseHigh t_newBaseLow t_newBaseHigh t_from t_knots t_lines t_chosen t_undos t_redos t_aimedMany t_fits t_fitOf t_sights t_systems t_own t_cross t_curveLong t_wallFirst), IA E 7 t_many, IA E 144 t_way] h) 0 [some (.ref a_t), some (vI v1), some (vI v2), some (vI v3)] [] := by
    have hs := hm
    exact g_X11_told_0 ao ok_t_many ok_t_way ok_v1 ok_v2 ok_v3 hs
  rw [FA_id hf] at hg
  exact Ct_of [some (.ref a_t), some (vI v1), some (vI v2), some (vI v3)] ⟨by decide +kernel, rfl⟩ rfl (Nat.le_of_ble_eq_true rfl) hg

/-! ===== X11_push ===== -/
theorem e_X11_push_0 : DC cX11_push 0 (.iload_n 1) 1 1 := ⟨by decide +kernel, rfl⟩
theorem e_X11_push_1 : DC cX11_push 1 (.iconst 1) 1 2 := ⟨by decide +kernel, rfl⟩
theorem e_X11_push_2 : DC cX11_push 2 (.bipush 20) 2 4 := ⟨by decide +kernel, rfl⟩
theorem e_X11_push_4 : DC cX11_push 4 (.invokestatic 226) 3 7 := ⟨by decide +kernel, rfl⟩
theorem e_X11_push_7 : DB cX11_push 7 (.ifCond .eq 12) (12) 3 10 19 := ⟨by decide +kernel, rfl, rfl⟩
theorem e_X11_push_10 : DC cX11_push 10 (.aload_n 0) 1 11 := ⟨by decide +kernel, rfl⟩
theorem e_X11_push_11 : DC cX11_push 11 (.getfield 26) 3 14 := ⟨by decide +kernel, rfl⟩
theorem e_X11_push_14 : DC cX11_push 14 (.iload_n 1) 1 15 := ⟨by decide +kernel, rfl⟩
theorem e_X11_push_15 : DC cX11_push 15 (.iaload) 1 16 := ⟨by decide +kernel, rfl⟩
theorem e_X11_push_16 : DB cX11_push 16 (.goto 4) (4) 3 19 20 := ⟨by decide +kernel, rfl, rfl⟩
theorem e_X11_push_19 : DC cX11_push 19 (.iconst 0) 1 20 := ⟨by decide +kernel, rfl⟩
theorem e_X11_push_20 : DC cX11_push 20 (.ireturn) 1 21 := ⟨by decide +kernel, rfl⟩
noncomputable def m_X11_push_0 (t_push : Nat → Int) (v1 : Int) : Option (Int) :=
  (m_X11_in v1 1 20).bind (fun y1 => if y1 = 0 then (some (0)) else (chk (inB v1 21) (some (t_push (Int.toNat v1)))))

set_option maxRecDepth 10000 in
set_option maxHeartbeats 8000000 in
theorem g_X11_push_0 {l : Launch} {E : EE} {b0 n : Nat} {h : AH} {a_t : Nat} {t_thrown t_taped t_p t_fault t_baseLow t_baseHigh t_newBaseLow t_newBaseHigh t_from t_knots t_lines t_chosen t_undos t_redos t_aimedMany t_fits t_fitOf t_sights t_systems t_own t_cross t_curveLong t_wallFirst v1 : Int} {t_push : Nat → Int} {r : Int} (ao : AO b0 n [a_t, (a_t + 6)]) (ok_t_push : okA t_push) (ok_v1 : inI v1) (hs : m_X11_push_0 t_push v1 = some r) : G l E b0 M_X11_push (fun _ => True) (ZM E b0 (some (vI r)) (ov [a_t, (a_t + 6)] [.inr (11, fsX11 a_t t_thrown t_taped t_p t_fault t_baseLow t_baseHigh t_newBaseLow t_newBaseHigh t_from t_knots t_lines t_chosen t_undos t_redos t_aimedMany t_fits t_fitOf t_sights t_systems t_own t_cross t_curveLong t_wallFirst), IA E 21 t_push] h) n (inI r) 0 0) 0 0 n (ov [a_t, (a_t + 6)] [.inr (11, fsX11 a_t t_thrown t_taped t_p t_fault t_baseLow t_baseHigh t_newBaseLow t_newBaseHigh t_from t_knots t_lines t_chosen t_undos t_redos t_aimedMany t_fits t_fitOf t_sights t_systems t_own t_cross t_curveLong t_wallFirst), IA E 21 t_push] h) 0 [some (.ref a_t), some (vI v1)] [] := by
  rw [m_X11_push_0] at hs
  refine g_iload_n e_X11_push_0 rfl ?_
  refine g_iconst e_X11_push_1 ?_
  refine g_bipush e_X11_push_2 bp_20 ?_
  obtain ⟨y1, hy1, hs⟩ := bind_elim hs
  refine g_callSr [vI v1, vI 1, vI 20] cs_X11_226 ⟨rfl, rfl, Nat.le_of_ble_eq_true rfl, Nat.le_of_ble_eq_true rfl⟩ (ct_X11_in ⟨List.nodup_nil, fun i a h => by simp at h⟩ (fun i a e h => by simp at h) ok_v1 (by decide : inI 1) (by decide : inI 20) hy1) e_X11_push_4 rfl rfl (Nat.le_of_ble_eq_true rfl) ⟨Nat.le_refl _, Nat.le_refl _⟩ (fun Py1 => ?_)
  refine g_if_eq e_X11_push_7 (inZ_I Py1) hs (fun c7 hs => ?_) (fun c7 hs => ?_)
  · refine g_iconst e_X11_push_19 ?_
    obtain rfl := Option.some.inj hs
    exact g_iret rfl (by decide : inI 0) e_X11_push_20
  · refine g_aload_n e_X11_push_10 rfl ?_
    refine g_get 0 9 ao rfl rfl fsX11_g9 fl_X11_26 e_X11_push_11 ?_
    refine g_iload_n e_X11_push_14 rfl ?_
    refine g_iald 1 ao rfl rfl (Nat.le_of_ble_eq_true rfl) e_X11_push_15 hs (fun hi2 hs => ?_)
    refine g_goto e_X11_push_16 ?_
    obtain rfl := Option.some.inj hs
    exact g_iret rfl (ok_t_push _) e_X11_push_20

noncomputable def m_X11_push (t_push : Nat → Int) (v1 : Int) : Option (Int) := m_X11_push_0 t_push v1

set_option maxRecDepth 10000 in
set_option maxHeartbeats 8000000 in
theorem ct_X11_push {l : Launch} {E : EE} {b0 n : Nat} {h : AH} {a_t : Nat} {t_thrown t_taped t_p t_fault t_baseLow t_baseHigh t_newBaseLow t_newBaseHigh t_from t_knots t_lines t_chosen t_undos t_redos t_aimedMany t_fits t_fitOf t_sights t_systems t_own t_cross t_curveLong t_wallFirst : Int} {t_push : Nat → Int} {v1 : Int} (ao : AO b0 n [a_t, (a_t + 6)]) (hf : FA h [a_t, (a_t + 6)] [.inr (11, fsX11 a_t t_thrown t_taped t_p t_fault t_baseLow t_baseHigh t_newBaseLow t_newBaseHigh t_from t_knots t_lines t_chosen t_undos t_redos t_aimedMany t_fits t_fitOf t_sights t_systems t_own t_cross t_curveLong t_wallFirst), IA E 21 t_push]) (ok_t_push : okA t_push) (ok_v1 : inI v1) {r : Int} (hm : m_X11_push t_push v1 = some r) : Ct l E b0 M_X11_push 0 0 [.ref a_t, vI v1] h n (some (vI r)) h n (inI r) := by
  rw [m_X11_push] at hm
  have hg : G l E b0 M_X11_push (fun _ => True) (ZM E b0 (some (vI r)) (ov [a_t, (a_t + 6)] [.inr (11, fsX11 a_t t_thrown t_taped t_p t_fault t_baseLow t_baseHigh t_newBaseLow t_newBaseHigh t_from t_knots t_lines t_chosen t_undos t_redos t_aimedMany t_fits t_fitOf t_sights t_systems t_own t_cross t_curveLong t_wallFirst), IA E 21 t_push] h) n (inI r) 0 0) 0 0 n (ov [a_t, (a_t + 6)] [.inr (11, fsX11 a_t t_thrown t_taped t_p t_fault t_baseLow t_baseHigh t_newBaseLow t_newBaseHigh t_from t_knots t_lines t_chosen t_undos t_redos t_aimedMany t_fits t_fitOf t_sights t_systems t_own t_cross t_curveLong t_wallFirst), IA E 21 t_push] h) 0 [some (.ref a_t), some (vI v1)] [] := by
    have hs := hm
    exact g_X11_push_0 ao ok_t_push ok_v1 hs
  rw [FA_id hf] at hg
  exact Ct_of [some (.ref a_t), some (vI v1)] ⟨by decide +kernel, rfl⟩ rfl (Nat.le_of_ble_eq_true rfl) hg

/-! ===== X11_holdAt ===== -/
theorem e_X11_holdAt_0 : DC cX11_holdAt 0 (.aload_n 0) 1 1 := ⟨by decide +kernel, rfl⟩
theorem e_X11_holdAt_1 : DC cX11_holdAt 1 (.getfield 32) 3 4 := ⟨by decide +kernel, rfl⟩
theorem e_X11_holdAt_4 : DC cX11_holdAt 4 (.iload_n 1) 1 5 := ⟨by decide +kernel, rfl⟩
theorem e_X11_holdAt_5 : DC cX11_holdAt 5 (.iaload) 1 6 := ⟨by decide +kernel, rfl⟩
theorem e_X11_holdAt_6 : DC cX11_holdAt 6 (.iconst (-1)) 1 7 := ⟨by decide +kernel, rfl⟩
theorem e_X11_holdAt_7 : DB cX11_holdAt 7 (.if_icmp .ne 10) (10) 3 10 17 := ⟨by decide +kernel, rfl, rfl⟩
theorem e_X11_holdAt_10 : DC cX11_holdAt 10 (.aload_n 0) 1 11 := ⟨by decide +kernel, rfl⟩
theorem e_X11_holdAt_11 : DC cX11_holdAt 11 (.getfield 252) 3 14 := ⟨by decide +kernel, rfl⟩
theorem e_X11_holdAt_14 : DB cX11_holdAt 14 (.goto 9) (9) 3 17 23 := ⟨by decide +kernel, rfl, rfl⟩
theorem e_X11_holdAt_17 : DC cX11_holdAt 17 (.aload_n 0) 1 18 := ⟨by decide +kernel, rfl⟩
theorem e_X11_holdAt_18 : DC cX11_holdAt 18 (.getfield 32) 3 21 := ⟨by decide +kernel, rfl⟩
theorem e_X11_holdAt_21 : DC cX11_holdAt 21 (.iload_n 1) 1 22 := ⟨by decide +kernel, rfl⟩
theorem e_X11_holdAt_22 : DC cX11_holdAt 22 (.iaload) 1 23 := ⟨by decide +kernel, rfl⟩
theorem e_X11_holdAt_23 : DC cX11_holdAt 23 (.istore_n 3) 1 24 := ⟨by decide +kernel, rfl⟩
theorem e_X11_holdAt_24 : DC cX11_holdAt 24 (.aload_n 0) 1 25 := ⟨by decide +kernel, rfl⟩
theorem e_X11_holdAt_25 : DC cX11_holdAt 25 (.getfield 32) 3 28 := ⟨by decide +kernel, rfl⟩
theorem e_X11_holdAt_28 : DC cX11_holdAt 28 (.iload_n 1) 1 29 := ⟨by decide +kernel, rfl⟩
theorem e_X11_holdAt_29 : DC cX11_holdAt 29 (.iaload) 1 30 := ⟨by decide +kernel, rfl⟩
theorem e_X11_holdAt_30 : DC cX11_holdAt 30 (.iconst (-1)) 1 31 := ⟨by decide +kernel, rfl⟩
theorem e_X11_holdAt_31 : DB cX11_holdAt 31 (.if_icmp .ne 10) (10) 3 34 41 := ⟨by decide +kernel, rfl, rfl⟩
theorem e_X11_holdAt_34 : DC cX11_holdAt 34 (.aload_n 0) 1 35 := ⟨by decide +kernel, rfl⟩
theorem e_X11_holdAt_35 : DC cX11_holdAt 35 (.getfield 255) 3 38 := ⟨by decide +kernel, rfl⟩
theorem e_X11_holdAt_38 : DB cX11_holdAt 38 (.goto 9) (9) 3 41 47 := ⟨by decide +kernel, rfl, rfl⟩
theorem e_X11_holdAt_41 : DC cX11_holdAt 41 (.aload_n 0) 1 42 := ⟨by decide +kernel, rfl⟩
theorem e_X11_holdAt_42 : DC cX11_holdAt 42 (.getfield 35) 3 45 := ⟨by decide +kernel, rfl⟩
theorem e_X11_holdAt_45 : DC cX11_holdAt 45 (.iload_n 1) 1 46 := ⟨by decide +kernel, rfl⟩
theorem e_X11_holdAt_46 : DC cX11_holdAt 46 (.iaload) 1 47 := ⟨by decide +kernel, rfl⟩
theorem e_X11_holdAt_47 : DC cX11_holdAt 47 (.istore 4) 2 49 := ⟨by decide +kernel, rfl⟩
theorem e_X11_holdAt_49 : DC cX11_holdAt 49 (.iload_n 2) 1 50 := ⟨by decide +kernel, rfl⟩
theorem e_X11_holdAt_50 : DB cX11_holdAt 50 (.ifCond .ne 7) (7) 3 53 57 := ⟨by decide +kernel, rfl, rfl⟩
theorem e_X11_holdAt_53 : DC cX11_holdAt 53 (.iload_n 3) 1 54 := ⟨by decide +kernel, rfl⟩
theorem e_X11_holdAt_54 : DB cX11_holdAt 54 (.goto 5) (5) 3 57 59 := ⟨by decide +kernel, rfl, rfl⟩
theorem e_X11_holdAt_57 : DC cX11_holdAt 57 (.iload 4) 2 59 := ⟨by decide +kernel, rfl⟩
theorem e_X11_holdAt_59 : DC cX11_holdAt 59 (.ireturn) 1 60 := ⟨by decide +kernel, rfl⟩
noncomputable def m_X11_holdAt_47 (v2 : Int) (v3 : Int) (s0 : Int) : Option (Int) :=
  if v2 = 0 then (some (v3)) else (some (s0))

set_option maxRecDepth 10000 in
set_option maxHeartbeats 8000000 in
theorem g_X11_holdAt_47 {l : Launch} {E : EE} {b0 n : Nat} {h : AH} {a_t : Nat} {t_thrown t_taped t_p t_fault t_baseLow t_baseHigh t_newBaseLow t_newBaseHigh t_from t_knots t_lines t_chosen t_undos t_redos t_aimedMany t_fits t_fitOf t_sights t_systems t_own t_cross t_curveLong t_wallFirst v2 v3 s0 : Int} {t_speckLow t_speckHigh : Nat → Int} {r : Int} (ao : AO b0 n [a_t, (a_t + 8), (a_t + 9)]) (ok_t_baseLow : inI t_baseLow) (ok_t_baseHigh : inI t_baseHigh) (ok_t_speckLow : okA t_speckLow) (ok_t_speckHigh : okA t_speckHigh) (ok_v2 : inI v2) (ok_v3 : inI v3) (ok_s0 : inI s0) (hs : m_X11_holdAt_47 v2 v3 s0 = some r) : G l E b0 M_X11_holdAt (fun _ => True) (ZM E b0 (some (vI r)) (ov [a_t, (a_t + 8), (a_t + 9)] [.inr (11, fsX11 a_t t_thrown t_taped t_p t_fault t_baseLow t_baseHigh t_newBaseLow t_newBaseHigh t_from t_knots t_lines t_chosen t_undos t_redos t_aimedMany t_fits t_fitOf t_sights t_systems t_own t_cross t_curveLong t_wallFirst), IA E 100 t_speckLow, IA E 100 t_speckHigh] h) n (inI r) 0 0) 0 0 n (ov [a_t, (a_t + 8), (a_t + 9)] [.inr (11, fsX11 a_t t_thrown t_taped t_p t_fault t_baseLow t_baseHigh t_newBaseLow t_newBaseHigh t_from t_knots t_lines t_chosen t_undos t_redos t_aimedMany t_fits t_fitOf t_sights t_systems t_own t_cross t_curveLong t_wallFirst), IA E 100 t_speckLow, IA E 100 t_speckHigh] h) 47 [none, none, some (vI v2), some (vI v3), none] [vI s0] := by
  rw [m_X11_holdAt_47] at hs
  refine g_istore e_X11_holdAt_47 st1_4 rfl ?_
  refine g_iload_n e_X11_holdAt_49 rfl ?_
  refine g_if_ne e_X11_holdAt_50 ok_v2 hs (fun c50 hs => ?_) (fun c50 hs => ?_)
  · refine g_iload_n e_X11_holdAt_53 rfl ?_
    refine g_goto e_X11_holdAt_54 ?_
    obtain rfl := Option.some.inj hs
    exact g_iret rfl ok_v3 e_X11_holdAt_59
  · refine g_iload e_X11_holdAt_57 rfl ?_
    obtain rfl := Option.some.inj hs
    exact g_iret rfl ok_s0 e_X11_holdAt_59

noncomputable def m_X11_holdAt_23 (t_baseHigh : Int) (t_speckLow : Nat → Int) (t_speckHigh : Nat → Int) (v1 : Int) (v2 : Int) (s0 : Int) : Option (Int) :=
  chk (inB v1 100) (if (t_speckLow (Int.toNat v1)) = (-1) then (m_X11_holdAt_47 v2 s0 t_baseHigh) else (chk (inB v1 100) (m_X11_holdAt_47 v2 s0 (t_speckHigh (Int.toNat v1)))))

set_option maxRecDepth 10000 in
set_option maxHeartbeats 8000000 in
theorem g_X11_holdAt_23 {l : Launch} {E : EE} {b0 n : Nat} {h : AH} {a_t : Nat} {t_thrown t_taped t_p t_fault t_baseLow t_baseHigh t_newBaseLow t_newBaseHigh t_from t_knots t_lines t_chosen t_undos t_redos t_aimedMany t_fits t_fitOf t_sights t_systems t_own t_cross t_curveLong t_wallFirst v1 v2 s0 : Int} {t_speckLow t_speckHigh : Nat → Int} {r : Int} (ao : AO b0 n [a_t, (a_t + 8), (a_t + 9)]) (ok_t_baseLow : inI t_baseLow) (ok_t_baseHigh : inI t_baseHigh) (ok_t_speckLow : okA t_speckLow) (ok_t_speckHigh : okA t_speckHigh) (ok_v1 : inI v1) (ok_v2 : inI v2) (ok_s0 : inI s0) (hs : m_X11_holdAt_23 t_baseHigh t_speckLow t_speckHigh v1 v2 s0 = some r) : G l E b0 M_X11_holdAt (fun _ => True) (ZM E b0 (some (vI r)) (ov [a_t, (a_t + 8), (a_t + 9)] [.inr (11, fsX11 a_t t_thrown t_taped t_p t_fault t_baseLow t_baseHigh t_newBaseLow t_newBaseHigh t_from t_knots t_lines t_chosen t_undos t_redos t_aimedMany t_fits t_fitOf t_sights t_systems t_own t_cross t_curveLong t_wallFirst), IA E 100 t_speckLow, IA E 100 t_speckHigh] h) n (inI r) 0 0) 0 0 n (ov [a_t, (a_t + 8), (a_t + 9)] [.inr (11, fsX11 a_t t_thrown t_taped t_p t_fault t_baseLow t_baseHigh t_newBaseLow t_newBaseHigh t_from t_knots t_lines t_chosen t_undos t_redos t_aimedMany t_fits t_fitOf t_sights t_systems t_own t_cross t_curveLong t_wallFirst), IA E 100 t_speckLow, IA E 100 t_speckHigh] h) 23 [some (.ref a_t), some (vI v1), some (vI v2), none, none] [vI s0] := by
  rw [m_X11_holdAt_23] at hs
  refine g_istore_n e_X11_holdAt_23 st1_3 rfl ?_
  refine g_aload_n e_X11_holdAt_24 rfl ?_
  refine g_get 0 11 ao rfl rfl fsX11_g11 fl_X11_32 e_X11_holdAt_25 ?_
  refine g_iload_n e_X11_holdAt_28 rfl ?_
  refine g_iald 1 ao rfl rfl (Nat.le_of_ble_eq_true rfl) e_X11_holdAt_29 hs (fun hi2 hs => ?_)
  refine g_iconst e_X11_holdAt_30 ?_
  refine g_icmp_ne e_X11_holdAt_31 (ok_t_speckLow _) (by decide : inI (-1)) hs (fun c31 hs => ?_) (fun c31 hs => ?_)
  · refine g_aload_n e_X11_holdAt_34 rfl ?_
    refine g_get 0 18 ao rfl rfl fsX11_g18 fl_X11_255 e_X11_holdAt_35 ?_
    refine g_goto e_X11_holdAt_38 ?_
    exact g_mask [false, false, true, true, true] (g_X11_holdAt_47 ao ok_t_baseLow ok_t_baseHigh ok_t_speckLow ok_t_speckHigh ok_v2 ok_s0 ok_t_baseHigh hs)
  · refine g_aload_n e_X11_holdAt_41 rfl ?_
    refine g_get 0 12 ao rfl rfl fsX11_g12 fl_X11_35 e_X11_holdAt_42 ?_
    refine g_iload_n e_X11_holdAt_45 rfl ?_
    refine g_iald 2 ao rfl rfl (Nat.le_of_ble_eq_true rfl) e_X11_holdAt_46 hs (fun hi3 hs => ?_)
    exact g_mask [false, false, true, true, true] (g_X11_holdAt_47 ao ok_t_baseLow ok_t_baseHigh ok_t_speckLow ok_t_speckHigh ok_v2 ok_s0 (ok_t_speckHigh _) hs)

noncomputable def m_X11_holdAt_0 (t_baseLow : Int) (t_baseHigh : Int) (t_speckLow : Nat → Int) (t_speckHigh : Nat → Int) (v1 : Int) (v2 : Int) : Option (Int) :=
  chk (inB v1 100) (if (t_speckLow (Int.toNat v1)) = (-1) then (m_X11_holdAt_23 t_baseHigh t_speckLow t_speckHigh v1 v2 t_baseLow) else (chk (inB v1 100) (m_X11_holdAt_23 t_baseHigh t_speckLow t_speckHigh v1 v2 (t_speckLow (Int.toNat v1)))))

set_option maxRecDepth 10000 in
set_option maxHeartbeats 8000000 in
theorem g_X11_holdAt_0 {l : Launch} {E : EE} {b0 n : Nat} {h : AH} {a_t : Nat} {t_thrown t_taped t_p t_fault t_baseLow t_baseHigh t_newBaseLow t_newBaseHigh t_from t_knots t_lines t_chosen t_undos t_redos t_aimedMany t_fits t_fitOf t_sights t_systems t_own t_cross t_curveLong t_wallFirst v1 v2 : Int} {t_speckLow t_speckHigh : Nat → Int} {r : Int} (ao : AO b0 n [a_t, (a_t + 8), (a_t + 9)]) (ok_t_baseLow : inI t_baseLow) (ok_t_baseHigh : inI t_baseHigh) (ok_t_speckLow : okA t_speckLow) (ok_t_speckHigh : okA t_speckHigh) (ok_v1 : inI v1) (ok_v2 : inI v2) (hs : m_X11_holdAt_0 t_baseLow t_baseHigh t_speckLow t_speckHigh v1 v2 = some r) : G l E b0 M_X11_holdAt (fun _ => True) (ZM E b0 (some (vI r)) (ov [a_t, (a_t + 8), (a_t + 9)] [.inr (11, fsX11 a_t t_thrown t_taped t_p t_fault t_baseLow t_baseHigh t_newBaseLow t_newBaseHigh t_from t_knots t_lines t_chosen t_undos t_redos t_aimedMany t_fits t_fitOf t_sights t_systems t_own t_cross t_curveLong t_wallFirst), IA E 100 t_speckLow, IA E 100 t_speckHigh] h) n (inI r) 0 0) 0 0 n (ov [a_t, (a_t + 8), (a_t + 9)] [.inr (11, fsX11 a_t t_thrown t_taped t_p t_fault t_baseLow t_baseHigh t_newBaseLow t_newBaseHigh t_from t_knots t_lines t_chosen t_undos t_redos t_aimedMany t_fits t_fitOf t_sights t_systems t_own t_cross t_curveLong t_wallFirst), IA E 100 t_speckLow, IA E 100 t_speckHigh] h) 0 [some (.ref a_t), some (vI v1), some (vI v2), none, none] [] := by
  rw [m_X11_holdAt_0] at hs
  refine g_aload_n e_X11_holdAt_0 rfl ?_
  refine g_get 0 11 ao rfl rfl fsX11_g11 fl_X11_32 e_X11_holdAt_1 ?_
  refine g_iload_n e_X11_holdAt_4 rfl ?_
  refine g_iald 1 ao rfl rfl (Nat.le_of_ble_eq_true rfl) e_X11_holdAt_5 hs (fun hi1 hs => ?_)
  refine g_iconst e_X11_holdAt_6 ?_
  refine g_icmp_ne e_X11_holdAt_7 (ok_t_speckLow _) (by decide : inI (-1)) hs (fun c7 hs => ?_) (fun c7 hs => ?_)
  · refine g_aload_n e_X11_holdAt_10 rfl ?_
    refine g_get 0 17 ao rfl rfl fsX11_g17 fl_X11_252 e_X11_holdAt_11 ?_
    refine g_goto e_X11_holdAt_14 ?_
    exact g_X11_holdAt_23 ao ok_t_baseLow ok_t_baseHigh ok_t_speckLow ok_t_speckHigh ok_v1 ok_v2 ok_t_baseLow hs
  · refine g_aload_n e_X11_holdAt_17 rfl ?_
    refine g_get 0 11 ao rfl rfl fsX11_g11 fl_X11_32 e_X11_holdAt_18 ?_
    refine g_iload_n e_X11_holdAt_21 rfl ?_
    refine g_iald 1 ao rfl rfl (Nat.le_of_ble_eq_true rfl) e_X11_holdAt_22 hs (fun hi4 hs => ?_)
    exact g_X11_holdAt_23 ao ok_t_baseLow ok_t_baseHigh ok_t_speckLow ok_t_speckHigh ok_v1 ok_v2 (ok_t_speckLow _) hs

noncomputable def m_X11_holdAt (t_baseLow : Int) (t_baseHigh : Int) (t_speckLow : Nat → Int) (t_speckHigh : Nat → Int) (v1 : Int) (v2 : Int) : Option (Int) := m_X11_holdAt_0 t_baseLow t_baseHigh t_speckLow t_speckHigh v1 v2

set_option maxRecDepth 10000 in
set_option maxHeartbeats 8000000 in
theorem ct_X11_holdAt {l : Launch} {E : EE} {b0 n : Nat} {h : AH} {a_t : Nat} {t_thrown t_taped t_p t_fault t_baseLow t_baseHigh t_newBaseLow t_newBaseHigh t_from t_knots t_lines t_chosen t_undos t_redos t_aimedMany t_fits t_fitOf t_sights t_systems t_own t_cross t_curveLong t_wallFirst : Int} {t_speckLow t_speckHigh : Nat → Int} {v1 v2 : Int} (ao : AO b0 n [a_t, (a_t + 8), (a_t + 9)]) (hf : FA h [a_t, (a_t + 8), (a_t + 9)] [.inr (11, fsX11 a_t t_thrown t_taped t_p t_fault t_baseLow t_baseHigh t_newBaseLow t_newBaseHigh t_from t_knots t_lines t_chosen t_undos t_redos t_aimedMany t_fits t_fitOf t_sights t_systems t_own t_cross t_curveLong t_wallFirst), IA E 100 t_speckLow, IA E 100 t_speckHigh]) (ok_t_baseLow : inI t_baseLow) (ok_t_baseHigh : inI t_baseHigh) (ok_t_speckLow : okA t_speckLow) (ok_t_speckHigh : okA t_speckHigh) (ok_v1 : inI v1) (ok_v2 : inI v2) {r : Int} (hm : m_X11_holdAt t_baseLow t_baseHigh t_speckLow t_speckHigh v1 v2 = some r) : Ct l E b0 M_X11_holdAt 0 0 [.ref a_t, vI v1, vI v2] h n (some (vI r)) h n (inI r) := by
  rw [m_X11_holdAt] at hm
  have hg : G l E b0 M_X11_holdAt (fun _ => True) (ZM E b0 (some (vI r)) (ov [a_t, (a_t + 8), (a_t + 9)] [.inr (11, fsX11 a_t t_thrown t_taped t_p t_fault t_baseLow t_baseHigh t_newBaseLow t_newBaseHigh t_from t_knots t_lines t_chosen t_undos t_redos t_aimedMany t_fits t_fitOf t_sights t_systems t_own t_cross t_curveLong t_wallFirst), IA E 100 t_speckLow, IA E 100 t_speckHigh] h) n (inI r) 0 0) 0 0 n (ov [a_t, (a_t + 8), (a_t + 9)] [.inr (11, fsX11 a_t t_thrown t_taped t_p t_fault t_baseLow t_baseHigh t_newBaseLow t_newBaseHigh t_from t_knots t_lines t_chosen t_undos t_redos t_aimedMany t_fits t_fitOf t_sights t_systems t_own t_cross t_curveLong t_wallFirst), IA E 100 t_speckLow, IA E 100 t_speckHigh] h) 0 [some (.ref a_t), some (vI v1), some (vI v2), none, none] [] := by
    have hs := hm
    exact g_X11_holdAt_0 ao ok_t_baseLow ok_t_baseHigh ok_t_speckLow ok_t_speckHigh ok_v1 ok_v2 hs
  rw [FA_id hf] at hg
  exact Ct_of [some (.ref a_t), some (vI v1), some (vI v2), none, none] ⟨by decide +kernel, rfl⟩ rfl (Nat.le_of_ble_eq_true rfl) hg

/-! ===== X11_hold ===== -/
theorem e_X11_hold_0 : DC cX11_hold 0 (.iload_n 1) 1 1 := ⟨by decide +kernel, rfl⟩
theorem e_X11_hold_1 : DC cX11_hold 1 (.iconst 0) 1 2 := ⟨by decide +kernel, rfl⟩
theorem e_X11_hold_2 : DC cX11_hold 2 (.bipush 99) 2 4 := ⟨by decide +kernel, rfl⟩
theorem e_X11_hold_4 : DC cX11_hold 4 (.invokestatic 226) 3 7 := ⟨by decide +kernel, rfl⟩
theorem e_X11_hold_7 : DB cX11_hold 7 (.ifCond .eq 21) (21) 3 10 28 := ⟨by decide +kernel, rfl, rfl⟩
theorem e_X11_hold_10 : DC cX11_hold 10 (.iload_n 2) 1 11 := ⟨by decide +kernel, rfl⟩
theorem e_X11_hold_11 : DC cX11_hold 11 (.iconst 0) 1 12 := ⟨by decide +kernel, rfl⟩
theorem e_X11_hold_12 : DC cX11_hold 12 (.iconst 1) 1 13 := ⟨by decide +kernel, rfl⟩
theorem e_X11_hold_13 : DC cX11_hold 13 (.invokestatic 226) 3 16 := ⟨by decide +kernel, rfl⟩
theorem e_X11_hold_16 : DB cX11_hold 16 (.ifCond .eq 12) (12) 3 19 28 := ⟨by decide +kernel, rfl, rfl⟩
theorem e_X11_hold_19 : DC cX11_hold 19 (.aload_n 0) 1 20 := ⟨by decide +kernel, rfl⟩
theorem e_X11_hold_20 : DC cX11_hold 20 (.iload_n 1) 1 21 := ⟨by decide +kernel, rfl⟩
theorem e_X11_hold_21 : DC cX11_hold 21 (.iload_n 2) 1 22 := ⟨by decide +kernel, rfl⟩
theorem e_X11_hold_22 : DC cX11_hold 22 (.invokevirtual 265) 3 25 := ⟨by decide +kernel, rfl⟩
theorem e_X11_hold_25 : DB cX11_hold 25 (.goto 4) (4) 3 28 29 := ⟨by decide +kernel, rfl, rfl⟩
theorem e_X11_hold_28 : DC cX11_hold 28 (.iconst (-1)) 1 29 := ⟨by decide +kernel, rfl⟩
theorem e_X11_hold_29 : DC cX11_hold 29 (.ireturn) 1 30 := ⟨by decide +kernel, rfl⟩
noncomputable def m_X11_hold_0 (t_baseLow : Int) (t_baseHigh : Int) (t_speckLow : Nat → Int) (t_speckHigh : Nat → Int) (v1 : Int) (v2 : Int) : Option (Int) :=
  (m_X11_in v1 0 99).bind (fun y1 => if y1 = 0 then (some ((-1))) else ((m_X11_in v2 0 1).bind (fun y2 => if y2 = 0 then (some ((-1))) else ((m_X11_holdAt t_baseLow t_baseHigh t_speckLow t_speckHigh v1 v2).bind (fun y3 => some (y3))))))

set_option maxRecDepth 10000 in
set_option maxHeartbeats 8000000 in
theorem g_X11_hold_0 {l : Launch} {E : EE} {b0 n : Nat} {h : AH} {a_t : Nat} {t_thrown t_taped t_p t_fault t_baseLow t_baseHigh t_newBaseLow t_newBaseHigh t_from t_knots t_lines t_chosen t_undos t_redos t_aimedMany t_fits t_fitOf t_sights t_systems t_own t_cross t_curveLong t_wallFirst v1 v2 : Int} {t_speckLow t_speckHigh : Nat → Int} {r : Int} (ao : AO b0 n [a_t, (a_t + 8), (a_t + 9)]) (ok_t_baseLow : inI t_baseLow) (ok_t_baseHigh : inI t_baseHigh) (ok_t_speckLow : okA t_speckLow) (ok_t_speckHigh : okA t_speckHigh) (ok_v1 : inI v1) (ok_v2 : inI v2) (hs : m_X11_hold_0 t_baseLow t_baseHigh t_speckLow t_speckHigh v1 v2 = some r) : G l E b0 M_X11_hold (fun _ => True) (ZM E b0 (some (vI r)) (ov [a_t, (a_t + 8), (a_t + 9)] [.inr (11, fsX11 a_t t_thrown t_taped t_p t_fault t_baseLow t_baseHigh t_newBaseLow t_newBaseHigh t_from t_knots t_lines t_chosen t_undos t_redos t_aimedMany t_fits t_fitOf t_sights t_systems t_own t_cross t_curveLong t_wallFirst), IA E 100 t_speckLow, IA E 100 t_speckHigh] h) n (inI r) 0 0) 0 0 n (ov [a_t, (a_t + 8), (a_t + 9)] [.inr (11, fsX11 a_t t_thrown t_taped t_p t_fault t_baseLow t_baseHigh t_newBaseLow t_newBaseHigh t_from t_knots t_lines t_chosen t_undos t_redos t_aimedMany t_fits t_fitOf t_sights t_systems t_own t_cross t_curveLong t_wallFirst), IA E 100 t_speckLow, IA E 100 t_speckHigh] h) 0 [some (.ref a_t), some (vI v1), some (vI v2)] [] := by
  rw [m_X11_hold_0] at hs
  refine g_iload_n e_X11_hold_0 rfl ?_
  refine g_iconst e_X11_hold_1 ?_
  refine g_bipush e_X11_hold_2 bp_99 ?_
  obtain ⟨y1, hy1, hs⟩ := bind_elim hs
  refine g_callSr [vI v1, vI 0, vI 99] cs_X11_226 ⟨rfl, rfl, Nat.le_of_ble_eq_true rfl, Nat.le_of_ble_eq_true rfl⟩ (ct_X11_in ⟨List.nodup_nil, fun i a h => by simp at h⟩ (fun i a e h => by simp at h) ok_v1 (by decide : inI 0) (by decide : inI 99) hy1) e_X11_hold_4 rfl rfl (Nat.le_of_ble_eq_true rfl) ⟨Nat.le_refl _, Nat.le_refl _⟩ (fun Py1 => ?_)
  refine g_if_eq e_X11_hold_7 (inZ_I Py1) hs (fun c7 hs => ?_) (fun c7 hs => ?_)
  · refine g_iconst e_X11_hold_28 ?_
    obtain rfl := Option.some.inj hs
    exact g_iret rfl (by decide : inI (-1)) e_X11_hold_29
  · refine g_iload_n e_X11_hold_10 rfl ?_
    refine g_iconst e_X11_hold_11 ?_
    refine g_iconst e_X11_hold_12 ?_
    obtain ⟨y2, hy2, hs⟩ := bind_elim hs
    refine g_callSr [vI v2, vI 0, vI 1] cs_X11_226 ⟨rfl, rfl, Nat.le_of_ble_eq_true rfl, Nat.le_of_ble_eq_true rfl⟩ (ct_X11_in ⟨List.nodup_nil, fun i a h => by simp at h⟩ (fun i a e h => by simp at h) ok_v2 (by decide : inI 0) (by decide : inI 1) hy2) e_X11_hold_13 rfl rfl (Nat.le_of_ble_eq_true rfl) ⟨Nat.le_refl _, Nat.le_refl _⟩ (fun Py2 => ?_)
    refine g_if_eq e_X11_hold_16 (inZ_I Py2) hs (fun c16 hs => ?_) (fun c16 hs => ?_)
    · refine g_iconst e_X11_hold_28 ?_
      obtain rfl := Option.some.inj hs
      exact g_iret rfl (by decide : inI (-1)) e_X11_hold_29
    · refine g_aload_n e_X11_hold_19 rfl ?_
      refine g_iload_n e_X11_hold_20 rfl ?_
      refine g_iload_n e_X11_hold_21 rfl ?_
      obtain ⟨y3, hy3, hs⟩ := bind_elim hs
      refine g_callVr [vI v1, vI v2] cv_X11_265 ⟨rfl, rfl, Nat.le_of_ble_eq_true rfl, Nat.le_of_ble_eq_true rfl⟩ (ct_X11_holdAt (a_t := a_t) (AO_call [0, 1, 2] ao (by decide) rfl) (FA_call [0, 1, 2] ao.1 rfl rfl) ok_t_baseLow ok_t_baseHigh ok_t_speckLow ok_t_speckHigh ok_v1 ok_v2 hy3) e_X11_hold_22 (ao.2 0 _ rfl) (ov_get 0 ao.1 rfl rfl) rfl rfl rfl (Nat.le_of_ble_eq_true rfl) ⟨Nat.le_refl _, Nat.le_refl _⟩ (fun Py3 => ?_)
      refine g_goto e_X11_hold_25 ?_
      obtain rfl := Option.some.inj hs
      exact g_iret rfl Py3 e_X11_hold_29

noncomputable def m_X11_hold (t_baseLow : Int) (t_baseHigh : Int) (t_speckLow : Nat → Int) (t_speckHigh : Nat → Int) (v1 : Int) (v2 : Int) : Option (Int) := m_X11_hold_0 t_baseLow t_baseHigh t_speckLow t_speckHigh v1 v2

set_option maxRecDepth 10000 in
set_option maxHeartbeats 8000000 in
theorem ct_X11_hold {l : Launch} {E : EE} {b0 n : Nat} {h : AH} {a_t : Nat} {t_thrown t_taped t_p t_fault t_baseLow t_baseHigh t_newBaseLow t_newBaseHigh t_from t_knots t_lines t_chosen t_undos t_redos t_aimedMany t_fits t_fitOf t_sights t_systems t_own t_cross t_curveLong t_wallFirst : Int} {t_speckLow t_speckHigh : Nat → Int} {v1 v2 : Int} (ao : AO b0 n [a_t, (a_t + 8), (a_t + 9)]) (hf : FA h [a_t, (a_t + 8), (a_t + 9)] [.inr (11, fsX11 a_t t_thrown t_taped t_p t_fault t_baseLow t_baseHigh t_newBaseLow t_newBaseHigh t_from t_knots t_lines t_chosen t_undos t_redos t_aimedMany t_fits t_fitOf t_sights t_systems t_own t_cross t_curveLong t_wallFirst), IA E 100 t_speckLow, IA E 100 t_speckHigh]) (ok_t_baseLow : inI t_baseLow) (ok_t_baseHigh : inI t_baseHigh) (ok_t_speckLow : okA t_speckLow) (ok_t_speckHigh : okA t_speckHigh) (ok_v1 : inI v1) (ok_v2 : inI v2) {r : Int} (hm : m_X11_hold t_baseLow t_baseHigh t_speckLow t_speckHigh v1 v2 = some r) : Ct l E b0 M_X11_hold 0 0 [.ref a_t, vI v1, vI v2] h n (some (vI r)) h n (inI r) := by
  rw [m_X11_hold] at hm
  have hg : G l E b0 M_X11_hold (fun _ => True) (ZM E b0 (some (vI r)) (ov [a_t, (a_t + 8), (a_t + 9)] [.inr (11, fsX11 a_t t_thrown t_taped t_p t_fault t_baseLow t_baseHigh t_newBaseLow t_newBaseHigh t_from t_knots t_lines t_chosen t_undos t_redos t_aimedMany t_fits t_fitOf t_sights t_systems t_own t_cross t_curveLong t_wallFirst), IA E 100 t_speckLow, IA E 100 t_speckHigh] h) n (inI r) 0 0) 0 0 n (ov [a_t, (a_t + 8), (a_t + 9)] [.inr (11, fsX11 a_t t_thrown t_taped t_p t_fault t_baseLow t_baseHigh t_newBaseLow t_newBaseHigh t_from t_knots t_lines t_chosen t_undos t_redos t_aimedMany t_fits t_fitOf t_sights t_systems t_own t_cross t_curveLong t_wallFirst), IA E 100 t_speckLow, IA E 100 t_speckHigh] h) 0 [some (.ref a_t), some (vI v1), some (vI v2)] [] := by
    have hs := hm
    exact g_X11_hold_0 ao ok_t_baseLow ok_t_baseHigh ok_t_speckLow ok_t_speckHigh ok_v1 ok_v2 hs
  rw [FA_id hf] at hg
  exact Ct_of [some (.ref a_t), some (vI v1), some (vI v2)] ⟨by decide +kernel, rfl⟩ rfl (Nat.le_of_ble_eq_true rfl) hg

/-! ===== X11_knot ===== -/
theorem e_X11_knot_0 : DC cX11_knot 0 (.aload_n 0) 1 1 := ⟨by decide +kernel, rfl⟩
theorem e_X11_knot_1 : DC cX11_knot 1 (.getfield 268) 3 4 := ⟨by decide +kernel, rfl⟩
theorem e_X11_knot_4 : DC cX11_knot 4 (.bipush 60) 2 6 := ⟨by decide +kernel, rfl⟩
theorem e_X11_knot_6 : DB cX11_knot 6 (.if_icmp .ne 5) (5) 3 9 11 := ⟨by decide +kernel, rfl, rfl⟩
theorem e_X11_knot_9 : DC cX11_knot 9 (.iconst (-1)) 1 10 := ⟨by decide +kernel, rfl⟩
theorem e_X11_knot_10 : DC cX11_knot 10 (.ireturn) 1 11 := ⟨by decide +kernel, rfl⟩
theorem e_X11_knot_11 : DC cX11_knot 11 (.aload_n 0) 1 12 := ⟨by decide +kernel, rfl⟩
theorem e_X11_knot_12 : DC cX11_knot 12 (.getfield 50) 3 15 := ⟨by decide +kernel, rfl⟩
theorem e_X11_knot_15 : DC cX11_knot 15 (.aload_n 0) 1 16 := ⟨by decide +kernel, rfl⟩
theorem e_X11_knot_16 : DC cX11_knot 16 (.getfield 268) 3 19 := ⟨by decide +kernel, rfl⟩
theorem e_X11_knot_19 : DC cX11_knot 19 (.iload_n 1) 1 20 := ⟨by decide +kernel, rfl⟩
theorem e_X11_knot_20 : DC cX11_knot 20 (.bastore) 1 21 := ⟨by decide +kernel, rfl⟩
theorem e_X11_knot_21 : DC cX11_knot 21 (.aload_n 0) 1 22 := ⟨by decide +kernel, rfl⟩
theorem e_X11_knot_22 : DC cX11_knot 22 (.dup) 1 23 := ⟨by decide +kernel, rfl⟩
theorem e_X11_knot_23 : DC cX11_knot 23 (.getfield 268) 3 26 := ⟨by decide +kernel, rfl⟩
theorem e_X11_knot_26 : DC cX11_knot 26 (.iconst 1) 1 27 := ⟨by decide +kernel, rfl⟩
theorem e_X11_knot_27 : DC cX11_knot 27 (.iadd) 1 28 := ⟨by decide +kernel, rfl⟩
theorem e_X11_knot_28 : DC cX11_knot 28 (.putfield 268) 3 31 := ⟨by decide +kernel, rfl⟩
theorem e_X11_knot_31 : DC cX11_knot 31 (.aload_n 0) 1 32 := ⟨by decide +kernel, rfl⟩
theorem e_X11_knot_32 : DC cX11_knot 32 (.getfield 268) 3 35 := ⟨by decide +kernel, rfl⟩
theorem e_X11_knot_35 : DC cX11_knot 35 (.iconst 1) 1 36 := ⟨by decide +kernel, rfl⟩
theorem e_X11_knot_36 : DC cX11_knot 36 (.isub) 1 37 := ⟨by decide +kernel, rfl⟩
theorem e_X11_knot_37 : DC cX11_knot 37 (.ireturn) 1 38 := ⟨by decide +kernel, rfl⟩
noncomputable def m_X11_knot_0 (t_knots : Int) (t_isRim : Nat → Int) (v1 : Int) : Option (Int × Int × (Nat → Int)) :=
  if t_knots = 60 then (some ((-1), t_knots, t_isRim)) else (chk (inB t_knots 60) (chk (inI (t_knots + 1)) (chk (inI ((t_knots + 1) - 1)) (some ((t_knots + 1) - 1, t_knots + 1, up t_isRim (Int.toNat t_knots) v1)))))

set_option maxRecDepth 10000 in
set_option maxHeartbeats 8000000 in
theorem g_X11_knot_0 {l : Launch} {E : EE} {b0 n : Nat} {h : AH} {a_t : Nat} {t_thrown t_taped t_p t_fault t_baseLow t_baseHigh t_newBaseLow t_newBaseHigh t_from t_knots t_lines t_chosen t_undos t_redos t_aimedMany t_fits t_fitOf t_sights t_systems t_own t_cross t_curveLong t_wallFirst v1 : Int} {t_isRim : Nat → Int} {r : Int × Int × (Nat → Int)} (ao : AO b0 n [a_t, (a_t + 14)]) (ok_t_knots : inI t_knots) (ok_t_isRim : okZ t_isRim) (ok_v1 : inZ v1) (hs : m_X11_knot_0 t_knots t_isRim v1 = some r) : G l E b0 M_X11_knot (fun _ => True) (ZM E b0 (some (vI r.1)) (ov [a_t, (a_t + 14)] [.inr (11, fsX11 a_t t_thrown t_taped t_p t_fault t_baseLow t_baseHigh t_newBaseLow t_newBaseHigh t_from r.2.1 t_lines t_chosen t_undos t_redos t_aimedMany t_fits t_fitOf t_sights t_systems t_own t_cross t_curveLong t_wallFirst), ZA E 60 r.2.2] h) n (inI r.1 ∧ inI r.2.1 ∧ okZ r.2.2) 0 0) 0 0 n (ov [a_t, (a_t + 14)] [.inr (11, fsX11 a_t t_thrown t_taped t_p t_fault t_baseLow t_baseHigh t_newBaseLow t_newBaseHigh t_from t_knots t_lines t_chosen t_undos t_redos t_aimedMany t_fits t_fitOf t_sights t_systems t_own t_cross t_curveLong t_wallFirst), ZA E 60 t_isRim] h) 0 [some (.ref a_t), some (vI v1)] [] := by
  rw [m_X11_knot_0] at hs
  refine g_aload_n e_X11_knot_0 rfl ?_
  refine g_get 0 22 ao rfl rfl fsX11_g22 fl_X11_268 e_X11_knot_1 ?_
  refine g_bipush e_X11_knot_4 bp_60 ?_
  refine g_icmp_ne e_X11_knot_6 ok_t_knots (by decide : inI 60) hs (fun c6 hs => ?_) (fun c6 hs => ?_)
  · refine g_iconst e_X11_knot_9 ?_
    obtain rfl := Option.some.inj hs
    exact g_iret rfl ⟨(by decide : inI (-1)), ok_t_knots, ok_t_isRim⟩ e_X11_knot_10
  · refine g_aload_n e_X11_knot_11 rfl ?_
    refine g_get 0 24 ao rfl rfl fsX11_g24 fl_X11_50 e_X11_knot_12 ?_
    refine g_aload_n e_X11_knot_15 rfl ?_
    refine g_get 0 22 ao rfl rfl fsX11_g22 fl_X11_268 e_X11_knot_16 ?_
    refine g_iload_n e_X11_knot_19 rfl ?_
    refine g_zast 1 ao rfl rfl ls_1 (Nat.le_of_ble_eq_true rfl) ok_v1 e_X11_knot_20 hs (fun hi1 hs => ?_)
    refine g_aload_n e_X11_knot_21 rfl ?_
    refine g_dup e_X11_knot_22 rfl ?_
    refine g_get 0 22 ao rfl rfl fsX11_g22 fl_X11_268 e_X11_knot_23 ?_
    refine g_iconst e_X11_knot_26 ?_
    refine g_iadd e_X11_knot_27 ?_
    obtain ⟨hc2, hs⟩ := chk_elim hs
    refine g_put 0 22 ao rfl rfl fsX11_k22 fsX11_s22 ls_0 fw_X11_268 (fun h => by cases h) ⟨rfl, rfl⟩ e_X11_knot_28 ?_
    refine g_aload_n e_X11_knot_31 rfl ?_
    refine g_get 0 22 ao rfl rfl fsX11_g22 fl_X11_268 e_X11_knot_32 ?_
    refine g_iconst e_X11_knot_35 ?_
    refine g_isub e_X11_knot_36 ?_
    obtain ⟨hc3, hs⟩ := chk_elim hs
    obtain rfl := Option.some.inj hs
    exact g_iret rfl ⟨hc3, hc2, (okZ_up ok_t_isRim ok_v1)⟩ e_X11_knot_37

noncomputable def m_X11_knot (t_knots : Int) (t_isRim : Nat → Int) (v1 : Int) : Option (Int × Int × (Nat → Int)) := m_X11_knot_0 t_knots t_isRim v1

set_option maxRecDepth 10000 in
set_option maxHeartbeats 8000000 in
theorem ct_X11_knot {l : Launch} {E : EE} {b0 n : Nat} {h : AH} {a_t : Nat} {t_thrown t_taped t_p t_fault t_baseLow t_baseHigh t_newBaseLow t_newBaseHigh t_from t_knots t_lines t_chosen t_undos t_redos t_aimedMany t_fits t_fitOf t_sights t_systems t_own t_cross t_curveLong t_wallFirst : Int} {t_isRim : Nat → Int} {v1 : Int} (ao : AO b0 n [a_t, (a_t + 14)]) (hf : FA h [a_t, (a_t + 14)] [.inr (11, fsX11 a_t t_thrown t_taped t_p t_fault t_baseLow t_baseHigh t_newBaseLow t_newBaseHigh t_from t_knots t_lines t_chosen t_undos t_redos t_aimedMany t_fits t_fitOf t_sights t_systems t_own t_cross t_curveLong t_wallFirst), ZA E 60 t_isRim]) (ok_t_knots : inI t_knots) (ok_t_isRim : okZ t_isRim) (ok_v1 : inZ v1) {r : Int × Int × (Nat → Int)} (hm : m_X11_knot t_knots t_isRim v1 = some r) : Ct l E b0 M_X11_knot 0 0 [.ref a_t, vI v1] h n (some (vI r.1)) (ov [a_t, (a_t + 14)] [.inr (11, fsX11 a_t t_thrown t_taped t_p t_fault t_baseLow t_baseHigh t_newBaseLow t_newBaseHigh t_from r.2.1 t_lines t_chosen t_undos t_redos t_aimedMany t_fits t_fitOf t_sights t_systems t_own t_cross t_curveLong t_wallFirst), ZA E 60 r.2.2] h) n (inI r.1 ∧ inI r.2.1 ∧ okZ r.2.2) := by
  rw [m_X11_knot] at hm
  have hg : G l E b0 M_X11_knot (fun _ => True) (ZM E b0 (some (vI r.1)) (ov [a_t, (a_t + 14)] [.inr (11, fsX11 a_t t_thrown t_taped t_p t_fault t_baseLow t_baseHigh t_newBaseLow t_newBaseHigh t_from r.2.1 t_lines t_chosen t_undos t_redos t_aimedMany t_fits t_fitOf t_sights t_systems t_own t_cross t_curveLong t_wallFirst), ZA E 60 r.2.2] h) n (inI r.1 ∧ inI r.2.1 ∧ okZ r.2.2) 0 0) 0 0 n (ov [a_t, (a_t + 14)] [.inr (11, fsX11 a_t t_thrown t_taped t_p t_fault t_baseLow t_baseHigh t_newBaseLow t_newBaseHigh t_from t_knots t_lines t_chosen t_undos t_redos t_aimedMany t_fits t_fitOf t_sights t_systems t_own t_cross t_curveLong t_wallFirst), ZA E 60 t_isRim] h) 0 [some (.ref a_t), some (vI v1)] [] := by
    have hs := hm
    exact g_X11_knot_0 ao ok_t_knots ok_t_isRim ok_v1 hs
  rw [FA_id hf] at hg
  exact Ct_of [some (.ref a_t), some (vI v1)] ⟨by decide +kernel, rfl⟩ rfl (Nat.le_of_ble_eq_true rfl) hg

/-! ===== X11_isKnot ===== -/
theorem e_X11_isKnot_0 : DC cX11_isKnot 0 (.iload_n 1) 1 1 := ⟨by decide +kernel, rfl⟩
theorem e_X11_isKnot_1 : DC cX11_isKnot 1 (.iconst 0) 1 2 := ⟨by decide +kernel, rfl⟩
theorem e_X11_isKnot_2 : DC cX11_isKnot 2 (.aload_n 0) 1 3 := ⟨by decide +kernel, rfl⟩
theorem e_X11_isKnot_3 : DC cX11_isKnot 3 (.getfield 268) 3 6 := ⟨by decide +kernel, rfl⟩
theorem e_X11_isKnot_6 : DC cX11_isKnot 6 (.iconst 1) 1 7 := ⟨by decide +kernel, rfl⟩
theorem e_X11_isKnot_7 : DC cX11_isKnot 7 (.isub) 1 8 := ⟨by decide +kernel, rfl⟩
theorem e_X11_isKnot_8 : DC cX11_isKnot 8 (.invokestatic 226) 3 11 := ⟨by decide +kernel, rfl⟩
theorem e_X11_isKnot_11 : DC cX11_isKnot 11 (.ireturn) 1 12 := ⟨by decide +kernel, rfl⟩
noncomputable def m_X11_isKnot_0 (t_knots : Int) (v1 : Int) : Option (Int) :=
  chk (inI (t_knots - 1)) ((m_X11_in v1 0 (t_knots - 1)).bind (fun y2 => some (y2)))

set_option maxRecDepth 10000 in
set_option maxHeartbeats 8000000 in
theorem g_X11_isKnot_0 {l : Launch} {E : EE} {b0 n : Nat} {h : AH} {a_t : Nat} {t_thrown t_taped t_p t_fault t_baseLow t_baseHigh t_newBaseLow t_newBaseHigh t_from t_knots t_lines t_chosen t_undos t_redos t_aimedMany t_fits t_fitOf t_sights t_systems t_own t_cross t_curveLong t_wallFirst v1 : Int} {r : Int} (ao : AO b0 n [a_t]) (ok_t_knots : inI t_knots) (ok_v1 : inI v1) (hs : m_X11_isKnot_0 t_knots v1 = some r) : G l E b0 M_X11_isKnot (fun _ => True) (ZM E b0 (some (vI r)) (ov [a_t] [.inr (11, fsX11 a_t t_thrown t_taped t_p t_fault t_baseLow t_baseHigh t_newBaseLow t_newBaseHigh t_from t_knots t_lines t_chosen t_undos t_redos t_aimedMany t_fits t_fitOf t_sights t_systems t_own t_cross t_curveLong t_wallFirst)] h) n (inZ r) 0 0) 0 0 n (ov [a_t] [.inr (11, fsX11 a_t t_thrown t_taped t_p t_fault t_baseLow t_baseHigh t_newBaseLow t_newBaseHigh t_from t_knots t_lines t_chosen t_undos t_redos t_aimedMany t_fits t_fitOf t_sights t_systems t_own t_cross t_curveLong t_wallFirst)] h) 0 [some (.ref a_t), some (vI v1)] [] := by
  rw [m_X11_isKnot_0] at hs
  refine g_iload_n e_X11_isKnot_0 rfl ?_
  refine g_iconst e_X11_isKnot_1 ?_
  refine g_aload_n e_X11_isKnot_2 rfl ?_
  refine g_get 0 22 ao rfl rfl fsX11_g22 fl_X11_268 e_X11_isKnot_3 ?_
  refine g_iconst e_X11_isKnot_6 ?_
  refine g_isub e_X11_isKnot_7 ?_
  obtain ⟨hc1, hs⟩ := chk_elim hs
  obtain ⟨y2, hy2, hs⟩ := bind_elim hs
  refine g_callSr [vI v1, vI 0, vI (t_knots - 1)] cs_X11_226 ⟨rfl, rfl, Nat.le_of_ble_eq_true rfl, Nat.le_of_ble_eq_true rfl⟩ (ct_X11_in ⟨List.nodup_nil, fun i a h => by simp at h⟩ (fun i a e h => by simp at h) ok_v1 (by decide : inI 0) hc1 hy2) e_X11_isKnot_8 rfl rfl (Nat.le_of_ble_eq_true rfl) ⟨Nat.le_refl _, Nat.le_refl _⟩ (fun Py2 => ?_)
  obtain rfl := Option.some.inj hs
  exact g_zret rfl Py2 Py2 e_X11_isKnot_11

noncomputable def m_X11_isKnot (t_knots : Int) (v1 : Int) : Option (Int) := m_X11_isKnot_0 t_knots v1

set_option maxRecDepth 10000 in
set_option maxHeartbeats 8000000 in
theorem ct_X11_isKnot {l : Launch} {E : EE} {b0 n : Nat} {h : AH} {a_t : Nat} {t_thrown t_taped t_p t_fault t_baseLow t_baseHigh t_newBaseLow t_newBaseHigh t_from t_knots t_lines t_chosen t_undos t_redos t_aimedMany t_fits t_fitOf t_sights t_systems t_own t_cross t_curveLong t_wallFirst : Int} {v1 : Int} (ao : AO b0 n [a_t]) (hf : FA h [a_t] [.inr (11, fsX11 a_t t_thrown t_taped t_p t_fault t_baseLow t_baseHigh t_newBaseLow t_newBaseHigh t_from t_knots t_lines t_chosen t_undos t_redos t_aimedMany t_fits t_fitOf t_sights t_systems t_own t_cross t_curveLong t_wallFirst)]) (ok_t_knots : inI t_knots) (ok_v1 : inI v1) {r : Int} (hm : m_X11_isKnot t_knots v1 = some r) : Ct l E b0 M_X11_isKnot 0 0 [.ref a_t, vI v1] h n (some (vI r)) h n (inZ r) := by
  rw [m_X11_isKnot] at hm
  have hg : G l E b0 M_X11_isKnot (fun _ => True) (ZM E b0 (some (vI r)) (ov [a_t] [.inr (11, fsX11 a_t t_thrown t_taped t_p t_fault t_baseLow t_baseHigh t_newBaseLow t_newBaseHigh t_from t_knots t_lines t_chosen t_undos t_redos t_aimedMany t_fits t_fitOf t_sights t_systems t_own t_cross t_curveLong t_wallFirst)] h) n (inZ r) 0 0) 0 0 n (ov [a_t] [.inr (11, fsX11 a_t t_thrown t_taped t_p t_fault t_baseLow t_baseHigh t_newBaseLow t_newBaseHigh t_from t_knots t_lines t_chosen t_undos t_redos t_aimedMany t_fits t_fitOf t_sights t_systems t_own t_cross t_curveLong t_wallFirst)] h) 0 [some (.ref a_t), some (vI v1)] [] := by
    have hs := hm
    exact g_X11_isKnot_0 ao ok_t_knots ok_v1 hs
  rw [FA_id hf] at hg
  exact Ct_of [some (.ref a_t), some (vI v1)] ⟨by decide +kernel, rfl⟩ rfl (Nat.le_of_ble_eq_true rfl) hg

/-! ===== X11_isLine ===== -/
theorem e_X11_isLine_0 : DC cX11_isLine 0 (.iload_n 1) 1 1 := ⟨by decide +kernel, rfl⟩
theorem e_X11_isLine_1 : DC cX11_isLine 1 (.iconst 0) 1 2 := ⟨by decide +kernel, rfl⟩
theorem e_X11_isLine_2 : DC cX11_isLine 2 (.aload_n 0) 1 3 := ⟨by decide +kernel, rfl⟩
theorem e_X11_isLine_3 : DC cX11_isLine 3 (.getfield 271) 3 6 := ⟨by decide +kernel, rfl⟩
theorem e_X11_isLine_6 : DC cX11_isLine 6 (.iconst 1) 1 7 := ⟨by decide +kernel, rfl⟩
theorem e_X11_isLine_7 : DC cX11_isLine 7 (.isub) 1 8 := ⟨by decide +kernel, rfl⟩
theorem e_X11_isLine_8 : DC cX11_isLine 8 (.invokestatic 226) 3 11 := ⟨by decide +kernel, rfl⟩
theorem e_X11_isLine_11 : DB cX11_isLine 11 (.ifCond .eq 16) (16) 3 14 27 := ⟨by decide +kernel, rfl, rfl⟩
theorem e_X11_isLine_14 : DC cX11_isLine 14 (.aload_n 0) 1 15 := ⟨by decide +kernel, rfl⟩
theorem e_X11_isLine_15 : DC cX11_isLine 15 (.getfield 54) 3 18 := ⟨by decide +kernel, rfl⟩
theorem e_X11_isLine_18 : DC cX11_isLine 18 (.iload_n 1) 1 19 := ⟨by decide +kernel, rfl⟩
theorem e_X11_isLine_19 : DC cX11_isLine 19 (.baload) 1 20 := ⟨by decide +kernel, rfl⟩
theorem e_X11_isLine_20 : DB cX11_isLine 20 (.ifCond .ne 7) (7) 3 23 27 := ⟨by decide +kernel, rfl, rfl⟩
theorem e_X11_isLine_23 : DC cX11_isLine 23 (.iconst 1) 1 24 := ⟨by decide +kernel, rfl⟩
theorem e_X11_isLine_24 : DB cX11_isLine 24 (.goto 4) (4) 3 27 28 := ⟨by decide +kernel, rfl, rfl⟩
theorem e_X11_isLine_27 : DC cX11_isLine 27 (.iconst 0) 1 28 := ⟨by decide +kernel, rfl⟩
theorem e_X11_isLine_28 : DC cX11_isLine 28 (.ireturn) 1 29 := ⟨by decide +kernel, rfl⟩
noncomputable def m_X11_isLine_0 (t_lines : Int) (t_isGone : Nat → Int) (v1 : Int) : Option (Int) :=
  chk (inI (t_lines - 1)) ((m_X11_in v1 0 (t_lines - 1)).bind (fun y2 => if y2 = 0 then (some (0)) else (chk (inB v1 120) (if (t_isGone (Int.toNat v1)) = 0 then (some (1)) else (some (0))))))

set_option maxRecDepth 10000 in
set_option maxHeartbeats 8000000 in
theorem g_X11_isLine_0 {l : Launch} {E : EE} {b0 n : Nat} {h : AH} {a_t : Nat} {t_thrown t_taped t_p t_fault t_baseLow t_baseHigh t_newBaseLow t_newBaseHigh t_from t_knots t_lines t_chosen t_undos t_redos t_aimedMany t_fits t_fitOf t_sights t_systems t_own t_cross t_curveLong t_wallFirst v1 : Int} {t_isGone : Nat → Int} {r : Int} (ao : AO b0 n [a_t, (a_t + 15)]) (ok_t_lines : inI t_lines) (ok_t_isGone : okZ t_isGone) (ok_v1 : inI v1) (hs : m_X11_isLine_0 t_lines t_isGone v1 = some r) : G l E b0 M_X11_isLine (fun _ => True) (ZM E b0 (some (vI r)) (ov [a_t, (a_t + 15)] [.inr (11, fsX11 a_t t_thrown t_taped t_p t_fault t_baseLow t_baseHigh t_newBaseLow t_newBaseHigh t_from t_knots t_lines t_chosen t_undos t_redos t_aimedMany t_fits t_fitOf t_sights t_systems t_own t_cross t_curveLong t_wallFirst), ZA E 120 t_isGone] h) n (inZ r) 0 0) 0 0 n (ov [a_t, (a_t + 15)] [.inr (11, fsX11 a_t t_thrown t_taped t_p t_fault t_baseLow t_baseHigh t_newBaseLow t_newBaseHigh t_from t_knots t_lines t_chosen t_undos t_redos t_aimedMany t_fits t_fitOf t_sights t_systems t_own t_cross t_curveLong t_wallFirst), ZA E 120 t_isGone] h) 0 [some (.ref a_t), some (vI v1)] [] := by
  rw [m_X11_isLine_0] at hs
  refine g_iload_n e_X11_isLine_0 rfl ?_
  refine g_iconst e_X11_isLine_1 ?_
  refine g_aload_n e_X11_isLine_2 rfl ?_
  refine g_get 0 23 ao rfl rfl fsX11_g23 fl_X11_271 e_X11_isLine_3 ?_
  refine g_iconst e_X11_isLine_6 ?_
  refine g_isub e_X11_isLine_7 ?_
  obtain ⟨hc1, hs⟩ := chk_elim hs
  obtain ⟨y2, hy2, hs⟩ := bind_elim hs
  refine g_callSr [vI v1, vI 0, vI (t_lines - 1)] cs_X11_226 ⟨rfl, rfl, Nat.le_of_ble_eq_true rfl, Nat.le_of_ble_eq_true rfl⟩ (ct_X11_in ⟨List.nodup_nil, fun i a h => by simp at h⟩ (fun i a e h => by simp at h) ok_v1 (by decide : inI 0) hc1 hy2) e_X11_isLine_8 rfl rfl (Nat.le_of_ble_eq_true rfl) ⟨Nat.le_refl _, Nat.le_refl _⟩ (fun Py2 => ?_)
  refine g_if_eq e_X11_isLine_11 (inZ_I Py2) hs (fun c11 hs => ?_) (fun c11 hs => ?_)
  · refine g_iconst e_X11_isLine_27 ?_
    obtain rfl := Option.some.inj hs
    exact g_zret rfl (by decide : inZ 0) (by decide : inZ 0) e_X11_isLine_28
  · refine g_aload_n e_X11_isLine_14 rfl ?_
    refine g_get 0 25 ao rfl rfl fsX11_g25 fl_X11_54 e_X11_isLine_15 ?_
    refine g_iload_n e_X11_isLine_18 rfl ?_
    refine g_zald 1 ao rfl rfl (Nat.le_of_ble_eq_true rfl) e_X11_isLine_19 hs (fun hi3 hs => ?_)
    refine g_if_ne e_X11_isLine_20 (inZ_I (ok_t_isGone _)) hs (fun c20 hs => ?_) (fun c20 hs => ?_)
    · refine g_iconst e_X11_isLine_23 ?_
      refine g_goto e_X11_isLine_24 ?_
      obtain rfl := Option.some.inj hs
      exact g_zret rfl (by decide : inZ 1) (by decide : inZ 1) e_X11_isLine_28
    · refine g_iconst e_X11_isLine_27 ?_
      obtain rfl := Option.some.inj hs
      exact g_zret rfl (by decide : inZ 0) (by decide : inZ 0) e_X11_isLine_28

noncomputable def m_X11_isLine (t_lines : Int) (t_isGone : Nat → Int) (v1 : Int) : Option (Int) := m_X11_isLine_0 t_lines t_isGone v1

set_option maxRecDepth 10000 in
set_option maxHeartbeats 8000000 in
theorem ct_X11_isLine {l : Launch} {E : EE} {b0 n : Nat} {h : AH} {a_t : Nat} {t_thrown t_taped t_p t_fault t_baseLow t_baseHigh t_newBaseLow t_newBaseHigh t_from t_knots t_lines t_chosen t_undos t_redos t_aimedMany t_fits t_fitOf t_sights t_systems t_own t_cross t_curveLong t_wallFirst : Int} {t_isGone : Nat → Int} {v1 : Int} (ao : AO b0 n [a_t, (a_t + 15)]) (hf : FA h [a_t, (a_t + 15)] [.inr (11, fsX11 a_t t_thrown t_taped t_p t_fault t_baseLow t_baseHigh t_newBaseLow t_newBaseHigh t_from t_knots t_lines t_chosen t_undos t_redos t_aimedMany t_fits t_fitOf t_sights t_systems t_own t_cross t_curveLong t_wallFirst), ZA E 120 t_isGone]) (ok_t_lines : inI t_lines) (ok_t_isGone : okZ t_isGone) (ok_v1 : inI v1) {r : Int} (hm : m_X11_isLine t_lines t_isGone v1 = some r) : Ct l E b0 M_X11_isLine 0 0 [.ref a_t, vI v1] h n (some (vI r)) h n (inZ r) := by
  rw [m_X11_isLine] at hm
  have hg : G l E b0 M_X11_isLine (fun _ => True) (ZM E b0 (some (vI r)) (ov [a_t, (a_t + 15)] [.inr (11, fsX11 a_t t_thrown t_taped t_p t_fault t_baseLow t_baseHigh t_newBaseLow t_newBaseHigh t_from t_knots t_lines t_chosen t_undos t_redos t_aimedMany t_fits t_fitOf t_sights t_systems t_own t_cross t_curveLong t_wallFirst), ZA E 120 t_isGone] h) n (inZ r) 0 0) 0 0 n (ov [a_t, (a_t + 15)] [.inr (11, fsX11 a_t t_thrown t_taped t_p t_fault t_baseLow t_baseHigh t_newBaseLow t_newBaseHigh t_from t_knots t_lines t_chosen t_undos t_redos t_aimedMany t_fits t_fitOf t_sights t_systems t_own t_cross t_curveLong t_wallFirst), ZA E 120 t_isGone] h) 0 [some (.ref a_t), some (vI v1)] [] := by
    have hs := hm
    exact g_X11_isLine_0 ao ok_t_lines ok_t_isGone ok_v1 hs
  rw [FA_id hf] at hg
  exact Ct_of [some (.ref a_t), some (vI v1)] ⟨by decide +kernel, rfl⟩ rfl (Nat.le_of_ble_eq_true rfl) hg

/-! ===== X11_lineIn ===== -/
theorem e_X11_lineIn_0 : DC cX11_lineIn 0 (.aload_n 0) 1 1 := ⟨by decide +kernel, rfl⟩
theorem e_X11_lineIn_1 : DC cX11_lineIn 1 (.getfield 57) 3 4 := ⟨by decide +kernel, rfl⟩
theorem e_X11_lineIn_4 : DC cX11_lineIn 4 (.aload_n 0) 1 5 := ⟨by decide +kernel, rfl⟩
theorem e_X11_lineIn_5 : DC cX11_lineIn 5 (.getfield 271) 3 8 := ⟨by decide +kernel, rfl⟩
theorem e_X11_lineIn_8 : DC cX11_lineIn 8 (.iload_n 1) 1 9 := ⟨by decide +kernel, rfl⟩
theorem e_X11_lineIn_9 : DC cX11_lineIn 9 (.iastore) 1 10 := ⟨by decide +kernel, rfl⟩
theorem e_X11_lineIn_10 : DC cX11_lineIn 10 (.aload_n 0) 1 11 := ⟨by decide +kernel, rfl⟩
theorem e_X11_lineIn_11 : DC cX11_lineIn 11 (.getfield 60) 3 14 := ⟨by decide +kernel, rfl⟩
theorem e_X11_lineIn_14 : DC cX11_lineIn 14 (.aload_n 0) 1 15 := ⟨by decide +kernel, rfl⟩
theorem e_X11_lineIn_15 : DC cX11_lineIn 15 (.getfield 271) 3 18 := ⟨by decide +kernel, rfl⟩
theorem e_X11_lineIn_18 : DC cX11_lineIn 18 (.iload_n 2) 1 19 := ⟨by decide +kernel, rfl⟩
theorem e_X11_lineIn_19 : DC cX11_lineIn 19 (.iastore) 1 20 := ⟨by decide +kernel, rfl⟩
theorem e_X11_lineIn_20 : DC cX11_lineIn 20 (.aload_n 0) 1 21 := ⟨by decide +kernel, rfl⟩
theorem e_X11_lineIn_21 : DC cX11_lineIn 21 (.getfield 63) 3 24 := ⟨by decide +kernel, rfl⟩
theorem e_X11_lineIn_24 : DC cX11_lineIn 24 (.iconst 3) 1 25 := ⟨by decide +kernel, rfl⟩
theorem e_X11_lineIn_25 : DC cX11_lineIn 25 (.aload_n 0) 1 26 := ⟨by decide +kernel, rfl⟩
theorem e_X11_lineIn_26 : DC cX11_lineIn 26 (.getfield 271) 3 29 := ⟨by decide +kernel, rfl⟩
theorem e_X11_lineIn_29 : DC cX11_lineIn 29 (.imul) 1 30 := ⟨by decide +kernel, rfl⟩
theorem e_X11_lineIn_30 : DC cX11_lineIn 30 (.iload_n 3) 1 31 := ⟨by decide +kernel, rfl⟩
theorem e_X11_lineIn_31 : DC cX11_lineIn 31 (.iastore) 1 32 := ⟨by decide +kernel, rfl⟩
theorem e_X11_lineIn_32 : DC cX11_lineIn 32 (.aload_n 0) 1 33 := ⟨by decide +kernel, rfl⟩
theorem e_X11_lineIn_33 : DC cX11_lineIn 33 (.getfield 63) 3 36 := ⟨by decide +kernel, rfl⟩
theorem e_X11_lineIn_36 : DC cX11_lineIn 36 (.iconst 3) 1 37 := ⟨by decide +kernel, rfl⟩
theorem e_X11_lineIn_37 : DC cX11_lineIn 37 (.aload_n 0) 1 38 := ⟨by decide +kernel, rfl⟩
theorem e_X11_lineIn_38 : DC cX11_lineIn 38 (.getfield 271) 3 41 := ⟨by decide +kernel, rfl⟩
theorem e_X11_lineIn_41 : DC cX11_lineIn 41 (.imul) 1 42 := ⟨by decide +kernel, rfl⟩
theorem e_X11_lineIn_42 : DC cX11_lineIn 42 (.iconst 1) 1 43 := ⟨by decide +kernel, rfl⟩
theorem e_X11_lineIn_43 : DC cX11_lineIn 43 (.iadd) 1 44 := ⟨by decide +kernel, rfl⟩
theorem e_X11_lineIn_44 : DC cX11_lineIn 44 (.iload 4) 2 46 := ⟨by decide +kernel, rfl⟩
theorem e_X11_lineIn_46 : DC cX11_lineIn 46 (.iastore) 1 47 := ⟨by decide +kernel, rfl⟩
theorem e_X11_lineIn_47 : DC cX11_lineIn 47 (.aload_n 0) 1 48 := ⟨by decide +kernel, rfl⟩
theorem e_X11_lineIn_48 : DC cX11_lineIn 48 (.getfield 63) 3 51 := ⟨by decide +kernel, rfl⟩
theorem e_X11_lineIn_51 : DC cX11_lineIn 51 (.iconst 3) 1 52 := ⟨by decide +kernel, rfl⟩
theorem e_X11_lineIn_52 : DC cX11_lineIn 52 (.aload_n 0) 1 53 := ⟨by decide +kernel, rfl⟩
theorem e_X11_lineIn_53 : DC cX11_lineIn 53 (.getfield 271) 3 56 := ⟨by decide +kernel, rfl⟩
theorem e_X11_lineIn_56 : DC cX11_lineIn 56 (.imul) 1 57 := ⟨by decide +kernel, rfl⟩
theorem e_X11_lineIn_57 : DC cX11_lineIn 57 (.iconst 2) 1 58 := ⟨by decide +kernel, rfl⟩
theorem e_X11_lineIn_58 : DC cX11_lineIn 58 (.iadd) 1 59 := ⟨by decide +kernel, rfl⟩
theorem e_X11_lineIn_59 : DC cX11_lineIn 59 (.iload 5) 2 61 := ⟨by decide +kernel, rfl⟩
theorem e_X11_lineIn_61 : DC cX11_lineIn 61 (.iastore) 1 62 := ⟨by decide +kernel, rfl⟩
theorem e_X11_lineIn_62 : DC cX11_lineIn 62 (.aload_n 0) 1 63 := ⟨by decide +kernel, rfl⟩
theorem e_X11_lineIn_63 : DC cX11_lineIn 63 (.dup) 1 64 := ⟨by decide +kernel, rfl⟩
theorem e_X11_lineIn_64 : DC cX11_lineIn 64 (.getfield 271) 3 67 := ⟨by decide +kernel, rfl⟩
theorem e_X11_lineIn_67 : DC cX11_lineIn 67 (.iconst 1) 1 68 := ⟨by decide +kernel, rfl⟩
theorem e_X11_lineIn_68 : DC cX11_lineIn 68 (.iadd) 1 69 := ⟨by decide +kernel, rfl⟩
theorem e_X11_lineIn_69 : DC cX11_lineIn 69 (.putfield 271) 3 72 := ⟨by decide +kernel, rfl⟩
theorem e_X11_lineIn_72 : DC cX11_lineIn 72 (.aload_n 0) 1 73 := ⟨by decide +kernel, rfl⟩
theorem e_X11_lineIn_73 : DC cX11_lineIn 73 (.getfield 271) 3 76 := ⟨by decide +kernel, rfl⟩
theorem e_X11_lineIn_76 : DC cX11_lineIn 76 (.iconst 1) 1 77 := ⟨by decide +kernel, rfl⟩
theorem e_X11_lineIn_77 : DC cX11_lineIn 77 (.isub) 1 78 := ⟨by decide +kernel, rfl⟩
theorem e_X11_lineIn_78 : DC cX11_lineIn 78 (.ireturn) 1 79 := ⟨by decide +kernel, rfl⟩
noncomputable def m_X11_lineIn_0 (t_lines : Int) (t_start : Nat → Int) (t_goal : Nat → Int) (t_line : Nat → Int) (v1 : Int) (v2 : Int) (v3 : Int) (v4 : Int) (v5 : Int) : Option (Int × Int × (Nat → Int) × (Nat → Int) × (Nat → Int)) :=
  chk (inB t_lines 120) (chk (inB t_lines 120) (chk (inB (3 * t_lines) 360) (chk (inB ((3 * t_lines) + 1) 360) (chk (inB ((3 * t_lines) + 2) 360) (chk (inI (t_lines + 1)) (chk (inI ((t_lines + 1) - 1)) (some ((t_lines + 1) - 1, t_lines + 1, up t_start (Int.toNat t_lines) v1, up t_goal (Int.toNat t_lines) v2, up (up (up t_line (Int.toNat (3 * t_lines)) v3) (Int.toNat ((3 * t_lines) + 1)) v4) (Int.toNat ((3 * t_lines) + 2)) v5))))))))

set_option maxRecDepth 10000 in
set_option maxHeartbeats 8000000 in
theorem g_X11_lineIn_0 {l : Launch} {E : EE} {b0 n : Nat} {h : AH} {a_t : Nat} {t_thrown t_taped t_p t_fault t_baseLow t_baseHigh t_newBaseLow t_newBaseHigh t_from t_knots t_lines t_chosen t_undos t_redos t_aimedMany t_fits t_fitOf t_sights t_systems t_own t_cross t_curveLong t_wallFirst v1 v2 v3 v4 v5 : Int} {t_start t_goal t_line : Nat → Int} {r : Int × Int × (Nat → Int) × (Nat → Int) × (Nat → Int)} (ao : AO b0 n [a_t, (a_t + 16), (a_t + 17), (a_t + 18)]) (ok_t_lines : inI t_lines) (ok_t_start : okA t_start) (ok_t_goal : okA t_goal) (ok_t_line : okA t_line) (ok_v1 : inI v1) (ok_v2 : inI v2) (ok_v3 : inI v3) (ok_v4 : inI v4) (ok_v5 : inI v5) (hs : m_X11_lineIn_0 t_lines t_start t_goal t_line v1 v2 v3 v4 v5 = some r) : G l E b0 M_X11_lineIn (fun _ => True) (ZM E b0 (some (vI r.1)) (ov [a_t, (a_t + 16), (a_t + 17), (a_t + 18)] [.inr (11, fsX11 a_t t_thrown t_taped t_p t_fault t_baseLow t_baseHigh t_newBaseLow t_newBaseHigh t_from t_knots r.2.1 t_chosen t_undos t_redos t_aimedMany t_fits t_fitOf t_sights t_systems t_own t_cross t_curveLong t_wallFirst), IA E 120 r.2.2.1, IA E 120 r.2.2.2.1, IA E 360 r.2.2.2.2] h) n (inI r.1 ∧ inI r.2.1 ∧ okA r.2.2.1 ∧ okA r.2.2.2.1 ∧ okA r.2.2.2.2) 0 0) 0 0 n (ov [a_t, (a_t + 16), (a_t + 17), (a_t + 18)] [.inr (11, fsX11 a_t t_thrown t_taped t_p t_fault t_baseLow t_baseHigh t_newBaseLow t_newBaseHigh t_from t_knots t_lines t_chosen t_undos t_redos t_aimedMany t_fits t_fitOf t_sights t_systems t_own t_cross t_curveLong t_wallFirst), IA E 120 t_start, IA E 120 t_goal, IA E 360 t_line] h) 0 [some (.ref a_t), some (vI v1), some (vI v2), some (vI v3), some (vI v4), some (vI v5)] [] := by
  rw [m_X11_lineIn_0] at hs
  refine g_aload_n e_X11_lineIn_0 rfl ?_
  refine g_get 0 26 ao rfl rfl fsX11_g26 fl_X11_57 e_X11_lineIn_1 ?_
  refine g_aload_n e_X11_lineIn_4 rfl ?_
  refine g_get 0 23 ao rfl rfl fsX11_g23 fl_X11_271 e_X11_lineIn_5 ?_
  refine g_iload_n e_X11_lineIn_8 rfl ?_
  refine g_iast 1 ao rfl rfl ls_1 (Nat.le_of_ble_eq_true rfl) e_X11_lineIn_9 hs (fun hi1 hs => ?_)
  refine g_aload_n e_X11_lineIn_10 rfl ?_
  refine g_get 0 27 ao rfl rfl fsX11_g27 fl_X11_60 e_X11_lineIn_11 ?_
  refine g_aload_n e_X11_lineIn_14 rfl ?_
  refine g_get 0 23 ao rfl rfl fsX11_g23 fl_X11_271 e_X11_lineIn_15 ?_
  refine g_iload_n e_X11_lineIn_18 rfl ?_
  refine g_iast 2 ao rfl rfl ls_2 (Nat.le_of_ble_eq_true rfl) e_X11_lineIn_19 hs (fun hi2 hs => ?_)
  refine g_aload_n e_X11_lineIn_20 rfl ?_
  refine g_get 0 28 ao rfl rfl fsX11_g28 fl_X11_63 e_X11_lineIn_21 ?_
  refine g_iconst e_X11_lineIn_24 ?_
  refine g_aload_n e_X11_lineIn_25 rfl ?_
  refine g_get 0 23 ao rfl rfl fsX11_g23 fl_X11_271 e_X11_lineIn_26 ?_
  refine g_imul e_X11_lineIn_29 ?_
  refine g_iload_n e_X11_lineIn_30 rfl ?_
  refine g_iast 3 ao rfl rfl ls_3 (Nat.le_of_ble_eq_true rfl) e_X11_lineIn_31 hs (fun hi3 hs => ?_)
  refine g_aload_n e_X11_lineIn_32 rfl ?_
  refine g_get 0 28 ao rfl rfl fsX11_g28 fl_X11_63 e_X11_lineIn_33 ?_
  refine g_iconst e_X11_lineIn_36 ?_
  refine g_aload_n e_X11_lineIn_37 rfl ?_
  refine g_get 0 23 ao rfl rfl fsX11_g23 fl_X11_271 e_X11_lineIn_38 ?_
  refine g_imul e_X11_lineIn_41 ?_
  refine g_iconst e_X11_lineIn_42 ?_
  refine g_iadd e_X11_lineIn_43 ?_
  refine g_iload e_X11_lineIn_44 rfl ?_
  refine g_iast 3 ao rfl rfl ls_3 (Nat.le_of_ble_eq_true rfl) e_X11_lineIn_46 hs (fun hi4 hs => ?_)
  refine g_aload_n e_X11_lineIn_47 rfl ?_
  refine g_get 0 28 ao rfl rfl fsX11_g28 fl_X11_63 e_X11_lineIn_48 ?_
  refine g_iconst e_X11_lineIn_51 ?_
  refine g_aload_n e_X11_lineIn_52 rfl ?_
  refine g_get 0 23 ao rfl rfl fsX11_g23 fl_X11_271 e_X11_lineIn_53 ?_
  refine g_imul e_X11_lineIn_56 ?_
  refine g_iconst e_X11_lineIn_57 ?_
  refine g_iadd e_X11_lineIn_58 ?_
  refine g_iload e_X11_lineIn_59 rfl ?_
  refine g_iast 3 ao rfl rfl ls_3 (Nat.le_of_ble_eq_true rfl) e_X11_lineIn_61 hs (fun hi5 hs => ?_)
  refine g_aload_n e_X11_lineIn_62 rfl ?_
  refine g_dup e_X11_lineIn_63 rfl ?_
  refine g_get 0 23 ao rfl rfl fsX11_g23 fl_X11_271 e_X11_lineIn_64 ?_
  refine g_iconst e_X11_lineIn_67 ?_
  refine g_iadd e_X11_lineIn_68 ?_
  obtain ⟨hc6, hs⟩ := chk_elim hs
  refine g_put 0 23 ao rfl rfl fsX11_k23 fsX11_s23 ls_0 fw_X11_271 (fun h => by cases h) ⟨rfl, rfl⟩ e_X11_lineIn_69 ?_
  refine g_aload_n e_X11_lineIn_72 rfl ?_
  refine g_get 0 23 ao rfl rfl fsX11_g23 fl_X11_271 e_X11_lineIn_73 ?_
  refine g_iconst e_X11_lineIn_76 ?_
  refine g_isub e_X11_lineIn_77 ?_
  obtain ⟨hc7, hs⟩ := chk_elim hs
  obtain rfl := Option.some.inj hs
  exact g_iret rfl ⟨hc7, hc6, (okA_up ok_t_start ok_v1), (okA_up ok_t_goal ok_v2), (okA_up (okA_up (okA_up ok_t_line ok_v3) ok_v4) ok_v5)⟩ e_X11_lineIn_78

noncomputable def m_X11_lineIn (t_lines : Int) (t_start : Nat → Int) (t_goal : Nat → Int) (t_line : Nat → Int) (v1 : Int) (v2 : Int) (v3 : Int) (v4 : Int) (v5 : Int) : Option (Int × Int × (Nat → Int) × (Nat → Int) × (Nat → Int)) := m_X11_lineIn_0 t_lines t_start t_goal t_line v1 v2 v3 v4 v5

set_option maxRecDepth 10000 in
set_option maxHeartbeats 8000000 in
theorem ct_X11_lineIn {l : Launch} {E : EE} {b0 n : Nat} {h : AH} {a_t : Nat} {t_thrown t_taped t_p t_fault t_baseLow t_baseHigh t_newBaseLow t_newBaseHigh t_from t_knots t_lines t_chosen t_undos t_redos t_aimedMany t_fits t_fitOf t_sights t_systems t_own t_cross t_curveLong t_wallFirst : Int} {t_start t_goal t_line : Nat → Int} {v1 v2 v3 v4 v5 : Int} (ao : AO b0 n [a_t, (a_t + 16), (a_t + 17), (a_t + 18)]) (hf : FA h [a_t, (a_t + 16), (a_t + 17), (a_t + 18)] [.inr (11, fsX11 a_t t_thrown t_taped t_p t_fault t_baseLow t_baseHigh t_newBaseLow t_newBaseHigh t_from t_knots t_lines t_chosen t_undos t_redos t_aimedMany t_fits t_fitOf t_sights t_systems t_own t_cross t_curveLong t_wallFirst), IA E 120 t_start, IA E 120 t_goal, IA E 360 t_line]) (ok_t_lines : inI t_lines) (ok_t_start : okA t_start) (ok_t_goal : okA t_goal) (ok_t_line : okA t_line) (ok_v1 : inI v1) (ok_v2 : inI v2) (ok_v3 : inI v3) (ok_v4 : inI v4) (ok_v5 : inI v5) {r : Int × Int × (Nat → Int) × (Nat → Int) × (Nat → Int)} (hm : m_X11_lineIn t_lines t_start t_goal t_line v1 v2 v3 v4 v5 = some r) : Ct l E b0 M_X11_lineIn 0 0 [.ref a_t, vI v1, vI v2, vI v3, vI v4, vI v5] h n (some (vI r.1)) (ov [a_t, (a_t + 16), (a_t + 17), (a_t + 18)] [.inr (11, fsX11 a_t t_thrown t_taped t_p t_fault t_baseLow t_baseHigh t_newBaseLow t_newBaseHigh t_from t_knots r.2.1 t_chosen t_undos t_redos t_aimedMany t_fits t_fitOf t_sights t_systems t_own t_cross t_curveLong t_wallFirst), IA E 120 r.2.2.1, IA E 120 r.2.2.2.1, IA E 360 r.2.2.2.2] h) n (inI r.1 ∧ inI r.2.1 ∧ okA r.2.2.1 ∧ okA r.2.2.2.1 ∧ okA r.2.2.2.2) := by
  rw [m_X11_lineIn] at hm
  have hg : G l E b0 M_X11_lineIn (fun _ => True) (ZM E b0 (some (vI r.1)) (ov [a_t, (a_t + 16), (a_t + 17), (a_t + 18)] [.inr (11, fsX11 a_t t_thrown t_taped t_p t_fault t_baseLow t_baseHigh t_newBaseLow t_newBaseHigh t_from t_knots r.2.1 t_chosen t_undos t_redos t_aimedMany t_fits t_fitOf t_sights t_systems t_own t_cross t_curveLong t_wallFirst), IA E 120 r.2.2.1, IA E 120 r.2.2.2.1, IA E 360 r.2.2.2.2] h) n (inI r.1 ∧ inI r.2.1 ∧ okA r.2.2.1 ∧ okA r.2.2.2.1 ∧ okA r.2.2.2.2) 0 0) 0 0 n (ov [a_t, (a_t + 16), (a_t + 17), (a_t + 18)] [.inr (11, fsX11 a_t t_thrown t_taped t_p t_fault t_baseLow t_baseHigh t_newBaseLow t_newBaseHigh t_from t_knots t_lines t_chosen t_undos t_redos t_aimedMany t_fits t_fitOf t_sights t_systems t_own t_cross t_curveLong t_wallFirst), IA E 120 t_start, IA E 120 t_goal, IA E 360 t_line] h) 0 [some (.ref a_t), some (vI v1), some (vI v2), some (vI v3), some (vI v4), some (vI v5)] [] := by
    have hs := hm
    exact g_X11_lineIn_0 ao ok_t_lines ok_t_start ok_t_goal ok_t_line ok_v1 ok_v2 ok_v3 ok_v4 ok_v5 hs
  rw [FA_id hf] at hg
  exact Ct_of [some (.ref a_t), some (vI v1), some (vI v2), some (vI v3), some (vI v4), some (vI v5)] ⟨by decide +kernel, rfl⟩ rfl (Nat.le_of_ble_eq_true rfl) hg

/-! ===== X11_square ===== -/
theorem e_X11_square_0 : DC cX11_square 0 (.iload_n 0) 1 1 := ⟨by decide +kernel, rfl⟩
theorem e_X11_square_1 : DC cX11_square 1 (.iload_n 0) 1 2 := ⟨by decide +kernel, rfl⟩
theorem e_X11_square_2 : DC cX11_square 2 (.imul) 1 3 := ⟨by decide +kernel, rfl⟩
theorem e_X11_square_3 : DC cX11_square 3 (.iload_n 1) 1 4 := ⟨by decide +kernel, rfl⟩
theorem e_X11_square_4 : DC cX11_square 4 (.iload_n 1) 1 5 := ⟨by decide +kernel, rfl⟩
theorem e_X11_square_5 : DC cX11_square 5 (.imul) 1 6 := ⟨by decide +kernel, rfl⟩
theorem e_X11_square_6 : DC cX11_square 6 (.iadd) 1 7 := ⟨by decide +kernel, rfl⟩
theorem e_X11_square_7 : DC cX11_square 7 (.iload_n 2) 1 8 := ⟨by decide +kernel, rfl⟩
theorem e_X11_square_8 : DC cX11_square 8 (.iload_n 2) 1 9 := ⟨by decide +kernel, rfl⟩
theorem e_X11_square_9 : DC cX11_square 9 (.imul) 1 10 := ⟨by decide +kernel, rfl⟩
theorem e_X11_square_10 : DC cX11_square 10 (.iadd) 1 11 := ⟨by decide +kernel, rfl⟩
theorem e_X11_square_11 : DC cX11_square 11 (.ireturn) 1 12 := ⟨by decide +kernel, rfl⟩
noncomputable def m_X11_square_0 (v0 : Int) (v1 : Int) (v2 : Int) : Option (Int) :=
  chk (inI (((v0 * v0) + (v1 * v1)) + (v2 * v2))) (some (((v0 * v0) + (v1 * v1)) + (v2 * v2)))

set_option maxRecDepth 10000 in
set_option maxHeartbeats 8000000 in
theorem g_X11_square_0 {l : Launch} {E : EE} {b0 n : Nat} {h : AH} {v0 v1 v2 : Int} {r : Int} (ao : AO b0 n []) (ok_v0 : inI v0) (ok_v1 : inI v1) (ok_v2 : inI v2) (hs : m_X11_square_0 v0 v1 v2 = some r) : G l E b0 M_X11_square (fun _ => True) (ZM E b0 (some (vI r)) (ov [] [] h) n (inI r) 0 0) 0 0 n (ov [] [] h) 0 [some (vI v0), some (vI v1), some (vI v2)] [] := by
  rw [m_X11_square_0] at hs
  refine g_iload_n e_X11_square_0 rfl ?_
  refine g_iload_n e_X11_square_1 rfl ?_
  refine g_imul e_X11_square_2 ?_
  refine g_iload_n e_X11_square_3 rfl ?_
  refine g_iload_n e_X11_square_4 rfl ?_
  refine g_imul e_X11_square_5 ?_
  refine g_iadd e_X11_square_6 ?_
  refine g_iload_n e_X11_square_7 rfl ?_
  refine g_iload_n e_X11_square_8 rfl ?_
  refine g_imul e_X11_square_9 ?_
  refine g_iadd e_X11_square_10 ?_
  obtain ⟨hc1, hs⟩ := chk_elim hs
  obtain rfl := Option.some.inj hs
  exact g_iret rfl hc1 e_X11_square_11

noncomputable def m_X11_square (v0 : Int) (v1 : Int) (v2 : Int) : Option (Int) := m_X11_square_0 v0 v1 v2

set_option maxRecDepth 10000 in
set_option maxHeartbeats 8000000 in
theorem ct_X11_square {l : Launch} {E : EE} {b0 n : Nat} {h : AH} {v0 v1 v2 : Int} (ao : AO b0 n []) (hf : FA h [] []) (ok_v0 : inI v0) (ok_v1 : inI v1) (ok_v2 : inI v2) {r : Int} (hm : m_X11_square v0 v1 v2 = some r) : Ct l E b0 M_X11_square 0 0 [vI v0, vI v1, vI v2] h n (some (vI r)) h n (inI r) := by
  rw [m_X11_square] at hm
  have hg : G l E b0 M_X11_square (fun _ => True) (ZM E b0 (some (vI r)) (ov [] [] h) n (inI r) 0 0) 0 0 n (ov [] [] h) 0 [some (vI v0), some (vI v1), some (vI v2)] [] := by
    have hs := hm
    exact g_X11_square_0 ao ok_v0 ok_v1 ok_v2 hs
  rw [FA_id hf] at hg
  exact Ct_of [some (vI v0), some (vI v1), some (vI v2)] ⟨by decide +kernel, rfl⟩ rfl (Nat.le_of_ble_eq_true rfl) hg

/-! ===== X11_worth ===== -/
theorem e_X11_worth_0 : DC cX11_worth 0 (.aload_n 0) 1 1 := ⟨by decide +kernel, rfl⟩
theorem e_X11_worth_1 : DC cX11_worth 1 (.getfield 63) 3 4 := ⟨by decide +kernel, rfl⟩
theorem e_X11_worth_4 : DC cX11_worth 4 (.iconst 3) 1 5 := ⟨by decide +kernel, rfl⟩
theorem e_X11_worth_5 : DC cX11_worth 5 (.iload_n 1) 1 6 := ⟨by decide +kernel, rfl⟩
theorem e_X11_worth_6 : DC cX11_worth 6 (.imul) 1 7 := ⟨by decide +kernel, rfl⟩
theorem e_X11_worth_7 : DC cX11_worth 7 (.iaload) 1 8 := ⟨by decide +kernel, rfl⟩
theorem e_X11_worth_8 : DC cX11_worth 8 (.aload_n 0) 1 9 := ⟨by decide +kernel, rfl⟩
theorem e_X11_worth_9 : DC cX11_worth 9 (.getfield 63) 3 12 := ⟨by decide +kernel, rfl⟩
theorem e_X11_worth_12 : DC cX11_worth 12 (.iconst 3) 1 13 := ⟨by decide +kernel, rfl⟩
theorem e_X11_worth_13 : DC cX11_worth 13 (.iload_n 1) 1 14 := ⟨by decide +kernel, rfl⟩
theorem e_X11_worth_14 : DC cX11_worth 14 (.imul) 1 15 := ⟨by decide +kernel, rfl⟩
theorem e_X11_worth_15 : DC cX11_worth 15 (.iconst 1) 1 16 := ⟨by decide +kernel, rfl⟩
theorem e_X11_worth_16 : DC cX11_worth 16 (.iadd) 1 17 := ⟨by decide +kernel, rfl⟩
theorem e_X11_worth_17 : DC cX11_worth 17 (.iaload) 1 18 := ⟨by decide +kernel, rfl⟩
theorem e_X11_worth_18 : DC cX11_worth 18 (.aload_n 0) 1 19 := ⟨by decide +kernel, rfl⟩
theorem e_X11_worth_19 : DC cX11_worth 19 (.getfield 63) 3 22 := ⟨by decide +kernel, rfl⟩
theorem e_X11_worth_22 : DC cX11_worth 22 (.iconst 3) 1 23 := ⟨by decide +kernel, rfl⟩
theorem e_X11_worth_23 : DC cX11_worth 23 (.iload_n 1) 1 24 := ⟨by decide +kernel, rfl⟩
theorem e_X11_worth_24 : DC cX11_worth 24 (.imul) 1 25 := ⟨by decide +kernel, rfl⟩
theorem e_X11_worth_25 : DC cX11_worth 25 (.iconst 2) 1 26 := ⟨by decide +kernel, rfl⟩
theorem e_X11_worth_26 : DC cX11_worth 26 (.iadd) 1 27 := ⟨by decide +kernel, rfl⟩
theorem e_X11_worth_27 : DC cX11_worth 27 (.iaload) 1 28 := ⟨by decide +kernel, rfl⟩
theorem e_X11_worth_28 : DC cX11_worth 28 (.invokestatic 281) 3 31 := ⟨by decide +kernel, rfl⟩
theorem e_X11_worth_31 : DC cX11_worth 31 (.ireturn) 1 32 := ⟨by decide +kernel, rfl⟩
noncomputable def m_X11_worth_0 (t_line : Nat → Int) (v1 : Int) : Option (Int) :=
  chk (inB (3 * v1) 360) (chk (inB ((3 * v1) + 1) 360) (chk (inB ((3 * v1) + 2) 360) ((m_X11_square (t_line (Int.toNat (3 * v1))) (t_line (Int.toNat ((3 * v1) + 1))) (t_line (Int.toNat ((3 * v1) + 2)))).bind (fun y4 => some (y4)))))

set_option maxRecDepth 10000 in
set_option maxHeartbeats 8000000 in
theorem g_X11_worth_0 {l : Launch} {E : EE} {b0 n : Nat} {h : AH} {a_t : Nat} {t_thrown t_taped t_p t_fault t_baseLow t_baseHigh t_newBaseLow t_newBaseHigh t_from t_knots t_lines t_chosen t_undos t_redos t_aimedMany t_fits t_fitOf t_sights t_systems t_own t_cross t_curveLong t_wallFirst v1 : Int} {t_line : Nat → Int} {r : Int} (ao : AO b0 n [a_t, (a_t + 18)]) (ok_t_line : okA t_line) (ok_v1 : inI v1) (hs : m_X11_worth_0 t_line v1 = some r) : G l E b0 M_X11_worth (fun _ => True) (ZM E b0 (some (vI r)) (ov [a_t, (a_t + 18)] [.inr (11, fsX11 a_t t_thrown t_taped t_p t_fault t_baseLow t_baseHigh t_newBaseLow t_newBaseHigh t_from t_knots t_lines t_chosen t_undos t_redos t_aimedMany t_fits t_fitOf t_sights t_systems t_own t_cross t_curveLong t_wallFirst), IA E 360 t_line] h) n (inI r) 0 0) 0 0 n (ov [a_t, (a_t + 18)] [.inr (11, fsX11 a_t t_thrown t_taped t_p t_fault t_baseLow t_baseHigh t_newBaseLow t_newBaseHigh t_from t_knots t_lines t_chosen t_undos t_redos t_aimedMany t_fits t_fitOf t_sights t_systems t_own t_cross t_curveLong t_wallFirst), IA E 360 t_line] h) 0 [some (.ref a_t), some (vI v1)] [] := by
  rw [m_X11_worth_0] at hs
  refine g_aload_n e_X11_worth_0 rfl ?_
  refine g_get 0 28 ao rfl rfl fsX11_g28 fl_X11_63 e_X11_worth_1 ?_
  refine g_iconst e_X11_worth_4 ?_
  refine g_iload_n e_X11_worth_5 rfl ?_
  refine g_imul e_X11_worth_6 ?_
  refine g_iald 1 ao rfl rfl (Nat.le_of_ble_eq_true rfl) e_X11_worth_7 hs (fun hi1 hs => ?_)
  refine g_aload_n e_X11_worth_8 rfl ?_
  refine g_get 0 28 ao rfl rfl fsX11_g28 fl_X11_63 e_X11_worth_9 ?_
  refine g_iconst e_X11_worth_12 ?_
  refine g_iload_n e_X11_worth_13 rfl ?_
  refine g_imul e_X11_worth_14 ?_
  refine g_iconst e_X11_worth_15 ?_
  refine g_iadd e_X11_worth_16 ?_
  refine g_iald 1 ao rfl rfl (Nat.le_of_ble_eq_true rfl) e_X11_worth_17 hs (fun hi2 hs => ?_)
  refine g_aload_n e_X11_worth_18 rfl ?_
  refine g_get 0 28 ao rfl rfl fsX11_g28 fl_X11_63 e_X11_worth_19 ?_
  refine g_iconst e_X11_worth_22 ?_
  refine g_iload_n e_X11_worth_23 rfl ?_
  refine g_imul e_X11_worth_24 ?_
  refine g_iconst e_X11_worth_25 ?_
  refine g_iadd e_X11_worth_26 ?_
  refine g_iald 1 ao rfl rfl (Nat.le_of_ble_eq_true rfl) e_X11_worth_27 hs (fun hi3 hs => ?_)
  obtain ⟨y4, hy4, hs⟩ := bind_elim hs
  refine g_callSr [vI (t_line (Int.toNat (3 * v1))), vI (t_line (Int.toNat ((3 * v1) + 1))), vI (t_line (Int.toNat ((3 * v1) + 2)))] cs_X11_281 ⟨rfl, rfl, Nat.le_of_ble_eq_true rfl, Nat.le_of_ble_eq_true rfl⟩ (ct_X11_square ⟨List.nodup_nil, fun i a h => by simp at h⟩ (fun i a e h => by simp at h) (ok_t_line _) (ok_t_line _) (ok_t_line _) hy4) e_X11_worth_28 rfl rfl (Nat.le_of_ble_eq_true rfl) ⟨Nat.le_refl _, Nat.le_refl _⟩ (fun Py4 => ?_)
  obtain rfl := Option.some.inj hs
  exact g_iret rfl Py4 e_X11_worth_31

noncomputable def m_X11_worth (t_line : Nat → Int) (v1 : Int) : Option (Int) := m_X11_worth_0 t_line v1

set_option maxRecDepth 10000 in
set_option maxHeartbeats 8000000 in
theorem ct_X11_worth {l : Launch} {E : EE} {b0 n : Nat} {h : AH} {a_t : Nat} {t_thrown t_taped t_p t_fault t_baseLow t_baseHigh t_newBaseLow t_newBaseHigh t_from t_knots t_lines t_chosen t_undos t_redos t_aimedMany t_fits t_fitOf t_sights t_systems t_own t_cross t_curveLong t_wallFirst : Int} {t_line : Nat → Int} {v1 : Int} (ao : AO b0 n [a_t, (a_t + 18)]) (hf : FA h [a_t, (a_t + 18)] [.inr (11, fsX11 a_t t_thrown t_taped t_p t_fault t_baseLow t_baseHigh t_newBaseLow t_newBaseHigh t_from t_knots t_lines t_chosen t_undos t_redos t_aimedMany t_fits t_fitOf t_sights t_systems t_own t_cross t_curveLong t_wallFirst), IA E 360 t_line]) (ok_t_line : okA t_line) (ok_v1 : inI v1) {r : Int} (hm : m_X11_worth t_line v1 = some r) : Ct l E b0 M_X11_worth 0 0 [.ref a_t, vI v1] h n (some (vI r)) h n (inI r) := by
  rw [m_X11_worth] at hm
  have hg : G l E b0 M_X11_worth (fun _ => True) (ZM E b0 (some (vI r)) (ov [a_t, (a_t + 18)] [.inr (11, fsX11 a_t t_thrown t_taped t_p t_fault t_baseLow t_baseHigh t_newBaseLow t_newBaseHigh t_from t_knots t_lines t_chosen t_undos t_redos t_aimedMany t_fits t_fitOf t_sights t_systems t_own t_cross t_curveLong t_wallFirst), IA E 360 t_line] h) n (inI r) 0 0) 0 0 n (ov [a_t, (a_t + 18)] [.inr (11, fsX11 a_t t_thrown t_taped t_p t_fault t_baseLow t_baseHigh t_newBaseLow t_newBaseHigh t_from t_knots t_lines t_chosen t_undos t_redos t_aimedMany t_fits t_fitOf t_sights t_systems t_own t_cross t_curveLong t_wallFirst), IA E 360 t_line] h) 0 [some (.ref a_t), some (vI v1)] [] := by
    have hs := hm
    exact g_X11_worth_0 ao ok_t_line ok_v1 hs
  rw [FA_id hf] at hg
  exact Ct_of [some (.ref a_t), some (vI v1)] ⟨by decide +kernel, rfl⟩ rfl (Nat.le_of_ble_eq_true rfl) hg

/-! ===== X11_lines ===== -/
theorem e_X11_lines_0 : DC cX11_lines 0 (.aload_n 0) 1 1 := ⟨by decide +kernel, rfl⟩
theorem e_X11_lines_1 : DC cX11_lines 1 (.iload_n 1) 1 2 := ⟨by decide +kernel, rfl⟩
theorem e_X11_lines_2 : DC cX11_lines 2 (.invokevirtual 285) 3 5 := ⟨by decide +kernel, rfl⟩
theorem e_X11_lines_5 : DB cX11_lines 5 (.ifCond .ne 7) (7) 3 8 12 := ⟨by decide +kernel, rfl, rfl⟩
theorem e_X11_lines_8 : DC cX11_lines 8 (.sipush (-1000)) 3 11 := ⟨by decide +kernel, rfl⟩
theorem e_X11_lines_11 : DC cX11_lines 11 (.ireturn) 1 12 := ⟨by decide +kernel, rfl⟩
theorem e_X11_lines_12 : DC cX11_lines 12 (.iload_n 2) 1 13 := ⟨by decide +kernel, rfl⟩
theorem e_X11_lines_13 : DC cX11_lines 13 (.tableswitch 70 0 5 #[39, 39, 39, 50, 57, 64]) 39 52 := ⟨by decide +kernel, rfl⟩
theorem e_X11_lines_52 : DC cX11_lines 52 (.aload_n 0) 1 53 := ⟨by decide +kernel, rfl⟩
theorem e_X11_lines_53 : DC cX11_lines 53 (.getfield 63) 3 56 := ⟨by decide +kernel, rfl⟩
theorem e_X11_lines_56 : DC cX11_lines 56 (.iconst 3) 1 57 := ⟨by decide +kernel, rfl⟩
theorem e_X11_lines_57 : DC cX11_lines 57 (.iload_n 1) 1 58 := ⟨by decide +kernel, rfl⟩
theorem e_X11_lines_58 : DC cX11_lines 58 (.imul) 1 59 := ⟨by decide +kernel, rfl⟩
theorem e_X11_lines_59 : DC cX11_lines 59 (.iload_n 2) 1 60 := ⟨by decide +kernel, rfl⟩
theorem e_X11_lines_60 : DC cX11_lines 60 (.iadd) 1 61 := ⟨by decide +kernel, rfl⟩
theorem e_X11_lines_61 : DC cX11_lines 61 (.iaload) 1 62 := ⟨by decide +kernel, rfl⟩
theorem e_X11_lines_62 : DC cX11_lines 62 (.ireturn) 1 63 := ⟨by decide +kernel, rfl⟩
theorem e_X11_lines_63 : DC cX11_lines 63 (.aload_n 0) 1 64 := ⟨by decide +kernel, rfl⟩
theorem e_X11_lines_64 : DC cX11_lines 64 (.getfield 57) 3 67 := ⟨by decide +kernel, rfl⟩
theorem e_X11_lines_67 : DC cX11_lines 67 (.iload_n 1) 1 68 := ⟨by decide +kernel, rfl⟩
theorem e_X11_lines_68 : DC cX11_lines 68 (.iaload) 1 69 := ⟨by decide +kernel, rfl⟩
theorem e_X11_lines_69 : DC cX11_lines 69 (.ireturn) 1 70 := ⟨by decide +kernel, rfl⟩
theorem e_X11_lines_70 : DC cX11_lines 70 (.aload_n 0) 1 71 := ⟨by decide +kernel, rfl⟩
theorem e_X11_lines_71 : DC cX11_lines 71 (.getfield 60) 3 74 := ⟨by decide +kernel, rfl⟩
theorem e_X11_lines_74 : DC cX11_lines 74 (.iload_n 1) 1 75 := ⟨by decide +kernel, rfl⟩
theorem e_X11_lines_75 : DC cX11_lines 75 (.iaload) 1 76 := ⟨by decide +kernel, rfl⟩
theorem e_X11_lines_76 : DC cX11_lines 76 (.ireturn) 1 77 := ⟨by decide +kernel, rfl⟩
theorem e_X11_lines_77 : DC cX11_lines 77 (.aload_n 0) 1 78 := ⟨by decide +kernel, rfl⟩
theorem e_X11_lines_78 : DC cX11_lines 78 (.iload_n 1) 1 79 := ⟨by decide +kernel, rfl⟩
theorem e_X11_lines_79 : DC cX11_lines 79 (.invokevirtual 288) 3 82 := ⟨by decide +kernel, rfl⟩
theorem e_X11_lines_82 : DC cX11_lines 82 (.ireturn) 1 83 := ⟨by decide +kernel, rfl⟩
theorem e_X11_lines_83 : DC cX11_lines 83 (.sipush (-1000)) 3 86 := ⟨by decide +kernel, rfl⟩
theorem e_X11_lines_86 : DC cX11_lines 86 (.ireturn) 1 87 := ⟨by decide +kernel, rfl⟩
noncomputable def m_X11_lines_0 (t_lines : Int) (t_isGone : Nat → Int) (t_start : Nat → Int) (t_goal : Nat → Int) (t_line : Nat → Int) (v1 : Int) (v2 : Int) : Option (Int) :=
  (m_X11_isLine t_lines t_isGone v1).bind (fun y1 => if y1 = 0 then (some ((-1000))) else (if v2 = 0 then (chk (inB ((3 * v1) + v2) 360) (some (t_line (Int.toNat ((3 * v1) + v2))))) else (if v2 = 1 then (chk (inB ((3 * v1) + v2) 360) (some (t_line (Int.toNat ((3 * v1) + v2))))) else (if v2 = 2 then (chk (inB ((3 * v1) + v2) 360) (some (t_line (Int.toNat ((3 * v1) + v2))))) else (if v2 = 3 then (chk (inB v1 120) (some (t_start (Int.toNat v1)))) else (if v2 = 4 then (chk (inB v1 120) (some (t_goal (Int.toNat v1)))) else (if v2 = 5 then ((m_X11_worth t_line v1).bind (fun y7 => some (y7))) else (some ((-1000))))))))))

set_option maxRecDepth 10000 in
set_option maxHeartbeats 8000000 in
theorem g_X11_lines_0 {l : Launch} {E : EE} {b0 n : Nat} {h : AH} {a_t : Nat} {t_thrown t_taped t_p t_fault t_baseLow t_baseHigh t_newBaseLow t_newBaseHigh t_from t_knots t_lines t_chosen t_undos t_redos t_aimedMany t_fits t_fitOf t_sights t_systems t_own t_cross t_curveLong t_wallFirst v1 v2 : Int} {t_isGone t_start t_goal t_line : Nat → Int} {r : Int} (ao : AO b0 n [a_t, (a_t + 15), (a_t + 16), (a_t + 17), (a_t + 18)]) (ok_t_lines : inI t_lines) (ok_t_isGone : okZ t_isGone) (ok_t_start : okA t_start) (ok_t_goal : okA t_goal) (ok_t_line : okA t_line) (ok_v1 : inI v1) (ok_v2 : inI v2) (hs : m_X11_lines_0 t_lines t_isGone t_start t_goal t_line v1 v2 = some r) : G l E b0 M_X11_lines (fun _ => True) (ZM E b0 (some (vI r)) (ov [a_t, (a_t + 15), (a_t + 16), (a_t + 17), (a_t + 18)] [.inr (11, fsX11 a_t t_thrown t_taped t_p t_fault t_baseLow t_baseHigh t_newBaseLow t_newBaseHigh t_from t_knots t_lines t_chosen t_undos t_redos t_aimedMany t_fits t_fitOf t_sights t_systems t_own t_cross t_curveLong t_wallFirst), ZA E 120 t_isGone, IA E 120 t_start, IA E 120 t_goal, IA E 360 t_line] h) n (inI r) 0 0) 0 0 n (ov [a_t, (a_t + 15), (a_t + 16), (a_t + 17), (a_t + 18)] [.inr (11, fsX11 a_t t_thrown t_taped t_p t_fault t_baseLow t_baseHigh t_newBaseLow t_newBaseHigh t_from t_knots t_lines t_chosen t_undos t_redos t_aimedMany t_fits t_fitOf t_sights t_systems t_own t_cross t_curveLong t_wallFirst), ZA E 120 t_isGone, IA E 120 t_start, IA E 120 t_goal, IA E 360 t_line] h) 0 [some (.ref a_t), some (vI v1), some (vI v2)] [] := by
  rw [m_X11_lines_0] at hs
  refine g_aload_n e_X11_lines_0 rfl ?_
  refine g_iload_n e_X11_lines_1 rfl ?_
  obtain ⟨y1, hy1, hs⟩ := bind_elim hs
  refine g_callVr [vI v1] cv_X11_285 ⟨rfl, rfl, Nat.le_of_ble_eq_true rfl, Nat.le_of_ble_eq_true rfl⟩ (ct_X11_isLine (a_t := a_t) (AO_call [0, 1] ao (by decide) rfl) (FA_call [0, 1] ao.1 rfl rfl) ok_t_lines ok_t_isGone ok_v1 hy1) e_X11_lines_2 (ao.2 0 _ rfl) (ov_get 0 ao.1 rfl rfl) rfl rfl rfl (Nat.le_of_ble_eq_true rfl) ⟨Nat.le_refl _, Nat.le_refl _⟩ (fun Py1 => ?_)
  refine g_if_ne e_X11_lines_5 (inZ_I Py1) hs (fun c5 hs => ?_) (fun c5 hs => ?_)
  · refine g_sipush e_X11_lines_8 sp_m1000 ?_
    obtain rfl := Option.some.inj hs
    exact g_iret rfl (by decide : inI (-1000)) e_X11_lines_11
  · refine g_iload_n e_X11_lines_12 rfl ?_
    by_cases c13_0 : v2 = 0
    · rw [if_pos c13_0] at hs
      refine g_tableIn (off := 39) (tgt := 52) e_X11_lines_13 ok_v2 (by rw [c13_0]; decide) (by rw [c13_0]; decide) (by rw [c13_0]; rfl) rfl ?_
      refine g_aload_n e_X11_lines_52 rfl ?_
      refine g_get 0 28 ao rfl rfl fsX11_g28 fl_X11_63 e_X11_lines_53 ?_
      refine g_iconst e_X11_lines_56 ?_
      refine g_iload_n e_X11_lines_57 rfl ?_
      refine g_imul e_X11_lines_58 ?_
      refine g_iload_n e_X11_lines_59 rfl ?_
      refine g_iadd e_X11_lines_60 ?_
      refine g_iald 4 ao rfl rfl (Nat.le_of_ble_eq_true rfl) e_X11_lines_61 hs (fun hi2 hs => ?_)
      obtain rfl := Option.some.inj hs
      exact g_iret rfl (ok_t_line _) e_X11_lines_62
    · rw [if_neg c13_0] at hs
      by_cases c13_1 : v2 = 1
      · rw [if_pos c13_1] at hs
        refine g_tableIn (off := 39) (tgt := 52) e_X11_lines_13 ok_v2 (by rw [c13_1]; decide) (by rw [c13_1]; decide) (by rw [c13_1]; rfl) rfl ?_
        refine g_aload_n e_X11_lines_52 rfl ?_
        refine g_get 0 28 ao rfl rfl fsX11_g28 fl_X11_63 e_X11_lines_53 ?_
        refine g_iconst e_X11_lines_56 ?_
        refine g_iload_n e_X11_lines_57 rfl ?_
        refine g_imul e_X11_lines_58 ?_
        refine g_iload_n e_X11_lines_59 rfl ?_
        refine g_iadd e_X11_lines_60 ?_
        refine g_iald 4 ao rfl rfl (Nat.le_of_ble_eq_true rfl) e_X11_lines_61 hs (fun hi3 hs => ?_)
        obtain rfl := Option.some.inj hs
        exact g_iret rfl (ok_t_line _) e_X11_lines_62
      · rw [if_neg c13_1] at hs
        by_cases c13_2 : v2 = 2
        · rw [if_pos c13_2] at hs
          refine g_tableIn (off := 39) (tgt := 52) e_X11_lines_13 ok_v2 (by rw [c13_2]; decide) (by rw [c13_2]; decide) (by rw [c13_2]; rfl) rfl ?_
          refine g_aload_n e_X11_lines_52 rfl ?_
          refine g_get 0 28 ao rfl rfl fsX11_g28 fl_X11_63 e_X11_lines_53 ?_
          refine g_iconst e_X11_lines_56 ?_
          refine g_iload_n e_X11_lines_57 rfl ?_
          refine g_imul e_X11_lines_58 ?_
          refine g_iload_n e_X11_lines_59 rfl ?_
          refine g_iadd e_X11_lines_60 ?_
          refine g_iald 4 ao rfl rfl (Nat.le_of_ble_eq_true rfl) e_X11_lines_61 hs (fun hi4 hs => ?_)
          obtain rfl := Option.some.inj hs
          exact g_iret rfl (ok_t_line _) e_X11_lines_62
        · rw [if_neg c13_2] at hs
          by_cases c13_3 : v2 = 3
          · rw [if_pos c13_3] at hs
            refine g_tableIn (off := 50) (tgt := 63) e_X11_lines_13 ok_v2 (by rw [c13_3]; decide) (by rw [c13_3]; decide) (by rw [c13_3]; rfl) rfl ?_
            refine g_aload_n e_X11_lines_63 rfl ?_
            refine g_get 0 26 ao rfl rfl fsX11_g26 fl_X11_57 e_X11_lines_64 ?_
            refine g_iload_n e_X11_lines_67 rfl ?_
            refine g_iald 2 ao rfl rfl (Nat.le_of_ble_eq_true rfl) e_X11_lines_68 hs (fun hi5 hs => ?_)
            obtain rfl := Option.some.inj hs
            exact g_iret rfl (ok_t_start _) e_X11_lines_69
          · rw [if_neg c13_3] at hs
            by_cases c13_4 : v2 = 4
            · rw [if_pos c13_4] at hs
              refine g_tableIn (off := 57) (tgt := 70) e_X11_lines_13 ok_v2 (by rw [c13_4]; decide) (by rw [c13_4]; decide) (by rw [c13_4]; rfl) rfl ?_
              refine g_aload_n e_X11_lines_70 rfl ?_
              refine g_get 0 27 ao rfl rfl fsX11_g27 fl_X11_60 e_X11_lines_71 ?_
              refine g_iload_n e_X11_lines_74 rfl ?_
              refine g_iald 3 ao rfl rfl (Nat.le_of_ble_eq_true rfl) e_X11_lines_75 hs (fun hi6 hs => ?_)
              obtain rfl := Option.some.inj hs
              exact g_iret rfl (ok_t_goal _) e_X11_lines_76
            · rw [if_neg c13_4] at hs
              by_cases c13_5 : v2 = 5
              · rw [if_pos c13_5] at hs
                refine g_tableIn (off := 64) (tgt := 77) e_X11_lines_13 ok_v2 (by rw [c13_5]; decide) (by rw [c13_5]; decide) (by rw [c13_5]; rfl) rfl ?_
                refine g_aload_n e_X11_lines_77 rfl ?_
                refine g_iload_n e_X11_lines_78 rfl ?_
                obtain ⟨y7, hy7, hs⟩ := bind_elim hs
                refine g_callVr [vI v1] cv_X11_288 ⟨rfl, rfl, Nat.le_of_ble_eq_true rfl, Nat.le_of_ble_eq_true rfl⟩ (ct_X11_worth (a_t := a_t) (AO_call [0, 4] ao (by decide) rfl) (FA_call [0, 4] ao.1 rfl rfl) ok_t_line ok_v1 hy7) e_X11_lines_79 (ao.2 0 _ rfl) (ov_get 0 ao.1 rfl rfl) rfl rfl rfl (Nat.le_of_ble_eq_true rfl) ⟨Nat.le_refl _, Nat.le_refl _⟩ (fun Py7 => ?_)
                obtain rfl := Option.some.inj hs
                exact g_iret rfl Py7 e_X11_lines_82
              · rw [if_neg c13_5] at hs
                refine g_tableOut (tgt := 83) e_X11_lines_13 ok_v2 (by omega) rfl ?_
                refine g_sipush e_X11_lines_83 sp_m1000 ?_
                obtain rfl := Option.some.inj hs
                exact g_iret rfl (by decide : inI (-1000)) e_X11_lines_86

noncomputable def m_X11_lines (t_lines : Int) (t_isGone : Nat → Int) (t_start : Nat → Int) (t_goal : Nat → Int) (t_line : Nat → Int) (v1 : Int) (v2 : Int) : Option (Int) := m_X11_lines_0 t_lines t_isGone t_start t_goal t_line v1 v2

set_option maxRecDepth 10000 in
set_option maxHeartbeats 8000000 in
theorem ct_X11_lines {l : Launch} {E : EE} {b0 n : Nat} {h : AH} {a_t : Nat} {t_thrown t_taped t_p t_fault t_baseLow t_baseHigh t_newBaseLow t_newBaseHigh t_from t_knots t_lines t_chosen t_undos t_redos t_aimedMany t_fits t_fitOf t_sights t_systems t_own t_cross t_curveLong t_wallFirst : Int} {t_isGone t_start t_goal t_line : Nat → Int} {v1 v2 : Int} (ao : AO b0 n [a_t, (a_t + 15), (a_t + 16), (a_t + 17), (a_t + 18)]) (hf : FA h [a_t, (a_t + 15), (a_t + 16), (a_t + 17), (a_t + 18)] [.inr (11, fsX11 a_t t_thrown t_taped t_p t_fault t_baseLow t_baseHigh t_newBaseLow t_newBaseHigh t_from t_knots t_lines t_chosen t_undos t_redos t_aimedMany t_fits t_fitOf t_sights t_systems t_own t_cross t_curveLong t_wallFirst), ZA E 120 t_isGone, IA E 120 t_start, IA E 120 t_goal, IA E 360 t_line]) (ok_t_lines : inI t_lines) (ok_t_isGone : okZ t_isGone) (ok_t_start : okA t_start) (ok_t_goal : okA t_goal) (ok_t_line : okA t_line) (ok_v1 : inI v1) (ok_v2 : inI v2) {r : Int} (hm : m_X11_lines t_lines t_isGone t_start t_goal t_line v1 v2 = some r) : Ct l E b0 M_X11_lines 0 0 [.ref a_t, vI v1, vI v2] h n (some (vI r)) h n (inI r) := by
  rw [m_X11_lines] at hm
  have hg : G l E b0 M_X11_lines (fun _ => True) (ZM E b0 (some (vI r)) (ov [a_t, (a_t + 15), (a_t + 16), (a_t + 17), (a_t + 18)] [.inr (11, fsX11 a_t t_thrown t_taped t_p t_fault t_baseLow t_baseHigh t_newBaseLow t_newBaseHigh t_from t_knots t_lines t_chosen t_undos t_redos t_aimedMany t_fits t_fitOf t_sights t_systems t_own t_cross t_curveLong t_wallFirst), ZA E 120 t_isGone, IA E 120 t_start, IA E 120 t_goal, IA E 360 t_line] h) n (inI r) 0 0) 0 0 n (ov [a_t, (a_t + 15), (a_t + 16), (a_t + 17), (a_t + 18)] [.inr (11, fsX11 a_t t_thrown t_taped t_p t_fault t_baseLow t_baseHigh t_newBaseLow t_newBaseHigh t_from t_knots t_lines t_chosen t_undos t_redos t_aimedMany t_fits t_fitOf t_sights t_systems t_own t_cross t_curveLong t_wallFirst), ZA E 120 t_isGone, IA E 120 t_start, IA E 120 t_goal, IA E 360 t_line] h) 0 [some (.ref a_t), some (vI v1), some (vI v2)] [] := by
    have hs := hm
    exact g_X11_lines_0 ao ok_t_lines ok_t_isGone ok_t_start ok_t_goal ok_t_line ok_v1 ok_v2 hs
  rw [FA_id hf] at hg
  exact Ct_of [some (.ref a_t), some (vI v1), some (vI v2)] ⟨by decide +kernel, rfl⟩ rfl (Nat.le_of_ble_eq_true rfl) hg

/-! ===== X11_sumAt ===== -/
theorem e_X11_sumAt_0 : DC cX11_sumAt 0 (.iconst 0) 1 1 := ⟨by decide +kernel, rfl⟩
theorem e_X11_sumAt_1 : DC cX11_sumAt 1 (.istore_n 3) 1 2 := ⟨by decide +kernel, rfl⟩
theorem e_X11_sumAt_2 : DC cX11_sumAt 2 (.iconst 0) 1 3 := ⟨by decide +kernel, rfl⟩
theorem e_X11_sumAt_3 : DC cX11_sumAt 3 (.istore 4) 2 5 := ⟨by decide +kernel, rfl⟩
theorem e_X11_sumAt_5 : DC cX11_sumAt 5 (.iload 4) 2 7 := ⟨by decide +kernel, rfl⟩
theorem e_X11_sumAt_7 : DC cX11_sumAt 7 (.aload_n 0) 1 8 := ⟨by decide +kernel, rfl⟩
theorem e_X11_sumAt_8 : DC cX11_sumAt 8 (.getfield 271) 3 11 := ⟨by decide +kernel, rfl⟩
theorem e_X11_sumAt_11 : DB cX11_sumAt 11 (.if_icmp .ge 74) (74) 3 14 85 := ⟨by decide +kernel, rfl, rfl⟩
theorem e_X11_sumAt_14 : DC cX11_sumAt 14 (.aload_n 0) 1 15 := ⟨by decide +kernel, rfl⟩
theorem e_X11_sumAt_15 : DC cX11_sumAt 15 (.getfield 54) 3 18 := ⟨by decide +kernel, rfl⟩
theorem e_X11_sumAt_18 : DC cX11_sumAt 18 (.iload 4) 2 20 := ⟨by decide +kernel, rfl⟩
theorem e_X11_sumAt_20 : DC cX11_sumAt 20 (.baload) 1 21 := ⟨by decide +kernel, rfl⟩
theorem e_X11_sumAt_21 : DB cX11_sumAt 21 (.ifCond .ne 58) (58) 3 24 79 := ⟨by decide +kernel, rfl, rfl⟩
theorem e_X11_sumAt_24 : DC cX11_sumAt 24 (.iload_n 3) 1 25 := ⟨by decide +kernel, rfl⟩
theorem e_X11_sumAt_25 : DC cX11_sumAt 25 (.aload_n 0) 1 26 := ⟨by decide +kernel, rfl⟩
theorem e_X11_sumAt_26 : DC cX11_sumAt 26 (.getfield 57) 3 29 := ⟨by decide +kernel, rfl⟩
theorem e_X11_sumAt_29 : DC cX11_sumAt 29 (.iload 4) 2 31 := ⟨by decide +kernel, rfl⟩
theorem e_X11_sumAt_31 : DC cX11_sumAt 31 (.iaload) 1 32 := ⟨by decide +kernel, rfl⟩
theorem e_X11_sumAt_32 : DC cX11_sumAt 32 (.iload_n 1) 1 33 := ⟨by decide +kernel, rfl⟩
theorem e_X11_sumAt_33 : DB cX11_sumAt 33 (.if_icmp .ne 17) (17) 3 36 50 := ⟨by decide +kernel, rfl, rfl⟩
theorem e_X11_sumAt_36 : DC cX11_sumAt 36 (.aload_n 0) 1 37 := ⟨by decide +kernel, rfl⟩
theorem e_X11_sumAt_37 : DC cX11_sumAt 37 (.getfield 63) 3 40 := ⟨by decide +kernel, rfl⟩
theorem e_X11_sumAt_40 : DC cX11_sumAt 40 (.iconst 3) 1 41 := ⟨by decide +kernel, rfl⟩
theorem e_X11_sumAt_41 : DC cX11_sumAt 41 (.iload 4) 2 43 := ⟨by decide +kernel, rfl⟩
theorem e_X11_sumAt_43 : DC cX11_sumAt 43 (.imul) 1 44 := ⟨by decide +kernel, rfl⟩
theorem e_X11_sumAt_44 : DC cX11_sumAt 44 (.iload_n 2) 1 45 := ⟨by decide +kernel, rfl⟩
theorem e_X11_sumAt_45 : DC cX11_sumAt 45 (.iadd) 1 46 := ⟨by decide +kernel, rfl⟩
theorem e_X11_sumAt_46 : DC cX11_sumAt 46 (.iaload) 1 47 := ⟨by decide +kernel, rfl⟩
theorem e_X11_sumAt_47 : DB cX11_sumAt 47 (.goto 30) (30) 3 50 77 := ⟨by decide +kernel, rfl, rfl⟩
theorem e_X11_sumAt_50 : DC cX11_sumAt 50 (.aload_n 0) 1 51 := ⟨by decide +kernel, rfl⟩
theorem e_X11_sumAt_51 : DC cX11_sumAt 51 (.getfield 60) 3 54 := ⟨by decide +kernel, rfl⟩
theorem e_X11_sumAt_54 : DC cX11_sumAt 54 (.iload 4) 2 56 := ⟨by decide +kernel, rfl⟩
theorem e_X11_sumAt_56 : DC cX11_sumAt 56 (.iaload) 1 57 := ⟨by decide +kernel, rfl⟩
theorem e_X11_sumAt_57 : DC cX11_sumAt 57 (.iload_n 1) 1 58 := ⟨by decide +kernel, rfl⟩
theorem e_X11_sumAt_58 : DB cX11_sumAt 58 (.if_icmp .ne 18) (18) 3 61 76 := ⟨by decide +kernel, rfl, rfl⟩
theorem e_X11_sumAt_61 : DC cX11_sumAt 61 (.aload_n 0) 1 62 := ⟨by decide +kernel, rfl⟩
theorem e_X11_sumAt_62 : DC cX11_sumAt 62 (.getfield 63) 3 65 := ⟨by decide +kernel, rfl⟩
theorem e_X11_sumAt_65 : DC cX11_sumAt 65 (.iconst 3) 1 66 := ⟨by decide +kernel, rfl⟩
theorem e_X11_sumAt_66 : DC cX11_sumAt 66 (.iload 4) 2 68 := ⟨by decide +kernel, rfl⟩
theorem e_X11_sumAt_68 : DC cX11_sumAt 68 (.imul) 1 69 := ⟨by decide +kernel, rfl⟩
theorem e_X11_sumAt_69 : DC cX11_sumAt 69 (.iload_n 2) 1 70 := ⟨by decide +kernel, rfl⟩
theorem e_X11_sumAt_70 : DC cX11_sumAt 70 (.iadd) 1 71 := ⟨by decide +kernel, rfl⟩
theorem e_X11_sumAt_71 : DC cX11_sumAt 71 (.iaload) 1 72 := ⟨by decide +kernel, rfl⟩
theorem e_X11_sumAt_72 : DC cX11_sumAt 72 (.ineg) 1 73 := ⟨by decide +kernel, rfl⟩
theorem e_X11_sumAt_73 : DB cX11_sumAt 73 (.goto 4) (4) 3 76 77 := ⟨by decide +kernel, rfl, rfl⟩
theorem e_X11_sumAt_76 : DC cX11_sumAt 76 (.iconst 0) 1 77 := ⟨by decide +kernel, rfl⟩
theorem e_X11_sumAt_77 : DC cX11_sumAt 77 (.iadd) 1 78 := ⟨by decide +kernel, rfl⟩
theorem e_X11_sumAt_78 : DC cX11_sumAt 78 (.istore_n 3) 1 79 := ⟨by decide +kernel, rfl⟩
theorem e_X11_sumAt_79 : DC cX11_sumAt 79 (.iinc 4 1) 3 82 := ⟨by decide +kernel, rfl⟩
theorem e_X11_sumAt_82 : DB cX11_sumAt 82 (.goto (-77)) (-77) 3 85 5 := ⟨by decide +kernel, rfl, rfl⟩
theorem e_X11_sumAt_85 : DC cX11_sumAt 85 (.iload_n 3) 1 86 := ⟨by decide +kernel, rfl⟩
theorem e_X11_sumAt_86 : DC cX11_sumAt 86 (.ireturn) 1 87 := ⟨by decide +kernel, rfl⟩
noncomputable def m_X11_sumAt_79 (t_lines : Int) (t_isGone : Nat → Int) (t_start : Nat → Int) (t_goal : Nat → Int) (t_line : Nat → Int) (v1 : Int) (v2 : Int) (v3 : Int) (v4 : Int) (ag : Int → Int → Option (Int)) (k_85 : Int → Int → Option (Int)) : Option (Int) :=
  chk (inI (v4 + 1)) (ag v3 (v4 + 1))

set_option maxRecDepth 10000 in
set_option maxHeartbeats 8000000 in
theorem g_X11_sumAt_79 {l : Launch} {E : EE} {b0 n : Nat} {h : AH} {a_t : Nat} {t_thrown t_taped t_p t_fault t_baseLow t_baseHigh t_newBaseLow t_newBaseHigh t_from t_knots t_lines t_chosen t_undos t_redos t_aimedMany t_fits t_fitOf t_sights t_systems t_own t_cross t_curveLong t_wallFirst v1 v2 v3 v4 : Int} {t_isGone t_start t_goal t_line : Nat → Int} {r : Int} {ag : Int → Int → Option (Int)} {k_85 : Int → Int → Option (Int)} (ao : AO b0 n [a_t, (a_t + 15), (a_t + 16), (a_t + 17), (a_t + 18)]) (ok_t_lines : inI t_lines) (ok_t_isGone : okZ t_isGone) (ok_t_start : okA t_start) (ok_t_goal : okA t_goal) (ok_t_line : okA t_line) (ok_v1 : inI v1) (ok_v2 : inI v2) (ok_v3 : inI v3) (ok_v4 : inI v4) (hag : ∀ (v3_ : Int) (v4_ : Int), inI v3_ → inI v4_ → ag v3_ v4_ = some r → G l E b0 M_X11_sumAt (fun _ => True) (ZM E b0 (some (vI r)) (ov [a_t, (a_t + 15), (a_t + 16), (a_t + 17), (a_t + 18)] [.inr (11, fsX11 a_t t_thrown t_taped t_p t_fault t_baseLow t_baseHigh t_newBaseLow t_newBaseHigh t_from t_knots t_lines t_chosen t_undos t_redos t_aimedMany t_fits t_fitOf t_sights t_systems t_own t_cross t_curveLong t_wallFirst), ZA E 120 t_isGone, IA E 120 t_start, IA E 120 t_goal, IA E 360 t_line] h) n (inI r) 0 0) 0 0 n (ov [a_t, (a_t + 15), (a_t + 16), (a_t + 17), (a_t + 18)] [.inr (11, fsX11 a_t t_thrown t_taped t_p t_fault t_baseLow t_baseHigh t_newBaseLow t_newBaseHigh t_from t_knots t_lines t_chosen t_undos t_redos t_aimedMany t_fits t_fitOf t_sights t_systems t_own t_cross t_curveLong t_wallFirst), ZA E 120 t_isGone, IA E 120 t_start, IA E 120 t_goal, IA E 360 t_line] h) 5 [some (.ref a_t), some (vI v1), some (vI v2), some (vI v3_), some (vI v4_)] []) (hk_85 : ∀ (v3_ : Int) (v4_ : Int), inI v3_ → inI v4_ → k_85 v3_ v4_ = some r → G l E b0 M_X11_sumAt (fun _ => True) (ZM E b0 (some (vI r)) (ov [a_t, (a_t + 15), (a_t + 16), (a_t + 17), (a_t + 18)] [.inr (11, fsX11 a_t t_thrown t_taped t_p t_fault t_baseLow t_baseHigh t_newBaseLow t_newBaseHigh t_from t_knots t_lines t_chosen t_undos t_redos t_aimedMany t_fits t_fitOf t_sights t_systems t_own t_cross t_curveLong t_wallFirst), ZA E 120 t_isGone, IA E 120 t_start, IA E 120 t_goal, IA E 360 t_line] h) n (inI r) 0 0) 0 0 n (ov [a_t, (a_t + 15), (a_t + 16), (a_t + 17), (a_t + 18)] [.inr (11, fsX11 a_t t_thrown t_taped t_p t_fault t_baseLow t_baseHigh t_newBaseLow t_newBaseHigh t_from t_knots t_lines t_chosen t_undos t_redos t_aimedMany t_fits t_fitOf t_sights t_systems t_own t_cross t_curveLong t_wallFirst), ZA E 120 t_isGone, IA E 120 t_start, IA E 120 t_goal, IA E 360 t_line] h) 85 [none, none, none, some (vI v3_), none] []) (hs : m_X11_sumAt_79 t_lines t_isGone t_start t_goal t_line v1 v2 v3 v4 ag k_85 = some r) : G l E b0 M_X11_sumAt (fun _ => True) (ZM E b0 (some (vI r)) (ov [a_t, (a_t + 15), (a_t + 16), (a_t + 17), (a_t + 18)] [.inr (11, fsX11 a_t t_thrown t_taped t_p t_fault t_baseLow t_baseHigh t_newBaseLow t_newBaseHigh t_from t_knots t_lines t_chosen t_undos t_redos t_aimedMany t_fits t_fitOf t_sights t_systems t_own t_cross t_curveLong t_wallFirst), ZA E 120 t_isGone, IA E 120 t_start, IA E 120 t_goal, IA E 360 t_line] h) n (inI r) 0 0) 0 0 n (ov [a_t, (a_t + 15), (a_t + 16), (a_t + 17), (a_t + 18)] [.inr (11, fsX11 a_t t_thrown t_taped t_p t_fault t_baseLow t_baseHigh t_newBaseLow t_newBaseHigh t_from t_knots t_lines t_chosen t_undos t_redos t_aimedMany t_fits t_fitOf t_sights t_systems t_own t_cross t_curveLong t_wallFirst), ZA E 120 t_isGone, IA E 120 t_start, IA E 120 t_goal, IA E 360 t_line] h) 79 [some (.ref a_t), some (vI v1), some (vI v2), some (vI v3), some (vI v4)] [] := by
  rw [m_X11_sumAt_79] at hs
  refine g_iinc e_X11_sumAt_79 rfl st1_4 rfl ?_
  refine g_goto e_X11_sumAt_82 ?_
  obtain ⟨hc4, hs⟩ := chk_elim hs
  exact hag _ _ ok_v3 hc4 hs

noncomputable def m_X11_sumAt_77 (t_lines : Int) (t_isGone : Nat → Int) (t_start : Nat → Int) (t_goal : Nat → Int) (t_line : Nat → Int) (v1 : Int) (v2 : Int) (v4 : Int) (s0 : Int) (s1 : Int) (ag : Int → Int → Option (Int)) (k_85 : Int → Int → Option (Int)) : Option (Int) :=
  chk (inI (s0 + s1)) (m_X11_sumAt_79 t_lines t_isGone t_start t_goal t_line v1 v2 (s0 + s1) v4 ag k_85)

set_option maxRecDepth 10000 in
set_option maxHeartbeats 8000000 in
theorem g_X11_sumAt_77 {l : Launch} {E : EE} {b0 n : Nat} {h : AH} {a_t : Nat} {t_thrown t_taped t_p t_fault t_baseLow t_baseHigh t_newBaseLow t_newBaseHigh t_from t_knots t_lines t_chosen t_undos t_redos t_aimedMany t_fits t_fitOf t_sights t_systems t_own t_cross t_curveLong t_wallFirst v1 v2 v4 s0 s1 : Int} {t_isGone t_start t_goal t_line : Nat → Int} {r : Int} {ag : Int → Int → Option (Int)} {k_85 : Int → Int → Option (Int)} (ao : AO b0 n [a_t, (a_t + 15), (a_t + 16), (a_t + 17), (a_t + 18)]) (ok_t_lines : inI t_lines) (ok_t_isGone : okZ t_isGone) (ok_t_start : okA t_start) (ok_t_goal : okA t_goal) (ok_t_line : okA t_line) (ok_v1 : inI v1) (ok_v2 : inI v2) (ok_v4 : inI v4) (ok_s0 : inI s0) (ok_s1 : inI s1) (hag : ∀ (v3_ : Int) (v4_ : Int), inI v3_ → inI v4_ → ag v3_ v4_ = some r → G l E b0 M_X11_sumAt (fun _ => True) (ZM E b0 (some (vI r)) (ov [a_t, (a_t + 15), (a_t + 16), (a_t + 17), (a_t + 18)] [.inr (11, fsX11 a_t t_thrown t_taped t_p t_fault t_baseLow t_baseHigh t_newBaseLow t_newBaseHigh t_from t_knots t_lines t_chosen t_undos t_redos t_aimedMany t_fits t_fitOf t_sights t_systems t_own t_cross t_curveLong t_wallFirst), ZA E 120 t_isGone, IA E 120 t_start, IA E 120 t_goal, IA E 360 t_line] h) n (inI r) 0 0) 0 0 n (ov [a_t, (a_t + 15), (a_t + 16), (a_t + 17), (a_t + 18)] [.inr (11, fsX11 a_t t_thrown t_taped t_p t_fault t_baseLow t_baseHigh t_newBaseLow t_newBaseHigh t_from t_knots t_lines t_chosen t_undos t_redos t_aimedMany t_fits t_fitOf t_sights t_systems t_own t_cross t_curveLong t_wallFirst), ZA E 120 t_isGone, IA E 120 t_start, IA E 120 t_goal, IA E 360 t_line] h) 5 [some (.ref a_t), some (vI v1), some (vI v2), some (vI v3_), some (vI v4_)] []) (hk_85 : ∀ (v3_ : Int) (v4_ : Int), inI v3_ → inI v4_ → k_85 v3_ v4_ = some r → G l E b0 M_X11_sumAt (fun _ => True) (ZM E b0 (some (vI r)) (ov [a_t, (a_t + 15), (a_t + 16), (a_t + 17), (a_t + 18)] [.inr (11, fsX11 a_t t_thrown t_taped t_p t_fault t_baseLow t_baseHigh t_newBaseLow t_newBaseHigh t_from t_knots t_lines t_chosen t_undos t_redos t_aimedMany t_fits t_fitOf t_sights t_systems t_own t_cross t_curveLong t_wallFirst), ZA E 120 t_isGone, IA E 120 t_start, IA E 120 t_goal, IA E 360 t_line] h) n (inI r) 0 0) 0 0 n (ov [a_t, (a_t + 15), (a_t + 16), (a_t + 17), (a_t + 18)] [.inr (11, fsX11 a_t t_thrown t_taped t_p t_fault t_baseLow t_baseHigh t_newBaseLow t_newBaseHigh t_from t_knots t_lines t_chosen t_undos t_redos t_aimedMany t_fits t_fitOf t_sights t_systems t_own t_cross t_curveLong t_wallFirst), ZA E 120 t_isGone, IA E 120 t_start, IA E 120 t_goal, IA E 360 t_line] h) 85 [none, none, none, some (vI v3_), none] []) (hs : m_X11_sumAt_77 t_lines t_isGone t_start t_goal t_line v1 v2 v4 s0 s1 ag k_85 = some r) : G l E b0 M_X11_sumAt (fun _ => True) (ZM E b0 (some (vI r)) (ov [a_t, (a_t + 15), (a_t + 16), (a_t + 17), (a_t + 18)] [.inr (11, fsX11 a_t t_thrown t_taped t_p t_fault t_baseLow t_baseHigh t_newBaseLow t_newBaseHigh t_from t_knots t_lines t_chosen t_undos t_redos t_aimedMany t_fits t_fitOf t_sights t_systems t_own t_cross t_curveLong t_wallFirst), ZA E 120 t_isGone, IA E 120 t_start, IA E 120 t_goal, IA E 360 t_line] h) n (inI r) 0 0) 0 0 n (ov [a_t, (a_t + 15), (a_t + 16), (a_t + 17), (a_t + 18)] [.inr (11, fsX11 a_t t_thrown t_taped t_p t_fault t_baseLow t_baseHigh t_newBaseLow t_newBaseHigh t_from t_knots t_lines t_chosen t_undos t_redos t_aimedMany t_fits t_fitOf t_sights t_systems t_own t_cross t_curveLong t_wallFirst), ZA E 120 t_isGone, IA E 120 t_start, IA E 120 t_goal, IA E 360 t_line] h) 77 [some (.ref a_t), some (vI v1), some (vI v2), none, some (vI v4)] [vI s1, vI s0] := by
  rw [m_X11_sumAt_77] at hs
  refine g_iadd e_X11_sumAt_77 ?_
  refine g_istore_n e_X11_sumAt_78 st1_3 rfl ?_
  obtain ⟨hc5, hs⟩ := chk_elim hs
  exact g_X11_sumAt_79 ao ok_t_lines ok_t_isGone ok_t_start ok_t_goal ok_t_line ok_v1 ok_v2 hc5 ok_v4 hag hk_85 hs

noncomputable def m_X11_sumAt_5 (t_lines : Int) (t_isGone : Nat → Int) (t_start : Nat → Int) (t_goal : Nat → Int) (t_line : Nat → Int) (v1 : Int) (v2 : Int) (k_85 : Int → Int → Option (Int)) : Nat → Int → Int → Option (Int)
  | 0, _, _ => none
  | F + 1, v3, v4 => if t_lines ≤ v4 then (some (v3)) else (chk (inB v4 120) (if (t_isGone (Int.toNat v4)) = 0 then (chk (inB v4 120) (if (t_start (Int.toNat v4)) = v1 then (chk (inB ((3 * v4) + v2) 360) (m_X11_sumAt_77 t_lines t_isGone t_start t_goal t_line v1 v2 v4 v3 (t_line (Int.toNat ((3 * v4) + v2))) (m_X11_sumAt_5 t_lines t_isGone t_start t_goal t_line v1 v2 k_85 F) k_85)) else (chk (inB v4 120) (if (t_goal (Int.toNat v4)) = v1 then (chk (inB ((3 * v4) + v2) 360) (chk (inI (-(t_line (Int.toNat ((3 * v4) + v2))))) (m_X11_sumAt_77 t_lines t_isGone t_start t_goal t_line v1 v2 v4 v3 (-(t_line (Int.toNat ((3 * v4) + v2)))) (m_X11_sumAt_5 t_lines t_isGone t_start t_goal t_line v1 v2 k_85 F) k_85))) else (m_X11_sumAt_77 t_lines t_isGone t_start t_goal t_line v1 v2 v4 v3 0 (m_X11_sumAt_5 t_lines t_isGone t_start t_goal t_line v1 v2 k_85 F) k_85))))) else (m_X11_sumAt_79 t_lines t_isGone t_start t_goal t_line v1 v2 v3 v4 (m_X11_sumAt_5 t_lines t_isGone t_start t_goal t_line v1 v2 k_85 F) k_85)))

set_option maxRecDepth 10000 in
set_option maxHeartbeats 8000000 in
theorem g_X11_sumAt_5 {l : Launch} {E : EE} {b0 n : Nat} {h : AH} {a_t : Nat} {t_thrown t_taped t_p t_fault t_baseLow t_baseHigh t_newBaseLow t_newBaseHigh t_from t_knots t_lines t_chosen t_undos t_redos t_aimedMany t_fits t_fitOf t_sights t_systems t_own t_cross t_curveLong t_wallFirst v1 v2 : Int} {t_isGone t_start t_goal t_line : Nat → Int} {r : Int} {k_85 : Int → Int → Option (Int)} (ao : AO b0 n [a_t, (a_t + 15), (a_t + 16), (a_t + 17), (a_t + 18)]) (ok_t_lines : inI t_lines) (ok_t_isGone : okZ t_isGone) (ok_t_start : okA t_start) (ok_t_goal : okA t_goal) (ok_t_line : okA t_line) (ok_v1 : inI v1) (ok_v2 : inI v2) (hk_85 : ∀ (v3_ : Int) (v4_ : Int), inI v3_ → inI v4_ → k_85 v3_ v4_ = some r → G l E b0 M_X11_sumAt (fun _ => True) (ZM E b0 (some (vI r)) (ov [a_t, (a_t + 15), (a_t + 16), (a_t + 17), (a_t + 18)] [.inr (11, fsX11 a_t t_thrown t_taped t_p t_fault t_baseLow t_baseHigh t_newBaseLow t_newBaseHigh t_from t_knots t_lines t_chosen t_undos t_redos t_aimedMany t_fits t_fitOf t_sights t_systems t_own t_cross t_curveLong t_wallFirst), ZA E 120 t_isGone, IA E 120 t_start, IA E 120 t_goal, IA E 360 t_line] h) n (inI r) 0 0) 0 0 n (ov [a_t, (a_t + 15), (a_t + 16), (a_t + 17), (a_t + 18)] [.inr (11, fsX11 a_t t_thrown t_taped t_p t_fault t_baseLow t_baseHigh t_newBaseLow t_newBaseHigh t_from t_knots t_lines t_chosen t_undos t_redos t_aimedMany t_fits t_fitOf t_sights t_systems t_own t_cross t_curveLong t_wallFirst), ZA E 120 t_isGone, IA E 120 t_start, IA E 120 t_goal, IA E 360 t_line] h) 85 [none, none, none, some (vI v3_), none] []) :
    ∀ (F : Nat) (v3 : Int) (v4 : Int), inI v3 → inI v4 → m_X11_sumAt_5 t_lines t_isGone t_start t_goal t_line v1 v2 k_85 F v3 v4 = some r → G l E b0 M_X11_sumAt (fun _ => True) (ZM E b0 (some (vI r)) (ov [a_t, (a_t + 15), (a_t + 16), (a_t + 17), (a_t + 18)] [.inr (11, fsX11 a_t t_thrown t_taped t_p t_fault t_baseLow t_baseHigh t_newBaseLow t_newBaseHigh t_from t_knots t_lines t_chosen t_undos t_redos t_aimedMany t_fits t_fitOf t_sights t_systems t_own t_cross t_curveLong t_wallFirst), ZA E 120 t_isGone, IA E 120 t_start, IA E 120 t_goal, IA E 360 t_line] h) n (inI r) 0 0) 0 0 n (ov [a_t, (a_t + 15), (a_t + 16), (a_t + 17), (a_t + 18)] [.inr (11, fsX11 a_t t_thrown t_taped t_p t_fault t_baseLow t_baseHigh t_newBaseLow t_newBaseHigh t_from t_knots t_lines t_chosen t_undos t_redos t_aimedMany t_fits t_fitOf t_sights t_systems t_own t_cross t_curveLong t_wallFirst), ZA E 120 t_isGone, IA E 120 t_start, IA E 120 t_goal, IA E 360 t_line] h) 5 [some (.ref a_t), some (vI v1), some (vI v2), some (vI v3), some (vI v4)] [] := by
  intro F
  induction F with
  | zero =>
    intro v3 v4 ok_v3 ok_v4 hs
    rw [m_X11_sumAt_5] at hs
    cases hs
  | succ F ih =>
    intro v3 v4 ok_v3 ok_v4 hs
    rw [m_X11_sumAt_5] at hs
    refine g_iload e_X11_sumAt_5 rfl ?_
    refine g_aload_n e_X11_sumAt_7 rfl ?_
    refine g_get 0 23 ao rfl rfl fsX11_g23 fl_X11_271 e_X11_sumAt_8 ?_
    refine g_icmp_ge e_X11_sumAt_11 ok_v4 ok_t_lines hs (fun c11 hs => ?_) (fun c11 hs => ?_)
    · refine g_iload_n e_X11_sumAt_85 rfl ?_
      obtain rfl := Option.some.inj hs
      exact g_iret rfl ok_v3 e_X11_sumAt_86
    · refine g_aload_n e_X11_sumAt_14 rfl ?_
      refine g_get 0 25 ao rfl rfl fsX11_g25 fl_X11_54 e_X11_sumAt_15 ?_
      refine g_iload e_X11_sumAt_18 rfl ?_
      refine g_zald 1 ao rfl rfl (Nat.le_of_ble_eq_true rfl) e_X11_sumAt_20 hs (fun hi1 hs => ?_)
      refine g_if_ne e_X11_sumAt_21 (inZ_I (ok_t_isGone _)) hs (fun c21 hs => ?_) (fun c21 hs => ?_)
      · refine g_iload_n e_X11_sumAt_24 rfl ?_
        refine g_aload_n e_X11_sumAt_25 rfl ?_
        refine g_get 0 26 ao rfl rfl fsX11_g26 fl_X11_57 e_X11_sumAt_26 ?_
        refine g_iload e_X11_sumAt_29 rfl ?_
        refine g_iald 2 ao rfl rfl (Nat.le_of_ble_eq_true rfl) e_X11_sumAt_31 hs (fun hi2 hs => ?_)
        refine g_iload_n e_X11_sumAt_32 rfl ?_
        refine g_icmp_ne e_X11_sumAt_33 (ok_t_start _) ok_v1 hs (fun c33 hs => ?_) (fun c33 hs => ?_)
        · refine g_aload_n e_X11_sumAt_36 rfl ?_
          refine g_get 0 28 ao rfl rfl fsX11_g28 fl_X11_63 e_X11_sumAt_37 ?_
          refine g_iconst e_X11_sumAt_40 ?_
          refine g_iload e_X11_sumAt_41 rfl ?_
          refine g_imul e_X11_sumAt_43 ?_
          refine g_iload_n e_X11_sumAt_44 rfl ?_
          refine g_iadd e_X11_sumAt_45 ?_
          refine g_iald 4 ao rfl rfl (Nat.le_of_ble_eq_true rfl) e_X11_sumAt_46 hs (fun hi3 hs => ?_)
          refine g_goto e_X11_sumAt_47 ?_
          exact g_mask [true, true, true, false, true] (g_X11_sumAt_77 ao ok_t_lines ok_t_isGone ok_t_start ok_t_goal ok_t_line ok_v1 ok_v2 ok_v4 ok_v3 (ok_t_line _) ih hk_85 hs)
        · refine g_aload_n e_X11_sumAt_50 rfl ?_
          refine g_get 0 27 ao rfl rfl fsX11_g27 fl_X11_60 e_X11_sumAt_51 ?_
          refine g_iload e_X11_sumAt_54 rfl ?_
          refine g_iald 3 ao rfl rfl (Nat.le_of_ble_eq_true rfl) e_X11_sumAt_56 hs (fun hi6 hs => ?_)
          refine g_iload_n e_X11_sumAt_57 rfl ?_
          refine g_icmp_ne e_X11_sumAt_58 (ok_t_goal _) ok_v1 hs (fun c58 hs => ?_) (fun c58 hs => ?_)
          · refine g_aload_n e_X11_sumAt_61 rfl ?_
            refine g_get 0 28 ao rfl rfl fsX11_g28 fl_X11_63 e_X11_sumAt_62 ?_
            refine g_iconst e_X11_sumAt_65 ?_
            refine g_iload e_X11_sumAt_66 rfl ?_
            refine g_imul e_X11_sumAt_68 ?_
            refine g_iload_n e_X11_sumAt_69 rfl ?_
            refine g_iadd e_X11_sumAt_70 ?_
            refine g_iald 4 ao rfl rfl (Nat.le_of_ble_eq_true rfl) e_X11_sumAt_71 hs (fun hi7 hs => ?_)
            refine g_ineg e_X11_sumAt_72 ?_
            refine g_goto e_X11_sumAt_73 ?_
            obtain ⟨hc8, hs⟩ := chk_elim hs
            exact g_mask [true, true, true, false, true] (g_X11_sumAt_77 ao ok_t_lines ok_t_isGone ok_t_start ok_t_goal ok_t_line ok_v1 ok_v2 ok_v4 ok_v3 hc8 ih hk_85 hs)
          · refine g_iconst e_X11_sumAt_76 ?_
            exact g_mask [true, true, true, false, true] (g_X11_sumAt_77 ao ok_t_lines ok_t_isGone ok_t_start ok_t_goal ok_t_line ok_v1 ok_v2 ok_v4 ok_v3 (by decide : inI 0) ih hk_85 hs)
      · exact g_X11_sumAt_79 ao ok_t_lines ok_t_isGone ok_t_start ok_t_goal ok_t_line ok_v1 ok_v2 ok_v3 ok_v4 ih hk_85 hs

noncomputable def m_X11_sumAt_85 (v3 : Int) : Option (Int) :=
  some (v3)

set_option maxRecDepth 10000 in
set_option maxHeartbeats 8000000 in
theorem g_X11_sumAt_85 {l : Launch} {E : EE} {b0 n : Nat} {h : AH} {a_t : Nat} {t_thrown t_taped t_p t_fault t_baseLow t_baseHigh t_newBaseLow t_newBaseHigh t_from t_knots t_lines t_chosen t_undos t_redos t_aimedMany t_fits t_fitOf t_sights t_systems t_own t_cross t_curveLong t_wallFirst v3 : Int} {t_isGone t_start t_goal t_line : Nat → Int} {r : Int} (ao : AO b0 n [a_t, (a_t + 15), (a_t + 16), (a_t + 17), (a_t + 18)]) (ok_t_lines : inI t_lines) (ok_t_isGone : okZ t_isGone) (ok_t_start : okA t_start) (ok_t_goal : okA t_goal) (ok_t_line : okA t_line) (ok_v3 : inI v3) (hs : m_X11_sumAt_85 v3 = some r) : G l E b0 M_X11_sumAt (fun _ => True) (ZM E b0 (some (vI r)) (ov [a_t, (a_t + 15), (a_t + 16), (a_t + 17), (a_t + 18)] [.inr (11, fsX11 a_t t_thrown t_taped t_p t_fault t_baseLow t_baseHigh t_newBaseLow t_newBaseHigh t_from t_knots t_lines t_chosen t_undos t_redos t_aimedMany t_fits t_fitOf t_sights t_systems t_own t_cross t_curveLong t_wallFirst), ZA E 120 t_isGone, IA E 120 t_start, IA E 120 t_goal, IA E 360 t_line] h) n (inI r) 0 0) 0 0 n (ov [a_t, (a_t + 15), (a_t + 16), (a_t + 17), (a_t + 18)] [.inr (11, fsX11 a_t t_thrown t_taped t_p t_fault t_baseLow t_baseHigh t_newBaseLow t_newBaseHigh t_from t_knots t_lines t_chosen t_undos t_redos t_aimedMany t_fits t_fitOf t_sights t_systems t_own t_cross t_curveLong t_wallFirst), ZA E 120 t_isGone, IA E 120 t_start, IA E 120 t_goal, IA E 360 t_line] h) 85 [none, none, none, some (vI v3), none] [] := by
  rw [m_X11_sumAt_85] at hs
  refine g_iload_n e_X11_sumAt_85 rfl ?_
  obtain rfl := Option.some.inj hs
  exact g_iret rfl ok_v3 e_X11_sumAt_86

noncomputable def m_X11_sumAt_0 (t_lines : Int) (t_isGone : Nat → Int) (t_start : Nat → Int) (t_goal : Nat → Int) (t_line : Nat → Int) (v1 : Int) (v2 : Int) : Option (Int) :=
  m_X11_sumAt_5 t_lines t_isGone t_start t_goal t_line v1 v2 (fun v3' v4' => m_X11_sumAt_85 v3') FU 0 0

set_option maxRecDepth 10000 in
set_option maxHeartbeats 8000000 in
theorem g_X11_sumAt_0 {l : Launch} {E : EE} {b0 n : Nat} {h : AH} {a_t : Nat} {t_thrown t_taped t_p t_fault t_baseLow t_baseHigh t_newBaseLow t_newBaseHigh t_from t_knots t_lines t_chosen t_undos t_redos t_aimedMany t_fits t_fitOf t_sights t_systems t_own t_cross t_curveLong t_wallFirst v1 v2 : Int} {t_isGone t_start t_goal t_line : Nat → Int} {r : Int} (ao : AO b0 n [a_t, (a_t + 15), (a_t + 16), (a_t + 17), (a_t + 18)]) (ok_t_lines : inI t_lines) (ok_t_isGone : okZ t_isGone) (ok_t_start : okA t_start) (ok_t_goal : okA t_goal) (ok_t_line : okA t_line) (ok_v1 : inI v1) (ok_v2 : inI v2) (hs : m_X11_sumAt_0 t_lines t_isGone t_start t_goal t_line v1 v2 = some r) : G l E b0 M_X11_sumAt (fun _ => True) (ZM E b0 (some (vI r)) (ov [a_t, (a_t + 15), (a_t + 16), (a_t + 17), (a_t + 18)] [.inr (11, fsX11 a_t t_thrown t_taped t_p t_fault t_baseLow t_baseHigh t_newBaseLow t_newBaseHigh t_from t_knots t_lines t_chosen t_undos t_redos t_aimedMany t_fits t_fitOf t_sights t_systems t_own t_cross t_curveLong t_wallFirst), ZA E 120 t_isGone, IA E 120 t_start, IA E 120 t_goal, IA E 360 t_line] h) n (inI r) 0 0) 0 0 n (ov [a_t, (a_t + 15), (a_t + 16), (a_t + 17), (a_t + 18)] [.inr (11, fsX11 a_t t_thrown t_taped t_p t_fault t_baseLow t_baseHigh t_newBaseLow t_newBaseHigh t_from t_knots t_lines t_chosen t_undos t_redos t_aimedMany t_fits t_fitOf t_sights t_systems t_own t_cross t_curveLong t_wallFirst), ZA E 120 t_isGone, IA E 120 t_start, IA E 120 t_goal, IA E 360 t_line] h) 0 [some (.ref a_t), some (vI v1), some (vI v2), none, none] [] := by
  rw [m_X11_sumAt_0] at hs
  refine g_iconst e_X11_sumAt_0 ?_
  refine g_istore_n e_X11_sumAt_1 st1_3 rfl ?_
  refine g_iconst e_X11_sumAt_2 ?_
  refine g_istore e_X11_sumAt_3 st1_4 rfl ?_
  exact g_X11_sumAt_5 ao ok_t_lines ok_t_isGone ok_t_start ok_t_goal ok_t_line ok_v1 ok_v2 (hk_85 := by
      intro v3' v4' ok_v3' ok_v4' hs
      exact g_X11_sumAt_85 ao ok_t_lines ok_t_isGone ok_t_start ok_t_goal ok_t_line ok_v3' hs) FU _ _ (by decide : inI 0) (by decide : inI 0) hs

noncomputable def m_X11_sumAt (t_lines : Int) (t_isGone : Nat → Int) (t_start : Nat → Int) (t_goal : Nat → Int) (t_line : Nat → Int) (v1 : Int) (v2 : Int) : Option (Int) := m_X11_sumAt_0 t_lines t_isGone t_start t_goal t_line v1 v2

set_option maxRecDepth 10000 in
set_option maxHeartbeats 8000000 in
theorem ct_X11_sumAt {l : Launch} {E : EE} {b0 n : Nat} {h : AH} {a_t : Nat} {t_thrown t_taped t_p t_fault t_baseLow t_baseHigh t_newBaseLow t_newBaseHigh t_from t_knots t_lines t_chosen t_undos t_redos t_aimedMany t_fits t_fitOf t_sights t_systems t_own t_cross t_curveLong t_wallFirst : Int} {t_isGone t_start t_goal t_line : Nat → Int} {v1 v2 : Int} (ao : AO b0 n [a_t, (a_t + 15), (a_t + 16), (a_t + 17), (a_t + 18)]) (hf : FA h [a_t, (a_t + 15), (a_t + 16), (a_t + 17), (a_t + 18)] [.inr (11, fsX11 a_t t_thrown t_taped t_p t_fault t_baseLow t_baseHigh t_newBaseLow t_newBaseHigh t_from t_knots t_lines t_chosen t_undos t_redos t_aimedMany t_fits t_fitOf t_sights t_systems t_own t_cross t_curveLong t_wallFirst), ZA E 120 t_isGone, IA E 120 t_start, IA E 120 t_goal, IA E 360 t_line]) (ok_t_lines : inI t_lines) (ok_t_isGone : okZ t_isGone) (ok_t_start : okA t_start) (ok_t_goal : okA t_goal) (ok_t_line : okA t_line) (ok_v1 : inI v1) (ok_v2 : inI v2) {r : Int} (hm : m_X11_sumAt t_lines t_isGone t_start t_goal t_line v1 v2 = some r) : Ct l E b0 M_X11_sumAt 0 0 [.ref a_t, vI v1, vI v2] h n (some (vI r)) h n (inI r) := by
  rw [m_X11_sumAt] at hm
  have hg : G l E b0 M_X11_sumAt (fun _ => True) (ZM E b0 (some (vI r)) (ov [a_t, (a_t + 15), (a_t + 16), (a_t + 17), (a_t + 18)] [.inr (11, fsX11 a_t t_thrown t_taped t_p t_fault t_baseLow t_baseHigh t_newBaseLow t_newBaseHigh t_from t_knots t_lines t_chosen t_undos t_redos t_aimedMany t_fits t_fitOf t_sights t_systems t_own t_cross t_curveLong t_wallFirst), ZA E 120 t_isGone, IA E 120 t_start, IA E 120 t_goal, IA E 360 t_line] h) n (inI r) 0 0) 0 0 n (ov [a_t, (a_t + 15), (a_t + 16), (a_t + 17), (a_t + 18)] [.inr (11, fsX11 a_t t_thrown t_taped t_p t_fault t_baseLow t_baseHigh t_newBaseLow t_newBaseHigh t_from t_knots t_lines t_chosen t_undos t_redos t_aimedMany t_fits t_fitOf t_sights t_systems t_own t_cross t_curveLong t_wallFirst), ZA E 120 t_isGone, IA E 120 t_start, IA E 120 t_goal, IA E 360 t_line] h) 0 [some (.ref a_t), some (vI v1), some (vI v2), none, none] [] := by
    have hs := hm
    exact g_X11_sumAt_0 ao ok_t_lines ok_t_isGone ok_t_start ok_t_goal ok_t_line ok_v1 ok_v2 hs
  rw [FA_id hf] at hg
  exact Ct_of [some (.ref a_t), some (vI v1), some (vI v2), none, none] ⟨by decide +kernel, rfl⟩ rfl (Nat.le_of_ble_eq_true rfl) hg

/-! ===== X11_sum ===== -/
theorem e_X11_sum_0 : DC cX11_sum 0 (.aload_n 0) 1 1 := ⟨by decide +kernel, rfl⟩
theorem e_X11_sum_1 : DC cX11_sum 1 (.iload_n 1) 1 2 := ⟨by decide +kernel, rfl⟩
theorem e_X11_sum_2 : DC cX11_sum 2 (.invokevirtual 274) 3 5 := ⟨by decide +kernel, rfl⟩
theorem e_X11_sum_5 : DB cX11_sum 5 (.ifCond .eq 21) (21) 3 8 26 := ⟨by decide +kernel, rfl, rfl⟩
theorem e_X11_sum_8 : DC cX11_sum 8 (.iload_n 2) 1 9 := ⟨by decide +kernel, rfl⟩
theorem e_X11_sum_9 : DC cX11_sum 9 (.iconst 0) 1 10 := ⟨by decide +kernel, rfl⟩
theorem e_X11_sum_10 : DC cX11_sum 10 (.iconst 2) 1 11 := ⟨by decide +kernel, rfl⟩
theorem e_X11_sum_11 : DC cX11_sum 11 (.invokestatic 226) 3 14 := ⟨by decide +kernel, rfl⟩
theorem e_X11_sum_14 : DB cX11_sum 14 (.ifCond .eq 12) (12) 3 17 26 := ⟨by decide +kernel, rfl, rfl⟩
theorem e_X11_sum_17 : DC cX11_sum 17 (.aload_n 0) 1 18 := ⟨by decide +kernel, rfl⟩
theorem e_X11_sum_18 : DC cX11_sum 18 (.iload_n 1) 1 19 := ⟨by decide +kernel, rfl⟩
theorem e_X11_sum_19 : DC cX11_sum 19 (.iload_n 2) 1 20 := ⟨by decide +kernel, rfl⟩
theorem e_X11_sum_20 : DC cX11_sum 20 (.invokevirtual 291) 3 23 := ⟨by decide +kernel, rfl⟩
theorem e_X11_sum_23 : DB cX11_sum 23 (.goto 6) (6) 3 26 29 := ⟨by decide +kernel, rfl, rfl⟩
theorem e_X11_sum_26 : DC cX11_sum 26 (.ldc_w 294) 3 29 := ⟨by decide +kernel, rfl⟩
theorem e_X11_sum_29 : DC cX11_sum 29 (.ireturn) 1 30 := ⟨by decide +kernel, rfl⟩
noncomputable def m_X11_sum_0 (t_knots : Int) (t_lines : Int) (t_isGone : Nat → Int) (t_start : Nat → Int) (t_goal : Nat → Int) (t_line : Nat → Int) (v1 : Int) (v2 : Int) : Option (Int) :=
  (m_X11_isKnot t_knots v1).bind (fun y1 => if y1 = 0 then (some ((-100000))) else ((m_X11_in v2 0 2).bind (fun y2 => if y2 = 0 then (some ((-100000))) else ((m_X11_sumAt t_lines t_isGone t_start t_goal t_line v1 v2).bind (fun y3 => some (y3))))))

set_option maxRecDepth 10000 in
set_option maxHeartbeats 8000000 in
theorem g_X11_sum_0 {l : Launch} {E : EE} {b0 n : Nat} {h : AH} {a_t : Nat} {t_thrown t_taped t_p t_fault t_baseLow t_baseHigh t_newBaseLow t_newBaseHigh t_from t_knots t_lines t_chosen t_undos t_redos t_aimedMany t_fits t_fitOf t_sights t_systems t_own t_cross t_curveLong t_wallFirst v1 v2 : Int} {t_isGone t_start t_goal t_line : Nat → Int} {r : Int} (ao : AO b0 n [a_t, (a_t + 15), (a_t + 16), (a_t + 17), (a_t + 18)]) (ok_t_knots : inI t_knots) (ok_t_lines : inI t_lines) (ok_t_isGone : okZ t_isGone) (ok_t_start : okA t_start) (ok_t_goal : okA t_goal) (ok_t_line : okA t_line) (ok_v1 : inI v1) (ok_v2 : inI v2) (hs : m_X11_sum_0 t_knots t_lines t_isGone t_start t_goal t_line v1 v2 = some r) : G l E b0 M_X11_sum (fun _ => True) (ZM E b0 (some (vI r)) (ov [a_t, (a_t + 15), (a_t + 16), (a_t + 17), (a_t + 18)] [.inr (11, fsX11 a_t t_thrown t_taped t_p t_fault t_baseLow t_baseHigh t_newBaseLow t_newBaseHigh t_from t_knots t_lines t_chosen t_undos t_redos t_aimedMany t_fits t_fitOf t_sights t_systems t_own t_cross t_curveLong t_wallFirst), ZA E 120 t_isGone, IA E 120 t_start, IA E 120 t_goal, IA E 360 t_line] h) n (inI r) 0 0) 0 0 n (ov [a_t, (a_t + 15), (a_t + 16), (a_t + 17), (a_t + 18)] [.inr (11, fsX11 a_t t_thrown t_taped t_p t_fault t_baseLow t_baseHigh t_newBaseLow t_newBaseHigh t_from t_knots t_lines t_chosen t_undos t_redos t_aimedMany t_fits t_fitOf t_sights t_systems t_own t_cross t_curveLong t_wallFirst), ZA E 120 t_isGone, IA E 120 t_start, IA E 120 t_goal, IA E 360 t_line] h) 0 [some (.ref a_t), some (vI v1), some (vI v2)] [] := by
  rw [m_X11_sum_0] at hs
  refine g_aload_n e_X11_sum_0 rfl ?_
  refine g_iload_n e_X11_sum_1 rfl ?_
  obtain ⟨y1, hy1, hs⟩ := bind_elim hs
  refine g_callVr [vI v1] cv_X11_274 ⟨rfl, rfl, Nat.le_of_ble_eq_true rfl, Nat.le_of_ble_eq_true rfl⟩ (ct_X11_isKnot (a_t := a_t) (AO_call [0] ao (by decide) rfl) (FA_call [0] ao.1 rfl rfl) ok_t_knots ok_v1 hy1) e_X11_sum_2 (ao.2 0 _ rfl) (ov_get 0 ao.1 rfl rfl) rfl rfl rfl (Nat.le_of_ble_eq_true rfl) ⟨Nat.le_refl _, Nat.le_refl _⟩ (fun Py1 => ?_)
  refine g_if_eq e_X11_sum_5 (inZ_I Py1) hs (fun c5 hs => ?_) (fun c5 hs => ?_)
  · refine g_ldcw (a := -100000) e_X11_sum_26 k_X11_294 ?_
    obtain rfl := Option.some.inj hs
    exact g_iret rfl (by decide : inI (-100000)) e_X11_sum_29
  · refine g_iload_n e_X11_sum_8 rfl ?_
    refine g_iconst e_X11_sum_9 ?_
    refine g_iconst e_X11_sum_10 ?_
    obtain ⟨y2, hy2, hs⟩ := bind_elim hs
    refine g_callSr [vI v2, vI 0, vI 2] cs_X11_226 ⟨rfl, rfl, Nat.le_of_ble_eq_true rfl, Nat.le_of_ble_eq_true rfl⟩ (ct_X11_in ⟨List.nodup_nil, fun i a h => by simp at h⟩ (fun i a e h => by simp at h) ok_v2 (by decide : inI 0) (by decide : inI 2) hy2) e_X11_sum_11 rfl rfl (Nat.le_of_ble_eq_true rfl) ⟨Nat.le_refl _, Nat.le_refl _⟩ (fun Py2 => ?_)
    refine g_if_eq e_X11_sum_14 (inZ_I Py2) hs (fun c14 hs => ?_) (fun c14 hs => ?_)
    · refine g_ldcw (a := -100000) e_X11_sum_26 k_X11_294 ?_
      obtain rfl := Option.some.inj hs
      exact g_iret rfl (by decide : inI (-100000)) e_X11_sum_29
    · refine g_aload_n e_X11_sum_17 rfl ?_
      refine g_iload_n e_X11_sum_18 rfl ?_
      refine g_iload_n e_X11_sum_19 rfl ?_
      obtain ⟨y3, hy3, hs⟩ := bind_elim hs
      refine g_callVr [vI v1, vI v2] cv_X11_291 ⟨rfl, rfl, Nat.le_of_ble_eq_true rfl, Nat.le_of_ble_eq_true rfl⟩ (ct_X11_sumAt (a_t := a_t) (AO_call [0, 1, 2, 3, 4] ao (by decide) rfl) (FA_call [0, 1, 2, 3, 4] ao.1 rfl rfl) ok_t_lines ok_t_isGone ok_t_start ok_t_goal ok_t_line ok_v1 ok_v2 hy3) e_X11_sum_20 (ao.2 0 _ rfl) (ov_get 0 ao.1 rfl rfl) rfl rfl rfl (Nat.le_of_ble_eq_true rfl) ⟨Nat.le_refl _, Nat.le_refl _⟩ (fun Py3 => ?_)
      refine g_goto e_X11_sum_23 ?_
      obtain rfl := Option.some.inj hs
      exact g_iret rfl Py3 e_X11_sum_29

noncomputable def m_X11_sum (t_knots : Int) (t_lines : Int) (t_isGone : Nat → Int) (t_start : Nat → Int) (t_goal : Nat → Int) (t_line : Nat → Int) (v1 : Int) (v2 : Int) : Option (Int) := m_X11_sum_0 t_knots t_lines t_isGone t_start t_goal t_line v1 v2

set_option maxRecDepth 10000 in
set_option maxHeartbeats 8000000 in
theorem ct_X11_sum {l : Launch} {E : EE} {b0 n : Nat} {h : AH} {a_t : Nat} {t_thrown t_taped t_p t_fault t_baseLow t_baseHigh t_newBaseLow t_newBaseHigh t_from t_knots t_lines t_chosen t_undos t_redos t_aimedMany t_fits t_fitOf t_sights t_systems t_own t_cross t_curveLong t_wallFirst : Int} {t_isGone t_start t_goal t_line : Nat → Int} {v1 v2 : Int} (ao : AO b0 n [a_t, (a_t + 15), (a_t + 16), (a_t + 17), (a_t + 18)]) (hf : FA h [a_t, (a_t + 15), (a_t + 16), (a_t + 17), (a_t + 18)] [.inr (11, fsX11 a_t t_thrown t_taped t_p t_fault t_baseLow t_baseHigh t_newBaseLow t_newBaseHigh t_from t_knots t_lines t_chosen t_undos t_redos t_aimedMany t_fits t_fitOf t_sights t_systems t_own t_cross t_curveLong t_wallFirst), ZA E 120 t_isGone, IA E 120 t_start, IA E 120 t_goal, IA E 360 t_line]) (ok_t_knots : inI t_knots) (ok_t_lines : inI t_lines) (ok_t_isGone : okZ t_isGone) (ok_t_start : okA t_start) (ok_t_goal : okA t_goal) (ok_t_line : okA t_line) (ok_v1 : inI v1) (ok_v2 : inI v2) {r : Int} (hm : m_X11_sum t_knots t_lines t_isGone t_start t_goal t_line v1 v2 = some r) : Ct l E b0 M_X11_sum 0 0 [.ref a_t, vI v1, vI v2] h n (some (vI r)) h n (inI r) := by
  rw [m_X11_sum] at hm
  have hg : G l E b0 M_X11_sum (fun _ => True) (ZM E b0 (some (vI r)) (ov [a_t, (a_t + 15), (a_t + 16), (a_t + 17), (a_t + 18)] [.inr (11, fsX11 a_t t_thrown t_taped t_p t_fault t_baseLow t_baseHigh t_newBaseLow t_newBaseHigh t_from t_knots t_lines t_chosen t_undos t_redos t_aimedMany t_fits t_fitOf t_sights t_systems t_own t_cross t_curveLong t_wallFirst), ZA E 120 t_isGone, IA E 120 t_start, IA E 120 t_goal, IA E 360 t_line] h) n (inI r) 0 0) 0 0 n (ov [a_t, (a_t + 15), (a_t + 16), (a_t + 17), (a_t + 18)] [.inr (11, fsX11 a_t t_thrown t_taped t_p t_fault t_baseLow t_baseHigh t_newBaseLow t_newBaseHigh t_from t_knots t_lines t_chosen t_undos t_redos t_aimedMany t_fits t_fitOf t_sights t_systems t_own t_cross t_curveLong t_wallFirst), ZA E 120 t_isGone, IA E 120 t_start, IA E 120 t_goal, IA E 360 t_line] h) 0 [some (.ref a_t), some (vI v1), some (vI v2)] [] := by
    have hs := hm
    exact g_X11_sum_0 ao ok_t_knots ok_t_lines ok_t_isGone ok_t_start ok_t_goal ok_t_line ok_v1 ok_v2 hs
  rw [FA_id hf] at hg
  exact Ct_of [some (.ref a_t), some (vI v1), some (vI v2)] ⟨by decide +kernel, rfl⟩ rfl (Nat.le_of_ble_eq_true rfl) hg

/-! ===== X11_unsound ===== -/
theorem e_X11_unsound_0 : DC cX11_unsound 0 (.iconst 0) 1 1 := ⟨by decide +kernel, rfl⟩
theorem e_X11_unsound_1 : DC cX11_unsound 1 (.istore_n 1) 1 2 := ⟨by decide +kernel, rfl⟩
theorem e_X11_unsound_2 : DC cX11_unsound 2 (.iload_n 1) 1 3 := ⟨by decide +kernel, rfl⟩
theorem e_X11_unsound_3 : DC cX11_unsound 3 (.aload_n 0) 1 4 := ⟨by decide +kernel, rfl⟩
theorem e_X11_unsound_4 : DC cX11_unsound 4 (.getfield 268) 3 7 := ⟨by decide +kernel, rfl⟩
theorem e_X11_unsound_7 : DB cX11_unsound 7 (.if_icmp .ge 47) (47) 3 10 54 := ⟨by decide +kernel, rfl, rfl⟩
theorem e_X11_unsound_10 : DC cX11_unsound 10 (.aload_n 0) 1 11 := ⟨by decide +kernel, rfl⟩
theorem e_X11_unsound_11 : DC cX11_unsound 11 (.getfield 50) 3 14 := ⟨by decide +kernel, rfl⟩
theorem e_X11_unsound_14 : DC cX11_unsound 14 (.iload_n 1) 1 15 := ⟨by decide +kernel, rfl⟩
theorem e_X11_unsound_15 : DC cX11_unsound 15 (.baload) 1 16 := ⟨by decide +kernel, rfl⟩
theorem e_X11_unsound_16 : DB cX11_unsound 16 (.ifCond .ne 32) (32) 3 19 48 := ⟨by decide +kernel, rfl, rfl⟩
theorem e_X11_unsound_19 : DC cX11_unsound 19 (.aload_n 0) 1 20 := ⟨by decide +kernel, rfl⟩
theorem e_X11_unsound_20 : DC cX11_unsound 20 (.iload_n 1) 1 21 := ⟨by decide +kernel, rfl⟩
theorem e_X11_unsound_21 : DC cX11_unsound 21 (.iconst 0) 1 22 := ⟨by decide +kernel, rfl⟩
theorem e_X11_unsound_22 : DC cX11_unsound 22 (.invokevirtual 291) 3 25 := ⟨by decide +kernel, rfl⟩
theorem e_X11_unsound_25 : DB cX11_unsound 25 (.ifCond .ne 21) (21) 3 28 46 := ⟨by decide +kernel, rfl, rfl⟩
theorem e_X11_unsound_28 : DC cX11_unsound 28 (.aload_n 0) 1 29 := ⟨by decide +kernel, rfl⟩
theorem e_X11_unsound_29 : DC cX11_unsound 29 (.iload_n 1) 1 30 := ⟨by decide +kernel, rfl⟩
theorem e_X11_unsound_30 : DC cX11_unsound 30 (.iconst 1) 1 31 := ⟨by decide +kernel, rfl⟩
theorem e_X11_unsound_31 : DC cX11_unsound 31 (.invokevirtual 291) 3 34 := ⟨by decide +kernel, rfl⟩
theorem e_X11_unsound_34 : DB cX11_unsound 34 (.ifCond .ne 12) (12) 3 37 46 := ⟨by decide +kernel, rfl, rfl⟩
theorem e_X11_unsound_37 : DC cX11_unsound 37 (.aload_n 0) 1 38 := ⟨by decide +kernel, rfl⟩
theorem e_X11_unsound_38 : DC cX11_unsound 38 (.iload_n 1) 1 39 := ⟨by decide +kernel, rfl⟩
theorem e_X11_unsound_39 : DC cX11_unsound 39 (.iconst 2) 1 40 := ⟨by decide +kernel, rfl⟩
theorem e_X11_unsound_40 : DC cX11_unsound 40 (.invokevirtual 291) 3 43 := ⟨by decide +kernel, rfl⟩
theorem e_X11_unsound_43 : DB cX11_unsound 43 (.ifCond .eq 5) (5) 3 46 48 := ⟨by decide +kernel, rfl, rfl⟩
theorem e_X11_unsound_46 : DC cX11_unsound 46 (.iload_n 1) 1 47 := ⟨by decide +kernel, rfl⟩
theorem e_X11_unsound_47 : DC cX11_unsound 47 (.ireturn) 1 48 := ⟨by decide +kernel, rfl⟩
theorem e_X11_unsound_48 : DC cX11_unsound 48 (.iinc 1 1) 3 51 := ⟨by decide +kernel, rfl⟩
theorem e_X11_unsound_51 : DB cX11_unsound 51 (.goto (-49)) (-49) 3 54 2 := ⟨by decide +kernel, rfl, rfl⟩
theorem e_X11_unsound_54 : DC cX11_unsound 54 (.iconst (-1)) 1 55 := ⟨by decide +kernel, rfl⟩
theorem e_X11_unsound_55 : DC cX11_unsound 55 (.ireturn) 1 56 := ⟨by decide +kernel, rfl⟩
noncomputable def m_X11_unsound_48 (t_knots : Int) (t_lines : Int) (t_isRim : Nat → Int) (t_isGone : Nat → Int) (t_start : Nat → Int) (t_goal : Nat → Int) (t_line : Nat → Int) (v1 : Int) (ag : Int → Option (Int)) (k_54 : Int → Option (Int)) (k_46 : Int → Option (Int)) : Option (Int) :=
  chk (inI (v1 + 1)) (ag (v1 + 1))

set_option maxRecDepth 10000 in
set_option maxHeartbeats 8000000 in
theorem g_X11_unsound_48 {l : Launch} {E : EE} {b0 n : Nat} {h : AH} {a_t : Nat} {t_thrown t_taped t_p t_fault t_baseLow t_baseHigh t_newBaseLow t_newBaseHigh t_from t_knots t_lines t_chosen t_undos t_redos t_aimedMany t_fits t_fitOf t_sights t_systems t_own t_cross t_curveLong t_wallFirst v1 : Int} {t_isRim t_isGone t_start t_goal t_line : Nat → Int} {r : Int} {ag : Int → Option (Int)} {k_54 : Int → Option (Int)} {k_46 : Int → Option (Int)} (ao : AO b0 n [a_t, (a_t + 14), (a_t + 15), (a_t + 16), (a_t + 17), (a_t + 18)]) (ok_t_knots : inI t_knots) (ok_t_lines : inI t_lines) (ok_t_isRim : okZ t_isRim) (ok_t_isGone : okZ t_isGone) (ok_t_start : okA t_start) (ok_t_goal : okA t_goal) (ok_t_line : okA t_line) (ok_v1 : inI v1) (hag : ∀ (v1_ : Int), inI v1_ → ag v1_ = some r → G l E b0 M_X11_unsound (fun _ => True) (ZM E b0 (some (vI r)) (ov [a_t, (a_t + 14), (a_t + 15), (a_t + 16), (a_t + 17), (a_t + 18)] [.inr (11, fsX11 a_t t_thrown t_taped t_p t_fault t_baseLow t_baseHigh t_newBaseLow t_newBaseHigh t_from t_knots t_lines t_chosen t_undos t_redos t_aimedMany t_fits t_fitOf t_sights t_systems t_own t_cross t_curveLong t_wallFirst), ZA E 60 t_isRim, ZA E 120 t_isGone, IA E 120 t_start, IA E 120 t_goal, IA E 360 t_line] h) n (inI r) 0 0) 0 0 n (ov [a_t, (a_t + 14), (a_t + 15), (a_t + 16), (a_t + 17), (a_t + 18)] [.inr (11, fsX11 a_t t_thrown t_taped t_p t_fault t_baseLow t_baseHigh t_newBaseLow t_newBaseHigh t_from t_knots t_lines t_chosen t_undos t_redos t_aimedMany t_fits t_fitOf t_sights t_systems t_own t_cross t_curveLong t_wallFirst), ZA E 60 t_isRim, ZA E 120 t_isGone, IA E 120 t_start, IA E 120 t_goal, IA E 360 t_line] h) 2 [some (.ref a_t), some (vI v1_)] []) (hk_54 : ∀ (v1_ : Int), inI v1_ → k_54 v1_ = some r → G l E b0 M_X11_unsound (fun _ => True) (ZM E b0 (some (vI r)) (ov [a_t, (a_t + 14), (a_t + 15), (a_t + 16), (a_t + 17), (a_t + 18)] [.inr (11, fsX11 a_t t_thrown t_taped t_p t_fault t_baseLow t_baseHigh t_newBaseLow t_newBaseHigh t_from t_knots t_lines t_chosen t_undos t_redos t_aimedMany t_fits t_fitOf t_sights t_systems t_own t_cross t_curveLong t_wallFirst), ZA E 60 t_isRim, ZA E 120 t_isGone, IA E 120 t_start, IA E 120 t_goal, IA E 360 t_line] h) n (inI r) 0 0) 0 0 n (ov [a_t, (a_t + 14), (a_t + 15), (a_t + 16), (a_t + 17), (a_t + 18)] [.inr (11, fsX11 a_t t_thrown t_taped t_p t_fault t_baseLow t_baseHigh t_newBaseLow t_newBaseHigh t_from t_knots t_lines t_chosen t_undos t_redos t_aimedMany t_fits t_fitOf t_sights t_systems t_own t_cross t_curveLong t_wallFirst), ZA E 60 t_isRim, ZA E 120 t_isGone, IA E 120 t_start, IA E 120 t_goal, IA E 360 t_line] h) 54 [none, none] []) (hk_46 : ∀ (v1_ : Int), inI v1_ → k_46 v1_ = some r → G l E b0 M_X11_unsound (fun _ => True) (ZM E b0 (some (vI r)) (ov [a_t, (a_t + 14), (a_t + 15), (a_t + 16), (a_t + 17), (a_t + 18)] [.inr (11, fsX11 a_t t_thrown t_taped t_p t_fault t_baseLow t_baseHigh t_newBaseLow t_newBaseHigh t_from t_knots t_lines t_chosen t_undos t_redos t_aimedMany t_fits t_fitOf t_sights t_systems t_own t_cross t_curveLong t_wallFirst), ZA E 60 t_isRim, ZA E 120 t_isGone, IA E 120 t_start, IA E 120 t_goal, IA E 360 t_line] h) n (inI r) 0 0) 0 0 n (ov [a_t, (a_t + 14), (a_t + 15), (a_t + 16), (a_t + 17), (a_t + 18)] [.inr (11, fsX11 a_t t_thrown t_taped t_p t_fault t_baseLow t_baseHigh t_newBaseLow t_newBaseHigh t_from t_knots t_lines t_chosen t_undos t_redos t_aimedMany t_fits t_fitOf t_sights t_systems t_own t_cross t_curveLong t_wallFirst), ZA E 60 t_isRim, ZA E 120 t_isGone, IA E 120 t_start, IA E 120 t_goal, IA E 360 t_line] h) 46 [none, some (vI v1_)] []) (hs : m_X11_unsound_48 t_knots t_lines t_isRim t_isGone t_start t_goal t_line v1 ag k_54 k_46 = some r) : G l E b0 M_X11_unsound (fun _ => True) (ZM E b0 (some (vI r)) (ov [a_t, (a_t + 14), (a_t + 15), (a_t + 16), (a_t + 17), (a_t + 18)] [.inr (11, fsX11 a_t t_thrown t_taped t_p t_fault t_baseLow t_baseHigh t_newBaseLow t_newBaseHigh t_from t_knots t_lines t_chosen t_undos t_redos t_aimedMany t_fits t_fitOf t_sights t_systems t_own t_cross t_curveLong t_wallFirst), ZA E 60 t_isRim, ZA E 120 t_isGone, IA E 120 t_start, IA E 120 t_goal, IA E 360 t_line] h) n (inI r) 0 0) 0 0 n (ov [a_t, (a_t + 14), (a_t + 15), (a_t + 16), (a_t + 17), (a_t + 18)] [.inr (11, fsX11 a_t t_thrown t_taped t_p t_fault t_baseLow t_baseHigh t_newBaseLow t_newBaseHigh t_from t_knots t_lines t_chosen t_undos t_redos t_aimedMany t_fits t_fitOf t_sights t_systems t_own t_cross t_curveLong t_wallFirst), ZA E 60 t_isRim, ZA E 120 t_isGone, IA E 120 t_start, IA E 120 t_goal, IA E 360 t_line] h) 48 [some (.ref a_t), some (vI v1)] [] := by
  rw [m_X11_unsound_48] at hs
  refine g_iinc e_X11_unsound_48 rfl st1_1 rfl ?_
  refine g_goto e_X11_unsound_51 ?_
  obtain ⟨hc5, hs⟩ := chk_elim hs
  exact hag _ hc5 hs

noncomputable def m_X11_unsound_2 (t_knots : Int) (t_lines : Int) (t_isRim : Nat → Int) (t_isGone : Nat → Int) (t_start : Nat → Int) (t_goal : Nat → Int) (t_line : Nat → Int) (k_54 : Int → Option (Int)) (k_46 : Int → Option (Int)) : Nat → Int → Option (Int)
  | 0, _ => none
  | F + 1, v1 => if t_knots ≤ v1 then (some ((-1))) else (chk (inB v1 60) (if (t_isRim (Int.toNat v1)) = 0 then ((m_X11_sumAt t_lines t_isGone t_start t_goal t_line v1 0).bind (fun y2 => if y2 = 0 then ((m_X11_sumAt t_lines t_isGone t_start t_goal t_line v1 1).bind (fun y3 => if y3 = 0 then ((m_X11_sumAt t_lines t_isGone t_start t_goal t_line v1 2).bind (fun y4 => if y4 = 0 then (m_X11_unsound_48 t_knots t_lines t_isRim t_isGone t_start t_goal t_line v1 (m_X11_unsound_2 t_knots t_lines t_isRim t_isGone t_start t_goal t_line k_54 k_46 F) k_54 k_46) else (some (v1)))) else (some (v1)))) else (some (v1)))) else (m_X11_unsound_48 t_knots t_lines t_isRim t_isGone t_start t_goal t_line v1 (m_X11_unsound_2 t_knots t_lines t_isRim t_isGone t_start t_goal t_line k_54 k_46 F) k_54 k_46)))

set_option maxRecDepth 10000 in
set_option maxHeartbeats 8000000 in
theorem g_X11_unsound_2 {l : Launch} {E : EE} {b0 n : Nat} {h : AH} {a_t : Nat} {t_thrown t_taped t_p t_fault t_baseLow t_baseHigh t_newBaseLow t_newBaseHigh t_from t_knots t_lines t_chosen t_undos t_redos t_aimedMany t_fits t_fitOf t_sights t_systems t_own t_cross t_curveLong t_wallFirst : Int} {t_isRim t_isGone t_start t_goal t_line : Nat → Int} {r : Int} {k_54 : Int → Option (Int)} {k_46 : Int → Option (Int)} (ao : AO b0 n [a_t, (a_t + 14), (a_t + 15), (a_t + 16), (a_t + 17), (a_t + 18)]) (ok_t_knots : inI t_knots) (ok_t_lines : inI t_lines) (ok_t_isRim : okZ t_isRim) (ok_t_isGone : okZ t_isGone) (ok_t_start : okA t_start) (ok_t_goal : okA t_goal) (ok_t_line : okA t_line) (hk_54 : ∀ (v1_ : Int), inI v1_ → k_54 v1_ = some r → G l E b0 M_X11_unsound (fun _ => True) (ZM E b0 (some (vI r)) (ov [a_t, (a_t + 14), (a_t + 15), (a_t + 16), (a_t + 17), (a_t + 18)] [.inr (11, fsX11 a_t t_thrown t_taped t_p t_fault t_baseLow t_baseHigh t_newBaseLow t_newBaseHigh t_from t_knots t_lines t_chosen t_undos t_redos t_aimedMany t_fits t_fitOf t_sights t_systems t_own t_cross t_curveLong t_wallFirst), ZA E 60 t_isRim, ZA E 120 t_isGone, IA E 120 t_start, IA E 120 t_goal, IA E 360 t_line] h) n (inI r) 0 0) 0 0 n (ov [a_t, (a_t + 14), (a_t + 15), (a_t + 16), (a_t + 17), (a_t + 18)] [.inr (11, fsX11 a_t t_thrown t_taped t_p t_fault t_baseLow t_baseHigh t_newBaseLow t_newBaseHigh t_from t_knots t_lines t_chosen t_undos t_redos t_aimedMany t_fits t_fitOf t_sights t_systems t_own t_cross t_curveLong t_wallFirst), ZA E 60 t_isRim, ZA E 120 t_isGone, IA E 120 t_start, IA E 120 t_goal, IA E 360 t_line] h) 54 [none, none] []) (hk_46 : ∀ (v1_ : Int), inI v1_ → k_46 v1_ = some r → G l E b0 M_X11_unsound (fun _ => True) (ZM E b0 (some (vI r)) (ov [a_t, (a_t + 14), (a_t + 15), (a_t + 16), (a_t + 17), (a_t + 18)] [.inr (11, fsX11 a_t t_thrown t_taped t_p t_fault t_baseLow t_baseHigh t_newBaseLow t_newBaseHigh t_from t_knots t_lines t_chosen t_undos t_redos t_aimedMany t_fits t_fitOf t_sights t_systems t_own t_cross t_curveLong t_wallFirst), ZA E 60 t_isRim, ZA E 120 t_isGone, IA E 120 t_start, IA E 120 t_goal, IA E 360 t_line] h) n (inI r) 0 0) 0 0 n (ov [a_t, (a_t + 14), (a_t + 15), (a_t + 16), (a_t + 17), (a_t + 18)] [.inr (11, fsX11 a_t t_thrown t_taped t_p t_fault t_baseLow t_baseHigh t_newBaseLow t_newBaseHigh t_from t_knots t_lines t_chosen t_undos t_redos t_aimedMany t_fits t_fitOf t_sights t_systems t_own t_cross t_curveLong t_wallFirst), ZA E 60 t_isRim, ZA E 120 t_isGone, IA E 120 t_start, IA E 120 t_goal, IA E 360 t_line] h) 46 [none, some (vI v1_)] []) :
    ∀ (F : Nat) (v1 : Int), inI v1 → m_X11_unsound_2 t_knots t_lines t_isRim t_isGone t_start t_goal t_line k_54 k_46 F v1 = some r → G l E b0 M_X11_unsound (fun _ => True) (ZM E b0 (some (vI r)) (ov [a_t, (a_t + 14), (a_t + 15), (a_t + 16), (a_t + 17), (a_t + 18)] [.inr (11, fsX11 a_t t_thrown t_taped t_p t_fault t_baseLow t_baseHigh t_newBaseLow t_newBaseHigh t_from t_knots t_lines t_chosen t_undos t_redos t_aimedMany t_fits t_fitOf t_sights t_systems t_own t_cross t_curveLong t_wallFirst), ZA E 60 t_isRim, ZA E 120 t_isGone, IA E 120 t_start, IA E 120 t_goal, IA E 360 t_line] h) n (inI r) 0 0) 0 0 n (ov [a_t, (a_t + 14), (a_t + 15), (a_t + 16), (a_t + 17), (a_t + 18)] [.inr (11, fsX11 a_t t_thrown t_taped t_p t_fault t_baseLow t_baseHigh t_newBaseLow t_newBaseHigh t_from t_knots t_lines t_chosen t_undos t_redos t_aimedMany t_fits t_fitOf t_sights t_systems t_own t_cross t_curveLong t_wallFirst), ZA E 60 t_isRim, ZA E 120 t_isGone, IA E 120 t_start, IA E 120 t_goal, IA E 360 t_line] h) 2 [some (.ref a_t), some (vI v1)] [] := by
  intro F
  induction F with
  | zero =>
    intro v1 ok_v1 hs
    rw [m_X11_unsound_2] at hs
    cases hs
  | succ F ih =>
    intro v1 ok_v1 hs
    rw [m_X11_unsound_2] at hs
    refine g_iload_n e_X11_unsound_2 rfl ?_
    refine g_aload_n e_X11_unsound_3 rfl ?_
    refine g_get 0 22 ao rfl rfl fsX11_g22 fl_X11_268 e_X11_unsound_4 ?_
    refine g_icmp_ge e_X11_unsound_7 ok_v1 ok_t_knots hs (fun c7 hs => ?_) (fun c7 hs => ?_)
    · refine g_iconst e_X11_unsound_54 ?_
      obtain rfl := Option.some.inj hs
      exact g_iret rfl (by decide : inI (-1)) e_X11_unsound_55
    · refine g_aload_n e_X11_unsound_10 rfl ?_
      refine g_get 0 24 ao rfl rfl fsX11_g24 fl_X11_50 e_X11_unsound_11 ?_
      refine g_iload_n e_X11_unsound_14 rfl ?_
      refine g_zald 1 ao rfl rfl (Nat.le_of_ble_eq_true rfl) e_X11_unsound_15 hs (fun hi1 hs => ?_)
      refine g_if_ne e_X11_unsound_16 (inZ_I (ok_t_isRim _)) hs (fun c16 hs => ?_) (fun c16 hs => ?_)
      · refine g_aload_n e_X11_unsound_19 rfl ?_
        refine g_iload_n e_X11_unsound_20 rfl ?_
        refine g_iconst e_X11_unsound_21 ?_
        obtain ⟨y2, hy2, hs⟩ := bind_elim hs
        refine g_callVr [vI v1, vI 0] cv_X11_291 ⟨rfl, rfl, Nat.le_of_ble_eq_true rfl, Nat.le_of_ble_eq_true rfl⟩ (ct_X11_sumAt (a_t := a_t) (AO_call [0, 2, 3, 4, 5] ao (by decide) rfl) (FA_call [0, 2, 3, 4, 5] ao.1 rfl rfl) ok_t_lines ok_t_isGone ok_t_start ok_t_goal ok_t_line ok_v1 (by decide : inI 0) hy2) e_X11_unsound_22 (ao.2 0 _ rfl) (ov_get 0 ao.1 rfl rfl) rfl rfl rfl (Nat.le_of_ble_eq_true rfl) ⟨Nat.le_refl _, Nat.le_refl _⟩ (fun Py2 => ?_)
        refine g_if_ne e_X11_unsound_25 Py2 hs (fun c25 hs => ?_) (fun c25 hs => ?_)
        · refine g_aload_n e_X11_unsound_28 rfl ?_
          refine g_iload_n e_X11_unsound_29 rfl ?_
          refine g_iconst e_X11_unsound_30 ?_
          obtain ⟨y3, hy3, hs⟩ := bind_elim hs
          refine g_callVr [vI v1, vI 1] cv_X11_291 ⟨rfl, rfl, Nat.le_of_ble_eq_true rfl, Nat.le_of_ble_eq_true rfl⟩ (ct_X11_sumAt (a_t := a_t) (AO_call [0, 2, 3, 4, 5] ao (by decide) rfl) (FA_call [0, 2, 3, 4, 5] ao.1 rfl rfl) ok_t_lines ok_t_isGone ok_t_start ok_t_goal ok_t_line ok_v1 (by decide : inI 1) hy3) e_X11_unsound_31 (ao.2 0 _ rfl) (ov_get 0 ao.1 rfl rfl) rfl rfl rfl (Nat.le_of_ble_eq_true rfl) ⟨Nat.le_refl _, Nat.le_refl _⟩ (fun Py3 => ?_)
          refine g_if_ne e_X11_unsound_34 Py3 hs (fun c34 hs => ?_) (fun c34 hs => ?_)
          · refine g_aload_n e_X11_unsound_37 rfl ?_
            refine g_iload_n e_X11_unsound_38 rfl ?_
            refine g_iconst e_X11_unsound_39 ?_
            obtain ⟨y4, hy4, hs⟩ := bind_elim hs
            refine g_callVr [vI v1, vI 2] cv_X11_291 ⟨rfl, rfl, Nat.le_of_ble_eq_true rfl, Nat.le_of_ble_eq_true rfl⟩ (ct_X11_sumAt (a_t := a_t) (AO_call [0, 2, 3, 4, 5] ao (by decide) rfl) (FA_call [0, 2, 3, 4, 5] ao.1 rfl rfl) ok_t_lines ok_t_isGone ok_t_start ok_t_goal ok_t_line ok_v1 (by decide : inI 2) hy4) e_X11_unsound_40 (ao.2 0 _ rfl) (ov_get 0 ao.1 rfl rfl) rfl rfl rfl (Nat.le_of_ble_eq_true rfl) ⟨Nat.le_refl _, Nat.le_refl _⟩ (fun Py4 => ?_)
            refine g_if_eq e_X11_unsound_43 Py4 hs (fun c43 hs => ?_) (fun c43 hs => ?_)
            · exact g_X11_unsound_48 ao ok_t_knots ok_t_lines ok_t_isRim ok_t_isGone ok_t_start ok_t_goal ok_t_line ok_v1 ih hk_54 hk_46 hs
            · refine g_iload_n e_X11_unsound_46 rfl ?_
              obtain rfl := Option.some.inj hs
              exact g_iret rfl ok_v1 e_X11_unsound_47
          · refine g_iload_n e_X11_unsound_46 rfl ?_
            obtain rfl := Option.some.inj hs
            exact g_iret rfl ok_v1 e_X11_unsound_47
        · refine g_iload_n e_X11_unsound_46 rfl ?_
          obtain rfl := Option.some.inj hs
          exact g_iret rfl ok_v1 e_X11_unsound_47
      · exact g_X11_unsound_48 ao ok_t_knots ok_t_lines ok_t_isRim ok_t_isGone ok_t_start ok_t_goal ok_t_line ok_v1 ih hk_54 hk_46 hs

noncomputable def m_X11_unsound_54 : Option (Int) :=
  some ((-1))

set_option maxRecDepth 10000 in
set_option maxHeartbeats 8000000 in
theorem g_X11_unsound_54 {l : Launch} {E : EE} {b0 n : Nat} {h : AH} {a_t : Nat} {t_thrown t_taped t_p t_fault t_baseLow t_baseHigh t_newBaseLow t_newBaseHigh t_from t_knots t_lines t_chosen t_undos t_redos t_aimedMany t_fits t_fitOf t_sights t_systems t_own t_cross t_curveLong t_wallFirst : Int} {t_isRim t_isGone t_start t_goal t_line : Nat → Int} {r : Int} (ao : AO b0 n [a_t, (a_t + 14), (a_t + 15), (a_t + 16), (a_t + 17), (a_t + 18)]) (ok_t_knots : inI t_knots) (ok_t_lines : inI t_lines) (ok_t_isRim : okZ t_isRim) (ok_t_isGone : okZ t_isGone) (ok_t_start : okA t_start) (ok_t_goal : okA t_goal) (ok_t_line : okA t_line) (hs : m_X11_unsound_54 = some r) : G l E b0 M_X11_unsound (fun _ => True) (ZM E b0 (some (vI r)) (ov [a_t, (a_t + 14), (a_t + 15), (a_t + 16), (a_t + 17), (a_t + 18)] [.inr (11, fsX11 a_t t_thrown t_taped t_p t_fault t_baseLow t_baseHigh t_newBaseLow t_newBaseHigh t_from t_knots t_lines t_chosen t_undos t_redos t_aimedMany t_fits t_fitOf t_sights t_systems t_own t_cross t_curveLong t_wallFirst), ZA E 60 t_isRim, ZA E 120 t_isGone, IA E 120 t_start, IA E 120 t_goal, IA E 360 t_line] h) n (inI r) 0 0) 0 0 n (ov [a_t, (a_t + 14), (a_t + 15), (a_t + 16), (a_t + 17), (a_t + 18)] [.inr (11, fsX11 a_t t_thrown t_taped t_p t_fault t_baseLow t_baseHigh t_newBaseLow t_newBaseHigh t_from t_knots t_lines t_chosen t_undos t_redos t_aimedMany t_fits t_fitOf t_sights t_systems t_own t_cross t_curveLong t_wallFirst), ZA E 60 t_isRim, ZA E 120 t_isGone, IA E 120 t_start, IA E 120 t_goal, IA E 360 t_line] h) 54 [none, none] [] := by
  rw [m_X11_unsound_54] at hs
  refine g_iconst e_X11_unsound_54 ?_
  obtain rfl := Option.some.inj hs
  exact g_iret rfl (by decide : inI (-1)) e_X11_unsound_55

noncomputable def m_X11_unsound_46 (v1 : Int) : Option (Int) :=
  some (v1)

set_option maxRecDepth 10000 in
set_option maxHeartbeats 8000000 in
theorem g_X11_unsound_46 {l : Launch} {E : EE} {b0 n : Nat} {h : AH} {a_t : Nat} {t_thrown t_taped t_p t_fault t_baseLow t_baseHigh t_newBaseLow t_newBaseHigh t_from t_knots t_lines t_chosen t_undos t_redos t_aimedMany t_fits t_fitOf t_sights t_systems t_own t_cross t_curveLong t_wallFirst v1 : Int} {t_isRim t_isGone t_start t_goal t_line : Nat → Int} {r : Int} (ao : AO b0 n [a_t, (a_t + 14), (a_t + 15), (a_t + 16), (a_t + 17), (a_t + 18)]) (ok_t_knots : inI t_knots) (ok_t_lines : inI t_lines) (ok_t_isRim : okZ t_isRim) (ok_t_isGone : okZ t_isGone) (ok_t_start : okA t_start) (ok_t_goal : okA t_goal) (ok_t_line : okA t_line) (ok_v1 : inI v1) (hs : m_X11_unsound_46 v1 = some r) : G l E b0 M_X11_unsound (fun _ => True) (ZM E b0 (some (vI r)) (ov [a_t, (a_t + 14), (a_t + 15), (a_t + 16), (a_t + 17), (a_t + 18)] [.inr (11, fsX11 a_t t_thrown t_taped t_p t_fault t_baseLow t_baseHigh t_newBaseLow t_newBaseHigh t_from t_knots t_lines t_chosen t_undos t_redos t_aimedMany t_fits t_fitOf t_sights t_systems t_own t_cross t_curveLong t_wallFirst), ZA E 60 t_isRim, ZA E 120 t_isGone, IA E 120 t_start, IA E 120 t_goal, IA E 360 t_line] h) n (inI r) 0 0) 0 0 n (ov [a_t, (a_t + 14), (a_t + 15), (a_t + 16), (a_t + 17), (a_t + 18)] [.inr (11, fsX11 a_t t_thrown t_taped t_p t_fault t_baseLow t_baseHigh t_newBaseLow t_newBaseHigh t_from t_knots t_lines t_chosen t_undos t_redos t_aimedMany t_fits t_fitOf t_sights t_systems t_own t_cross t_curveLong t_wallFirst), ZA E 60 t_isRim, ZA E 120 t_isGone, IA E 120 t_start, IA E 120 t_goal, IA E 360 t_line] h) 46 [none, some (vI v1)] [] := by
  rw [m_X11_unsound_46] at hs
  refine g_iload_n e_X11_unsound_46 rfl ?_
  obtain rfl := Option.some.inj hs
  exact g_iret rfl ok_v1 e_X11_unsound_47

noncomputable def m_X11_unsound_0 (t_knots : Int) (t_lines : Int) (t_isRim : Nat → Int) (t_isGone : Nat → Int) (t_start : Nat → Int) (t_goal : Nat → Int) (t_line : Nat → Int) : Option (Int) :=
  m_X11_unsound_2 t_knots t_lines t_isRim t_isGone t_start t_goal t_line (fun v1' => m_X11_unsound_54) (fun v1' => m_X11_unsound_46 v1') FU 0

set_option maxRecDepth 10000 in
set_option maxHeartbeats 8000000 in
theorem g_X11_unsound_0 {l : Launch} {E : EE} {b0 n : Nat} {h : AH} {a_t : Nat} {t_thrown t_taped t_p t_fault t_baseLow t_baseHigh t_newBaseLow t_newBaseHigh t_from t_knots t_lines t_chosen t_undos t_redos t_aimedMany t_fits t_fitOf t_sights t_systems t_own t_cross t_curveLong t_wallFirst : Int} {t_isRim t_isGone t_start t_goal t_line : Nat → Int} {r : Int} (ao : AO b0 n [a_t, (a_t + 14), (a_t + 15), (a_t + 16), (a_t + 17), (a_t + 18)]) (ok_t_knots : inI t_knots) (ok_t_lines : inI t_lines) (ok_t_isRim : okZ t_isRim) (ok_t_isGone : okZ t_isGone) (ok_t_start : okA t_start) (ok_t_goal : okA t_goal) (ok_t_line : okA t_line) (hs : m_X11_unsound_0 t_knots t_lines t_isRim t_isGone t_start t_goal t_line = some r) : G l E b0 M_X11_unsound (fun _ => True) (ZM E b0 (some (vI r)) (ov [a_t, (a_t + 14), (a_t + 15), (a_t + 16), (a_t + 17), (a_t + 18)] [.inr (11, fsX11 a_t t_thrown t_taped t_p t_fault t_baseLow t_baseHigh t_newBaseLow t_newBaseHigh t_from t_knots t_lines t_chosen t_undos t_redos t_aimedMany t_fits t_fitOf t_sights t_systems t_own t_cross t_curveLong t_wallFirst), ZA E 60 t_isRim, ZA E 120 t_isGone, IA E 120 t_start, IA E 120 t_goal, IA E 360 t_line] h) n (inI r) 0 0) 0 0 n (ov [a_t, (a_t + 14), (a_t + 15), (a_t + 16), (a_t + 17), (a_t + 18)] [.inr (11, fsX11 a_t t_thrown t_taped t_p t_fault t_baseLow t_baseHigh t_newBaseLow t_newBaseHigh t_from t_knots t_lines t_chosen t_undos t_redos t_aimedMany t_fits t_fitOf t_sights t_systems t_own t_cross t_curveLong t_wallFirst), ZA E 60 t_isRim, ZA E 120 t_isGone, IA E 120 t_start, IA E 120 t_goal, IA E 360 t_line] h) 0 [some (.ref a_t), none] [] := by
  rw [m_X11_unsound_0] at hs
  refine g_iconst e_X11_unsound_0 ?_
  refine g_istore_n e_X11_unsound_1 st1_1 rfl ?_
  exact g_X11_unsound_2 ao ok_t_knots ok_t_lines ok_t_isRim ok_t_isGone ok_t_start ok_t_goal ok_t_line (hk_54 := by
      intro v1' ok_v1' hs
      exact g_X11_unsound_54 ao ok_t_knots ok_t_lines ok_t_isRim ok_t_isGone ok_t_start ok_t_goal ok_t_line hs) (hk_46 := by
      intro v1' ok_v1' hs
      exact g_X11_unsound_46 ao ok_t_knots ok_t_lines ok_t_isRim ok_t_isGone ok_t_start ok_t_goal ok_t_line ok_v1' hs) FU _ (by decide : inI 0) hs

noncomputable def m_X11_unsound (t_knots : Int) (t_lines : Int) (t_isRim : Nat → Int) (t_isGone : Nat → Int) (t_start : Nat → Int) (t_goal : Nat → Int) (t_line : Nat → Int) : Option (Int) := m_X11_unsound_0 t_knots t_lines t_isRim t_isGone t_start t_goal t_line

set_option maxRecDepth 10000 in
set_option maxHeartbeats 8000000 in
theorem ct_X11_unsound {l : Launch} {E : EE} {b0 n : Nat} {h : AH} {a_t : Nat} {t_thrown t_taped t_p t_fault t_baseLow t_baseHigh t_newBaseLow t_newBaseHigh t_from t_knots t_lines t_chosen t_undos t_redos t_aimedMany t_fits t_fitOf t_sights t_systems t_own t_cross t_curveLong t_wallFirst : Int} {t_isRim t_isGone t_start t_goal t_line : Nat → Int} (ao : AO b0 n [a_t, (a_t + 14), (a_t + 15), (a_t + 16), (a_t + 17), (a_t + 18)]) (hf : FA h [a_t, (a_t + 14), (a_t + 15), (a_t + 16), (a_t + 17), (a_t + 18)] [.inr (11, fsX11 a_t t_thrown t_taped t_p t_fault t_baseLow t_baseHigh t_newBaseLow t_newBaseHigh t_from t_knots t_lines t_chosen t_undos t_redos t_aimedMany t_fits t_fitOf t_sights t_systems t_own t_cross t_curveLong t_wallFirst), ZA E 60 t_isRim, ZA E 120 t_isGone, IA E 120 t_start, IA E 120 t_goal, IA E 360 t_line]) (ok_t_knots : inI t_knots) (ok_t_lines : inI t_lines) (ok_t_isRim : okZ t_isRim) (ok_t_isGone : okZ t_isGone) (ok_t_start : okA t_start) (ok_t_goal : okA t_goal) (ok_t_line : okA t_line) {r : Int} (hm : m_X11_unsound t_knots t_lines t_isRim t_isGone t_start t_goal t_line = some r) : Ct l E b0 M_X11_unsound 0 0 [.ref a_t] h n (some (vI r)) h n (inI r) := by
  rw [m_X11_unsound] at hm
  have hg : G l E b0 M_X11_unsound (fun _ => True) (ZM E b0 (some (vI r)) (ov [a_t, (a_t + 14), (a_t + 15), (a_t + 16), (a_t + 17), (a_t + 18)] [.inr (11, fsX11 a_t t_thrown t_taped t_p t_fault t_baseLow t_baseHigh t_newBaseLow t_newBaseHigh t_from t_knots t_lines t_chosen t_undos t_redos t_aimedMany t_fits t_fitOf t_sights t_systems t_own t_cross t_curveLong t_wallFirst), ZA E 60 t_isRim, ZA E 120 t_isGone, IA E 120 t_start, IA E 120 t_goal, IA E 360 t_line] h) n (inI r) 0 0) 0 0 n (ov [a_t, (a_t + 14), (a_t + 15), (a_t + 16), (a_t + 17), (a_t + 18)] [.inr (11, fsX11 a_t t_thrown t_taped t_p t_fault t_baseLow t_baseHigh t_newBaseLow t_newBaseHigh t_from t_knots t_lines t_chosen t_undos t_redos t_aimedMany t_fits t_fitOf t_sights t_systems t_own t_cross t_curveLong t_wallFirst), ZA E 60 t_isRim, ZA E 120 t_isGone, IA E 120 t_start, IA E 120 t_goal, IA E 360 t_line] h) 0 [some (.ref a_t), none] [] := by
    have hs := hm
    exact g_X11_unsound_0 ao ok_t_knots ok_t_lines ok_t_isRim ok_t_isGone ok_t_start ok_t_goal ok_t_line hs
  rw [FA_id hf] at hg
  exact Ct_of [some (.ref a_t), none] ⟨by decide +kernel, rfl⟩ rfl (Nat.le_of_ble_eq_true rfl) hg

/-! ===== X11_meet ===== -/
theorem e_X11_meet_0 : DC cX11_meet 0 (.aload_n 0) 1 1 := ⟨by decide +kernel, rfl⟩
theorem e_X11_meet_1 : DC cX11_meet 1 (.iload_n 1) 1 2 := ⟨by decide +kernel, rfl⟩
theorem e_X11_meet_2 : DC cX11_meet 2 (.invokevirtual 285) 3 5 := ⟨by decide +kernel, rfl⟩
theorem e_X11_meet_5 : DB cX11_meet 5 (.ifCond .eq 16) (16) 3 8 21 := ⟨by decide +kernel, rfl, rfl⟩
theorem e_X11_meet_8 : DC cX11_meet 8 (.aload_n 0) 1 9 := ⟨by decide +kernel, rfl⟩
theorem e_X11_meet_9 : DC cX11_meet 9 (.iload_n 2) 1 10 := ⟨by decide +kernel, rfl⟩
theorem e_X11_meet_10 : DC cX11_meet 10 (.invokevirtual 285) 3 13 := ⟨by decide +kernel, rfl⟩
theorem e_X11_meet_13 : DB cX11_meet 13 (.ifCond .eq 8) (8) 3 16 21 := ⟨by decide +kernel, rfl, rfl⟩
theorem e_X11_meet_16 : DC cX11_meet 16 (.iload_n 1) 1 17 := ⟨by decide +kernel, rfl⟩
theorem e_X11_meet_17 : DC cX11_meet 17 (.iload_n 2) 1 18 := ⟨by decide +kernel, rfl⟩
theorem e_X11_meet_18 : DB cX11_meet 18 (.if_icmp .ne 5) (5) 3 21 23 := ⟨by decide +kernel, rfl, rfl⟩
theorem e_X11_meet_21 : DC cX11_meet 21 (.iconst (-1)) 1 22 := ⟨by decide +kernel, rfl⟩
theorem e_X11_meet_22 : DC cX11_meet 22 (.ireturn) 1 23 := ⟨by decide +kernel, rfl⟩
theorem e_X11_meet_23 : DC cX11_meet 23 (.aload_n 0) 1 24 := ⟨by decide +kernel, rfl⟩
theorem e_X11_meet_24 : DC cX11_meet 24 (.getfield 57) 3 27 := ⟨by decide +kernel, rfl⟩
theorem e_X11_meet_27 : DC cX11_meet 27 (.iload_n 1) 1 28 := ⟨by decide +kernel, rfl⟩
theorem e_X11_meet_28 : DC cX11_meet 28 (.iaload) 1 29 := ⟨by decide +kernel, rfl⟩
theorem e_X11_meet_29 : DC cX11_meet 29 (.aload_n 0) 1 30 := ⟨by decide +kernel, rfl⟩
theorem e_X11_meet_30 : DC cX11_meet 30 (.getfield 57) 3 33 := ⟨by decide +kernel, rfl⟩
theorem e_X11_meet_33 : DC cX11_meet 33 (.iload_n 2) 1 34 := ⟨by decide +kernel, rfl⟩
theorem e_X11_meet_34 : DC cX11_meet 34 (.iaload) 1 35 := ⟨by decide +kernel, rfl⟩
theorem e_X11_meet_35 : DB cX11_meet 35 (.if_icmp .ne 22) (22) 3 38 57 := ⟨by decide +kernel, rfl, rfl⟩
theorem e_X11_meet_38 : DC cX11_meet 38 (.aload_n 0) 1 39 := ⟨by decide +kernel, rfl⟩
theorem e_X11_meet_39 : DC cX11_meet 39 (.getfield 60) 3 42 := ⟨by decide +kernel, rfl⟩
theorem e_X11_meet_42 : DC cX11_meet 42 (.iload_n 1) 1 43 := ⟨by decide +kernel, rfl⟩
theorem e_X11_meet_43 : DC cX11_meet 43 (.iaload) 1 44 := ⟨by decide +kernel, rfl⟩
theorem e_X11_meet_44 : DC cX11_meet 44 (.aload_n 0) 1 45 := ⟨by decide +kernel, rfl⟩
theorem e_X11_meet_45 : DC cX11_meet 45 (.getfield 60) 3 48 := ⟨by decide +kernel, rfl⟩
theorem e_X11_meet_48 : DC cX11_meet 48 (.iload_n 2) 1 49 := ⟨by decide +kernel, rfl⟩
theorem e_X11_meet_49 : DC cX11_meet 49 (.iaload) 1 50 := ⟨by decide +kernel, rfl⟩
theorem e_X11_meet_50 : DB cX11_meet 50 (.if_icmp .ne 7) (7) 3 53 57 := ⟨by decide +kernel, rfl, rfl⟩
theorem e_X11_meet_53 : DC cX11_meet 53 (.iconst 1) 1 54 := ⟨by decide +kernel, rfl⟩
theorem e_X11_meet_54 : DB cX11_meet 54 (.goto 4) (4) 3 57 58 := ⟨by decide +kernel, rfl, rfl⟩
theorem e_X11_meet_57 : DC cX11_meet 57 (.iconst 0) 1 58 := ⟨by decide +kernel, rfl⟩
theorem e_X11_meet_58 : DC cX11_meet 58 (.istore_n 3) 1 59 := ⟨by decide +kernel, rfl⟩
theorem e_X11_meet_59 : DC cX11_meet 59 (.iload_n 3) 1 60 := ⟨by decide +kernel, rfl⟩
theorem e_X11_meet_60 : DB cX11_meet 60 (.ifCond .ne 35) (35) 3 63 95 := ⟨by decide +kernel, rfl, rfl⟩
theorem e_X11_meet_63 : DC cX11_meet 63 (.aload_n 0) 1 64 := ⟨by decide +kernel, rfl⟩
theorem e_X11_meet_64 : DC cX11_meet 64 (.getfield 57) 3 67 := ⟨by decide +kernel, rfl⟩
theorem e_X11_meet_67 : DC cX11_meet 67 (.iload_n 1) 1 68 := ⟨by decide +kernel, rfl⟩
theorem e_X11_meet_68 : DC cX11_meet 68 (.iaload) 1 69 := ⟨by decide +kernel, rfl⟩
theorem e_X11_meet_69 : DC cX11_meet 69 (.aload_n 0) 1 70 := ⟨by decide +kernel, rfl⟩
theorem e_X11_meet_70 : DC cX11_meet 70 (.getfield 60) 3 73 := ⟨by decide +kernel, rfl⟩
theorem e_X11_meet_73 : DC cX11_meet 73 (.iload_n 2) 1 74 := ⟨by decide +kernel, rfl⟩
theorem e_X11_meet_74 : DC cX11_meet 74 (.iaload) 1 75 := ⟨by decide +kernel, rfl⟩
theorem e_X11_meet_75 : DB cX11_meet 75 (.if_icmp .ne 18) (18) 3 78 93 := ⟨by decide +kernel, rfl, rfl⟩
theorem e_X11_meet_78 : DC cX11_meet 78 (.aload_n 0) 1 79 := ⟨by decide +kernel, rfl⟩
theorem e_X11_meet_79 : DC cX11_meet 79 (.getfield 60) 3 82 := ⟨by decide +kernel, rfl⟩
theorem e_X11_meet_82 : DC cX11_meet 82 (.iload_n 1) 1 83 := ⟨by decide +kernel, rfl⟩
theorem e_X11_meet_83 : DC cX11_meet 83 (.iaload) 1 84 := ⟨by decide +kernel, rfl⟩
theorem e_X11_meet_84 : DC cX11_meet 84 (.aload_n 0) 1 85 := ⟨by decide +kernel, rfl⟩
theorem e_X11_meet_85 : DC cX11_meet 85 (.getfield 57) 3 88 := ⟨by decide +kernel, rfl⟩
theorem e_X11_meet_88 : DC cX11_meet 88 (.iload_n 2) 1 89 := ⟨by decide +kernel, rfl⟩
theorem e_X11_meet_89 : DC cX11_meet 89 (.iaload) 1 90 := ⟨by decide +kernel, rfl⟩
theorem e_X11_meet_90 : DB cX11_meet 90 (.if_icmp .eq 5) (5) 3 93 95 := ⟨by decide +kernel, rfl, rfl⟩
theorem e_X11_meet_93 : DC cX11_meet 93 (.iconst (-1)) 1 94 := ⟨by decide +kernel, rfl⟩
theorem e_X11_meet_94 : DC cX11_meet 94 (.ireturn) 1 95 := ⟨by decide +kernel, rfl⟩
theorem e_X11_meet_95 : DC cX11_meet 95 (.iconst 1) 1 96 := ⟨by decide +kernel, rfl⟩
theorem e_X11_meet_96 : DC cX11_meet 96 (.istore 4) 2 98 := ⟨by decide +kernel, rfl⟩
theorem e_X11_meet_98 : DC cX11_meet 98 (.iconst 0) 1 99 := ⟨by decide +kernel, rfl⟩
theorem e_X11_meet_99 : DC cX11_meet 99 (.istore 5) 2 101 := ⟨by decide +kernel, rfl⟩
theorem e_X11_meet_101 : DC cX11_meet 101 (.iload 5) 2 103 := ⟨by decide +kernel, rfl⟩
theorem e_X11_meet_103 : DC cX11_meet 103 (.iconst 3) 1 104 := ⟨by decide +kernel, rfl⟩
theorem e_X11_meet_104 : DB cX11_meet 104 (.if_icmp .ge 87) (87) 3 107 191 := ⟨by decide +kernel, rfl, rfl⟩
theorem e_X11_meet_107 : DC cX11_meet 107 (.aload_n 0) 1 108 := ⟨by decide +kernel, rfl⟩
theorem e_X11_meet_108 : DC cX11_meet 108 (.getfield 66) 3 111 := ⟨by decide +kernel, rfl⟩
theorem e_X11_meet_111 : DC cX11_meet 111 (.iload 5) 2 113 := ⟨by decide +kernel, rfl⟩
theorem e_X11_meet_113 : DC cX11_meet 113 (.aload_n 0) 1 114 := ⟨by decide +kernel, rfl⟩
theorem e_X11_meet_114 : DC cX11_meet 114 (.getfield 63) 3 117 := ⟨by decide +kernel, rfl⟩
theorem e_X11_meet_117 : DC cX11_meet 117 (.iconst 3) 1 118 := ⟨by decide +kernel, rfl⟩
theorem e_X11_meet_118 : DC cX11_meet 118 (.iload_n 1) 1 119 := ⟨by decide +kernel, rfl⟩
theorem e_X11_meet_119 : DC cX11_meet 119 (.imul) 1 120 := ⟨by decide +kernel, rfl⟩
theorem e_X11_meet_120 : DC cX11_meet 120 (.iload 5) 2 122 := ⟨by decide +kernel, rfl⟩
theorem e_X11_meet_122 : DC cX11_meet 122 (.iadd) 1 123 := ⟨by decide +kernel, rfl⟩
theorem e_X11_meet_123 : DC cX11_meet 123 (.iaload) 1 124 := ⟨by decide +kernel, rfl⟩
theorem e_X11_meet_124 : DC cX11_meet 124 (.iload_n 3) 1 125 := ⟨by decide +kernel, rfl⟩
theorem e_X11_meet_125 : DB cX11_meet 125 (.ifCond .eq 17) (17) 3 128 142 := ⟨by decide +kernel, rfl, rfl⟩
theorem e_X11_meet_128 : DC cX11_meet 128 (.aload_n 0) 1 129 := ⟨by decide +kernel, rfl⟩
theorem e_X11_meet_129 : DC cX11_meet 129 (.getfield 63) 3 132 := ⟨by decide +kernel, rfl⟩
theorem e_X11_meet_132 : DC cX11_meet 132 (.iconst 3) 1 133 := ⟨by decide +kernel, rfl⟩
theorem e_X11_meet_133 : DC cX11_meet 133 (.iload_n 2) 1 134 := ⟨by decide +kernel, rfl⟩
theorem e_X11_meet_134 : DC cX11_meet 134 (.imul) 1 135 := ⟨by decide +kernel, rfl⟩
theorem e_X11_meet_135 : DC cX11_meet 135 (.iload 5) 2 137 := ⟨by decide +kernel, rfl⟩
theorem e_X11_meet_137 : DC cX11_meet 137 (.iadd) 1 138 := ⟨by decide +kernel, rfl⟩
theorem e_X11_meet_138 : DC cX11_meet 138 (.iaload) 1 139 := ⟨by decide +kernel, rfl⟩
theorem e_X11_meet_139 : DB cX11_meet 139 (.goto 15) (15) 3 142 154 := ⟨by decide +kernel, rfl, rfl⟩
theorem e_X11_meet_142 : DC cX11_meet 142 (.aload_n 0) 1 143 := ⟨by decide +kernel, rfl⟩
theorem e_X11_meet_143 : DC cX11_meet 143 (.getfield 63) 3 146 := ⟨by decide +kernel, rfl⟩
theorem e_X11_meet_146 : DC cX11_meet 146 (.iconst 3) 1 147 := ⟨by decide +kernel, rfl⟩
theorem e_X11_meet_147 : DC cX11_meet 147 (.iload_n 2) 1 148 := ⟨by decide +kernel, rfl⟩
theorem e_X11_meet_148 : DC cX11_meet 148 (.imul) 1 149 := ⟨by decide +kernel, rfl⟩
theorem e_X11_meet_149 : DC cX11_meet 149 (.iload 5) 2 151 := ⟨by decide +kernel, rfl⟩
theorem e_X11_meet_151 : DC cX11_meet 151 (.iadd) 1 152 := ⟨by decide +kernel, rfl⟩
theorem e_X11_meet_152 : DC cX11_meet 152 (.iaload) 1 153 := ⟨by decide +kernel, rfl⟩
theorem e_X11_meet_153 : DC cX11_meet 153 (.ineg) 1 154 := ⟨by decide +kernel, rfl⟩
theorem e_X11_meet_154 : DC cX11_meet 154 (.iadd) 1 155 := ⟨by decide +kernel, rfl⟩
theorem e_X11_meet_155 : DC cX11_meet 155 (.iastore) 1 156 := ⟨by decide +kernel, rfl⟩
theorem e_X11_meet_156 : DC cX11_meet 156 (.iload 4) 2 158 := ⟨by decide +kernel, rfl⟩
theorem e_X11_meet_158 : DB cX11_meet 158 (.ifCond .eq 24) (24) 3 161 182 := ⟨by decide +kernel, rfl, rfl⟩
theorem e_X11_meet_161 : DC cX11_meet 161 (.aload_n 0) 1 162 := ⟨by decide +kernel, rfl⟩
theorem e_X11_meet_162 : DC cX11_meet 162 (.getfield 66) 3 165 := ⟨by decide +kernel, rfl⟩
theorem e_X11_meet_165 : DC cX11_meet 165 (.iload 5) 2 167 := ⟨by decide +kernel, rfl⟩
theorem e_X11_meet_167 : DC cX11_meet 167 (.iaload) 1 168 := ⟨by decide +kernel, rfl⟩
theorem e_X11_meet_168 : DC cX11_meet 168 (.bipush (-99)) 2 170 := ⟨by decide +kernel, rfl⟩
theorem e_X11_meet_170 : DC cX11_meet 170 (.bipush 99) 2 172 := ⟨by decide +kernel, rfl⟩
theorem e_X11_meet_172 : DC cX11_meet 172 (.invokestatic 226) 3 175 := ⟨by decide +kernel, rfl⟩
theorem e_X11_meet_175 : DB cX11_meet 175 (.ifCond .eq 7) (7) 3 178 182 := ⟨by decide +kernel, rfl, rfl⟩
theorem e_X11_meet_178 : DC cX11_meet 178 (.iconst 1) 1 179 := ⟨by decide +kernel, rfl⟩
theorem e_X11_meet_179 : DB cX11_meet 179 (.goto 4) (4) 3 182 183 := ⟨by decide +kernel, rfl, rfl⟩
theorem e_X11_meet_182 : DC cX11_meet 182 (.iconst 0) 1 183 := ⟨by decide +kernel, rfl⟩
theorem e_X11_meet_183 : DC cX11_meet 183 (.istore 4) 2 185 := ⟨by decide +kernel, rfl⟩
theorem e_X11_meet_185 : DC cX11_meet 185 (.iinc 5 1) 3 188 := ⟨by decide +kernel, rfl⟩
theorem e_X11_meet_188 : DB cX11_meet 188 (.goto (-87)) (-87) 3 191 101 := ⟨by decide +kernel, rfl, rfl⟩
theorem e_X11_meet_191 : DC cX11_meet 191 (.iload 4) 2 193 := ⟨by decide +kernel, rfl⟩
theorem e_X11_meet_193 : DB cX11_meet 193 (.ifCond .ne 6) (6) 3 196 199 := ⟨by decide +kernel, rfl, rfl⟩
theorem e_X11_meet_196 : DC cX11_meet 196 (.bipush (-2)) 2 198 := ⟨by decide +kernel, rfl⟩
theorem e_X11_meet_198 : DC cX11_meet 198 (.ireturn) 1 199 := ⟨by decide +kernel, rfl⟩
theorem e_X11_meet_199 : DC cX11_meet 199 (.aload_n 0) 1 200 := ⟨by decide +kernel, rfl⟩
theorem e_X11_meet_200 : DC cX11_meet 200 (.getfield 66) 3 203 := ⟨by decide +kernel, rfl⟩
theorem e_X11_meet_203 : DC cX11_meet 203 (.iconst 0) 1 204 := ⟨by decide +kernel, rfl⟩
theorem e_X11_meet_204 : DC cX11_meet 204 (.iaload) 1 205 := ⟨by decide +kernel, rfl⟩
theorem e_X11_meet_205 : DC cX11_meet 205 (.aload_n 0) 1 206 := ⟨by decide +kernel, rfl⟩
theorem e_X11_meet_206 : DC cX11_meet 206 (.getfield 66) 3 209 := ⟨by decide +kernel, rfl⟩
theorem e_X11_meet_209 : DC cX11_meet 209 (.iconst 1) 1 210 := ⟨by decide +kernel, rfl⟩
theorem e_X11_meet_210 : DC cX11_meet 210 (.iaload) 1 211 := ⟨by decide +kernel, rfl⟩
theorem e_X11_meet_211 : DC cX11_meet 211 (.aload_n 0) 1 212 := ⟨by decide +kernel, rfl⟩
theorem e_X11_meet_212 : DC cX11_meet 212 (.getfield 66) 3 215 := ⟨by decide +kernel, rfl⟩
theorem e_X11_meet_215 : DC cX11_meet 215 (.iconst 2) 1 216 := ⟨by decide +kernel, rfl⟩
theorem e_X11_meet_216 : DC cX11_meet 216 (.iaload) 1 217 := ⟨by decide +kernel, rfl⟩
theorem e_X11_meet_217 : DC cX11_meet 217 (.invokestatic 281) 3 220 := ⟨by decide +kernel, rfl⟩
theorem e_X11_meet_220 : DC cX11_meet 220 (.istore 5) 2 222 := ⟨by decide +kernel, rfl⟩
theorem e_X11_meet_222 : DC cX11_meet 222 (.iload 5) 2 224 := ⟨by decide +kernel, rfl⟩
theorem e_X11_meet_224 : DC cX11_meet 224 (.aload_n 0) 1 225 := ⟨by decide +kernel, rfl⟩
theorem e_X11_meet_225 : DC cX11_meet 225 (.iload_n 1) 1 226 := ⟨by decide +kernel, rfl⟩
theorem e_X11_meet_226 : DC cX11_meet 226 (.invokevirtual 288) 3 229 := ⟨by decide +kernel, rfl⟩
theorem e_X11_meet_229 : DC cX11_meet 229 (.aload_n 0) 1 230 := ⟨by decide +kernel, rfl⟩
theorem e_X11_meet_230 : DC cX11_meet 230 (.iload_n 2) 1 231 := ⟨by decide +kernel, rfl⟩
theorem e_X11_meet_231 : DC cX11_meet 231 (.invokevirtual 288) 3 234 := ⟨by decide +kernel, rfl⟩
theorem e_X11_meet_234 : DC cX11_meet 234 (.iadd) 1 235 := ⟨by decide +kernel, rfl⟩
theorem e_X11_meet_235 : DB cX11_meet 235 (.if_icmp .lt 5) (5) 3 238 240 := ⟨by decide +kernel, rfl, rfl⟩
theorem e_X11_meet_238 : DC cX11_meet 238 (.iconst 0) 1 239 := ⟨by decide +kernel, rfl⟩
theorem e_X11_meet_239 : DC cX11_meet 239 (.ireturn) 1 240 := ⟨by decide +kernel, rfl⟩
theorem e_X11_meet_240 : DC cX11_meet 240 (.iconst 0) 1 241 := ⟨by decide +kernel, rfl⟩
theorem e_X11_meet_241 : DC cX11_meet 241 (.istore 6) 2 243 := ⟨by decide +kernel, rfl⟩
theorem e_X11_meet_243 : DC cX11_meet 243 (.iload 6) 2 245 := ⟨by decide +kernel, rfl⟩
theorem e_X11_meet_245 : DC cX11_meet 245 (.iconst 3) 1 246 := ⟨by decide +kernel, rfl⟩
theorem e_X11_meet_246 : DB cX11_meet 246 (.if_icmp .ge 27) (27) 3 249 273 := ⟨by decide +kernel, rfl, rfl⟩
theorem e_X11_meet_249 : DC cX11_meet 249 (.aload_n 0) 1 250 := ⟨by decide +kernel, rfl⟩
theorem e_X11_meet_250 : DC cX11_meet 250 (.getfield 63) 3 253 := ⟨by decide +kernel, rfl⟩
theorem e_X11_meet_253 : DC cX11_meet 253 (.iconst 3) 1 254 := ⟨by decide +kernel, rfl⟩
theorem e_X11_meet_254 : DC cX11_meet 254 (.iload_n 1) 1 255 := ⟨by decide +kernel, rfl⟩
theorem e_X11_meet_255 : DC cX11_meet 255 (.imul) 1 256 := ⟨by decide +kernel, rfl⟩
theorem e_X11_meet_256 : DC cX11_meet 256 (.iload 6) 2 258 := ⟨by decide +kernel, rfl⟩
theorem e_X11_meet_258 : DC cX11_meet 258 (.iadd) 1 259 := ⟨by decide +kernel, rfl⟩
theorem e_X11_meet_259 : DC cX11_meet 259 (.aload_n 0) 1 260 := ⟨by decide +kernel, rfl⟩
theorem e_X11_meet_260 : DC cX11_meet 260 (.getfield 66) 3 263 := ⟨by decide +kernel, rfl⟩
theorem e_X11_meet_263 : DC cX11_meet 263 (.iload 6) 2 265 := ⟨by decide +kernel, rfl⟩
theorem e_X11_meet_265 : DC cX11_meet 265 (.iaload) 1 266 := ⟨by decide +kernel, rfl⟩
theorem e_X11_meet_266 : DC cX11_meet 266 (.iastore) 1 267 := ⟨by decide +kernel, rfl⟩
theorem e_X11_meet_267 : DC cX11_meet 267 (.iinc 6 1) 3 270 := ⟨by decide +kernel, rfl⟩
theorem e_X11_meet_270 : DB cX11_meet 270 (.goto (-27)) (-27) 3 273 243 := ⟨by decide +kernel, rfl, rfl⟩
theorem e_X11_meet_273 : DC cX11_meet 273 (.aload_n 0) 1 274 := ⟨by decide +kernel, rfl⟩
theorem e_X11_meet_274 : DC cX11_meet 274 (.getfield 54) 3 277 := ⟨by decide +kernel, rfl⟩
theorem e_X11_meet_277 : DC cX11_meet 277 (.iload_n 2) 1 278 := ⟨by decide +kernel, rfl⟩
theorem e_X11_meet_278 : DC cX11_meet 278 (.iconst 1) 1 279 := ⟨by decide +kernel, rfl⟩
theorem e_X11_meet_279 : DC cX11_meet 279 (.bastore) 1 280 := ⟨by decide +kernel, rfl⟩
theorem e_X11_meet_280 : DC cX11_meet 280 (.aload_n 0) 1 281 := ⟨by decide +kernel, rfl⟩
theorem e_X11_meet_281 : DC cX11_meet 281 (.getfield 54) 3 284 := ⟨by decide +kernel, rfl⟩
theorem e_X11_meet_284 : DC cX11_meet 284 (.iload_n 1) 1 285 := ⟨by decide +kernel, rfl⟩
theorem e_X11_meet_285 : DC cX11_meet 285 (.iload 5) 2 287 := ⟨by decide +kernel, rfl⟩
theorem e_X11_meet_287 : DB cX11_meet 287 (.ifCond .ne 7) (7) 3 290 294 := ⟨by decide +kernel, rfl, rfl⟩
theorem e_X11_meet_290 : DC cX11_meet 290 (.iconst 1) 1 291 := ⟨by decide +kernel, rfl⟩
theorem e_X11_meet_291 : DB cX11_meet 291 (.goto 4) (4) 3 294 295 := ⟨by decide +kernel, rfl, rfl⟩
theorem e_X11_meet_294 : DC cX11_meet 294 (.iconst 0) 1 295 := ⟨by decide +kernel, rfl⟩
theorem e_X11_meet_295 : DC cX11_meet 295 (.bastore) 1 296 := ⟨by decide +kernel, rfl⟩
theorem e_X11_meet_296 : DC cX11_meet 296 (.iconst 1) 1 297 := ⟨by decide +kernel, rfl⟩
theorem e_X11_meet_297 : DC cX11_meet 297 (.ireturn) 1 298 := ⟨by decide +kernel, rfl⟩
noncomputable def m_X11_meet_183 (t_line : Nat → Int) (t_sum3 : Nat → Int) (v1 : Int) (v2 : Int) (v3 : Int) (v5 : Int) (s0 : Int) (ag : (Nat → Int) → Int → Int → Option (Int × (Nat → Int) × (Nat → Int) × (Nat → Int))) (k_191 : (Nat → Int) → Int → Int → Option (Int × (Nat → Int) × (Nat → Int) × (Nat → Int))) : Option (Int × (Nat → Int) × (Nat → Int) × (Nat → Int)) :=
  chk (inI (v5 + 1)) (ag t_sum3 s0 (v5 + 1))

set_option maxRecDepth 10000 in
set_option maxHeartbeats 8000000 in
theorem g_X11_meet_183 {l : Launch} {E : EE} {b0 n : Nat} {h : AH} {a_t : Nat} {t_thrown t_taped t_p t_fault t_baseLow t_baseHigh t_newBaseLow t_newBaseHigh t_from t_knots t_lines t_chosen t_undos t_redos t_aimedMany t_fits t_fitOf t_sights t_systems t_own t_cross t_curveLong t_wallFirst v1 v2 v3 v5 s0 : Int} {t_isGone t_start t_goal t_line t_sum3 : Nat → Int} {r : Int × (Nat → Int) × (Nat → Int) × (Nat → Int)} {ag : (Nat → Int) → Int → Int → Option (Int × (Nat → Int) × (Nat → Int) × (Nat → Int))} {k_191 : (Nat → Int) → Int → Int → Option (Int × (Nat → Int) × (Nat → Int) × (Nat → Int))} (ao : AO b0 n [a_t, (a_t + 15), (a_t + 16), (a_t + 17), (a_t + 18), (a_t + 19)]) (ok_t_lines : inI t_lines) (ok_t_isGone : okZ t_isGone) (ok_t_start : okA t_start) (ok_t_goal : okA t_goal) (ok_t_line : okA t_line) (ok_t_sum3 : okA t_sum3) (ok_v1 : inI v1) (ok_v2 : inI v2) (ok_v3 : inZ v3) (ok_v5 : inI v5) (ok_s0 : inZ s0) (hag : ∀ (t_sum3_ : Nat → Int) (v4_ : Int) (v5_ : Int), okA t_sum3_ → inZ v4_ → inI v5_ → ag t_sum3_ v4_ v5_ = some r → G l E b0 M_X11_meet (fun _ => True) (ZM E b0 (some (vI r.1)) (ov [a_t, (a_t + 15), (a_t + 16), (a_t + 17), (a_t + 18), (a_t + 19)] [.inr (11, fsX11 a_t t_thrown t_taped t_p t_fault t_baseLow t_baseHigh t_newBaseLow t_newBaseHigh t_from t_knots t_lines t_chosen t_undos t_redos t_aimedMany t_fits t_fitOf t_sights t_systems t_own t_cross t_curveLong t_wallFirst), ZA E 120 r.2.1, IA E 120 t_start, IA E 120 t_goal, IA E 360 r.2.2.1, IA E 3 r.2.2.2] h) n (inI r.1 ∧ okZ r.2.1 ∧ okA r.2.2.1 ∧ okA r.2.2.2) 0 0) 0 0 n (ov [a_t, (a_t + 15), (a_t + 16), (a_t + 17), (a_t + 18), (a_t + 19)] [.inr (11, fsX11 a_t t_thrown t_taped t_p t_fault t_baseLow t_baseHigh t_newBaseLow t_newBaseHigh t_from t_knots t_lines t_chosen t_undos t_redos t_aimedMany t_fits t_fitOf t_sights t_systems t_own t_cross t_curveLong t_wallFirst), ZA E 120 t_isGone, IA E 120 t_start, IA E 120 t_goal, IA E 360 t_line, IA E 3 t_sum3_] h) 101 [some (.ref a_t), some (vI v1), some (vI v2), some (vI v3), some (vI v4_), some (vI v5_), none] []) (hk_191 : ∀ (t_sum3_ : Nat → Int) (v4_ : Int) (v5_ : Int), okA t_sum3_ → inZ v4_ → inI v5_ → k_191 t_sum3_ v4_ v5_ = some r → G l E b0 M_X11_meet (fun _ => True) (ZM E b0 (some (vI r.1)) (ov [a_t, (a_t + 15), (a_t + 16), (a_t + 17), (a_t + 18), (a_t + 19)] [.inr (11, fsX11 a_t t_thrown t_taped t_p t_fault t_baseLow t_baseHigh t_newBaseLow t_newBaseHigh t_from t_knots t_lines t_chosen t_undos t_redos t_aimedMany t_fits t_fitOf t_sights t_systems t_own t_cross t_curveLong t_wallFirst), ZA E 120 r.2.1, IA E 120 t_start, IA E 120 t_goal, IA E 360 r.2.2.1, IA E 3 r.2.2.2] h) n (inI r.1 ∧ okZ r.2.1 ∧ okA r.2.2.1 ∧ okA r.2.2.2) 0 0) 0 0 n (ov [a_t, (a_t + 15), (a_t + 16), (a_t + 17), (a_t + 18), (a_t + 19)] [.inr (11, fsX11 a_t t_thrown t_taped t_p t_fault t_baseLow t_baseHigh t_newBaseLow t_newBaseHigh t_from t_knots t_lines t_chosen t_undos t_redos t_aimedMany t_fits t_fitOf t_sights t_systems t_own t_cross t_curveLong t_wallFirst), ZA E 120 t_isGone, IA E 120 t_start, IA E 120 t_goal, IA E 360 t_line, IA E 3 t_sum3_] h) 191 [some (.ref a_t), some (vI v1), some (vI v2), none, some (vI v4_), none, none] []) (hs : m_X11_meet_183 t_line t_sum3 v1 v2 v3 v5 s0 ag k_191 = some r) : G l E b0 M_X11_meet (fun _ => True) (ZM E b0 (some (vI r.1)) (ov [a_t, (a_t + 15), (a_t + 16), (a_t + 17), (a_t + 18), (a_t + 19)] [.inr (11, fsX11 a_t t_thrown t_taped t_p t_fault t_baseLow t_baseHigh t_newBaseLow t_newBaseHigh t_from t_knots t_lines t_chosen t_undos t_redos t_aimedMany t_fits t_fitOf t_sights t_systems t_own t_cross t_curveLong t_wallFirst), ZA E 120 r.2.1, IA E 120 t_start, IA E 120 t_goal, IA E 360 r.2.2.1, IA E 3 r.2.2.2] h) n (inI r.1 ∧ okZ r.2.1 ∧ okA r.2.2.1 ∧ okA r.2.2.2) 0 0) 0 0 n (ov [a_t, (a_t + 15), (a_t + 16), (a_t + 17), (a_t + 18), (a_t + 19)] [.inr (11, fsX11 a_t t_thrown t_taped t_p t_fault t_baseLow t_baseHigh t_newBaseLow t_newBaseHigh t_from t_knots t_lines t_chosen t_undos t_redos t_aimedMany t_fits t_fitOf t_sights t_systems t_own t_cross t_curveLong t_wallFirst), ZA E 120 t_isGone, IA E 120 t_start, IA E 120 t_goal, IA E 360 t_line, IA E 3 t_sum3] h) 183 [some (.ref a_t), some (vI v1), some (vI v2), some (vI v3), none, some (vI v5), none] [vI s0] := by
  rw [m_X11_meet_183] at hs
  refine g_istore e_X11_meet_183 st1_4 rfl ?_
  refine g_iinc e_X11_meet_185 rfl st1_5 rfl ?_
  refine g_goto e_X11_meet_188 ?_
  obtain ⟨hc15, hs⟩ := chk_elim hs
  exact hag _ _ _ ok_t_sum3 ok_s0 hc15 hs

noncomputable def m_X11_meet_182 (t_line : Nat → Int) (t_sum3 : Nat → Int) (v1 : Int) (v2 : Int) (v3 : Int) (v5 : Int) (ag : (Nat → Int) → Int → Int → Option (Int × (Nat → Int) × (Nat → Int) × (Nat → Int))) (k_191 : (Nat → Int) → Int → Int → Option (Int × (Nat → Int) × (Nat → Int) × (Nat → Int))) : Option (Int × (Nat → Int) × (Nat → Int) × (Nat → Int)) :=
  m_X11_meet_183 t_line t_sum3 v1 v2 v3 v5 0 ag k_191

set_option maxRecDepth 10000 in
set_option maxHeartbeats 8000000 in
theorem g_X11_meet_182 {l : Launch} {E : EE} {b0 n : Nat} {h : AH} {a_t : Nat} {t_thrown t_taped t_p t_fault t_baseLow t_baseHigh t_newBaseLow t_newBaseHigh t_from t_knots t_lines t_chosen t_undos t_redos t_aimedMany t_fits t_fitOf t_sights t_systems t_own t_cross t_curveLong t_wallFirst v1 v2 v3 v5 : Int} {t_isGone t_start t_goal t_line t_sum3 : Nat → Int} {r : Int × (Nat → Int) × (Nat → Int) × (Nat → Int)} {ag : (Nat → Int) → Int → Int → Option (Int × (Nat → Int) × (Nat → Int) × (Nat → Int))} {k_191 : (Nat → Int) → Int → Int → Option (Int × (Nat → Int) × (Nat → Int) × (Nat → Int))} (ao : AO b0 n [a_t, (a_t + 15), (a_t + 16), (a_t + 17), (a_t + 18), (a_t + 19)]) (ok_t_lines : inI t_lines) (ok_t_isGone : okZ t_isGone) (ok_t_start : okA t_start) (ok_t_goal : okA t_goal) (ok_t_line : okA t_line) (ok_t_sum3 : okA t_sum3) (ok_v1 : inI v1) (ok_v2 : inI v2) (ok_v3 : inZ v3) (ok_v5 : inI v5) (hag : ∀ (t_sum3_ : Nat → Int) (v4_ : Int) (v5_ : Int), okA t_sum3_ → inZ v4_ → inI v5_ → ag t_sum3_ v4_ v5_ = some r → G l E b0 M_X11_meet (fun _ => True) (ZM E b0 (some (vI r.1)) (ov [a_t, (a_t + 15), (a_t + 16), (a_t + 17), (a_t + 18), (a_t + 19)] [.inr (11, fsX11 a_t t_thrown t_taped t_p t_fault t_baseLow t_baseHigh t_newBaseLow t_newBaseHigh t_from t_knots t_lines t_chosen t_undos t_redos t_aimedMany t_fits t_fitOf t_sights t_systems t_own t_cross t_curveLong t_wallFirst), ZA E 120 r.2.1, IA E 120 t_start, IA E 120 t_goal, IA E 360 r.2.2.1, IA E 3 r.2.2.2] h) n (inI r.1 ∧ okZ r.2.1 ∧ okA r.2.2.1 ∧ okA r.2.2.2) 0 0) 0 0 n (ov [a_t, (a_t + 15), (a_t + 16), (a_t + 17), (a_t + 18), (a_t + 19)] [.inr (11, fsX11 a_t t_thrown t_taped t_p t_fault t_baseLow t_baseHigh t_newBaseLow t_newBaseHigh t_from t_knots t_lines t_chosen t_undos t_redos t_aimedMany t_fits t_fitOf t_sights t_systems t_own t_cross t_curveLong t_wallFirst), ZA E 120 t_isGone, IA E 120 t_start, IA E 120 t_goal, IA E 360 t_line, IA E 3 t_sum3_] h) 101 [some (.ref a_t), some (vI v1), some (vI v2), some (vI v3), some (vI v4_), some (vI v5_), none] []) (hk_191 : ∀ (t_sum3_ : Nat → Int) (v4_ : Int) (v5_ : Int), okA t_sum3_ → inZ v4_ → inI v5_ → k_191 t_sum3_ v4_ v5_ = some r → G l E b0 M_X11_meet (fun _ => True) (ZM E b0 (some (vI r.1)) (ov [a_t, (a_t + 15), (a_t + 16), (a_t + 17), (a_t + 18), (a_t + 19)] [.inr (11, fsX11 a_t t_thrown t_taped t_p t_fault t_baseLow t_baseHigh t_newBaseLow t_newBaseHigh t_from t_knots t_lines t_chosen t_undos t_redos t_aimedMany t_fits t_fitOf t_sights t_systems t_own t_cross t_curveLong t_wallFirst), ZA E 120 r.2.1, IA E 120 t_start, IA E 120 t_goal, IA E 360 r.2.2.1, IA E 3 r.2.2.2] h) n (inI r.1 ∧ okZ r.2.1 ∧ okA r.2.2.1 ∧ okA r.2.2.2) 0 0) 0 0 n (ov [a_t, (a_t + 15), (a_t + 16), (a_t + 17), (a_t + 18), (a_t + 19)] [.inr (11, fsX11 a_t t_thrown t_taped t_p t_fault t_baseLow t_baseHigh t_newBaseLow t_newBaseHigh t_from t_knots t_lines t_chosen t_undos t_redos t_aimedMany t_fits t_fitOf t_sights t_systems t_own t_cross t_curveLong t_wallFirst), ZA E 120 t_isGone, IA E 120 t_start, IA E 120 t_goal, IA E 360 t_line, IA E 3 t_sum3_] h) 191 [some (.ref a_t), some (vI v1), some (vI v2), none, some (vI v4_), none, none] []) (hs : m_X11_meet_182 t_line t_sum3 v1 v2 v3 v5 ag k_191 = some r) : G l E b0 M_X11_meet (fun _ => True) (ZM E b0 (some (vI r.1)) (ov [a_t, (a_t + 15), (a_t + 16), (a_t + 17), (a_t + 18), (a_t + 19)] [.inr (11, fsX11 a_t t_thrown t_taped t_p t_fault t_baseLow t_baseHigh t_newBaseLow t_newBaseHigh t_from t_knots t_lines t_chosen t_undos t_redos t_aimedMany t_fits t_fitOf t_sights t_systems t_own t_cross t_curveLong t_wallFirst), ZA E 120 r.2.1, IA E 120 t_start, IA E 120 t_goal, IA E 360 r.2.2.1, IA E 3 r.2.2.2] h) n (inI r.1 ∧ okZ r.2.1 ∧ okA r.2.2.1 ∧ okA r.2.2.2) 0 0) 0 0 n (ov [a_t, (a_t + 15), (a_t + 16), (a_t + 17), (a_t + 18), (a_t + 19)] [.inr (11, fsX11 a_t t_thrown t_taped t_p t_fault t_baseLow t_baseHigh t_newBaseLow t_newBaseHigh t_from t_knots t_lines t_chosen t_undos t_redos t_aimedMany t_fits t_fitOf t_sights t_systems t_own t_cross t_curveLong t_wallFirst), ZA E 120 t_isGone, IA E 120 t_start, IA E 120 t_goal, IA E 360 t_line, IA E 3 t_sum3] h) 182 [some (.ref a_t), some (vI v1), some (vI v2), some (vI v3), none, some (vI v5), none] [] := by
  rw [m_X11_meet_182] at hs
  refine g_iconst e_X11_meet_182 ?_
  exact g_X11_meet_183 ao ok_t_lines ok_t_isGone ok_t_start ok_t_goal ok_t_line ok_t_sum3 ok_v1 ok_v2 ok_v3 ok_v5 (by decide : inZ 0) hag hk_191 hs

noncomputable def m_X11_meet_154 (t_line : Nat → Int) (t_sum3 : Nat → Int) (v1 : Int) (v2 : Int) (v3 : Int) (v4 : Int) (v5 : Int) (s1 : Int) (s2 : Int) (s3 : Int) (ag : (Nat → Int) → Int → Int → Option (Int × (Nat → Int) × (Nat → Int) × (Nat → Int))) (k_191 : (Nat → Int) → Int → Int → Option (Int × (Nat → Int) × (Nat → Int) × (Nat → Int))) : Option (Int × (Nat → Int) × (Nat → Int) × (Nat → Int)) :=
  chk (inI (s2 + s3)) (chk (inB s1 3) (if v4 = 0 then (m_X11_meet_182 t_line (up t_sum3 (Int.toNat s1) (s2 + s3)) v1 v2 v3 v5 ag k_191) else (chk (inB v5 3) ((m_X11_in ((up t_sum3 (Int.toNat s1) (s2 + s3)) (Int.toNat v5)) (-99) 99).bind (fun y17 => if y17 = 0 then (m_X11_meet_182 t_line (up t_sum3 (Int.toNat s1) (s2 + s3)) v1 v2 v3 v5 ag k_191) else (m_X11_meet_183 t_line (up t_sum3 (Int.toNat s1) (s2 + s3)) v1 v2 v3 v5 1 ag k_191))))))

set_option maxRecDepth 10000 in
set_option maxHeartbeats 8000000 in
theorem g_X11_meet_154 {l : Launch} {E : EE} {b0 n : Nat} {h : AH} {a_t : Nat} {t_thrown t_taped t_p t_fault t_baseLow t_baseHigh t_newBaseLow t_newBaseHigh t_from t_knots t_lines t_chosen t_undos t_redos t_aimedMany t_fits t_fitOf t_sights t_systems t_own t_cross t_curveLong t_wallFirst v1 v2 v3 v4 v5 s1 s2 s3 : Int} {t_isGone t_start t_goal t_line t_sum3 : Nat → Int} {r : Int × (Nat → Int) × (Nat → Int) × (Nat → Int)} {ag : (Nat → Int) → Int → Int → Option (Int × (Nat → Int) × (Nat → Int) × (Nat → Int))} {k_191 : (Nat → Int) → Int → Int → Option (Int × (Nat → Int) × (Nat → Int) × (Nat → Int))} (ao : AO b0 n [a_t, (a_t + 15), (a_t + 16), (a_t + 17), (a_t + 18), (a_t + 19)]) (ok_t_lines : inI t_lines) (ok_t_isGone : okZ t_isGone) (ok_t_start : okA t_start) (ok_t_goal : okA t_goal) (ok_t_line : okA t_line) (ok_t_sum3 : okA t_sum3) (ok_v1 : inI v1) (ok_v2 : inI v2) (ok_v3 : inZ v3) (ok_v4 : inZ v4) (ok_v5 : inI v5) (ok_s1 : inI s1) (ok_s2 : inI s2) (ok_s3 : inI s3) (hag : ∀ (t_sum3_ : Nat → Int) (v4_ : Int) (v5_ : Int), okA t_sum3_ → inZ v4_ → inI v5_ → ag t_sum3_ v4_ v5_ = some r → G l E b0 M_X11_meet (fun _ => True) (ZM E b0 (some (vI r.1)) (ov [a_t, (a_t + 15), (a_t + 16), (a_t + 17), (a_t + 18), (a_t + 19)] [.inr (11, fsX11 a_t t_thrown t_taped t_p t_fault t_baseLow t_baseHigh t_newBaseLow t_newBaseHigh t_from t_knots t_lines t_chosen t_undos t_redos t_aimedMany t_fits t_fitOf t_sights t_systems t_own t_cross t_curveLong t_wallFirst), ZA E 120 r.2.1, IA E 120 t_start, IA E 120 t_goal, IA E 360 r.2.2.1, IA E 3 r.2.2.2] h) n (inI r.1 ∧ okZ r.2.1 ∧ okA r.2.2.1 ∧ okA r.2.2.2) 0 0) 0 0 n (ov [a_t, (a_t + 15), (a_t + 16), (a_t + 17), (a_t + 18), (a_t + 19)] [.inr (11, fsX11 a_t t_thrown t_taped t_p t_fault t_baseLow t_baseHigh t_newBaseLow t_newBaseHigh t_from t_knots t_lines t_chosen t_undos t_redos t_aimedMany t_fits t_fitOf t_sights t_systems t_own t_cross t_curveLong t_wallFirst), ZA E 120 t_isGone, IA E 120 t_start, IA E 120 t_goal, IA E 360 t_line, IA E 3 t_sum3_] h) 101 [some (.ref a_t), some (vI v1), some (vI v2), some (vI v3), some (vI v4_), some (vI v5_), none] []) (hk_191 : ∀ (t_sum3_ : Nat → Int) (v4_ : Int) (v5_ : Int), okA t_sum3_ → inZ v4_ → inI v5_ → k_191 t_sum3_ v4_ v5_ = some r → G l E b0 M_X11_meet (fun _ => True) (ZM E b0 (some (vI r.1)) (ov [a_t, (a_t + 15), (a_t + 16), (a_t + 17), (a_t + 18), (a_t + 19)] [.inr (11, fsX11 a_t t_thrown t_taped t_p t_fault t_baseLow t_baseHigh t_newBaseLow t_newBaseHigh t_from t_knots t_lines t_chosen t_undos t_redos t_aimedMany t_fits t_fitOf t_sights t_systems t_own t_cross t_curveLong t_wallFirst), ZA E 120 r.2.1, IA E 120 t_start, IA E 120 t_goal, IA E 360 r.2.2.1, IA E 3 r.2.2.2] h) n (inI r.1 ∧ okZ r.2.1 ∧ okA r.2.2.1 ∧ okA r.2.2.2) 0 0) 0 0 n (ov [a_t, (a_t + 15), (a_t + 16), (a_t + 17), (a_t + 18), (a_t + 19)] [.inr (11, fsX11 a_t t_thrown t_taped t_p t_fault t_baseLow t_baseHigh t_newBaseLow t_newBaseHigh t_from t_knots t_lines t_chosen t_undos t_redos t_aimedMany t_fits t_fitOf t_sights t_systems t_own t_cross t_curveLong t_wallFirst), ZA E 120 t_isGone, IA E 120 t_start, IA E 120 t_goal, IA E 360 t_line, IA E 3 t_sum3_] h) 191 [some (.ref a_t), some (vI v1), some (vI v2), none, some (vI v4_), none, none] []) (hs : m_X11_meet_154 t_line t_sum3 v1 v2 v3 v4 v5 s1 s2 s3 ag k_191 = some r) : G l E b0 M_X11_meet (fun _ => True) (ZM E b0 (some (vI r.1)) (ov [a_t, (a_t + 15), (a_t + 16), (a_t + 17), (a_t + 18), (a_t + 19)] [.inr (11, fsX11 a_t t_thrown t_taped t_p t_fault t_baseLow t_baseHigh t_newBaseLow t_newBaseHigh t_from t_knots t_lines t_chosen t_undos t_redos t_aimedMany t_fits t_fitOf t_sights t_systems t_own t_cross t_curveLong t_wallFirst), ZA E 120 r.2.1, IA E 120 t_start, IA E 120 t_goal, IA E 360 r.2.2.1, IA E 3 r.2.2.2] h) n (inI r.1 ∧ okZ r.2.1 ∧ okA r.2.2.1 ∧ okA r.2.2.2) 0 0) 0 0 n (ov [a_t, (a_t + 15), (a_t + 16), (a_t + 17), (a_t + 18), (a_t + 19)] [.inr (11, fsX11 a_t t_thrown t_taped t_p t_fault t_baseLow t_baseHigh t_newBaseLow t_newBaseHigh t_from t_knots t_lines t_chosen t_undos t_redos t_aimedMany t_fits t_fitOf t_sights t_systems t_own t_cross t_curveLong t_wallFirst), ZA E 120 t_isGone, IA E 120 t_start, IA E 120 t_goal, IA E 360 t_line, IA E 3 t_sum3] h) 154 [some (.ref a_t), some (vI v1), some (vI v2), some (vI v3), some (vI v4), some (vI v5), none] [vI s3, vI s2, vI s1, .ref (a_t + 19)] := by
  rw [m_X11_meet_154] at hs
  refine g_iadd e_X11_meet_154 ?_
  obtain ⟨hc13, hs⟩ := chk_elim hs
  refine g_iast 5 ao rfl rfl ls_5 (Nat.le_of_ble_eq_true rfl) e_X11_meet_155 hs (fun hi14 hs => ?_)
  refine g_iload e_X11_meet_156 rfl ?_
  refine g_if_eq e_X11_meet_158 (inZ_I ok_v4) hs (fun c158 hs => ?_) (fun c158 hs => ?_)
  · exact g_mask [true, true, true, true, false, true, true] (g_X11_meet_182 ao ok_t_lines ok_t_isGone ok_t_start ok_t_goal ok_t_line (okA_up ok_t_sum3 hc13) ok_v1 ok_v2 ok_v3 ok_v5 hag hk_191 hs)
  · refine g_aload_n e_X11_meet_161 rfl ?_
    refine g_get 0 29 ao rfl rfl fsX11_g29 fl_X11_66 e_X11_meet_162 ?_
    refine g_iload e_X11_meet_165 rfl ?_
    refine g_iald 5 ao rfl rfl (Nat.le_of_ble_eq_true rfl) e_X11_meet_167 hs (fun hi16 hs => ?_)
    refine g_bipush e_X11_meet_168 bp_m99 ?_
    refine g_bipush e_X11_meet_170 bp_99 ?_
    obtain ⟨y17, hy17, hs⟩ := bind_elim hs
    refine g_callSr [vI ((up t_sum3 (Int.toNat s1) (s2 + s3)) (Int.toNat v5)), vI (-99), vI 99] cs_X11_226 ⟨rfl, rfl, Nat.le_of_ble_eq_true rfl, Nat.le_of_ble_eq_true rfl⟩ (ct_X11_in ⟨List.nodup_nil, fun i a h => by simp at h⟩ (fun i a e h => by simp at h) ((okA_up ok_t_sum3 hc13) _) (by decide : inI (-99)) (by decide : inI 99) hy17) e_X11_meet_172 rfl rfl (Nat.le_of_ble_eq_true rfl) ⟨Nat.le_refl _, Nat.le_refl _⟩ (fun Py17 => ?_)
    refine g_if_eq e_X11_meet_175 (inZ_I Py17) hs (fun c175 hs => ?_) (fun c175 hs => ?_)
    · exact g_mask [true, true, true, true, false, true, true] (g_X11_meet_182 ao ok_t_lines ok_t_isGone ok_t_start ok_t_goal ok_t_line (okA_up ok_t_sum3 hc13) ok_v1 ok_v2 ok_v3 ok_v5 hag hk_191 hs)
    · refine g_iconst e_X11_meet_178 ?_
      refine g_goto e_X11_meet_179 ?_
      exact g_mask [true, true, true, true, false, true, true] (g_X11_meet_183 ao ok_t_lines ok_t_isGone ok_t_start ok_t_goal ok_t_line (okA_up ok_t_sum3 hc13) ok_v1 ok_v2 ok_v3 ok_v5 (by decide : inZ 1) hag hk_191 hs)

noncomputable def m_X11_meet_101 (t_line : Nat → Int) (v1 : Int) (v2 : Int) (v3 : Int) (k_191 : (Nat → Int) → Int → Int → Option (Int × (Nat → Int) × (Nat → Int) × (Nat → Int))) : Nat → (Nat → Int) → Int → Int → Option (Int × (Nat → Int) × (Nat → Int) × (Nat → Int))
  | 0, _, _, _ => none
  | F + 1, t_sum3, v4, v5 => if 3 ≤ v5 then (k_191 t_sum3 v4 v5) else (chk (inB ((3 * v1) + v5) 360) (if v3 = 0 then (chk (inB ((3 * v2) + v5) 360) (chk (inI (-(t_line (Int.toNat ((3 * v2) + v5))))) (m_X11_meet_154 t_line t_sum3 v1 v2 v3 v4 v5 v5 (t_line (Int.toNat ((3 * v1) + v5))) (-(t_line (Int.toNat ((3 * v2) + v5)))) (m_X11_meet_101 t_line v1 v2 v3 k_191 F) k_191))) else (chk (inB ((3 * v2) + v5) 360) (m_X11_meet_154 t_line t_sum3 v1 v2 v3 v4 v5 v5 (t_line (Int.toNat ((3 * v1) + v5))) (t_line (Int.toNat ((3 * v2) + v5))) (m_X11_meet_101 t_line v1 v2 v3 k_191 F) k_191))))

set_option maxRecDepth 10000 in
set_option maxHeartbeats 8000000 in
theorem g_X11_meet_101 {l : Launch} {E : EE} {b0 n : Nat} {h : AH} {a_t : Nat} {t_thrown t_taped t_p t_fault t_baseLow t_baseHigh t_newBaseLow t_newBaseHigh t_from t_knots t_lines t_chosen t_undos t_redos t_aimedMany t_fits t_fitOf t_sights t_systems t_own t_cross t_curveLong t_wallFirst v1 v2 v3 : Int} {t_isGone t_start t_goal t_line : Nat → Int} {r : Int × (Nat → Int) × (Nat → Int) × (Nat → Int)} {k_191 : (Nat → Int) → Int → Int → Option (Int × (Nat → Int) × (Nat → Int) × (Nat → Int))} (ao : AO b0 n [a_t, (a_t + 15), (a_t + 16), (a_t + 17), (a_t + 18), (a_t + 19)]) (ok_t_lines : inI t_lines) (ok_t_isGone : okZ t_isGone) (ok_t_start : okA t_start) (ok_t_goal : okA t_goal) (ok_t_line : okA t_line) (ok_v1 : inI v1) (ok_v2 : inI v2) (ok_v3 : inZ v3) (hk_191 : ∀ (t_sum3_ : Nat → Int) (v4_ : Int) (v5_ : Int), okA t_sum3_ → inZ v4_ → inI v5_ → k_191 t_sum3_ v4_ v5_ = some r → G l E b0 M_X11_meet (fun _ => True) (ZM E b0 (some (vI r.1)) (ov [a_t, (a_t + 15), (a_t + 16), (a_t + 17), (a_t + 18), (a_t + 19)] [.inr (11, fsX11 a_t t_thrown t_taped t_p t_fault t_baseLow t_baseHigh t_newBaseLow t_newBaseHigh t_from t_knots t_lines t_chosen t_undos t_redos t_aimedMany t_fits t_fitOf t_sights t_systems t_own t_cross t_curveLong t_wallFirst), ZA E 120 r.2.1, IA E 120 t_start, IA E 120 t_goal, IA E 360 r.2.2.1, IA E 3 r.2.2.2] h) n (inI r.1 ∧ okZ r.2.1 ∧ okA r.2.2.1 ∧ okA r.2.2.2) 0 0) 0 0 n (ov [a_t, (a_t + 15), (a_t + 16), (a_t + 17), (a_t + 18), (a_t + 19)] [.inr (11, fsX11 a_t t_thrown t_taped t_p t_fault t_baseLow t_baseHigh t_newBaseLow t_newBaseHigh t_from t_knots t_lines t_chosen t_undos t_redos t_aimedMany t_fits t_fitOf t_sights t_systems t_own t_cross t_curveLong t_wallFirst), ZA E 120 t_isGone, IA E 120 t_start, IA E 120 t_goal, IA E 360 t_line, IA E 3 t_sum3_] h) 191 [some (.ref a_t), some (vI v1), some (vI v2), none, some (vI v4_), none, none] []) :
    ∀ (F : Nat) (t_sum3 : Nat → Int) (v4 : Int) (v5 : Int), okA t_sum3 → inZ v4 → inI v5 → m_X11_meet_101 t_line v1 v2 v3 k_191 F t_sum3 v4 v5 = some r → G l E b0 M_X11_meet (fun _ => True) (ZM E b0 (some (vI r.1)) (ov [a_t, (a_t + 15), (a_t + 16), (a_t + 17), (a_t + 18), (a_t + 19)] [.inr (11, fsX11 a_t t_thrown t_taped t_p t_fault t_baseLow t_baseHigh t_newBaseLow t_newBaseHigh t_from t_knots t_lines t_chosen t_undos t_redos t_aimedMany t_fits t_fitOf t_sights t_systems t_own t_cross t_curveLong t_wallFirst), ZA E 120 r.2.1, IA E 120 t_start, IA E 120 t_goal, IA E 360 r.2.2.1, IA E 3 r.2.2.2] h) n (inI r.1 ∧ okZ r.2.1 ∧ okA r.2.2.1 ∧ okA r.2.2.2) 0 0) 0 0 n (ov [a_t, (a_t + 15), (a_t + 16), (a_t + 17), (a_t + 18), (a_t + 19)] [.inr (11, fsX11 a_t t_thrown t_taped t_p t_fault t_baseLow t_baseHigh t_newBaseLow t_newBaseHigh t_from t_knots t_lines t_chosen t_undos t_redos t_aimedMany t_fits t_fitOf t_sights t_systems t_own t_cross t_curveLong t_wallFirst), ZA E 120 t_isGone, IA E 120 t_start, IA E 120 t_goal, IA E 360 t_line, IA E 3 t_sum3] h) 101 [some (.ref a_t), some (vI v1), some (vI v2), some (vI v3), some (vI v4), some (vI v5), none] [] := by
  intro F
  induction F with
  | zero =>
    intro t_sum3 v4 v5 ok_t_sum3 ok_v4 ok_v5 hs
    rw [m_X11_meet_101] at hs
    cases hs
  | succ F ih =>
    intro t_sum3 v4 v5 ok_t_sum3 ok_v4 ok_v5 hs
    rw [m_X11_meet_101] at hs
    refine g_iload e_X11_meet_101 rfl ?_
    refine g_iconst e_X11_meet_103 ?_
    refine g_icmp_ge e_X11_meet_104 ok_v5 (by decide : inI 3) hs (fun c104 hs => ?_) (fun c104 hs => ?_)
    · exact g_mask [true, true, true, false, true, false, true] (hk_191 _ _ _ ok_t_sum3 ok_v4 ok_v5 hs)
    · refine g_aload_n e_X11_meet_107 rfl ?_
      refine g_get 0 29 ao rfl rfl fsX11_g29 fl_X11_66 e_X11_meet_108 ?_
      refine g_iload e_X11_meet_111 rfl ?_
      refine g_aload_n e_X11_meet_113 rfl ?_
      refine g_get 0 28 ao rfl rfl fsX11_g28 fl_X11_63 e_X11_meet_114 ?_
      refine g_iconst e_X11_meet_117 ?_
      refine g_iload_n e_X11_meet_118 rfl ?_
      refine g_imul e_X11_meet_119 ?_
      refine g_iload e_X11_meet_120 rfl ?_
      refine g_iadd e_X11_meet_122 ?_
      refine g_iald 4 ao rfl rfl (Nat.le_of_ble_eq_true rfl) e_X11_meet_123 hs (fun hi11 hs => ?_)
      refine g_iload_n e_X11_meet_124 rfl ?_
      refine g_if_eq e_X11_meet_125 (inZ_I ok_v3) hs (fun c125 hs => ?_) (fun c125 hs => ?_)
      · refine g_aload_n e_X11_meet_142 rfl ?_
        refine g_get 0 28 ao rfl rfl fsX11_g28 fl_X11_63 e_X11_meet_143 ?_
        refine g_iconst e_X11_meet_146 ?_
        refine g_iload_n e_X11_meet_147 rfl ?_
        refine g_imul e_X11_meet_148 ?_
        refine g_iload e_X11_meet_149 rfl ?_
        refine g_iadd e_X11_meet_151 ?_
        refine g_iald 4 ao rfl rfl (Nat.le_of_ble_eq_true rfl) e_X11_meet_152 hs (fun hi12 hs => ?_)
        refine g_ineg e_X11_meet_153 ?_
        obtain ⟨hc18, hs⟩ := chk_elim hs
        exact g_X11_meet_154 ao ok_t_lines ok_t_isGone ok_t_start ok_t_goal ok_t_line ok_t_sum3 ok_v1 ok_v2 ok_v3 ok_v4 ok_v5 ok_v5 (ok_t_line _) hc18 ih hk_191 hs
      · refine g_aload_n e_X11_meet_128 rfl ?_
        refine g_get 0 28 ao rfl rfl fsX11_g28 fl_X11_63 e_X11_meet_129 ?_
        refine g_iconst e_X11_meet_132 ?_
        refine g_iload_n e_X11_meet_133 rfl ?_
        refine g_imul e_X11_meet_134 ?_
        refine g_iload e_X11_meet_135 rfl ?_
        refine g_iadd e_X11_meet_137 ?_
        refine g_iald 4 ao rfl rfl (Nat.le_of_ble_eq_true rfl) e_X11_meet_138 hs (fun hi19 hs => ?_)
        refine g_goto e_X11_meet_139 ?_
        exact g_X11_meet_154 ao ok_t_lines ok_t_isGone ok_t_start ok_t_goal ok_t_line ok_t_sum3 ok_v1 ok_v2 ok_v3 ok_v4 ok_v5 ok_v5 (ok_t_line _) (ok_t_line _) ih hk_191 hs

noncomputable def m_X11_meet_243 (t_sum3 : Nat → Int) (v1 : Int) (k_273 : (Nat → Int) → Int → Option (Int × (Nat → Int) × (Nat → Int) × (Nat → Int))) : Nat → (Nat → Int) → Int → Option (Int × (Nat → Int) × (Nat → Int) × (Nat → Int))
  | 0, _, _ => none
  | F + 1, t_line, v6 => if 3 ≤ v6 then (k_273 t_line v6) else (chk (inB v6 3) (chk (inB ((3 * v1) + v6) 360) (chk (inI (v6 + 1)) (m_X11_meet_243 t_sum3 v1 k_273 F (up t_line (Int.toNat ((3 * v1) + v6)) (t_sum3 (Int.toNat v6))) (v6 + 1)))))

set_option maxRecDepth 10000 in
set_option maxHeartbeats 8000000 in
theorem g_X11_meet_243 {l : Launch} {E : EE} {b0 n : Nat} {h : AH} {a_t : Nat} {t_thrown t_taped t_p t_fault t_baseLow t_baseHigh t_newBaseLow t_newBaseHigh t_from t_knots t_lines t_chosen t_undos t_redos t_aimedMany t_fits t_fitOf t_sights t_systems t_own t_cross t_curveLong t_wallFirst v1 v2 v5 : Int} {t_isGone t_start t_goal t_sum3 : Nat → Int} {r : Int × (Nat → Int) × (Nat → Int) × (Nat → Int)} {k_273 : (Nat → Int) → Int → Option (Int × (Nat → Int) × (Nat → Int) × (Nat → Int))} (ao : AO b0 n [a_t, (a_t + 15), (a_t + 16), (a_t + 17), (a_t + 18), (a_t + 19)]) (ok_t_lines : inI t_lines) (ok_t_isGone : okZ t_isGone) (ok_t_start : okA t_start) (ok_t_goal : okA t_goal) (ok_t_sum3 : okA t_sum3) (ok_v1 : inI v1) (ok_v2 : inI v2) (ok_v5 : inI v5) (hk_273 : ∀ (t_line_ : Nat → Int) (v6_ : Int), okA t_line_ → inI v6_ → k_273 t_line_ v6_ = some r → G l E b0 M_X11_meet (fun _ => True) (ZM E b0 (some (vI r.1)) (ov [a_t, (a_t + 15), (a_t + 16), (a_t + 17), (a_t + 18), (a_t + 19)] [.inr (11, fsX11 a_t t_thrown t_taped t_p t_fault t_baseLow t_baseHigh t_newBaseLow t_newBaseHigh t_from t_knots t_lines t_chosen t_undos t_redos t_aimedMany t_fits t_fitOf t_sights t_systems t_own t_cross t_curveLong t_wallFirst), ZA E 120 r.2.1, IA E 120 t_start, IA E 120 t_goal, IA E 360 r.2.2.1, IA E 3 r.2.2.2] h) n (inI r.1 ∧ okZ r.2.1 ∧ okA r.2.2.1 ∧ okA r.2.2.2) 0 0) 0 0 n (ov [a_t, (a_t + 15), (a_t + 16), (a_t + 17), (a_t + 18), (a_t + 19)] [.inr (11, fsX11 a_t t_thrown t_taped t_p t_fault t_baseLow t_baseHigh t_newBaseLow t_newBaseHigh t_from t_knots t_lines t_chosen t_undos t_redos t_aimedMany t_fits t_fitOf t_sights t_systems t_own t_cross t_curveLong t_wallFirst), ZA E 120 t_isGone, IA E 120 t_start, IA E 120 t_goal, IA E 360 t_line_, IA E 3 t_sum3] h) 273 [some (.ref a_t), some (vI v1), some (vI v2), none, none, some (vI v5), none] []) :
    ∀ (F : Nat) (t_line : Nat → Int) (v6 : Int), okA t_line → inI v6 → m_X11_meet_243 t_sum3 v1 k_273 F t_line v6 = some r → G l E b0 M_X11_meet (fun _ => True) (ZM E b0 (some (vI r.1)) (ov [a_t, (a_t + 15), (a_t + 16), (a_t + 17), (a_t + 18), (a_t + 19)] [.inr (11, fsX11 a_t t_thrown t_taped t_p t_fault t_baseLow t_baseHigh t_newBaseLow t_newBaseHigh t_from t_knots t_lines t_chosen t_undos t_redos t_aimedMany t_fits t_fitOf t_sights t_systems t_own t_cross t_curveLong t_wallFirst), ZA E 120 r.2.1, IA E 120 t_start, IA E 120 t_goal, IA E 360 r.2.2.1, IA E 3 r.2.2.2] h) n (inI r.1 ∧ okZ r.2.1 ∧ okA r.2.2.1 ∧ okA r.2.2.2) 0 0) 0 0 n (ov [a_t, (a_t + 15), (a_t + 16), (a_t + 17), (a_t + 18), (a_t + 19)] [.inr (11, fsX11 a_t t_thrown t_taped t_p t_fault t_baseLow t_baseHigh t_newBaseLow t_newBaseHigh t_from t_knots t_lines t_chosen t_undos t_redos t_aimedMany t_fits t_fitOf t_sights t_systems t_own t_cross t_curveLong t_wallFirst), ZA E 120 t_isGone, IA E 120 t_start, IA E 120 t_goal, IA E 360 t_line, IA E 3 t_sum3] h) 243 [some (.ref a_t), some (vI v1), some (vI v2), none, none, some (vI v5), some (vI v6)] [] := by
  intro F
  induction F with
  | zero =>
    intro t_line v6 ok_t_line ok_v6 hs
    rw [m_X11_meet_243] at hs
    cases hs
  | succ F ih =>
    intro t_line v6 ok_t_line ok_v6 hs
    rw [m_X11_meet_243] at hs
    refine g_iload e_X11_meet_243 rfl ?_
    refine g_iconst e_X11_meet_245 ?_
    refine g_icmp_ge e_X11_meet_246 ok_v6 (by decide : inI 3) hs (fun c246 hs => ?_) (fun c246 hs => ?_)
    · exact g_mask [true, true, true, true, true, true, false] (hk_273 _ _ ok_t_line ok_v6 hs)
    · refine g_aload_n e_X11_meet_249 rfl ?_
      refine g_get 0 28 ao rfl rfl fsX11_g28 fl_X11_63 e_X11_meet_250 ?_
      refine g_iconst e_X11_meet_253 ?_
      refine g_iload_n e_X11_meet_254 rfl ?_
      refine g_imul e_X11_meet_255 ?_
      refine g_iload e_X11_meet_256 rfl ?_
      refine g_iadd e_X11_meet_258 ?_
      refine g_aload_n e_X11_meet_259 rfl ?_
      refine g_get 0 29 ao rfl rfl fsX11_g29 fl_X11_66 e_X11_meet_260 ?_
      refine g_iload e_X11_meet_263 rfl ?_
      refine g_iald 5 ao rfl rfl (Nat.le_of_ble_eq_true rfl) e_X11_meet_265 hs (fun hi27 hs => ?_)
      refine g_iast 4 ao rfl rfl ls_4 (Nat.le_of_ble_eq_true rfl) e_X11_meet_266 hs (fun hi28 hs => ?_)
      refine g_iinc e_X11_meet_267 rfl st1_6 rfl ?_
      refine g_goto e_X11_meet_270 ?_
      obtain ⟨hc29, hs⟩ := chk_elim hs
      exact ih _ _ (okA_up ok_t_line (ok_t_sum3 _)) hc29 hs

noncomputable def m_X11_meet_273 (t_isGone : Nat → Int) (t_line : Nat → Int) (t_sum3 : Nat → Int) (v1 : Int) (v2 : Int) (v5 : Int) : Option (Int × (Nat → Int) × (Nat → Int) × (Nat → Int)) :=
  chk (inB v2 120) (if v5 = 0 then (chk (inB v1 120) (some (1, up (up t_isGone (Int.toNat v2) 1) (Int.toNat v1) 1, t_line, t_sum3))) else (chk (inB v1 120) (some (1, up (up t_isGone (Int.toNat v2) 1) (Int.toNat v1) 0, t_line, t_sum3))))

set_option maxRecDepth 10000 in
set_option maxHeartbeats 8000000 in
theorem g_X11_meet_273 {l : Launch} {E : EE} {b0 n : Nat} {h : AH} {a_t : Nat} {t_thrown t_taped t_p t_fault t_baseLow t_baseHigh t_newBaseLow t_newBaseHigh t_from t_knots t_lines t_chosen t_undos t_redos t_aimedMany t_fits t_fitOf t_sights t_systems t_own t_cross t_curveLong t_wallFirst v1 v2 v5 : Int} {t_isGone t_start t_goal t_line t_sum3 : Nat → Int} {r : Int × (Nat → Int) × (Nat → Int) × (Nat → Int)} (ao : AO b0 n [a_t, (a_t + 15), (a_t + 16), (a_t + 17), (a_t + 18), (a_t + 19)]) (ok_t_lines : inI t_lines) (ok_t_isGone : okZ t_isGone) (ok_t_start : okA t_start) (ok_t_goal : okA t_goal) (ok_t_line : okA t_line) (ok_t_sum3 : okA t_sum3) (ok_v1 : inI v1) (ok_v2 : inI v2) (ok_v5 : inI v5) (hs : m_X11_meet_273 t_isGone t_line t_sum3 v1 v2 v5 = some r) : G l E b0 M_X11_meet (fun _ => True) (ZM E b0 (some (vI r.1)) (ov [a_t, (a_t + 15), (a_t + 16), (a_t + 17), (a_t + 18), (a_t + 19)] [.inr (11, fsX11 a_t t_thrown t_taped t_p t_fault t_baseLow t_baseHigh t_newBaseLow t_newBaseHigh t_from t_knots t_lines t_chosen t_undos t_redos t_aimedMany t_fits t_fitOf t_sights t_systems t_own t_cross t_curveLong t_wallFirst), ZA E 120 r.2.1, IA E 120 t_start, IA E 120 t_goal, IA E 360 r.2.2.1, IA E 3 r.2.2.2] h) n (inI r.1 ∧ okZ r.2.1 ∧ okA r.2.2.1 ∧ okA r.2.2.2) 0 0) 0 0 n (ov [a_t, (a_t + 15), (a_t + 16), (a_t + 17), (a_t + 18), (a_t + 19)] [.inr (11, fsX11 a_t t_thrown t_taped t_p t_fault t_baseLow t_baseHigh t_newBaseLow t_newBaseHigh t_from t_knots t_lines t_chosen t_undos t_redos t_aimedMany t_fits t_fitOf t_sights t_systems t_own t_cross t_curveLong t_wallFirst), ZA E 120 t_isGone, IA E 120 t_start, IA E 120 t_goal, IA E 360 t_line, IA E 3 t_sum3] h) 273 [some (.ref a_t), some (vI v1), some (vI v2), none, none, some (vI v5), none] [] := by
  rw [m_X11_meet_273] at hs
  refine g_aload_n e_X11_meet_273 rfl ?_
  refine g_get 0 25 ao rfl rfl fsX11_g25 fl_X11_54 e_X11_meet_274 ?_
  refine g_iload_n e_X11_meet_277 rfl ?_
  refine g_iconst e_X11_meet_278 ?_
  refine g_zast 1 ao rfl rfl ls_1 (Nat.le_of_ble_eq_true rfl) (by decide : inZ 1) e_X11_meet_279 hs (fun hi30 hs => ?_)
  refine g_aload_n e_X11_meet_280 rfl ?_
  refine g_get 0 25 ao rfl rfl fsX11_g25 fl_X11_54 e_X11_meet_281 ?_
  refine g_iload_n e_X11_meet_284 rfl ?_
  refine g_iload e_X11_meet_285 rfl ?_
  refine g_if_ne e_X11_meet_287 ok_v5 hs (fun c287 hs => ?_) (fun c287 hs => ?_)
  · refine g_iconst e_X11_meet_290 ?_
    refine g_goto e_X11_meet_291 ?_
    refine g_zast 1 ao rfl rfl ls_1 (Nat.le_of_ble_eq_true rfl) (by decide : inZ 1) e_X11_meet_295 hs (fun hi31 hs => ?_)
    refine g_iconst e_X11_meet_296 ?_
    obtain rfl := Option.some.inj hs
    exact g_iret rfl ⟨(by decide : inI 1), (okZ_up (okZ_up ok_t_isGone (by decide : inZ 1)) (by decide : inZ 1)), ok_t_line, ok_t_sum3⟩ e_X11_meet_297
  · refine g_iconst e_X11_meet_294 ?_
    refine g_zast 1 ao rfl rfl ls_1 (Nat.le_of_ble_eq_true rfl) (by decide : inZ 0) e_X11_meet_295 hs (fun hi32 hs => ?_)
    refine g_iconst e_X11_meet_296 ?_
    obtain rfl := Option.some.inj hs
    exact g_iret rfl ⟨(by decide : inI 1), (okZ_up (okZ_up ok_t_isGone (by decide : inZ 1)) (by decide : inZ 0)), ok_t_line, ok_t_sum3⟩ e_X11_meet_297

noncomputable def m_X11_meet_191 (t_isGone : Nat → Int) (t_line : Nat → Int) (t_sum3 : Nat → Int) (v1 : Int) (v2 : Int) (v4 : Int) : Option (Int × (Nat → Int) × (Nat → Int) × (Nat → Int)) :=
  if v4 = 0 then (some ((-2), t_isGone, t_line, t_sum3)) else (chk (inB 0 3) (chk (inB 1 3) (chk (inB 2 3) ((m_X11_square (t_sum3 (Int.toNat 0)) (t_sum3 (Int.toNat 1)) (t_sum3 (Int.toNat 2))).bind (fun y23 => (m_X11_worth t_line v1).bind (fun y24 => (m_X11_worth t_line v2).bind (fun y25 => chk (inI (y24 + y25)) (if y23 < (y24 + y25) then (m_X11_meet_243 t_sum3 v1 (fun t_line' v6' => m_X11_meet_273 t_isGone t_line' t_sum3 v1 v2 y23) FU t_line 0) else (some (0, t_isGone, t_line, t_sum3))))))))))

set_option maxRecDepth 10000 in
set_option maxHeartbeats 8000000 in
theorem g_X11_meet_191 {l : Launch} {E : EE} {b0 n : Nat} {h : AH} {a_t : Nat} {t_thrown t_taped t_p t_fault t_baseLow t_baseHigh t_newBaseLow t_newBaseHigh t_from t_knots t_lines t_chosen t_undos t_redos t_aimedMany t_fits t_fitOf t_sights t_systems t_own t_cross t_curveLong t_wallFirst v1 v2 v4 : Int} {t_isGone t_start t_goal t_line t_sum3 : Nat → Int} {r : Int × (Nat → Int) × (Nat → Int) × (Nat → Int)} (ao : AO b0 n [a_t, (a_t + 15), (a_t + 16), (a_t + 17), (a_t + 18), (a_t + 19)]) (ok_t_lines : inI t_lines) (ok_t_isGone : okZ t_isGone) (ok_t_start : okA t_start) (ok_t_goal : okA t_goal) (ok_t_line : okA t_line) (ok_t_sum3 : okA t_sum3) (ok_v1 : inI v1) (ok_v2 : inI v2) (ok_v4 : inZ v4) (hs : m_X11_meet_191 t_isGone t_line t_sum3 v1 v2 v4 = some r) : G l E b0 M_X11_meet (fun _ => True) (ZM E b0 (some (vI r.1)) (ov [a_t, (a_t + 15), (a_t + 16), (a_t + 17), (a_t + 18), (a_t + 19)] [.inr (11, fsX11 a_t t_thrown t_taped t_p t_fault t_baseLow t_baseHigh t_newBaseLow t_newBaseHigh t_from t_knots t_lines t_chosen t_undos t_redos t_aimedMany t_fits t_fitOf t_sights t_systems t_own t_cross t_curveLong t_wallFirst), ZA E 120 r.2.1, IA E 120 t_start, IA E 120 t_goal, IA E 360 r.2.2.1, IA E 3 r.2.2.2] h) n (inI r.1 ∧ okZ r.2.1 ∧ okA r.2.2.1 ∧ okA r.2.2.2) 0 0) 0 0 n (ov [a_t, (a_t + 15), (a_t + 16), (a_t + 17), (a_t + 18), (a_t + 19)] [.inr (11, fsX11 a_t t_thrown t_taped t_p t_fault t_baseLow t_baseHigh t_newBaseLow t_newBaseHigh t_from t_knots t_lines t_chosen t_undos t_redos t_aimedMany t_fits t_fitOf t_sights t_systems t_own t_cross t_curveLong t_wallFirst), ZA E 120 t_isGone, IA E 120 t_start, IA E 120 t_goal, IA E 360 t_line, IA E 3 t_sum3] h) 191 [some (.ref a_t), some (vI v1), some (vI v2), none, some (vI v4), none, none] [] := by
  rw [m_X11_meet_191] at hs
  refine g_iload e_X11_meet_191 rfl ?_
  refine g_if_ne e_X11_meet_193 (inZ_I ok_v4) hs (fun c193 hs => ?_) (fun c193 hs => ?_)
  · refine g_bipush e_X11_meet_196 bp_m2 ?_
    obtain rfl := Option.some.inj hs
    exact g_iret rfl ⟨(by decide : inI (-2)), ok_t_isGone, ok_t_line, ok_t_sum3⟩ e_X11_meet_198
  · refine g_aload_n e_X11_meet_199 rfl ?_
    refine g_get 0 29 ao rfl rfl fsX11_g29 fl_X11_66 e_X11_meet_200 ?_
    refine g_iconst e_X11_meet_203 ?_
    refine g_iald 5 ao rfl rfl (Nat.le_of_ble_eq_true rfl) e_X11_meet_204 hs (fun hi20 hs => ?_)
    refine g_aload_n e_X11_meet_205 rfl ?_
    refine g_get 0 29 ao rfl rfl fsX11_g29 fl_X11_66 e_X11_meet_206 ?_
    refine g_iconst e_X11_meet_209 ?_
    refine g_iald 5 ao rfl rfl (Nat.le_of_ble_eq_true rfl) e_X11_meet_210 hs (fun hi21 hs => ?_)
    refine g_aload_n e_X11_meet_211 rfl ?_
    refine g_get 0 29 ao rfl rfl fsX11_g29 fl_X11_66 e_X11_meet_212 ?_
    refine g_iconst e_X11_meet_215 ?_
    refine g_iald 5 ao rfl rfl (Nat.le_of_ble_eq_true rfl) e_X11_meet_216 hs (fun hi22 hs => ?_)
    obtain ⟨y23, hy23, hs⟩ := bind_elim hs
    refine g_callSr [vI (t_sum3 (Int.toNat 0)), vI (t_sum3 (Int.toNat 1)), vI (t_sum3 (Int.toNat 2))] cs_X11_281 ⟨rfl, rfl, Nat.le_of_ble_eq_true rfl, Nat.le_of_ble_eq_true rfl⟩ (ct_X11_square ⟨List.nodup_nil, fun i a h => by simp at h⟩ (fun i a e h => by simp at h) (ok_t_sum3 _) (ok_t_sum3 _) (ok_t_sum3 _) hy23) e_X11_meet_217 rfl rfl (Nat.le_of_ble_eq_true rfl) ⟨Nat.le_refl _, Nat.le_refl _⟩ (fun Py23 => ?_)
    refine g_istore e_X11_meet_220 st1_5 rfl ?_
    refine g_iload e_X11_meet_222 rfl ?_
    refine g_aload_n e_X11_meet_224 rfl ?_
    refine g_iload_n e_X11_meet_225 rfl ?_
    obtain ⟨y24, hy24, hs⟩ := bind_elim hs
    refine g_callVr [vI v1] cv_X11_288 ⟨rfl, rfl, Nat.le_of_ble_eq_true rfl, Nat.le_of_ble_eq_true rfl⟩ (ct_X11_worth (a_t := a_t) (AO_call [0, 4] ao (by decide) rfl) (FA_call [0, 4] ao.1 rfl rfl) ok_t_line ok_v1 hy24) e_X11_meet_226 (ao.2 0 _ rfl) (ov_get 0 ao.1 rfl rfl) rfl rfl rfl (Nat.le_of_ble_eq_true rfl) ⟨Nat.le_refl _, Nat.le_refl _⟩ (fun Py24 => ?_)
    refine g_aload_n e_X11_meet_229 rfl ?_
    refine g_iload_n e_X11_meet_230 rfl ?_
    obtain ⟨y25, hy25, hs⟩ := bind_elim hs
    refine g_callVr [vI v2] cv_X11_288 ⟨rfl, rfl, Nat.le_of_ble_eq_true rfl, Nat.le_of_ble_eq_true rfl⟩ (ct_X11_worth (a_t := a_t) (AO_call [0, 4] ao (by decide) rfl) (FA_call [0, 4] ao.1 rfl rfl) ok_t_line ok_v2 hy25) e_X11_meet_231 (ao.2 0 _ rfl) (ov_get 0 ao.1 rfl rfl) rfl rfl rfl (Nat.le_of_ble_eq_true rfl) ⟨Nat.le_refl _, Nat.le_refl _⟩ (fun Py25 => ?_)
    refine g_iadd e_X11_meet_234 ?_
    obtain ⟨hc26, hs⟩ := chk_elim hs
    refine g_icmp_lt e_X11_meet_235 Py23 hc26 hs (fun c235 hs => ?_) (fun c235 hs => ?_)
    · refine g_iconst e_X11_meet_240 ?_
      refine g_istore e_X11_meet_241 st1_6 rfl ?_
      exact g_mask [true, true, true, true, false, true, true] (g_X11_meet_243 ao ok_t_lines ok_t_isGone ok_t_start ok_t_goal ok_t_sum3 ok_v1 ok_v2 Py23 (hk_273 := by
      intro t_line' v6' ok_t_line' ok_v6' hs
      exact g_X11_meet_273 ao ok_t_lines ok_t_isGone ok_t_start ok_t_goal ok_t_line' ok_t_sum3 ok_v1 ok_v2 Py23 hs) FU _ _ ok_t_line (by decide : inI 0) hs)
    · refine g_iconst e_X11_meet_238 ?_
      obtain rfl := Option.some.inj hs
      exact g_iret rfl ⟨(by decide : inI 0), ok_t_isGone, ok_t_line, ok_t_sum3⟩ e_X11_meet_239

noncomputable def m_X11_meet_95 (t_isGone : Nat → Int) (t_line : Nat → Int) (t_sum3 : Nat → Int) (v1 : Int) (v2 : Int) (v3 : Int) : Option (Int × (Nat → Int) × (Nat → Int) × (Nat → Int)) :=
  m_X11_meet_101 t_line v1 v2 v3 (fun t_sum3' v4' v5' => m_X11_meet_191 t_isGone t_line t_sum3' v1 v2 v4') FU t_sum3 1 0

set_option maxRecDepth 10000 in
set_option maxHeartbeats 8000000 in
theorem g_X11_meet_95 {l : Launch} {E : EE} {b0 n : Nat} {h : AH} {a_t : Nat} {t_thrown t_taped t_p t_fault t_baseLow t_baseHigh t_newBaseLow t_newBaseHigh t_from t_knots t_lines t_chosen t_undos t_redos t_aimedMany t_fits t_fitOf t_sights t_systems t_own t_cross t_curveLong t_wallFirst v1 v2 v3 : Int} {t_isGone t_start t_goal t_line t_sum3 : Nat → Int} {r : Int × (Nat → Int) × (Nat → Int) × (Nat → Int)} (ao : AO b0 n [a_t, (a_t + 15), (a_t + 16), (a_t + 17), (a_t + 18), (a_t + 19)]) (ok_t_lines : inI t_lines) (ok_t_isGone : okZ t_isGone) (ok_t_start : okA t_start) (ok_t_goal : okA t_goal) (ok_t_line : okA t_line) (ok_t_sum3 : okA t_sum3) (ok_v1 : inI v1) (ok_v2 : inI v2) (ok_v3 : inZ v3) (hs : m_X11_meet_95 t_isGone t_line t_sum3 v1 v2 v3 = some r) : G l E b0 M_X11_meet (fun _ => True) (ZM E b0 (some (vI r.1)) (ov [a_t, (a_t + 15), (a_t + 16), (a_t + 17), (a_t + 18), (a_t + 19)] [.inr (11, fsX11 a_t t_thrown t_taped t_p t_fault t_baseLow t_baseHigh t_newBaseLow t_newBaseHigh t_from t_knots t_lines t_chosen t_undos t_redos t_aimedMany t_fits t_fitOf t_sights t_systems t_own t_cross t_curveLong t_wallFirst), ZA E 120 r.2.1, IA E 120 t_start, IA E 120 t_goal, IA E 360 r.2.2.1, IA E 3 r.2.2.2] h) n (inI r.1 ∧ okZ r.2.1 ∧ okA r.2.2.1 ∧ okA r.2.2.2) 0 0) 0 0 n (ov [a_t, (a_t + 15), (a_t + 16), (a_t + 17), (a_t + 18), (a_t + 19)] [.inr (11, fsX11 a_t t_thrown t_taped t_p t_fault t_baseLow t_baseHigh t_newBaseLow t_newBaseHigh t_from t_knots t_lines t_chosen t_undos t_redos t_aimedMany t_fits t_fitOf t_sights t_systems t_own t_cross t_curveLong t_wallFirst), ZA E 120 t_isGone, IA E 120 t_start, IA E 120 t_goal, IA E 360 t_line, IA E 3 t_sum3] h) 95 [some (.ref a_t), some (vI v1), some (vI v2), some (vI v3), none, none, none] [] := by
  rw [m_X11_meet_95] at hs
  refine g_iconst e_X11_meet_95 ?_
  refine g_istore e_X11_meet_96 st1_4 rfl ?_
  refine g_iconst e_X11_meet_98 ?_
  refine g_istore e_X11_meet_99 st1_5 rfl ?_
  exact g_X11_meet_101 ao ok_t_lines ok_t_isGone ok_t_start ok_t_goal ok_t_line ok_v1 ok_v2 ok_v3 (hk_191 := by
      intro t_sum3' v4' v5' ok_t_sum3' ok_v4' ok_v5' hs
      exact g_X11_meet_191 ao ok_t_lines ok_t_isGone ok_t_start ok_t_goal ok_t_line ok_t_sum3' ok_v1 ok_v2 ok_v4' hs) FU _ _ _ ok_t_sum3 (by decide : inZ 1) (by decide : inI 0) hs

noncomputable def m_X11_meet_58 (t_isGone : Nat → Int) (t_start : Nat → Int) (t_goal : Nat → Int) (t_line : Nat → Int) (t_sum3 : Nat → Int) (v1 : Int) (v2 : Int) (s0 : Int) : Option (Int × (Nat → Int) × (Nat → Int) × (Nat → Int)) :=
  if s0 = 0 then (chk (inB v1 120) (chk (inB v2 120) (if (t_start (Int.toNat v1)) = (t_goal (Int.toNat v2)) then (chk (inB v1 120) (chk (inB v2 120) (if (t_goal (Int.toNat v1)) = (t_start (Int.toNat v2)) then (m_X11_meet_95 t_isGone t_line t_sum3 v1 v2 s0) else (some ((-1), t_isGone, t_line, t_sum3))))) else (some ((-1), t_isGone, t_line, t_sum3))))) else (m_X11_meet_95 t_isGone t_line t_sum3 v1 v2 s0)

set_option maxRecDepth 10000 in
set_option maxHeartbeats 8000000 in
theorem g_X11_meet_58 {l : Launch} {E : EE} {b0 n : Nat} {h : AH} {a_t : Nat} {t_thrown t_taped t_p t_fault t_baseLow t_baseHigh t_newBaseLow t_newBaseHigh t_from t_knots t_lines t_chosen t_undos t_redos t_aimedMany t_fits t_fitOf t_sights t_systems t_own t_cross t_curveLong t_wallFirst v1 v2 s0 : Int} {t_isGone t_start t_goal t_line t_sum3 : Nat → Int} {r : Int × (Nat → Int) × (Nat → Int) × (Nat → Int)} (ao : AO b0 n [a_t, (a_t + 15), (a_t + 16), (a_t + 17), (a_t + 18), (a_t + 19)]) (ok_t_lines : inI t_lines) (ok_t_isGone : okZ t_isGone) (ok_t_start : okA t_start) (ok_t_goal : okA t_goal) (ok_t_line : okA t_line) (ok_t_sum3 : okA t_sum3) (ok_v1 : inI v1) (ok_v2 : inI v2) (ok_s0 : inZ s0) (hs : m_X11_meet_58 t_isGone t_start t_goal t_line t_sum3 v1 v2 s0 = some r) : G l E b0 M_X11_meet (fun _ => True) (ZM E b0 (some (vI r.1)) (ov [a_t, (a_t + 15), (a_t + 16), (a_t + 17), (a_t + 18), (a_t + 19)] [.inr (11, fsX11 a_t t_thrown t_taped t_p t_fault t_baseLow t_baseHigh t_newBaseLow t_newBaseHigh t_from t_knots t_lines t_chosen t_undos t_redos t_aimedMany t_fits t_fitOf t_sights t_systems t_own t_cross t_curveLong t_wallFirst), ZA E 120 r.2.1, IA E 120 t_start, IA E 120 t_goal, IA E 360 r.2.2.1, IA E 3 r.2.2.2] h) n (inI r.1 ∧ okZ r.2.1 ∧ okA r.2.2.1 ∧ okA r.2.2.2) 0 0) 0 0 n (ov [a_t, (a_t + 15), (a_t + 16), (a_t + 17), (a_t + 18), (a_t + 19)] [.inr (11, fsX11 a_t t_thrown t_taped t_p t_fault t_baseLow t_baseHigh t_newBaseLow t_newBaseHigh t_from t_knots t_lines t_chosen t_undos t_redos t_aimedMany t_fits t_fitOf t_sights t_systems t_own t_cross t_curveLong t_wallFirst), ZA E 120 t_isGone, IA E 120 t_start, IA E 120 t_goal, IA E 360 t_line, IA E 3 t_sum3] h) 58 [some (.ref a_t), some (vI v1), some (vI v2), none, none, none, none] [vI s0] := by
  rw [m_X11_meet_58] at hs
  refine g_istore_n e_X11_meet_58 st1_3 rfl ?_
  refine g_iload_n e_X11_meet_59 rfl ?_
  refine g_if_ne e_X11_meet_60 (inZ_I ok_s0) hs (fun c60 hs => ?_) (fun c60 hs => ?_)
  · refine g_aload_n e_X11_meet_63 rfl ?_
    refine g_get 0 26 ao rfl rfl fsX11_g26 fl_X11_57 e_X11_meet_64 ?_
    refine g_iload_n e_X11_meet_67 rfl ?_
    refine g_iald 2 ao rfl rfl (Nat.le_of_ble_eq_true rfl) e_X11_meet_68 hs (fun hi7 hs => ?_)
    refine g_aload_n e_X11_meet_69 rfl ?_
    refine g_get 0 27 ao rfl rfl fsX11_g27 fl_X11_60 e_X11_meet_70 ?_
    refine g_iload_n e_X11_meet_73 rfl ?_
    refine g_iald 3 ao rfl rfl (Nat.le_of_ble_eq_true rfl) e_X11_meet_74 hs (fun hi8 hs => ?_)
    refine g_icmp_ne e_X11_meet_75 (ok_t_start _) (ok_t_goal _) hs (fun c75 hs => ?_) (fun c75 hs => ?_)
    · refine g_aload_n e_X11_meet_78 rfl ?_
      refine g_get 0 27 ao rfl rfl fsX11_g27 fl_X11_60 e_X11_meet_79 ?_
      refine g_iload_n e_X11_meet_82 rfl ?_
      refine g_iald 3 ao rfl rfl (Nat.le_of_ble_eq_true rfl) e_X11_meet_83 hs (fun hi9 hs => ?_)
      refine g_aload_n e_X11_meet_84 rfl ?_
      refine g_get 0 26 ao rfl rfl fsX11_g26 fl_X11_57 e_X11_meet_85 ?_
      refine g_iload_n e_X11_meet_88 rfl ?_
      refine g_iald 2 ao rfl rfl (Nat.le_of_ble_eq_true rfl) e_X11_meet_89 hs (fun hi10 hs => ?_)
      refine g_icmp_eq e_X11_meet_90 (ok_t_goal _) (ok_t_start _) hs (fun c90 hs => ?_) (fun c90 hs => ?_)
      · exact g_X11_meet_95 ao ok_t_lines ok_t_isGone ok_t_start ok_t_goal ok_t_line ok_t_sum3 ok_v1 ok_v2 ok_s0 hs
      · refine g_iconst e_X11_meet_93 ?_
        obtain rfl := Option.some.inj hs
        exact g_iret rfl ⟨(by decide : inI (-1)), ok_t_isGone, ok_t_line, ok_t_sum3⟩ e_X11_meet_94
    · refine g_iconst e_X11_meet_93 ?_
      obtain rfl := Option.some.inj hs
      exact g_iret rfl ⟨(by decide : inI (-1)), ok_t_isGone, ok_t_line, ok_t_sum3⟩ e_X11_meet_94
  · exact g_X11_meet_95 ao ok_t_lines ok_t_isGone ok_t_start ok_t_goal ok_t_line ok_t_sum3 ok_v1 ok_v2 ok_s0 hs

noncomputable def m_X11_meet_57 (t_isGone : Nat → Int) (t_start : Nat → Int) (t_goal : Nat → Int) (t_line : Nat → Int) (t_sum3 : Nat → Int) (v1 : Int) (v2 : Int) : Option (Int × (Nat → Int) × (Nat → Int) × (Nat → Int)) :=
  m_X11_meet_58 t_isGone t_start t_goal t_line t_sum3 v1 v2 0

set_option maxRecDepth 10000 in
set_option maxHeartbeats 8000000 in
theorem g_X11_meet_57 {l : Launch} {E : EE} {b0 n : Nat} {h : AH} {a_t : Nat} {t_thrown t_taped t_p t_fault t_baseLow t_baseHigh t_newBaseLow t_newBaseHigh t_from t_knots t_lines t_chosen t_undos t_redos t_aimedMany t_fits t_fitOf t_sights t_systems t_own t_cross t_curveLong t_wallFirst v1 v2 : Int} {t_isGone t_start t_goal t_line t_sum3 : Nat → Int} {r : Int × (Nat → Int) × (Nat → Int) × (Nat → Int)} (ao : AO b0 n [a_t, (a_t + 15), (a_t + 16), (a_t + 17), (a_t + 18), (a_t + 19)]) (ok_t_lines : inI t_lines) (ok_t_isGone : okZ t_isGone) (ok_t_start : okA t_start) (ok_t_goal : okA t_goal) (ok_t_line : okA t_line) (ok_t_sum3 : okA t_sum3) (ok_v1 : inI v1) (ok_v2 : inI v2) (hs : m_X11_meet_57 t_isGone t_start t_goal t_line t_sum3 v1 v2 = some r) : G l E b0 M_X11_meet (fun _ => True) (ZM E b0 (some (vI r.1)) (ov [a_t, (a_t + 15), (a_t + 16), (a_t + 17), (a_t + 18), (a_t + 19)] [.inr (11, fsX11 a_t t_thrown t_taped t_p t_fault t_baseLow t_baseHigh t_newBaseLow t_newBaseHigh t_from t_knots t_lines t_chosen t_undos t_redos t_aimedMany t_fits t_fitOf t_sights t_systems t_own t_cross t_curveLong t_wallFirst), ZA E 120 r.2.1, IA E 120 t_start, IA E 120 t_goal, IA E 360 r.2.2.1, IA E 3 r.2.2.2] h) n (inI r.1 ∧ okZ r.2.1 ∧ okA r.2.2.1 ∧ okA r.2.2.2) 0 0) 0 0 n (ov [a_t, (a_t + 15), (a_t + 16), (a_t + 17), (a_t + 18), (a_t + 19)] [.inr (11, fsX11 a_t t_thrown t_taped t_p t_fault t_baseLow t_baseHigh t_newBaseLow t_newBaseHigh t_from t_knots t_lines t_chosen t_undos t_redos t_aimedMany t_fits t_fitOf t_sights t_systems t_own t_cross t_curveLong t_wallFirst), ZA E 120 t_isGone, IA E 120 t_start, IA E 120 t_goal, IA E 360 t_line, IA E 3 t_sum3] h) 57 [some (.ref a_t), some (vI v1), some (vI v2), none, none, none, none] [] := by
  rw [m_X11_meet_57] at hs
  refine g_iconst e_X11_meet_57 ?_
  exact g_X11_meet_58 ao ok_t_lines ok_t_isGone ok_t_start ok_t_goal ok_t_line ok_t_sum3 ok_v1 ok_v2 (by decide : inZ 0) hs

noncomputable def m_X11_meet_0 (t_lines : Int) (t_isGone : Nat → Int) (t_start : Nat → Int) (t_goal : Nat → Int) (t_line : Nat → Int) (t_sum3 : Nat → Int) (v1 : Int) (v2 : Int) : Option (Int × (Nat → Int) × (Nat → Int) × (Nat → Int)) :=
  (m_X11_isLine t_lines t_isGone v1).bind (fun y1 => if y1 = 0 then (some ((-1), t_isGone, t_line, t_sum3)) else ((m_X11_isLine t_lines t_isGone v2).bind (fun y2 => if y2 = 0 then (some ((-1), t_isGone, t_line, t_sum3)) else (if v1 = v2 then (some ((-1), t_isGone, t_line, t_sum3)) else (chk (inB v1 120) (chk (inB v2 120) (if (t_start (Int.toNat v1)) = (t_start (Int.toNat v2)) then (chk (inB v1 120) (chk (inB v2 120) (if (t_goal (Int.toNat v1)) = (t_goal (Int.toNat v2)) then (m_X11_meet_58 t_isGone t_start t_goal t_line t_sum3 v1 v2 1) else (m_X11_meet_57 t_isGone t_start t_goal t_line t_sum3 v1 v2)))) else (m_X11_meet_57 t_isGone t_start t_goal t_line t_sum3 v1 v2))))))))

set_option maxRecDepth 10000 in
set_option maxHeartbeats 8000000 in
theorem g_X11_meet_0 {l : Launch} {E : EE} {b0 n : Nat} {h : AH} {a_t : Nat} {t_thrown t_taped t_p t_fault t_baseLow t_baseHigh t_newBaseLow t_newBaseHigh t_from t_knots t_lines t_chosen t_undos t_redos t_aimedMany t_fits t_fitOf t_sights t_systems t_own t_cross t_curveLong t_wallFirst v1 v2 : Int} {t_isGone t_start t_goal t_line t_sum3 : Nat → Int} {r : Int × (Nat → Int) × (Nat → Int) × (Nat → Int)} (ao : AO b0 n [a_t, (a_t + 15), (a_t + 16), (a_t + 17), (a_t + 18), (a_t + 19)]) (ok_t_lines : inI t_lines) (ok_t_isGone : okZ t_isGone) (ok_t_start : okA t_start) (ok_t_goal : okA t_goal) (ok_t_line : okA t_line) (ok_t_sum3 : okA t_sum3) (ok_v1 : inI v1) (ok_v2 : inI v2) (hs : m_X11_meet_0 t_lines t_isGone t_start t_goal t_line t_sum3 v1 v2 = some r) : G l E b0 M_X11_meet (fun _ => True) (ZM E b0 (some (vI r.1)) (ov [a_t, (a_t + 15), (a_t + 16), (a_t + 17), (a_t + 18), (a_t + 19)] [.inr (11, fsX11 a_t t_thrown t_taped t_p t_fault t_baseLow t_baseHigh t_newBaseLow t_newBaseHigh t_from t_knots t_lines t_chosen t_undos t_redos t_aimedMany t_fits t_fitOf t_sights t_systems t_own t_cross t_curveLong t_wallFirst), ZA E 120 r.2.1, IA E 120 t_start, IA E 120 t_goal, IA E 360 r.2.2.1, IA E 3 r.2.2.2] h) n (inI r.1 ∧ okZ r.2.1 ∧ okA r.2.2.1 ∧ okA r.2.2.2) 0 0) 0 0 n (ov [a_t, (a_t + 15), (a_t + 16), (a_t + 17), (a_t + 18), (a_t + 19)] [.inr (11, fsX11 a_t t_thrown t_taped t_p t_fault t_baseLow t_baseHigh t_newBaseLow t_newBaseHigh t_from t_knots t_lines t_chosen t_undos t_redos t_aimedMany t_fits t_fitOf t_sights t_systems t_own t_cross t_curveLong t_wallFirst), ZA E 120 t_isGone, IA E 120 t_start, IA E 120 t_goal, IA E 360 t_line, IA E 3 t_sum3] h) 0 [some (.ref a_t), some (vI v1), some (vI v2), none, none, none, none] [] := by
  rw [m_X11_meet_0] at hs
  refine g_aload_n e_X11_meet_0 rfl ?_
  refine g_iload_n e_X11_meet_1 rfl ?_
  obtain ⟨y1, hy1, hs⟩ := bind_elim hs
  refine g_callVr [vI v1] cv_X11_285 ⟨rfl, rfl, Nat.le_of_ble_eq_true rfl, Nat.le_of_ble_eq_true rfl⟩ (ct_X11_isLine (a_t := a_t) (AO_call [0, 1] ao (by decide) rfl) (FA_call [0, 1] ao.1 rfl rfl) ok_t_lines ok_t_isGone ok_v1 hy1) e_X11_meet_2 (ao.2 0 _ rfl) (ov_get 0 ao.1 rfl rfl) rfl rfl rfl (Nat.le_of_ble_eq_true rfl) ⟨Nat.le_refl _, Nat.le_refl _⟩ (fun Py1 => ?_)
  refine g_if_eq e_X11_meet_5 (inZ_I Py1) hs (fun c5 hs => ?_) (fun c5 hs => ?_)
  · refine g_iconst e_X11_meet_21 ?_
    obtain rfl := Option.some.inj hs
    exact g_iret rfl ⟨(by decide : inI (-1)), ok_t_isGone, ok_t_line, ok_t_sum3⟩ e_X11_meet_22
  · refine g_aload_n e_X11_meet_8 rfl ?_
    refine g_iload_n e_X11_meet_9 rfl ?_
    obtain ⟨y2, hy2, hs⟩ := bind_elim hs
    refine g_callVr [vI v2] cv_X11_285 ⟨rfl, rfl, Nat.le_of_ble_eq_true rfl, Nat.le_of_ble_eq_true rfl⟩ (ct_X11_isLine (a_t := a_t) (AO_call [0, 1] ao (by decide) rfl) (FA_call [0, 1] ao.1 rfl rfl) ok_t_lines ok_t_isGone ok_v2 hy2) e_X11_meet_10 (ao.2 0 _ rfl) (ov_get 0 ao.1 rfl rfl) rfl rfl rfl (Nat.le_of_ble_eq_true rfl) ⟨Nat.le_refl _, Nat.le_refl _⟩ (fun Py2 => ?_)
    refine g_if_eq e_X11_meet_13 (inZ_I Py2) hs (fun c13 hs => ?_) (fun c13 hs => ?_)
    · refine g_iconst e_X11_meet_21 ?_
      obtain rfl := Option.some.inj hs
      exact g_iret rfl ⟨(by decide : inI (-1)), ok_t_isGone, ok_t_line, ok_t_sum3⟩ e_X11_meet_22
    · refine g_iload_n e_X11_meet_16 rfl ?_
      refine g_iload_n e_X11_meet_17 rfl ?_
      refine g_icmp_ne e_X11_meet_18 ok_v1 ok_v2 hs (fun c18 hs => ?_) (fun c18 hs => ?_)
      · refine g_iconst e_X11_meet_21 ?_
        obtain rfl := Option.some.inj hs
        exact g_iret rfl ⟨(by decide : inI (-1)), ok_t_isGone, ok_t_line, ok_t_sum3⟩ e_X11_meet_22
      · refine g_aload_n e_X11_meet_23 rfl ?_
        refine g_get 0 26 ao rfl rfl fsX11_g26 fl_X11_57 e_X11_meet_24 ?_
        refine g_iload_n e_X11_meet_27 rfl ?_
        refine g_iald 2 ao rfl rfl (Nat.le_of_ble_eq_true rfl) e_X11_meet_28 hs (fun hi3 hs => ?_)
        refine g_aload_n e_X11_meet_29 rfl ?_
        refine g_get 0 26 ao rfl rfl fsX11_g26 fl_X11_57 e_X11_meet_30 ?_
        refine g_iload_n e_X11_meet_33 rfl ?_
        refine g_iald 2 ao rfl rfl (Nat.le_of_ble_eq_true rfl) e_X11_meet_34 hs (fun hi4 hs => ?_)
        refine g_icmp_ne e_X11_meet_35 (ok_t_start _) (ok_t_start _) hs (fun c35 hs => ?_) (fun c35 hs => ?_)
        · refine g_aload_n e_X11_meet_38 rfl ?_
          refine g_get 0 27 ao rfl rfl fsX11_g27 fl_X11_60 e_X11_meet_39 ?_
          refine g_iload_n e_X11_meet_42 rfl ?_
          refine g_iald 3 ao rfl rfl (Nat.le_of_ble_eq_true rfl) e_X11_meet_43 hs (fun hi5 hs => ?_)
          refine g_aload_n e_X11_meet_44 rfl ?_
          refine g_get 0 27 ao rfl rfl fsX11_g27 fl_X11_60 e_X11_meet_45 ?_
          refine g_iload_n e_X11_meet_48 rfl ?_
          refine g_iald 3 ao rfl rfl (Nat.le_of_ble_eq_true rfl) e_X11_meet_49 hs (fun hi6 hs => ?_)
          refine g_icmp_ne e_X11_meet_50 (ok_t_goal _) (ok_t_goal _) hs (fun c50 hs => ?_) (fun c50 hs => ?_)
          · refine g_iconst e_X11_meet_53 ?_
            refine g_goto e_X11_meet_54 ?_
            exact g_X11_meet_58 ao ok_t_lines ok_t_isGone ok_t_start ok_t_goal ok_t_line ok_t_sum3 ok_v1 ok_v2 (by decide : inZ 1) hs
          · exact g_X11_meet_57 ao ok_t_lines ok_t_isGone ok_t_start ok_t_goal ok_t_line ok_t_sum3 ok_v1 ok_v2 hs
        · exact g_X11_meet_57 ao ok_t_lines ok_t_isGone ok_t_start ok_t_goal ok_t_line ok_t_sum3 ok_v1 ok_v2 hs

noncomputable def m_X11_meet (t_lines : Int) (t_isGone : Nat → Int) (t_start : Nat → Int) (t_goal : Nat → Int) (t_line : Nat → Int) (t_sum3 : Nat → Int) (v1 : Int) (v2 : Int) : Option (Int × (Nat → Int) × (Nat → Int) × (Nat → Int)) := m_X11_meet_0 t_lines t_isGone t_start t_goal t_line t_sum3 v1 v2

set_option maxRecDepth 10000 in
set_option maxHeartbeats 8000000 in
theorem ct_X11_meet {l : Launch} {E : EE} {b0 n : Nat} {h : AH} {a_t : Nat} {t_thrown t_taped t_p t_fault t_baseLow t_baseHigh t_newBaseLow t_newBaseHigh t_from t_knots t_lines t_chosen t_undos t_redos t_aimedMany t_fits t_fitOf t_sights t_systems t_own t_cross t_curveLong t_wallFirst : Int} {t_isGone t_start t_goal t_line t_sum3 : Nat → Int} {v1 v2 : Int} (ao : AO b0 n [a_t, (a_t + 15), (a_t + 16), (a_t + 17), (a_t + 18), (a_t + 19)]) (hf : FA h [a_t, (a_t + 15), (a_t + 16), (a_t + 17), (a_t + 18), (a_t + 19)] [.inr (11, fsX11 a_t t_thrown t_taped t_p t_fault t_baseLow t_baseHigh t_newBaseLow t_newBaseHigh t_from t_knots t_lines t_chosen t_undos t_redos t_aimedMany t_fits t_fitOf t_sights t_systems t_own t_cross t_curveLong t_wallFirst), ZA E 120 t_isGone, IA E 120 t_start, IA E 120 t_goal, IA E 360 t_line, IA E 3 t_sum3]) (ok_t_lines : inI t_lines) (ok_t_isGone : okZ t_isGone) (ok_t_start : okA t_start) (ok_t_goal : okA t_goal) (ok_t_line : okA t_line) (ok_t_sum3 : okA t_sum3) (ok_v1 : inI v1) (ok_v2 : inI v2) {r : Int × (Nat → Int) × (Nat → Int) × (Nat → Int)} (hm : m_X11_meet t_lines t_isGone t_start t_goal t_line t_sum3 v1 v2 = some r) : Ct l E b0 M_X11_meet 0 0 [.ref a_t, vI v1, vI v2] h n (some (vI r.1)) (ov [a_t, (a_t + 15), (a_t + 16), (a_t + 17), (a_t + 18), (a_t + 19)] [.inr (11, fsX11 a_t t_thrown t_taped t_p t_fault t_baseLow t_baseHigh t_newBaseLow t_newBaseHigh t_from t_knots t_lines t_chosen t_undos t_redos t_aimedMany t_fits t_fitOf t_sights t_systems t_own t_cross t_curveLong t_wallFirst), ZA E 120 r.2.1, IA E 120 t_start, IA E 120 t_goal, IA E 360 r.2.2.1, IA E 3 r.2.2.2] h) n (inI r.1 ∧ okZ r.2.1 ∧ okA r.2.2.1 ∧ okA r.2.2.2) := by
  rw [m_X11_meet] at hm
  have hg : G l E b0 M_X11_meet (fun _ => True) (ZM E b0 (some (vI r.1)) (ov [a_t, (a_t + 15), (a_t + 16), (a_t + 17), (a_t + 18), (a_t + 19)] [.inr (11, fsX11 a_t t_thrown t_taped t_p t_fault t_baseLow t_baseHigh t_newBaseLow t_newBaseHigh t_from t_knots t_lines t_chosen t_undos t_redos t_aimedMany t_fits t_fitOf t_sights t_systems t_own t_cross t_curveLong t_wallFirst), ZA E 120 r.2.1, IA E 120 t_start, IA E 120 t_goal, IA E 360 r.2.2.1, IA E 3 r.2.2.2] h) n (inI r.1 ∧ okZ r.2.1 ∧ okA r.2.2.1 ∧ okA r.2.2.2) 0 0) 0 0 n (ov [a_t, (a_t + 15), (a_t + 16), (a_t + 17), (a_t + 18), (a_t + 19)] [.inr (11, fsX11 a_t t_thrown t_taped t_p t_fault t_baseLow t_baseHigh t_newBaseLow t_newBaseHigh t_from t_knots t_lines t_chosen t_undos t_redos t_aimedMany t_fits t_fitOf t_sights t_systems t_own t_cross t_curveLong t_wallFirst), ZA E 120 t_isGone, IA E 120 t_start, IA E 120 t_goal, IA E 360 t_line, IA E 3 t_sum3] h) 0 [some (.ref a_t), some (vI v1), some (vI v2), none, none, none, none] [] := by
    have hs := hm
    exact g_X11_meet_0 ao ok_t_lines ok_t_isGone ok_t_start ok_t_goal ok_t_line ok_t_sum3 ok_v1 ok_v2 hs
  rw [FA_id hf] at hg
  exact Ct_of [some (.ref a_t), some (vI v1), some (vI v2), none, none, none, none] ⟨by decide +kernel, rfl⟩ rfl (Nat.le_of_ble_eq_true rfl) hg


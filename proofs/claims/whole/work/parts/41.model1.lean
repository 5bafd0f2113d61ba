def M_X11_isStep : MB := (yX11_isStep, cX11_isStep, 9, (some .boolean), ({ frames := 1, cells := 0, slots := 0, locals := 40 } : Room), RX11)
def M_X11_part : MB := (yX11_part, cX11_part, 11, (some .int), ({ frames := 3, cells := 0, slots := 0, locals := 83 } : Room), RX11)
def M_X11_costOf : MB := (yX11_costOf, cX11_costOf, 10, (some .int), ({ frames := 2, cells := 0, slots := 0, locals := 68 } : Room), RX11)
def M_X11_group : MB := (yX11_group, cX11_group, 2, (some .int), ({ frames := 2, cells := 0, slots := 0, locals := 62 } : Room), RX11)
def M_X11_isPull : MB := (yX11_isPull, cX11_isPull, 3, (some .boolean), ({ frames := 2, cells := 0, slots := 0, locals := 62 } : Room), RX11)
def M_X11_along : MB := (yX11_along, cX11_along, 7, (some .int), ({ frames := 1, cells := 0, slots := 0, locals := 40 } : Room), RX11)
def M_X11_squareOf : MB := (yX11_squareOf, cX11_squareOf, 4, (some .int), ({ frames := 2, cells := 0, slots := 0, locals := 62 } : Room), RX11)
def M_X11_isIn : MB := (yX11_isIn, cX11_isIn, 3, (some .boolean), ({ frames := 3, cells := 0, slots := 0, locals := 84 } : Room), RX11)
def M_X11_above : MB := (yX11_above, cX11_above, 8, (some .long), ({ frames := 2, cells := 0, slots := 0, locals := 66 } : Room), RX11)
def M_X11_below : MB := (yX11_below, cX11_below, 8, (some .long), ({ frames := 3, cells := 0, slots := 0, locals := 85 } : Room), RX11)
def M_X11_share : MB := (yX11_share, cX11_share, 17, (some .long), ({ frames := 4, cells := 0, slots := 0, locals := 112 } : Room), RX11)
def M_X11_slides : MB := (yX11_slides, cX11_slides, 8, (some .int), ({ frames := 4, cells := 0, slots := 0, locals := 112 } : Room), RX11)
def M_X11_compares : MB := (yX11_compares, cX11_compares, 10, (some .int), ({ frames := 3, cells := 0, slots := 0, locals := 93 } : Room), RX11)
def M_X11_first : MB := (yX11_first, cX11_first, 9, (some .int), ({ frames := 4, cells := 0, slots := 0, locals := 122 } : Room), RX11)
def M_X11_takes : MB := (yX11_takes, cX11_takes, 6, none, ({ frames := 1, cells := 0, slots := 0, locals := 40 } : Room), RX11)
def M_X11_keeps : MB := (yX11_keeps, cX11_keeps, 6, none, ({ frames := 1, cells := 0, slots := 0, locals := 40 } : Room), RX11)
def M_X11_pushesAsRead : MB := (yX11_pushesAsRead, cX11_pushesAsRead, 2, none, ({ frames := 1, cells := 0, slots := 0, locals := 40 } : Room), RX11)
def M_X11_flaws : MB := (yX11_flaws, cX11_flaws, 3, (some .int), ({ frames := 1, cells := 0, slots := 0, locals := 40 } : Room), RX11)
def M_X11_feels : MB := (yX11_feels, cX11_feels, 6, (some .int), ({ frames := 1, cells := 0, slots := 0, locals := 40 } : Room), RX11)
def M_X11_goes : MB := (yX11_goes, cX11_goes, 6, (some .boolean), ({ frames := 1, cells := 0, slots := 0, locals := 40 } : Room), RX11)
def M_X11_tick : MB := (yX11_tick, cX11_tick, 10, (some .boolean), ({ frames := 2, cells := 0, slots := 0, locals := 65 } : Room), RX11)
theorem cb_X11_above : CB M_X11_above 5 := ⟨GW_of 1837 (by decide +kernel) (by decide +kernel), GW_of 96 (by decide +kernel) (by decide +kernel), by decide +kernel, by decide +kernel, by decide +kernel⟩
theorem cb_X11_along : CB M_X11_along 5 := ⟨GW_of 1832 (by decide +kernel) (by decide +kernel), GW_of 96 (by decide +kernel) (by decide +kernel), by decide +kernel, by decide +kernel, by decide +kernel⟩
theorem cb_X11_below : CB M_X11_below 5 := ⟨GW_of 1841 (by decide +kernel) (by decide +kernel), GW_of 96 (by decide +kernel) (by decide +kernel), by decide +kernel, by decide +kernel, by decide +kernel⟩
theorem cb_X11_compares : CB M_X11_compares 5 := ⟨GW_of 1857 (by decide +kernel) (by decide +kernel), GW_of 96 (by decide +kernel) (by decide +kernel), by decide +kernel, by decide +kernel, by decide +kernel⟩
theorem cb_X11_feels : CB M_X11_feels 3 := ⟨GW_of 1909 (by decide +kernel) (by decide +kernel), GW_of 96 (by decide +kernel) (by decide +kernel), by decide +kernel, by decide +kernel, by decide +kernel⟩
theorem cb_X11_flaws : CB M_X11_flaws 0 := ⟨GW_of 1893 (by decide +kernel) (by decide +kernel), GW_of 96 (by decide +kernel) (by decide +kernel), by decide +kernel, by decide +kernel, by decide +kernel⟩
theorem cb_X11_goes : CB M_X11_goes 2 := ⟨GW_of 1937 (by decide +kernel) (by decide +kernel), GW_of 96 (by decide +kernel) (by decide +kernel), by decide +kernel, by decide +kernel, by decide +kernel⟩
theorem cb_X11_isIn : CB M_X11_isIn 2 := ⟨GW_of 1828 (by decide +kernel) (by decide +kernel), GW_of 96 (by decide +kernel) (by decide +kernel), by decide +kernel, by decide +kernel, by decide +kernel⟩
theorem cb_X11_isPull : CB M_X11_isPull 3 := ⟨GW_of 1824 (by decide +kernel) (by decide +kernel), GW_of 96 (by decide +kernel) (by decide +kernel), by decide +kernel, by decide +kernel, by decide +kernel⟩
theorem cb_X11_isStep : CB M_X11_isStep 3 := ⟨GW_of 1804 (by decide +kernel) (by decide +kernel), GW_of 96 (by decide +kernel) (by decide +kernel), by decide +kernel, by decide +kernel, by decide +kernel⟩
theorem cb_X11_lineIn : CB M_X11_lineIn 5 := ⟨GW_of 1764 (by decide +kernel) (by decide +kernel), GW_of 96 (by decide +kernel) (by decide +kernel), by decide +kernel, by decide +kernel, by decide +kernel⟩
theorem cb_X11_squareOf : CB M_X11_squareOf 2 := ⟨GW_of 1845 (by decide +kernel) (by decide +kernel), GW_of 96 (by decide +kernel) (by decide +kernel), by decide +kernel, by decide +kernel, by decide +kernel⟩
theorem k_X11_317 : Cond.constantLong RX11 317 (Int64.ofInt (-1)) ∈ GW := GW_of 1833 (by decide +kernel) (by decide +kernel)
theorem k_X11_329 : Cond.constantLong RX11 329 (Int64.ofInt (2)) ∈ GW := GW_of 1938 (by decide +kernel) (by decide +kernel)
theorem fl_X11_69 : FL RX11 69 11 31 := ⟨RX11, TX11, 71, rfl, by decide, rfl, Or.inl (GW_of 1473 (by decide +kernel) (by decide +kernel))⟩
theorem fl_X11_302 : FL RX11 302 11 30 := ⟨RX11, TX11, 71, rfl, by decide, rfl, Or.inl (GW_of 1472 (by decide +kernel) (by decide +kernel))⟩
theorem fl_X11_78 : FL RX11 78 11 34 := ⟨RX11, TX11, 71, rfl, by decide, rfl, Or.inl (GW_of 1476 (by decide +kernel) (by decide +kernel))⟩
theorem fl_X11_81 : FL RX11 81 11 35 := ⟨RX11, TX11, 71, rfl, by decide, rfl, Or.inl (GW_of 1477 (by decide +kernel) (by decide +kernel))⟩
theorem fl_X11_93 : FL RX11 93 11 39 := ⟨RX11, TX11, 71, rfl, by decide, rfl, Or.inl (GW_of 1481 (by decide +kernel) (by decide +kernel))⟩
theorem fl_X11_90 : FL RX11 90 11 38 := ⟨RX11, TX11, 71, rfl, by decide, rfl, Or.inl (GW_of 1480 (by decide +kernel) (by decide +kernel))⟩
theorem fl_X11_84 : FL RX11 84 11 36 := ⟨RX11, TX11, 71, rfl, by decide, rfl, Or.inl (GW_of 1478 (by decide +kernel) (by decide +kernel))⟩
theorem fl_X11_87 : FL RX11 87 11 37 := ⟨RX11, TX11, 71, rfl, by decide, rfl, Or.inl (GW_of 1479 (by decide +kernel) (by decide +kernel))⟩
theorem cv_X11_295 : CV RX11 295 M_X11_isStep 3 := ⟨cb_X11_isStep, Or.inl (GW_of 1801 (by decide +kernel) (by decide +kernel)), GW_of 1803 (by decide +kernel) (by decide +kernel), GW_of 52 (by decide +kernel) (by decide +kernel)⟩
theorem cv_X11_277 : CV RX11 277 M_X11_lineIn 5 := ⟨cb_X11_lineIn, Or.inl (GW_of 1761 (by decide +kernel) (by decide +kernel)), GW_of 1763 (by decide +kernel) (by decide +kernel), GW_of 48 (by decide +kernel) (by decide +kernel)⟩
theorem cv_X11_305 : CV RX11 305 M_X11_along 5 := ⟨cb_X11_along, Or.inl (GW_of 1829 (by decide +kernel) (by decide +kernel)), GW_of 1831 (by decide +kernel) (by decide +kernel), GW_of 55 (by decide +kernel) (by decide +kernel)⟩
theorem cv_X11_308 : CV RX11 308 M_X11_squareOf 2 := ⟨cb_X11_squareOf, Or.inl (GW_of 1842 (by decide +kernel) (by decide +kernel)), GW_of 1844 (by decide +kernel) (by decide +kernel), GW_of 58 (by decide +kernel) (by decide +kernel)⟩
theorem cs_X11_311 : CS RX11 311 M_X11_isPull 3 := ⟨cb_X11_isPull, Or.inl (GW_of 1822 (by decide +kernel) (by decide +kernel)), GW_of 1823 (by decide +kernel) (by decide +kernel)⟩
theorem cv_X11_314 : CV RX11 314 M_X11_isIn 2 := ⟨cb_X11_isIn, Or.inl (GW_of 1825 (by decide +kernel) (by decide +kernel)), GW_of 1827 (by decide +kernel) (by decide +kernel), GW_of 54 (by decide +kernel) (by decide +kernel)⟩
theorem cv_X11_319 : CV RX11 319 M_X11_above 5 := ⟨cb_X11_above, Or.inl (GW_of 1834 (by decide +kernel) (by decide +kernel)), GW_of 1836 (by decide +kernel) (by decide +kernel), GW_of 56 (by decide +kernel) (by decide +kernel)⟩
theorem cv_X11_323 : CV RX11 323 M_X11_below 5 := ⟨cb_X11_below, Or.inl (GW_of 1838 (by decide +kernel) (by decide +kernel)), GW_of 1840 (by decide +kernel) (by decide +kernel), GW_of 57 (by decide +kernel) (by decide +kernel)⟩
theorem cv_X11_326 : CV RX11 326 M_X11_compares 5 := ⟨cb_X11_compares, Or.inl (GW_of 1854 (by decide +kernel) (by decide +kernel)), GW_of 1856 (by decide +kernel) (by decide +kernel), GW_of 59 (by decide +kernel) (by decide +kernel)⟩
theorem cv_X11_331 : CV RX11 331 M_X11_feels 3 := ⟨cb_X11_feels, Or.inl (GW_of 1906 (by decide +kernel) (by decide +kernel)), GW_of 1908 (by decide +kernel) (by decide +kernel), GW_of 67 (by decide +kernel) (by decide +kernel)⟩
theorem cv_X11_334 : CV RX11 334 M_X11_goes 2 := ⟨cb_X11_goes, Or.inl (GW_of 1934 (by decide +kernel) (by decide +kernel)), GW_of 1936 (by decide +kernel) (by decide +kernel), GW_of 70 (by decide +kernel) (by decide +kernel)⟩
theorem cv_X11_337 : CV RX11 337 M_X11_flaws 0 := ⟨cb_X11_flaws, Or.inl (GW_of 1890 (by decide +kernel) (by decide +kernel)), GW_of 1892 (by decide +kernel) (by decide +kernel), GW_of 65 (by decide +kernel) (by decide +kernel)⟩
/-! ===== X11_isStep ===== -/
theorem e_X11_isStep_0 : DC cX11_isStep 0 (.iconst 0) 1 1 := ⟨by decide +kernel, rfl⟩
theorem e_X11_isStep_1 : DC cX11_isStep 1 (.istore 4) 2 3 := ⟨by decide +kernel, rfl⟩
theorem e_X11_isStep_3 : DC cX11_isStep 3 (.iconst 0) 1 4 := ⟨by decide +kernel, rfl⟩
theorem e_X11_isStep_4 : DC cX11_isStep 4 (.istore 5) 2 6 := ⟨by decide +kernel, rfl⟩
theorem e_X11_isStep_6 : DC cX11_isStep 6 (.iload 5) 2 8 := ⟨by decide +kernel, rfl⟩
theorem e_X11_isStep_8 : DC cX11_isStep 8 (.aload_n 0) 1 9 := ⟨by decide +kernel, rfl⟩
theorem e_X11_isStep_9 : DC cX11_isStep 9 (.getfield 13) 3 12 := ⟨by decide +kernel, rfl⟩
theorem e_X11_isStep_12 : DC cX11_isStep 12 (.iconst 0) 1 13 := ⟨by decide +kernel, rfl⟩
theorem e_X11_isStep_13 : DC cX11_isStep 13 (.iaload) 1 14 := ⟨by decide +kernel, rfl⟩
theorem e_X11_isStep_14 : DB cX11_isStep 14 (.if_icmp .ge 97) (97) 3 17 111 := ⟨by decide +kernel, rfl, rfl⟩
theorem e_X11_isStep_17 : DC cX11_isStep 17 (.aload_n 0) 1 18 := ⟨by decide +kernel, rfl⟩
theorem e_X11_isStep_18 : DC cX11_isStep 18 (.getfield 20) 3 21 := ⟨by decide +kernel, rfl⟩
theorem e_X11_isStep_21 : DC cX11_isStep 21 (.iconst 3) 1 22 := ⟨by decide +kernel, rfl⟩
theorem e_X11_isStep_22 : DC cX11_isStep 22 (.iload 5) 2 24 := ⟨by decide +kernel, rfl⟩
theorem e_X11_isStep_24 : DC cX11_isStep 24 (.imul) 1 25 := ⟨by decide +kernel, rfl⟩
theorem e_X11_isStep_25 : DC cX11_isStep 25 (.iaload) 1 26 := ⟨by decide +kernel, rfl⟩
theorem e_X11_isStep_26 : DC cX11_isStep 26 (.istore 6) 2 28 := ⟨by decide +kernel, rfl⟩
theorem e_X11_isStep_28 : DC cX11_isStep 28 (.aload_n 0) 1 29 := ⟨by decide +kernel, rfl⟩
theorem e_X11_isStep_29 : DC cX11_isStep 29 (.getfield 20) 3 32 := ⟨by decide +kernel, rfl⟩
theorem e_X11_isStep_32 : DC cX11_isStep 32 (.iconst 3) 1 33 := ⟨by decide +kernel, rfl⟩
theorem e_X11_isStep_33 : DC cX11_isStep 33 (.iload 5) 2 35 := ⟨by decide +kernel, rfl⟩
theorem e_X11_isStep_35 : DC cX11_isStep 35 (.imul) 1 36 := ⟨by decide +kernel, rfl⟩
theorem e_X11_isStep_36 : DC cX11_isStep 36 (.iconst 1) 1 37 := ⟨by decide +kernel, rfl⟩
theorem e_X11_isStep_37 : DC cX11_isStep 37 (.iadd) 1 38 := ⟨by decide +kernel, rfl⟩
theorem e_X11_isStep_38 : DC cX11_isStep 38 (.iaload) 1 39 := ⟨by decide +kernel, rfl⟩
theorem e_X11_isStep_39 : DC cX11_isStep 39 (.istore 7) 2 41 := ⟨by decide +kernel, rfl⟩
theorem e_X11_isStep_41 : DC cX11_isStep 41 (.aload_n 0) 1 42 := ⟨by decide +kernel, rfl⟩
theorem e_X11_isStep_42 : DC cX11_isStep 42 (.getfield 20) 3 45 := ⟨by decide +kernel, rfl⟩
theorem e_X11_isStep_45 : DC cX11_isStep 45 (.iconst 3) 1 46 := ⟨by decide +kernel, rfl⟩
theorem e_X11_isStep_46 : DC cX11_isStep 46 (.iload 5) 2 48 := ⟨by decide +kernel, rfl⟩
theorem e_X11_isStep_48 : DC cX11_isStep 48 (.imul) 1 49 := ⟨by decide +kernel, rfl⟩
theorem e_X11_isStep_49 : DC cX11_isStep 49 (.iconst 2) 1 50 := ⟨by decide +kernel, rfl⟩
theorem e_X11_isStep_50 : DC cX11_isStep 50 (.iadd) 1 51 := ⟨by decide +kernel, rfl⟩
theorem e_X11_isStep_51 : DC cX11_isStep 51 (.iaload) 1 52 := ⟨by decide +kernel, rfl⟩
theorem e_X11_isStep_52 : DC cX11_isStep 52 (.istore 8) 2 54 := ⟨by decide +kernel, rfl⟩
theorem e_X11_isStep_54 : DC cX11_isStep 54 (.iload 4) 2 56 := ⟨by decide +kernel, rfl⟩
theorem e_X11_isStep_56 : DB cX11_isStep 56 (.ifCond .ne 42) (42) 3 59 98 := ⟨by decide +kernel, rfl, rfl⟩
theorem e_X11_isStep_59 : DC cX11_isStep 59 (.iload 6) 2 61 := ⟨by decide +kernel, rfl⟩
theorem e_X11_isStep_61 : DC cX11_isStep 61 (.iload_n 1) 1 62 := ⟨by decide +kernel, rfl⟩
theorem e_X11_isStep_62 : DB cX11_isStep 62 (.if_icmp .ne 15) (15) 3 65 77 := ⟨by decide +kernel, rfl, rfl⟩
theorem e_X11_isStep_65 : DC cX11_isStep 65 (.iload 7) 2 67 := ⟨by decide +kernel, rfl⟩
theorem e_X11_isStep_67 : DC cX11_isStep 67 (.iload_n 2) 1 68 := ⟨by decide +kernel, rfl⟩
theorem e_X11_isStep_68 : DB cX11_isStep 68 (.if_icmp .ne 9) (9) 3 71 77 := ⟨by decide +kernel, rfl, rfl⟩
theorem e_X11_isStep_71 : DC cX11_isStep 71 (.iload 8) 2 73 := ⟨by decide +kernel, rfl⟩
theorem e_X11_isStep_73 : DC cX11_isStep 73 (.iload_n 3) 1 74 := ⟨by decide +kernel, rfl⟩
theorem e_X11_isStep_74 : DB cX11_isStep 74 (.if_icmp .eq 24) (24) 3 77 98 := ⟨by decide +kernel, rfl, rfl⟩
theorem e_X11_isStep_77 : DC cX11_isStep 77 (.iload 6) 2 79 := ⟨by decide +kernel, rfl⟩
theorem e_X11_isStep_79 : DC cX11_isStep 79 (.iload_n 1) 1 80 := ⟨by decide +kernel, rfl⟩
theorem e_X11_isStep_80 : DC cX11_isStep 80 (.ineg) 1 81 := ⟨by decide +kernel, rfl⟩
theorem e_X11_isStep_81 : DB cX11_isStep 81 (.if_icmp .ne 21) (21) 3 84 102 := ⟨by decide +kernel, rfl, rfl⟩
theorem e_X11_isStep_84 : DC cX11_isStep 84 (.iload 7) 2 86 := ⟨by decide +kernel, rfl⟩
theorem e_X11_isStep_86 : DC cX11_isStep 86 (.iload_n 2) 1 87 := ⟨by decide +kernel, rfl⟩
theorem e_X11_isStep_87 : DC cX11_isStep 87 (.ineg) 1 88 := ⟨by decide +kernel, rfl⟩
theorem e_X11_isStep_88 : DB cX11_isStep 88 (.if_icmp .ne 14) (14) 3 91 102 := ⟨by decide +kernel, rfl, rfl⟩
theorem e_X11_isStep_91 : DC cX11_isStep 91 (.iload 8) 2 93 := ⟨by decide +kernel, rfl⟩
theorem e_X11_isStep_93 : DC cX11_isStep 93 (.iload_n 3) 1 94 := ⟨by decide +kernel, rfl⟩
theorem e_X11_isStep_94 : DC cX11_isStep 94 (.ineg) 1 95 := ⟨by decide +kernel, rfl⟩
theorem e_X11_isStep_95 : DB cX11_isStep 95 (.if_icmp .ne 7) (7) 3 98 102 := ⟨by decide +kernel, rfl, rfl⟩
theorem e_X11_isStep_98 : DC cX11_isStep 98 (.iconst 1) 1 99 := ⟨by decide +kernel, rfl⟩
theorem e_X11_isStep_99 : DB cX11_isStep 99 (.goto 4) (4) 3 102 103 := ⟨by decide +kernel, rfl, rfl⟩
theorem e_X11_isStep_102 : DC cX11_isStep 102 (.iconst 0) 1 103 := ⟨by decide +kernel, rfl⟩
theorem e_X11_isStep_103 : DC cX11_isStep 103 (.istore 4) 2 105 := ⟨by decide +kernel, rfl⟩
theorem e_X11_isStep_105 : DC cX11_isStep 105 (.iinc 5 1) 3 108 := ⟨by decide +kernel, rfl⟩
theorem e_X11_isStep_108 : DB cX11_isStep 108 (.goto (-102)) (-102) 3 111 6 := ⟨by decide +kernel, rfl, rfl⟩
theorem e_X11_isStep_111 : DC cX11_isStep 111 (.iload 4) 2 113 := ⟨by decide +kernel, rfl⟩
theorem e_X11_isStep_113 : DC cX11_isStep 113 (.ireturn) 1 114 := ⟨by decide +kernel, rfl⟩
noncomputable def m_X11_isStep_103 (t_many : Nat → Int) (t_way : Nat → Int) (v1 : Int) (v2 : Int) (v3 : Int) (v5 : Int) (s0 : Int) (ag : Int → Int → Option (Int)) (k_111 : Int → Int → Option (Int)) : Option (Int) :=
  chk (inI (v5 + 1)) (ag s0 (v5 + 1))

set_option maxRecDepth 10000 in
set_option maxHeartbeats 8000000 in
theorem g_X11_isStep_103 {l : Launch} {E : EE} {b0 n : Nat} {h : AH} {a_t : Nat} {t_thrown t_taped t_p t_fault t_baseLow t_baseHigh t_newBaseLow t_newBaseHigh t_from t_knots t_lines t_chosen t_undos t_redos t_aimedMany t_fits t_fitOf t_sights t_systems t_own t_cross t_curveLong t_wallFirst v1 v2 v3 v5 s0 : Int} {t_many t_way : Nat → Int} {r : Int} {ag : Int → Int → Option (Int)} {k_111 : Int → Int → Option (Int)} (ao : AO b0 n [a_t, (a_t + 2), (a_t + 4)]) (ok_t_many : okA t_many) (ok_t_way : okA t_way) (ok_v1 : inI v1) (ok_v2 : inI v2) (ok_v3 : inI v3) (ok_v5 : inI v5) (ok_s0 : inZ s0) (hag : ∀ (v4_ : Int) (v5_ : Int), inZ v4_ → inI v5_ → ag v4_ v5_ = some r → G l E b0 M_X11_isStep (fun _ => True) (ZM E b0 (some (vI r)) (ov [a_t, (a_t + 2), (a_t + 4)] [.inr (11, fsX11 a_t t_thrown t_taped t_p t_fault t_baseLow t_baseHigh t_newBaseLow t_newBaseHigh t_from t_knots t_lines t_chosen t_undos t_redos t_aimedMany t_fits t_fitOf t_sights t_systems t_own t_cross t_curveLong t_wallFirst), IA E 7 t_many, IA E 144 t_way] h) n (inZ r) 0 0) 0 0 n (ov [a_t, (a_t + 2), (a_t + 4)] [.inr (11, fsX11 a_t t_thrown t_taped t_p t_fault t_baseLow t_baseHigh t_newBaseLow t_newBaseHigh t_from t_knots t_lines t_chosen t_undos t_redos t_aimedMany t_fits t_fitOf t_sights t_systems t_own t_cross t_curveLong t_wallFirst), IA E 7 t_many, IA E 144 t_way] h) 6 [some (.ref a_t), some (vI v1), some (vI v2), some (vI v3), some (vI v4_), some (vI v5_), none, none, none] []) (hk_111 : ∀ (v4_ : Int) (v5_ : Int), inZ v4_ → inI v5_ → k_111 v4_ v5_ = some r → G l E b0 M_X11_isStep (fun _ => True) (ZM E b0 (some (vI r)) (ov [a_t, (a_t + 2), (a_t + 4)] [.inr (11, fsX11 a_t t_thrown t_taped t_p t_fault t_baseLow t_baseHigh t_newBaseLow t_newBaseHigh t_from t_knots t_lines t_chosen t_undos t_redos t_aimedMany t_fits t_fitOf t_sights t_systems t_own t_cross t_curveLong t_wallFirst), IA E 7 t_many, IA E 144 t_way] h) n (inZ r) 0 0) 0 0 n (ov [a_t, (a_t + 2), (a_t + 4)] [.inr (11, fsX11 a_t t_thrown t_taped t_p t_fault t_baseLow t_baseHigh t_newBaseLow t_newBaseHigh t_from t_knots t_lines t_chosen t_undos t_redos t_aimedMany t_fits t_fitOf t_sights t_systems t_own t_cross t_curveLong t_wallFirst), IA E 7 t_many, IA E 144 t_way] h) 111 [none, none, none, none, some (vI v4_), none, none, none, none] []) (hs : m_X11_isStep_103 t_many t_way v1 v2 v3 v5 s0 ag k_111 = some r) : G l E b0 M_X11_isStep (fun _ => True) (ZM E b0 (some (vI r)) (ov [a_t, (a_t + 2), (a_t + 4)] [.inr (11, fsX11 a_t t_thrown t_taped t_p t_fault t_baseLow t_baseHigh t_newBaseLow t_newBaseHigh t_from t_knots t_lines t_chosen t_undos t_redos t_aimedMany t_fits t_fitOf t_sights t_systems t_own t_cross t_curveLong t_wallFirst), IA E 7 t_many, IA E 144 t_way] h) n (inZ r) 0 0) 0 0 n (ov [a_t, (a_t + 2), (a_t + 4)] [.inr (11, fsX11 a_t t_thrown t_taped t_p t_fault t_baseLow t_baseHigh t_newBaseLow t_newBaseHigh t_from t_knots t_lines t_chosen t_undos t_redos t_aimedMany t_fits t_fitOf t_sights t_systems t_own t_cross t_curveLong t_wallFirst), IA E 7 t_many, IA E 144 t_way] h) 103 [some (.ref a_t), some (vI v1), some (vI v2), some (vI v3), none, some (vI v5), none, none, none] [vI s0] := by
  rw [m_X11_isStep_103] at hs
  refine g_istore e_X11_isStep_103 st1_4 rfl ?_
  refine g_iinc e_X11_isStep_105 rfl st1_5 rfl ?_
  refine g_goto e_X11_isStep_108 ?_
  obtain ⟨hc5, hs⟩ := chk_elim hs
  exact hag _ _ ok_s0 hc5 hs

noncomputable def m_X11_isStep_98 (t_many : Nat → Int) (t_way : Nat → Int) (v1 : Int) (v2 : Int) (v3 : Int) (v5 : Int) (ag : Int → Int → Option (Int)) (k_111 : Int → Int → Option (Int)) : Option (Int) :=
  m_X11_isStep_103 t_many t_way v1 v2 v3 v5 1 ag k_111

set_option maxRecDepth 10000 in
set_option maxHeartbeats 8000000 in
theorem g_X11_isStep_98 {l : Launch} {E : EE} {b0 n : Nat} {h : AH} {a_t : Nat} {t_thrown t_taped t_p t_fault t_baseLow t_baseHigh t_newBaseLow t_newBaseHigh t_from t_knots t_lines t_chosen t_undos t_redos t_aimedMany t_fits t_fitOf t_sights t_systems t_own t_cross t_curveLong t_wallFirst v1 v2 v3 v5 : Int} {t_many t_way : Nat → Int} {r : Int} {ag : Int → Int → Option (Int)} {k_111 : Int → Int → Option (Int)} (ao : AO b0 n [a_t, (a_t + 2), (a_t + 4)]) (ok_t_many : okA t_many) (ok_t_way : okA t_way) (ok_v1 : inI v1) (ok_v2 : inI v2) (ok_v3 : inI v3) (ok_v5 : inI v5) (hag : ∀ (v4_ : Int) (v5_ : Int), inZ v4_ → inI v5_ → ag v4_ v5_ = some r → G l E b0 M_X11_isStep (fun _ => True) (ZM E b0 (some (vI r)) (ov [a_t, (a_t + 2), (a_t + 4)] [.inr (11, fsX11 a_t t_thrown t_taped t_p t_fault t_baseLow t_baseHigh t_newBaseLow t_newBaseHigh t_from t_knots t_lines t_chosen t_undos t_redos t_aimedMany t_fits t_fitOf t_sights t_systems t_own t_cross t_curveLong t_wallFirst), IA E 7 t_many, IA E 144 t_way] h) n (inZ r) 0 0) 0 0 n (ov [a_t, (a_t + 2), (a_t + 4)] [.inr (11, fsX11 a_t t_thrown t_taped t_p t_fault t_baseLow t_baseHigh t_newBaseLow t_newBaseHigh t_from t_knots t_lines t_chosen t_undos t_redos t_aimedMany t_fits t_fitOf t_sights t_systems t_own t_cross t_curveLong t_wallFirst), IA E 7 t_many, IA E 144 t_way] h) 6 [some (.ref a_t), some (vI v1), some (vI v2), some (vI v3), some (vI v4_), some (vI v5_), none, none, none] []) (hk_111 : ∀ (v4_ : Int) (v5_ : Int), inZ v4_ → inI v5_ → k_111 v4_ v5_ = some r → G l E b0 M_X11_isStep (fun _ => True) (ZM E b0 (some (vI r)) (ov [a_t, (a_t + 2), (a_t + 4)] [.inr (11, fsX11 a_t t_thrown t_taped t_p t_fault t_baseLow t_baseHigh t_newBaseLow t_newBaseHigh t_from t_knots t_lines t_chosen t_undos t_redos t_aimedMany t_fits t_fitOf t_sights t_systems t_own t_cross t_curveLong t_wallFirst), IA E 7 t_many, IA E 144 t_way] h) n (inZ r) 0 0) 0 0 n (ov [a_t, (a_t + 2), (a_t + 4)] [.inr (11, fsX11 a_t t_thrown t_taped t_p t_fault t_baseLow t_baseHigh t_newBaseLow t_newBaseHigh t_from t_knots t_lines t_chosen t_undos t_redos t_aimedMany t_fits t_fitOf t_sights t_systems t_own t_cross t_curveLong t_wallFirst), IA E 7 t_many, IA E 144 t_way] h) 111 [none, none, none, none, some (vI v4_), none, none, none, none] []) (hs : m_X11_isStep_98 t_many t_way v1 v2 v3 v5 ag k_111 = some r) : G l E b0 M_X11_isStep (fun _ => True) (ZM E b0 (some (vI r)) (ov [a_t, (a_t + 2), (a_t + 4)] [.inr (11, fsX11 a_t t_thrown t_taped t_p t_fault t_baseLow t_baseHigh t_newBaseLow t_newBaseHigh t_from t_knots t_lines t_chosen t_undos t_redos t_aimedMany t_fits t_fitOf t_sights t_systems t_own t_cross t_curveLong t_wallFirst), IA E 7 t_many, IA E 144 t_way] h) n (inZ r) 0 0) 0 0 n (ov [a_t, (a_t + 2), (a_t + 4)] [.inr (11, fsX11 a_t t_thrown t_taped t_p t_fault t_baseLow t_baseHigh t_newBaseLow t_newBaseHigh t_from t_knots t_lines t_chosen t_undos t_redos t_aimedMany t_fits t_fitOf t_sights t_systems t_own t_cross t_curveLong t_wallFirst), IA E 7 t_many, IA E 144 t_way] h) 98 [some (.ref a_t), some (vI v1), some (vI v2), some (vI v3), none, some (vI v5), none, none, none] [] := by
  rw [m_X11_isStep_98] at hs
  refine g_iconst e_X11_isStep_98 ?_
  refine g_goto e_X11_isStep_99 ?_
  exact g_X11_isStep_103 ao ok_t_many ok_t_way ok_v1 ok_v2 ok_v3 ok_v5 (by decide : inZ 1) hag hk_111 hs

noncomputable def m_X11_isStep_102 (t_many : Nat → Int) (t_way : Nat → Int) (v1 : Int) (v2 : Int) (v3 : Int) (v5 : Int) (ag : Int → Int → Option (Int)) (k_111 : Int → Int → Option (Int)) : Option (Int) :=
  m_X11_isStep_103 t_many t_way v1 v2 v3 v5 0 ag k_111

set_option maxRecDepth 10000 in
set_option maxHeartbeats 8000000 in
theorem g_X11_isStep_102 {l : Launch} {E : EE} {b0 n : Nat} {h : AH} {a_t : Nat} {t_thrown t_taped t_p t_fault t_baseLow t_baseHigh t_newBaseLow t_newBaseHigh t_from t_knots t_lines t_chosen t_undos t_redos t_aimedMany t_fits t_fitOf t_sights t_systems t_own t_cross t_curveLong t_wallFirst v1 v2 v3 v5 : Int} {t_many t_way : Nat → Int} {r : Int} {ag : Int → Int → Option (Int)} {k_111 : Int → Int → Option (Int)} (ao : AO b0 n [a_t, (a_t + 2), (a_t + 4)]) (ok_t_many : okA t_many) (ok_t_way : okA t_way) (ok_v1 : inI v1) (ok_v2 : inI v2) (ok_v3 : inI v3) (ok_v5 : inI v5) (hag : ∀ (v4_ : Int) (v5_ : Int), inZ v4_ → inI v5_ → ag v4_ v5_ = some r → G l E b0 M_X11_isStep (fun _ => True) (ZM E b0 (some (vI r)) (ov [a_t, (a_t + 2), (a_t + 4)] [.inr (11, fsX11 a_t t_thrown t_taped t_p t_fault t_baseLow t_baseHigh t_newBaseLow t_newBaseHigh t_from t_knots t_lines t_chosen t_undos t_redos t_aimedMany t_fits t_fitOf t_sights t_systems t_own t_cross t_curveLong t_wallFirst), IA E 7 t_many, IA E 144 t_way] h) n (inZ r) 0 0) 0 0 n (ov [a_t, (a_t + 2), (a_t + 4)] [.inr (11, fsX11 a_t t_thrown t_taped t_p t_fault t_baseLow t_baseHigh t_newBaseLow t_newBaseHigh t_from t_knots t_lines t_chosen t_undos t_redos t_aimedMany t_fits t_fitOf t_sights t_systems t_own t_cross t_curveLong t_wallFirst), IA E 7 t_many, IA E 144 t_way] h) 6 [some (.ref a_t), some (vI v1), some (vI v2), some (vI v3), some (vI v4_), some (vI v5_), none, none, none] []) (hk_111 : ∀ (v4_ : Int) (v5_ : Int), inZ v4_ → inI v5_ → k_111 v4_ v5_ = some r → G l E b0 M_X11_isStep (fun _ => True) (ZM E b0 (some (vI r)) (ov [a_t, (a_t + 2), (a_t + 4)] [.inr (11, fsX11 a_t t_thrown t_taped t_p t_fault t_baseLow t_baseHigh t_newBaseLow t_newBaseHigh t_from t_knots t_lines t_chosen t_undos t_redos t_aimedMany t_fits t_fitOf t_sights t_systems t_own t_cross t_curveLong t_wallFirst), IA E 7 t_many, IA E 144 t_way] h) n (inZ r) 0 0) 0 0 n (ov [a_t, (a_t + 2), (a_t + 4)] [.inr (11, fsX11 a_t t_thrown t_taped t_p t_fault t_baseLow t_baseHigh t_newBaseLow t_newBaseHigh t_from t_knots t_lines t_chosen t_undos t_redos t_aimedMany t_fits t_fitOf t_sights t_systems t_own t_cross t_curveLong t_wallFirst), IA E 7 t_many, IA E 144 t_way] h) 111 [none, none, none, none, some (vI v4_), none, none, none, none] []) (hs : m_X11_isStep_102 t_many t_way v1 v2 v3 v5 ag k_111 = some r) : G l E b0 M_X11_isStep (fun _ => True) (ZM E b0 (some (vI r)) (ov [a_t, (a_t + 2), (a_t + 4)] [.inr (11, fsX11 a_t t_thrown t_taped t_p t_fault t_baseLow t_baseHigh t_newBaseLow t_newBaseHigh t_from t_knots t_lines t_chosen t_undos t_redos t_aimedMany t_fits t_fitOf t_sights t_systems t_own t_cross t_curveLong t_wallFirst), IA E 7 t_many, IA E 144 t_way] h) n (inZ r) 0 0) 0 0 n (ov [a_t, (a_t + 2), (a_t + 4)] [.inr (11, fsX11 a_t t_thrown t_taped t_p t_fault t_baseLow t_baseHigh t_newBaseLow t_newBaseHigh t_from t_knots t_lines t_chosen t_undos t_redos t_aimedMany t_fits t_fitOf t_sights t_systems t_own t_cross t_curveLong t_wallFirst), IA E 7 t_many, IA E 144 t_way] h) 102 [some (.ref a_t), some (vI v1), some (vI v2), some (vI v3), none, some (vI v5), none, none, none] [] := by
  rw [m_X11_isStep_102] at hs
  refine g_iconst e_X11_isStep_102 ?_
  exact g_X11_isStep_103 ao ok_t_many ok_t_way ok_v1 ok_v2 ok_v3 ok_v5 (by decide : inZ 0) hag hk_111 hs

noncomputable def m_X11_isStep_77 (t_many : Nat → Int) (t_way : Nat → Int) (v1 : Int) (v2 : Int) (v3 : Int) (v5 : Int) (v6 : Int) (v7 : Int) (v8 : Int) (ag : Int → Int → Option (Int)) (k_111 : Int → Int → Option (Int)) : Option (Int) :=
  chk (inI (-v1)) (if v6 = (-v1) then (chk (inI (-v2)) (if v7 = (-v2) then (chk (inI (-v3)) (if v8 = (-v3) then (m_X11_isStep_98 t_many t_way v1 v2 v3 v5 ag k_111) else (m_X11_isStep_102 t_many t_way v1 v2 v3 v5 ag k_111))) else (m_X11_isStep_102 t_many t_way v1 v2 v3 v5 ag k_111))) else (m_X11_isStep_102 t_many t_way v1 v2 v3 v5 ag k_111))

set_option maxRecDepth 10000 in
set_option maxHeartbeats 8000000 in
theorem g_X11_isStep_77 {l : Launch} {E : EE} {b0 n : Nat} {h : AH} {a_t : Nat} {t_thrown t_taped t_p t_fault t_baseLow t_baseHigh t_newBaseLow t_newBaseHigh t_from t_knots t_lines t_chosen t_undos t_redos t_aimedMany t_fits t_fitOf t_sights t_systems t_own t_cross t_curveLong t_wallFirst v1 v2 v3 v5 v6 v7 v8 : Int} {t_many t_way : Nat → Int} {r : Int} {ag : Int → Int → Option (Int)} {k_111 : Int → Int → Option (Int)} (ao : AO b0 n [a_t, (a_t + 2), (a_t + 4)]) (ok_t_many : okA t_many) (ok_t_way : okA t_way) (ok_v1 : inI v1) (ok_v2 : inI v2) (ok_v3 : inI v3) (ok_v5 : inI v5) (ok_v6 : inI v6) (ok_v7 : inI v7) (ok_v8 : inI v8) (hag : ∀ (v4_ : Int) (v5_ : Int), inZ v4_ → inI v5_ → ag v4_ v5_ = some r → G l E b0 M_X11_isStep (fun _ => True) (ZM E b0 (some (vI r)) (ov [a_t, (a_t + 2), (a_t + 4)] [.inr (11, fsX11 a_t t_thrown t_taped t_p t_fault t_baseLow t_baseHigh t_newBaseLow t_newBaseHigh t_from t_knots t_lines t_chosen t_undos t_redos t_aimedMany t_fits t_fitOf t_sights t_systems t_own t_cross t_curveLong t_wallFirst), IA E 7 t_many, IA E 144 t_way] h) n (inZ r) 0 0) 0 0 n (ov [a_t, (a_t + 2), (a_t + 4)] [.inr (11, fsX11 a_t t_thrown t_taped t_p t_fault t_baseLow t_baseHigh t_newBaseLow t_newBaseHigh t_from t_knots t_lines t_chosen t_undos t_redos t_aimedMany t_fits t_fitOf t_sights t_systems t_own t_cross t_curveLong t_wallFirst), IA E 7 t_many, IA E 144 t_way] h) 6 [some (.ref a_t), some (vI v1), some (vI v2), some (vI v3), some (vI v4_), some (vI v5_), none, none, none] []) (hk_111 : ∀ (v4_ : Int) (v5_ : Int), inZ v4_ → inI v5_ → k_111 v4_ v5_ = some r → G l E b0 M_X11_isStep (fun _ => True) (ZM E b0 (some (vI r)) (ov [a_t, (a_t + 2), (a_t + 4)] [.inr (11, fsX11 a_t t_thrown t_taped t_p t_fault t_baseLow t_baseHigh t_newBaseLow t_newBaseHigh t_from t_knots t_lines t_chosen t_undos t_redos t_aimedMany t_fits t_fitOf t_sights t_systems t_own t_cross t_curveLong t_wallFirst), IA E 7 t_many, IA E 144 t_way] h) n (inZ r) 0 0) 0 0 n (ov [a_t, (a_t + 2), (a_t + 4)] [.inr (11, fsX11 a_t t_thrown t_taped t_p t_fault t_baseLow t_baseHigh t_newBaseLow t_newBaseHigh t_from t_knots t_lines t_chosen t_undos t_redos t_aimedMany t_fits t_fitOf t_sights t_systems t_own t_cross t_curveLong t_wallFirst), IA E 7 t_many, IA E 144 t_way] h) 111 [none, none, none, none, some (vI v4_), none, none, none, none] []) (hs : m_X11_isStep_77 t_many t_way v1 v2 v3 v5 v6 v7 v8 ag k_111 = some r) : G l E b0 M_X11_isStep (fun _ => True) (ZM E b0 (some (vI r)) (ov [a_t, (a_t + 2), (a_t + 4)] [.inr (11, fsX11 a_t t_thrown t_taped t_p t_fault t_baseLow t_baseHigh t_newBaseLow t_newBaseHigh t_from t_knots t_lines t_chosen t_undos t_redos t_aimedMany t_fits t_fitOf t_sights t_systems t_own t_cross t_curveLong t_wallFirst), IA E 7 t_many, IA E 144 t_way] h) n (inZ r) 0 0) 0 0 n (ov [a_t, (a_t + 2), (a_t + 4)] [.inr (11, fsX11 a_t t_thrown t_taped t_p t_fault t_baseLow t_baseHigh t_newBaseLow t_newBaseHigh t_from t_knots t_lines t_chosen t_undos t_redos t_aimedMany t_fits t_fitOf t_sights t_systems t_own t_cross t_curveLong t_wallFirst), IA E 7 t_many, IA E 144 t_way] h) 77 [some (.ref a_t), some (vI v1), some (vI v2), some (vI v3), none, some (vI v5), some (vI v6), some (vI v7), some (vI v8)] [] := by
  rw [m_X11_isStep_77] at hs
  refine g_iload e_X11_isStep_77 rfl ?_
  refine g_iload_n e_X11_isStep_79 rfl ?_
  refine g_ineg e_X11_isStep_80 ?_
  obtain ⟨hc6, hs⟩ := chk_elim hs
  refine g_icmp_ne e_X11_isStep_81 ok_v6 hc6 hs (fun c81 hs => ?_) (fun c81 hs => ?_)
  · refine g_iload e_X11_isStep_84 rfl ?_
    refine g_iload_n e_X11_isStep_86 rfl ?_
    refine g_ineg e_X11_isStep_87 ?_
    obtain ⟨hc7, hs⟩ := chk_elim hs
    refine g_icmp_ne e_X11_isStep_88 ok_v7 hc7 hs (fun c88 hs => ?_) (fun c88 hs => ?_)
    · refine g_iload e_X11_isStep_91 rfl ?_
      refine g_iload_n e_X11_isStep_93 rfl ?_
      refine g_ineg e_X11_isStep_94 ?_
      obtain ⟨hc8, hs⟩ := chk_elim hs
      refine g_icmp_ne e_X11_isStep_95 ok_v8 hc8 hs (fun c95 hs => ?_) (fun c95 hs => ?_)
      · exact g_mask [true, true, true, true, true, true, false, false, false] (g_X11_isStep_98 ao ok_t_many ok_t_way ok_v1 ok_v2 ok_v3 ok_v5 hag hk_111 hs)
      · exact g_mask [true, true, true, true, true, true, false, false, false] (g_X11_isStep_102 ao ok_t_many ok_t_way ok_v1 ok_v2 ok_v3 ok_v5 hag hk_111 hs)
    · exact g_mask [true, true, true, true, true, true, false, false, false] (g_X11_isStep_102 ao ok_t_many ok_t_way ok_v1 ok_v2 ok_v3 ok_v5 hag hk_111 hs)
  · exact g_mask [true, true, true, true, true, true, false, false, false] (g_X11_isStep_102 ao ok_t_many ok_t_way ok_v1 ok_v2 ok_v3 ok_v5 hag hk_111 hs)

noncomputable def m_X11_isStep_6 (t_many : Nat → Int) (t_way : Nat → Int) (v1 : Int) (v2 : Int) (v3 : Int) (k_111 : Int → Int → Option (Int)) : Nat → Int → Int → Option (Int)
  | 0, _, _ => none
  | F + 1, v4, v5 => chk (inB 0 7) (if (t_many (Int.toNat 0)) ≤ v5 then (some (v4)) else (chk (inB (3 * v5) 144) (chk (inB ((3 * v5) + 1) 144) (chk (inB ((3 * v5) + 2) 144) (if v4 = 0 then (if (t_way (Int.toNat (3 * v5))) = v1 then (if (t_way (Int.toNat ((3 * v5) + 1))) = v2 then (if (t_way (Int.toNat ((3 * v5) + 2))) = v3 then (m_X11_isStep_98 t_many t_way v1 v2 v3 v5 (m_X11_isStep_6 t_many t_way v1 v2 v3 k_111 F) k_111) else (m_X11_isStep_77 t_many t_way v1 v2 v3 v5 (t_way (Int.toNat (3 * v5))) (t_way (Int.toNat ((3 * v5) + 1))) (t_way (Int.toNat ((3 * v5) + 2))) (m_X11_isStep_6 t_many t_way v1 v2 v3 k_111 F) k_111)) else (m_X11_isStep_77 t_many t_way v1 v2 v3 v5 (t_way (Int.toNat (3 * v5))) (t_way (Int.toNat ((3 * v5) + 1))) (t_way (Int.toNat ((3 * v5) + 2))) (m_X11_isStep_6 t_many t_way v1 v2 v3 k_111 F) k_111)) else (m_X11_isStep_77 t_many t_way v1 v2 v3 v5 (t_way (Int.toNat (3 * v5))) (t_way (Int.toNat ((3 * v5) + 1))) (t_way (Int.toNat ((3 * v5) + 2))) (m_X11_isStep_6 t_many t_way v1 v2 v3 k_111 F) k_111)) else (m_X11_isStep_98 t_many t_way v1 v2 v3 v5 (m_X11_isStep_6 t_many t_way v1 v2 v3 k_111 F) k_111))))))

set_option maxRecDepth 10000 in
set_option maxHeartbeats 8000000 in
theorem g_X11_isStep_6 {l : Launch} {E : EE} {b0 n : Nat} {h : AH} {a_t : Nat} {t_thrown t_taped t_p t_fault t_baseLow t_baseHigh t_newBaseLow t_newBaseHigh t_from t_knots t_lines t_chosen t_undos t_redos t_aimedMany t_fits t_fitOf t_sights t_systems t_own t_cross t_curveLong t_wallFirst v1 v2 v3 : Int} {t_many t_way : Nat → Int} {r : Int} {k_111 : Int → Int → Option (Int)} (ao : AO b0 n [a_t, (a_t + 2), (a_t + 4)]) (ok_t_many : okA t_many) (ok_t_way : okA t_way) (ok_v1 : inI v1) (ok_v2 : inI v2) (ok_v3 : inI v3) (hk_111 : ∀ (v4_ : Int) (v5_ : Int), inZ v4_ → inI v5_ → k_111 v4_ v5_ = some r → G l E b0 M_X11_isStep (fun _ => True) (ZM E b0 (some (vI r)) (ov [a_t, (a_t + 2), (a_t + 4)] [.inr (11, fsX11 a_t t_thrown t_taped t_p t_fault t_baseLow t_baseHigh t_newBaseLow t_newBaseHigh t_from t_knots t_lines t_chosen t_undos t_redos t_aimedMany t_fits t_fitOf t_sights t_systems t_own t_cross t_curveLong t_wallFirst), IA E 7 t_many, IA E 144 t_way] h) n (inZ r) 0 0) 0 0 n (ov [a_t, (a_t + 2), (a_t + 4)] [.inr (11, fsX11 a_t t_thrown t_taped t_p t_fault t_baseLow t_baseHigh t_newBaseLow t_newBaseHigh t_from t_knots t_lines t_chosen t_undos t_redos t_aimedMany t_fits t_fitOf t_sights t_systems t_own t_cross t_curveLong t_wallFirst), IA E 7 t_many, IA E 144 t_way] h) 111 [none, none, none, none, some (vI v4_), none, none, none, none] []) :
    ∀ (F : Nat) (v4 : Int) (v5 : Int), inZ v4 → inI v5 → m_X11_isStep_6 t_many t_way v1 v2 v3 k_111 F v4 v5 = some r → G l E b0 M_X11_isStep (fun _ => True) (ZM E b0 (some (vI r)) (ov [a_t, (a_t + 2), (a_t + 4)] [.inr (11, fsX11 a_t t_thrown t_taped t_p t_fault t_baseLow t_baseHigh t_newBaseLow t_newBaseHigh t_from t_knots t_lines t_chosen t_undos t_redos t_aimedMany t_fits t_fitOf t_sights t_systems t_own t_cross t_curveLong t_wallFirst), IA E 7 t_many, IA E 144 t_way] h) n (inZ r) 0 0) 0 0 n (ov [a_t, (a_t + 2), (a_t + 4)] [.inr (11, fsX11 a_t t_thrown t_taped t_p t_fault t_baseLow t_baseHigh t_newBaseLow t_newBaseHigh t_from t_knots t_lines t_chosen t_undos t_redos t_aimedMany t_fits t_fitOf t_sights t_systems t_own t_cross t_curveLong t_wallFirst), IA E 7 t_many, IA E 144 t_way] h) 6 [some (.ref a_t), some (vI v1), some (vI v2), some (vI v3), some (vI v4), some (vI v5), none, none, none] [] := by
  intro F
  induction F with
  | zero =>
    intro v4 v5 ok_v4 ok_v5 hs
    rw [m_X11_isStep_6] at hs
    cases hs
  | succ F ih =>
    intro v4 v5 ok_v4 ok_v5 hs
    rw [m_X11_isStep_6] at hs
    refine g_iload e_X11_isStep_6 rfl ?_
    refine g_aload_n e_X11_isStep_8 rfl ?_
    refine g_get 0 5 ao rfl rfl fsX11_g5 fl_X11_13 e_X11_isStep_9 ?_
    refine g_iconst e_X11_isStep_12 ?_
    refine g_iald 1 ao rfl rfl (Nat.le_of_ble_eq_true rfl) e_X11_isStep_13 hs (fun hi1 hs => ?_)
    refine g_icmp_ge e_X11_isStep_14 ok_v5 (ok_t_many _) hs (fun c14 hs => ?_) (fun c14 hs => ?_)
    · refine g_iload e_X11_isStep_111 rfl ?_
      obtain rfl := Option.some.inj hs
      exact g_zret rfl ok_v4 ok_v4 e_X11_isStep_113
    · refine g_aload_n e_X11_isStep_17 rfl ?_
      refine g_get 0 7 ao rfl rfl fsX11_g7 fl_X11_20 e_X11_isStep_18 ?_
      refine g_iconst e_X11_isStep_21 ?_
      refine g_iload e_X11_isStep_22 rfl ?_
      refine g_imul e_X11_isStep_24 ?_
      refine g_iald 2 ao rfl rfl (Nat.le_of_ble_eq_true rfl) e_X11_isStep_25 hs (fun hi2 hs => ?_)
      refine g_istore e_X11_isStep_26 st1_6 rfl ?_
      refine g_aload_n e_X11_isStep_28 rfl ?_
      refine g_get 0 7 ao rfl rfl fsX11_g7 fl_X11_20 e_X11_isStep_29 ?_
      refine g_iconst e_X11_isStep_32 ?_
      refine g_iload e_X11_isStep_33 rfl ?_
      refine g_imul e_X11_isStep_35 ?_
      refine g_iconst e_X11_isStep_36 ?_
      refine g_iadd e_X11_isStep_37 ?_
      refine g_iald 2 ao rfl rfl (Nat.le_of_ble_eq_true rfl) e_X11_isStep_38 hs (fun hi3 hs => ?_)
      refine g_istore e_X11_isStep_39 st1_7 rfl ?_
      refine g_aload_n e_X11_isStep_41 rfl ?_
      refine g_get 0 7 ao rfl rfl fsX11_g7 fl_X11_20 e_X11_isStep_42 ?_
      refine g_iconst e_X11_isStep_45 ?_
      refine g_iload e_X11_isStep_46 rfl ?_
      refine g_imul e_X11_isStep_48 ?_
      refine g_iconst e_X11_isStep_49 ?_
      refine g_iadd e_X11_isStep_50 ?_
      refine g_iald 2 ao rfl rfl (Nat.le_of_ble_eq_true rfl) e_X11_isStep_51 hs (fun hi4 hs => ?_)
      refine g_istore e_X11_isStep_52 st1_8 rfl ?_
      refine g_iload e_X11_isStep_54 rfl ?_
      refine g_if_ne e_X11_isStep_56 (inZ_I ok_v4) hs (fun c56 hs => ?_) (fun c56 hs => ?_)
      · refine g_iload e_X11_isStep_59 rfl ?_
        refine g_iload_n e_X11_isStep_61 rfl ?_
        refine g_icmp_ne e_X11_isStep_62 (ok_t_way _) ok_v1 hs (fun c62 hs => ?_) (fun c62 hs => ?_)
        · refine g_iload e_X11_isStep_65 rfl ?_
          refine g_iload_n e_X11_isStep_67 rfl ?_
          refine g_icmp_ne e_X11_isStep_68 (ok_t_way _) ok_v2 hs (fun c68 hs => ?_) (fun c68 hs => ?_)
          · refine g_iload e_X11_isStep_71 rfl ?_
            refine g_iload_n e_X11_isStep_73 rfl ?_
            refine g_icmp_eq e_X11_isStep_74 (ok_t_way _) ok_v3 hs (fun c74 hs => ?_) (fun c74 hs => ?_)
            · exact g_mask [true, true, true, true, false, true, false, false, false] (g_X11_isStep_98 ao ok_t_many ok_t_way ok_v1 ok_v2 ok_v3 ok_v5 ih hk_111 hs)
            · exact g_mask [true, true, true, true, false, true, true, true, true] (g_X11_isStep_77 ao ok_t_many ok_t_way ok_v1 ok_v2 ok_v3 ok_v5 (ok_t_way _) (ok_t_way _) (ok_t_way _) ih hk_111 hs)
          · exact g_mask [true, true, true, true, false, true, true, true, true] (g_X11_isStep_77 ao ok_t_many ok_t_way ok_v1 ok_v2 ok_v3 ok_v5 (ok_t_way _) (ok_t_way _) (ok_t_way _) ih hk_111 hs)
        · exact g_mask [true, true, true, true, false, true, true, true, true] (g_X11_isStep_77 ao ok_t_many ok_t_way ok_v1 ok_v2 ok_v3 ok_v5 (ok_t_way _) (ok_t_way _) (ok_t_way _) ih hk_111 hs)
      · exact g_mask [true, true, true, true, false, true, false, false, false] (g_X11_isStep_98 ao ok_t_many ok_t_way ok_v1 ok_v2 ok_v3 ok_v5 ih hk_111 hs)

noncomputable def m_X11_isStep_111 (v4 : Int) : Option (Int) :=
  some (v4)

set_option maxRecDepth 10000 in
set_option maxHeartbeats 8000000 in
theorem g_X11_isStep_111 {l : Launch} {E : EE} {b0 n : Nat} {h : AH} {a_t : Nat} {t_thrown t_taped t_p t_fault t_baseLow t_baseHigh t_newBaseLow t_newBaseHigh t_from t_knots t_lines t_chosen t_undos t_redos t_aimedMany t_fits t_fitOf t_sights t_systems t_own t_cross t_curveLong t_wallFirst v4 : Int} {t_many t_way : Nat → Int} {r : Int} (ao : AO b0 n [a_t, (a_t + 2), (a_t + 4)]) (ok_t_many : okA t_many) (ok_t_way : okA t_way) (ok_v4 : inZ v4) (hs : m_X11_isStep_111 v4 = some r) : G l E b0 M_X11_isStep (fun _ => True) (ZM E b0 (some (vI r)) (ov [a_t, (a_t + 2), (a_t + 4)] [.inr (11, fsX11 a_t t_thrown t_taped t_p t_fault t_baseLow t_baseHigh t_newBaseLow t_newBaseHigh t_from t_knots t_lines t_chosen t_undos t_redos t_aimedMany t_fits t_fitOf t_sights t_systems t_own t_cross t_curveLong t_wallFirst), IA E 7 t_many, IA E 144 t_way] h) n (inZ r) 0 0) 0 0 n (ov [a_t, (a_t + 2), (a_t + 4)] [.inr (11, fsX11 a_t t_thrown t_taped t_p t_fault t_baseLow t_baseHigh t_newBaseLow t_newBaseHigh t_from t_knots t_lines t_chosen t_undos t_redos t_aimedMany t_fits t_fitOf t_sights t_systems t_own t_cross t_curveLong t_wallFirst), IA E 7 t_many, IA E 144 t_way] h) 111 [none, none, none, none, some (vI v4), none, none, none, none] [] := by
  rw [m_X11_isStep_111] at hs
  refine g_iload e_X11_isStep_111 rfl ?_
  obtain rfl := Option.some.inj hs
  exact g_zret rfl ok_v4 ok_v4 e_X11_isStep_113

noncomputable def m_X11_isStep_0 (t_many : Nat → Int) (t_way : Nat → Int) (v1 : Int) (v2 : Int) (v3 : Int) : Option (Int) :=
  m_X11_isStep_6 t_many t_way v1 v2 v3 (fun v4' v5' => m_X11_isStep_111 v4') FU 0 0

set_option maxRecDepth 10000 in
set_option maxHeartbeats 8000000 in
theorem g_X11_isStep_0 {l : Launch} {E : EE} {b0 n : Nat} {h : AH} {a_t : Nat} {t_thrown t_taped t_p t_fault t_baseLow t_baseHigh t_newBaseLow t_newBaseHigh t_from t_knots t_lines t_chosen t_undos t_redos t_aimedMany t_fits t_fitOf t_sights t_systems t_own t_cross t_curveLong t_wallFirst v1 v2 v3 : Int} {t_many t_way : Nat → Int} {r : Int} (ao : AO b0 n [a_t, (a_t + 2), (a_t + 4)]) (ok_t_many : okA t_many) (ok_t_way : okA t_way) (ok_v1 : inI v1) (ok_v2 : inI v2) (ok_v3 : inI v3) (hs : m_X11_isStep_0 t_many t_way v1 v2 v3 = some r) : G l E b0 M_X11_isStep (fun _ => True) (ZM E b0 (some (vI r)) (ov [a_t, (a_t + 2), (a_t + 4)] [.inr (11, fsX11 a_t t_thrown t_taped t_p t_fault t_baseLow t_baseHigh t_newBaseLow t_newBaseHigh t_from t_knots t_lines t_chosen t_undos t_redos t_aimedMany t_fits t_fitOf t_sights t_systems t_own t_cross t_curveLong t_wallFirst), IA E 7 t_many, IA E 144 t_way] h) n (inZ r) 0 0) 0 0 n (ov [a_t, (a_t + 2), (a_t + 4)] [.inr (11, fsX11 a_t t_thrown t_taped t_p t_fault t_baseLow t_baseHigh t_newBaseLow t_newBaseHigh t_from t_knots t_lines t_chosen t_undos t_redos t_aimedMany t_fits t_fitOf t_sights t_systems t_own t_cross t_curveLong t_wallFirst), IA E 7 t_many, IA E 144 t_way] h) 0 [some (.ref a_t), some (vI v1), some (vI v2), some (vI v3), none, none, none, none, none] [] := by
  rw [m_X11_isStep_0] at hs
  refine g_iconst e_X11_isStep_0 ?_
  refine g_istore e_X11_isStep_1 st1_4 rfl ?_
  refine g_iconst e_X11_isStep_3 ?_
  refine g_istore e_X11_isStep_4 st1_5 rfl ?_
  exact g_X11_isStep_6 ao ok_t_many ok_t_way ok_v1 ok_v2 ok_v3 (hk_111 := by
      intro v4' v5' ok_v4' ok_v5' hs
      exact g_X11_isStep_111 ao ok_t_many ok_t_way ok_v4' hs) FU _ _ (by decide : inZ 0) (by decide : inI 0) hs

noncomputable def m_X11_isStep (t_many : Nat → Int) (t_way : Nat → Int) (v1 : Int) (v2 : Int) (v3 : Int) : Option (Int) := m_X11_isStep_0 t_many t_way v1 v2 v3

set_option maxRecDepth 10000 in
set_option maxHeartbeats 8000000 in
theorem ct_X11_isStep {l : Launch} {E : EE} {b0 n : Nat} {h : AH} {a_t : Nat} {t_thrown t_taped t_p t_fault t_baseLow t_baseHigh t_newBaseLow t_newBaseHigh t_from t_knots t_lines t_chosen t_undos t_redos t_aimedMany t_fits t_fitOf t_sights t_systems t_own t_cross t_curveLong t_wallFirst : Int} {t_many t_way : Nat → Int} {v1 v2 v3 : Int} (ao : AO b0 n [a_t, (a_t + 2), (a_t + 4)]) (hf : FA h [a_t, (a_t + 2), (a_t + 4)] [.inr (11, fsX11 a_t t_thrown t_taped t_p t_fault t_baseLow t_baseHigh t_newBaseLow t_newBaseHigh t_from t_knots t_lines t_chosen t_undos t_redos t_aimedMany t_fits t_fitOf t_sights t_systems t_own t_cross t_curveLong t_wallFirst), IA E 7 t_many, IA E 144 t_way]) (ok_t_many : okA t_many) (ok_t_way : okA t_way) (ok_v1 : inI v1) (ok_v2 : inI v2) (ok_v3 : inI v3) {r : Int} (hm : m_X11_isStep t_many t_way v1 v2 v3 = some r) : Ct l E b0 M_X11_isStep 0 0 [.ref a_t, vI v1, vI v2, vI v3] h n (some (vI r)) h n (inZ r) := by
  rw [m_X11_isStep] at hm
  have hg : G l E b0 M_X11_isStep (fun _ => True) (ZM E b0 (some (vI r)) (ov [a_t, (a_t + 2), (a_t + 4)] [.inr (11, fsX11 a_t t_thrown t_taped t_p t_fault t_baseLow t_baseHigh t_newBaseLow t_newBaseHigh t_from t_knots t_lines t_chosen t_undos t_redos t_aimedMany t_fits t_fitOf t_sights t_systems t_own t_cross t_curveLong t_wallFirst), IA E 7 t_many, IA E 144 t_way] h) n (inZ r) 0 0) 0 0 n (ov [a_t, (a_t + 2), (a_t + 4)] [.inr (11, fsX11 a_t t_thrown t_taped t_p t_fault t_baseLow t_baseHigh t_newBaseLow t_newBaseHigh t_from t_knots t_lines t_chosen t_undos t_redos t_aimedMany t_fits t_fitOf t_sights t_systems t_own t_cross t_curveLong t_wallFirst), IA E 7 t_many, IA E 144 t_way] h) 0 [some (.ref a_t), some (vI v1), some (vI v2), some (vI v3), none, none, none, none, none] [] := by
    have hs := hm
    exact g_X11_isStep_0 ao ok_t_many ok_t_way ok_v1 ok_v2 ok_v3 hs
  rw [FA_id hf] at hg
  exact Ct_of [some (.ref a_t), some (vI v1), some (vI v2), some (vI v3), none, none, none, none, none] ⟨by decide +kernel, rfl⟩ rfl (Nat.le_of_ble_eq_true rfl) hg

/-! ===== X11_part ===== -/
theorem e_X11_part_0 : DC cX11_part 0 (.aload_n 0) 1 1 := ⟨by decide +kernel, rfl⟩
theorem e_X11_part_1 : DC cX11_part 1 (.iload_n 1) 1 2 := ⟨by decide +kernel, rfl⟩
theorem e_X11_part_2 : DC cX11_part 2 (.invokevirtual 285) 3 5 := ⟨by decide +kernel, rfl⟩
theorem e_X11_part_5 : DB cX11_part 5 (.ifCond .eq 28) (28) 3 8 33 := ⟨by decide +kernel, rfl, rfl⟩
theorem e_X11_part_8 : DC cX11_part 8 (.iload_n 2) 1 9 := ⟨by decide +kernel, rfl⟩
theorem e_X11_part_9 : DC cX11_part 9 (.iconst 0) 1 10 := ⟨by decide +kernel, rfl⟩
theorem e_X11_part_10 : DC cX11_part 10 (.aload_n 0) 1 11 := ⟨by decide +kernel, rfl⟩
theorem e_X11_part_11 : DC cX11_part 11 (.getfield 13) 3 14 := ⟨by decide +kernel, rfl⟩
theorem e_X11_part_14 : DC cX11_part 14 (.iconst 0) 1 15 := ⟨by decide +kernel, rfl⟩
theorem e_X11_part_15 : DC cX11_part 15 (.iaload) 1 16 := ⟨by decide +kernel, rfl⟩
theorem e_X11_part_16 : DC cX11_part 16 (.iconst 1) 1 17 := ⟨by decide +kernel, rfl⟩
theorem e_X11_part_17 : DC cX11_part 17 (.isub) 1 18 := ⟨by decide +kernel, rfl⟩
theorem e_X11_part_18 : DC cX11_part 18 (.invokestatic 226) 3 21 := ⟨by decide +kernel, rfl⟩
theorem e_X11_part_21 : DB cX11_part 21 (.ifCond .eq 12) (12) 3 24 33 := ⟨by decide +kernel, rfl, rfl⟩
theorem e_X11_part_24 : DC cX11_part 24 (.aload_n 0) 1 25 := ⟨by decide +kernel, rfl⟩
theorem e_X11_part_25 : DC cX11_part 25 (.getfield 271) 3 28 := ⟨by decide +kernel, rfl⟩
theorem e_X11_part_28 : DC cX11_part 28 (.bipush 120) 2 30 := ⟨by decide +kernel, rfl⟩
theorem e_X11_part_30 : DB cX11_part 30 (.if_icmp .ne 5) (5) 3 33 35 := ⟨by decide +kernel, rfl, rfl⟩
theorem e_X11_part_33 : DC cX11_part 33 (.iconst (-1)) 1 34 := ⟨by decide +kernel, rfl⟩
theorem e_X11_part_34 : DC cX11_part 34 (.ireturn) 1 35 := ⟨by decide +kernel, rfl⟩
theorem e_X11_part_35 : DC cX11_part 35 (.iload_n 3) 1 36 := ⟨by decide +kernel, rfl⟩
theorem e_X11_part_36 : DB cX11_part 36 (.ifCond .eq 7) (7) 3 39 43 := ⟨by decide +kernel, rfl, rfl⟩
theorem e_X11_part_39 : DC cX11_part 39 (.iconst (-1)) 1 40 := ⟨by decide +kernel, rfl⟩
theorem e_X11_part_40 : DB cX11_part 40 (.goto 4) (4) 3 43 44 := ⟨by decide +kernel, rfl, rfl⟩
theorem e_X11_part_43 : DC cX11_part 43 (.iconst 1) 1 44 := ⟨by decide +kernel, rfl⟩
theorem e_X11_part_44 : DC cX11_part 44 (.istore 4) 2 46 := ⟨by decide +kernel, rfl⟩
theorem e_X11_part_46 : DC cX11_part 46 (.iload 4) 2 48 := ⟨by decide +kernel, rfl⟩
theorem e_X11_part_48 : DC cX11_part 48 (.aload_n 0) 1 49 := ⟨by decide +kernel, rfl⟩
theorem e_X11_part_49 : DC cX11_part 49 (.getfield 20) 3 52 := ⟨by decide +kernel, rfl⟩
theorem e_X11_part_52 : DC cX11_part 52 (.iconst 3) 1 53 := ⟨by decide +kernel, rfl⟩
theorem e_X11_part_53 : DC cX11_part 53 (.iload_n 2) 1 54 := ⟨by decide +kernel, rfl⟩
theorem e_X11_part_54 : DC cX11_part 54 (.imul) 1 55 := ⟨by decide +kernel, rfl⟩
theorem e_X11_part_55 : DC cX11_part 55 (.iaload) 1 56 := ⟨by decide +kernel, rfl⟩
theorem e_X11_part_56 : DC cX11_part 56 (.imul) 1 57 := ⟨by decide +kernel, rfl⟩
theorem e_X11_part_57 : DC cX11_part 57 (.istore 5) 2 59 := ⟨by decide +kernel, rfl⟩
theorem e_X11_part_59 : DC cX11_part 59 (.iload 4) 2 61 := ⟨by decide +kernel, rfl⟩
theorem e_X11_part_61 : DC cX11_part 61 (.aload_n 0) 1 62 := ⟨by decide +kernel, rfl⟩
theorem e_X11_part_62 : DC cX11_part 62 (.getfield 20) 3 65 := ⟨by decide +kernel, rfl⟩
theorem e_X11_part_65 : DC cX11_part 65 (.iconst 3) 1 66 := ⟨by decide +kernel, rfl⟩
theorem e_X11_part_66 : DC cX11_part 66 (.iload_n 2) 1 67 := ⟨by decide +kernel, rfl⟩
theorem e_X11_part_67 : DC cX11_part 67 (.imul) 1 68 := ⟨by decide +kernel, rfl⟩
theorem e_X11_part_68 : DC cX11_part 68 (.iconst 1) 1 69 := ⟨by decide +kernel, rfl⟩
theorem e_X11_part_69 : DC cX11_part 69 (.iadd) 1 70 := ⟨by decide +kernel, rfl⟩
theorem e_X11_part_70 : DC cX11_part 70 (.iaload) 1 71 := ⟨by decide +kernel, rfl⟩
theorem e_X11_part_71 : DC cX11_part 71 (.imul) 1 72 := ⟨by decide +kernel, rfl⟩
theorem e_X11_part_72 : DC cX11_part 72 (.istore 6) 2 74 := ⟨by decide +kernel, rfl⟩
theorem e_X11_part_74 : DC cX11_part 74 (.iload 4) 2 76 := ⟨by decide +kernel, rfl⟩
theorem e_X11_part_76 : DC cX11_part 76 (.aload_n 0) 1 77 := ⟨by decide +kernel, rfl⟩
theorem e_X11_part_77 : DC cX11_part 77 (.getfield 20) 3 80 := ⟨by decide +kernel, rfl⟩
theorem e_X11_part_80 : DC cX11_part 80 (.iconst 3) 1 81 := ⟨by decide +kernel, rfl⟩
theorem e_X11_part_81 : DC cX11_part 81 (.iload_n 2) 1 82 := ⟨by decide +kernel, rfl⟩
theorem e_X11_part_82 : DC cX11_part 82 (.imul) 1 83 := ⟨by decide +kernel, rfl⟩
theorem e_X11_part_83 : DC cX11_part 83 (.iconst 2) 1 84 := ⟨by decide +kernel, rfl⟩
theorem e_X11_part_84 : DC cX11_part 84 (.iadd) 1 85 := ⟨by decide +kernel, rfl⟩
theorem e_X11_part_85 : DC cX11_part 85 (.iaload) 1 86 := ⟨by decide +kernel, rfl⟩
theorem e_X11_part_86 : DC cX11_part 86 (.imul) 1 87 := ⟨by decide +kernel, rfl⟩
theorem e_X11_part_87 : DC cX11_part 87 (.istore 7) 2 89 := ⟨by decide +kernel, rfl⟩
theorem e_X11_part_89 : DC cX11_part 89 (.aload_n 0) 1 90 := ⟨by decide +kernel, rfl⟩
theorem e_X11_part_90 : DC cX11_part 90 (.getfield 63) 3 93 := ⟨by decide +kernel, rfl⟩
theorem e_X11_part_93 : DC cX11_part 93 (.iconst 3) 1 94 := ⟨by decide +kernel, rfl⟩
theorem e_X11_part_94 : DC cX11_part 94 (.iload_n 1) 1 95 := ⟨by decide +kernel, rfl⟩
theorem e_X11_part_95 : DC cX11_part 95 (.imul) 1 96 := ⟨by decide +kernel, rfl⟩
theorem e_X11_part_96 : DC cX11_part 96 (.iaload) 1 97 := ⟨by decide +kernel, rfl⟩
theorem e_X11_part_97 : DC cX11_part 97 (.iload 5) 2 99 := ⟨by decide +kernel, rfl⟩
theorem e_X11_part_99 : DC cX11_part 99 (.isub) 1 100 := ⟨by decide +kernel, rfl⟩
theorem e_X11_part_100 : DC cX11_part 100 (.istore 8) 2 102 := ⟨by decide +kernel, rfl⟩
theorem e_X11_part_102 : DC cX11_part 102 (.aload_n 0) 1 103 := ⟨by decide +kernel, rfl⟩
theorem e_X11_part_103 : DC cX11_part 103 (.getfield 63) 3 106 := ⟨by decide +kernel, rfl⟩
theorem e_X11_part_106 : DC cX11_part 106 (.iconst 3) 1 107 := ⟨by decide +kernel, rfl⟩
theorem e_X11_part_107 : DC cX11_part 107 (.iload_n 1) 1 108 := ⟨by decide +kernel, rfl⟩
theorem e_X11_part_108 : DC cX11_part 108 (.imul) 1 109 := ⟨by decide +kernel, rfl⟩
theorem e_X11_part_109 : DC cX11_part 109 (.iconst 1) 1 110 := ⟨by decide +kernel, rfl⟩
theorem e_X11_part_110 : DC cX11_part 110 (.iadd) 1 111 := ⟨by decide +kernel, rfl⟩
theorem e_X11_part_111 : DC cX11_part 111 (.iaload) 1 112 := ⟨by decide +kernel, rfl⟩
theorem e_X11_part_112 : DC cX11_part 112 (.iload 6) 2 114 := ⟨by decide +kernel, rfl⟩
theorem e_X11_part_114 : DC cX11_part 114 (.isub) 1 115 := ⟨by decide +kernel, rfl⟩
theorem e_X11_part_115 : DC cX11_part 115 (.istore 9) 2 117 := ⟨by decide +kernel, rfl⟩
theorem e_X11_part_117 : DC cX11_part 117 (.aload_n 0) 1 118 := ⟨by decide +kernel, rfl⟩
theorem e_X11_part_118 : DC cX11_part 118 (.getfield 63) 3 121 := ⟨by decide +kernel, rfl⟩
theorem e_X11_part_121 : DC cX11_part 121 (.iconst 3) 1 122 := ⟨by decide +kernel, rfl⟩
theorem e_X11_part_122 : DC cX11_part 122 (.iload_n 1) 1 123 := ⟨by decide +kernel, rfl⟩
theorem e_X11_part_123 : DC cX11_part 123 (.imul) 1 124 := ⟨by decide +kernel, rfl⟩
theorem e_X11_part_124 : DC cX11_part 124 (.iconst 2) 1 125 := ⟨by decide +kernel, rfl⟩
theorem e_X11_part_125 : DC cX11_part 125 (.iadd) 1 126 := ⟨by decide +kernel, rfl⟩
theorem e_X11_part_126 : DC cX11_part 126 (.iaload) 1 127 := ⟨by decide +kernel, rfl⟩
theorem e_X11_part_127 : DC cX11_part 127 (.iload 7) 2 129 := ⟨by decide +kernel, rfl⟩
theorem e_X11_part_129 : DC cX11_part 129 (.isub) 1 130 := ⟨by decide +kernel, rfl⟩
theorem e_X11_part_130 : DC cX11_part 130 (.istore 10) 2 132 := ⟨by decide +kernel, rfl⟩
theorem e_X11_part_132 : DC cX11_part 132 (.aload_n 0) 1 133 := ⟨by decide +kernel, rfl⟩
theorem e_X11_part_133 : DC cX11_part 133 (.iload 8) 2 135 := ⟨by decide +kernel, rfl⟩
theorem e_X11_part_135 : DC cX11_part 135 (.iload 9) 2 137 := ⟨by decide +kernel, rfl⟩
theorem e_X11_part_137 : DC cX11_part 137 (.iload 10) 2 139 := ⟨by decide +kernel, rfl⟩
theorem e_X11_part_139 : DC cX11_part 139 (.invokevirtual 295) 3 142 := ⟨by decide +kernel, rfl⟩
theorem e_X11_part_142 : DB cX11_part 142 (.ifCond .eq 30) (30) 3 145 172 := ⟨by decide +kernel, rfl, rfl⟩
theorem e_X11_part_145 : DC cX11_part 145 (.iload 5) 2 147 := ⟨by decide +kernel, rfl⟩
theorem e_X11_part_147 : DC cX11_part 147 (.iload 6) 2 149 := ⟨by decide +kernel, rfl⟩
theorem e_X11_part_149 : DC cX11_part 149 (.iload 7) 2 151 := ⟨by decide +kernel, rfl⟩
theorem e_X11_part_151 : DC cX11_part 151 (.invokestatic 281) 3 154 := ⟨by decide +kernel, rfl⟩
theorem e_X11_part_154 : DC cX11_part 154 (.iload 8) 2 156 := ⟨by decide +kernel, rfl⟩
theorem e_X11_part_156 : DC cX11_part 156 (.iload 9) 2 158 := ⟨by decide +kernel, rfl⟩
theorem e_X11_part_158 : DC cX11_part 158 (.iload 10) 2 160 := ⟨by decide +kernel, rfl⟩
theorem e_X11_part_160 : DC cX11_part 160 (.invokestatic 281) 3 163 := ⟨by decide +kernel, rfl⟩
theorem e_X11_part_163 : DC cX11_part 163 (.iadd) 1 164 := ⟨by decide +kernel, rfl⟩
theorem e_X11_part_164 : DC cX11_part 164 (.aload_n 0) 1 165 := ⟨by decide +kernel, rfl⟩
theorem e_X11_part_165 : DC cX11_part 165 (.iload_n 1) 1 166 := ⟨by decide +kernel, rfl⟩
theorem e_X11_part_166 : DC cX11_part 166 (.invokevirtual 288) 3 169 := ⟨by decide +kernel, rfl⟩
theorem e_X11_part_169 : DB cX11_part 169 (.if_icmp .lt 6) (6) 3 172 175 := ⟨by decide +kernel, rfl, rfl⟩
theorem e_X11_part_172 : DC cX11_part 172 (.bipush (-2)) 2 174 := ⟨by decide +kernel, rfl⟩
theorem e_X11_part_174 : DC cX11_part 174 (.ireturn) 1 175 := ⟨by decide +kernel, rfl⟩
theorem e_X11_part_175 : DC cX11_part 175 (.aload_n 0) 1 176 := ⟨by decide +kernel, rfl⟩
theorem e_X11_part_176 : DC cX11_part 176 (.getfield 63) 3 179 := ⟨by decide +kernel, rfl⟩
theorem e_X11_part_179 : DC cX11_part 179 (.iconst 3) 1 180 := ⟨by decide +kernel, rfl⟩
theorem e_X11_part_180 : DC cX11_part 180 (.iload_n 1) 1 181 := ⟨by decide +kernel, rfl⟩
theorem e_X11_part_181 : DC cX11_part 181 (.imul) 1 182 := ⟨by decide +kernel, rfl⟩
theorem e_X11_part_182 : DC cX11_part 182 (.iload 5) 2 184 := ⟨by decide +kernel, rfl⟩
theorem e_X11_part_184 : DC cX11_part 184 (.iastore) 1 185 := ⟨by decide +kernel, rfl⟩
theorem e_X11_part_185 : DC cX11_part 185 (.aload_n 0) 1 186 := ⟨by decide +kernel, rfl⟩
theorem e_X11_part_186 : DC cX11_part 186 (.getfield 63) 3 189 := ⟨by decide +kernel, rfl⟩
theorem e_X11_part_189 : DC cX11_part 189 (.iconst 3) 1 190 := ⟨by decide +kernel, rfl⟩
theorem e_X11_part_190 : DC cX11_part 190 (.iload_n 1) 1 191 := ⟨by decide +kernel, rfl⟩
theorem e_X11_part_191 : DC cX11_part 191 (.imul) 1 192 := ⟨by decide +kernel, rfl⟩
theorem e_X11_part_192 : DC cX11_part 192 (.iconst 1) 1 193 := ⟨by decide +kernel, rfl⟩
theorem e_X11_part_193 : DC cX11_part 193 (.iadd) 1 194 := ⟨by decide +kernel, rfl⟩
theorem e_X11_part_194 : DC cX11_part 194 (.iload 6) 2 196 := ⟨by decide +kernel, rfl⟩
theorem e_X11_part_196 : DC cX11_part 196 (.iastore) 1 197 := ⟨by decide +kernel, rfl⟩
theorem e_X11_part_197 : DC cX11_part 197 (.aload_n 0) 1 198 := ⟨by decide +kernel, rfl⟩
theorem e_X11_part_198 : DC cX11_part 198 (.getfield 63) 3 201 := ⟨by decide +kernel, rfl⟩
theorem e_X11_part_201 : DC cX11_part 201 (.iconst 3) 1 202 := ⟨by decide +kernel, rfl⟩
theorem e_X11_part_202 : DC cX11_part 202 (.iload_n 1) 1 203 := ⟨by decide +kernel, rfl⟩
theorem e_X11_part_203 : DC cX11_part 203 (.imul) 1 204 := ⟨by decide +kernel, rfl⟩
theorem e_X11_part_204 : DC cX11_part 204 (.iconst 2) 1 205 := ⟨by decide +kernel, rfl⟩
theorem e_X11_part_205 : DC cX11_part 205 (.iadd) 1 206 := ⟨by decide +kernel, rfl⟩
theorem e_X11_part_206 : DC cX11_part 206 (.iload 7) 2 208 := ⟨by decide +kernel, rfl⟩
theorem e_X11_part_208 : DC cX11_part 208 (.iastore) 1 209 := ⟨by decide +kernel, rfl⟩
theorem e_X11_part_209 : DC cX11_part 209 (.aload_n 0) 1 210 := ⟨by decide +kernel, rfl⟩
theorem e_X11_part_210 : DC cX11_part 210 (.aload_n 0) 1 211 := ⟨by decide +kernel, rfl⟩
theorem e_X11_part_211 : DC cX11_part 211 (.getfield 57) 3 214 := ⟨by decide +kernel, rfl⟩
theorem e_X11_part_214 : DC cX11_part 214 (.iload_n 1) 1 215 := ⟨by decide +kernel, rfl⟩
theorem e_X11_part_215 : DC cX11_part 215 (.iaload) 1 216 := ⟨by decide +kernel, rfl⟩
theorem e_X11_part_216 : DC cX11_part 216 (.aload_n 0) 1 217 := ⟨by decide +kernel, rfl⟩
theorem e_X11_part_217 : DC cX11_part 217 (.getfield 60) 3 220 := ⟨by decide +kernel, rfl⟩
theorem e_X11_part_220 : DC cX11_part 220 (.iload_n 1) 1 221 := ⟨by decide +kernel, rfl⟩
theorem e_X11_part_221 : DC cX11_part 221 (.iaload) 1 222 := ⟨by decide +kernel, rfl⟩
theorem e_X11_part_222 : DC cX11_part 222 (.iload 8) 2 224 := ⟨by decide +kernel, rfl⟩
theorem e_X11_part_224 : DC cX11_part 224 (.iload 9) 2 226 := ⟨by decide +kernel, rfl⟩
theorem e_X11_part_226 : DC cX11_part 226 (.iload 10) 2 228 := ⟨by decide +kernel, rfl⟩
theorem e_X11_part_228 : DC cX11_part 228 (.invokevirtual 277) 3 231 := ⟨by decide +kernel, rfl⟩
theorem e_X11_part_231 : DC cX11_part 231 (.ireturn) 1 232 := ⟨by decide +kernel, rfl⟩
noncomputable def m_X11_part_44 (t_lines : Int) (t_many : Nat → Int) (t_way : Nat → Int) (t_start : Nat → Int) (t_goal : Nat → Int) (t_line : Nat → Int) (v1 : Int) (v2 : Int) (s0 : Int) : Option (Int × Int × (Nat → Int) × (Nat → Int) × (Nat → Int)) :=
  chk (inB (3 * v2) 144) (chk (inB ((3 * v2) + 1) 144) (chk (inB ((3 * v2) + 2) 144) (chk (inB (3 * v1) 360) (chk (inB ((3 * v1) + 1) 360) (chk (inB ((3 * v1) + 2) 360) (chk (inI ((t_line (Int.toNat (3 * v1))) - (s0 * (t_way (Int.toNat (3 * v2)))))) (chk (inI ((t_line (Int.toNat ((3 * v1) + 1))) - (s0 * (t_way (Int.toNat ((3 * v2) + 1)))))) (chk (inI ((t_line (Int.toNat ((3 * v1) + 2))) - (s0 * (t_way (Int.toNat ((3 * v2) + 2)))))) ((m_X11_isStep t_many t_way ((t_line (Int.toNat (3 * v1))) - (s0 * (t_way (Int.toNat (3 * v2))))) ((t_line (Int.toNat ((3 * v1) + 1))) - (s0 * (t_way (Int.toNat ((3 * v2) + 1))))) ((t_line (Int.toNat ((3 * v1) + 2))) - (s0 * (t_way (Int.toNat ((3 * v2) + 2)))))).bind (fun y14 => if y14 = 0 then (some ((-2), t_lines, t_start, t_goal, t_line)) else (chk (inI (s0 * (t_way (Int.toNat (3 * v2))))) (chk (inI (s0 * (t_way (Int.toNat ((3 * v2) + 1))))) (chk (inI (s0 * (t_way (Int.toNat ((3 * v2) + 2))))) ((m_X11_square (s0 * (t_way (Int.toNat (3 * v2)))) (s0 * (t_way (Int.toNat ((3 * v2) + 1)))) (s0 * (t_way (Int.toNat ((3 * v2) + 2))))).bind (fun y18 => (m_X11_square ((t_line (Int.toNat (3 * v1))) - (s0 * (t_way (Int.toNat (3 * v2))))) ((t_line (Int.toNat ((3 * v1) + 1))) - (s0 * (t_way (Int.toNat ((3 * v2) + 1))))) ((t_line (Int.toNat ((3 * v1) + 2))) - (s0 * (t_way (Int.toNat ((3 * v2) + 2)))))).bind (fun y19 => (m_X11_worth t_line v1).bind (fun y20 => chk (inI (y18 + y19)) (if (y18 + y19) < y20 then (chk (inB (3 * v1) 360) (chk (inB ((3 * v1) + 1) 360) (chk (inB ((3 * v1) + 2) 360) (chk (inB v1 120) (chk (inB v1 120) ((m_X11_lineIn t_lines t_start t_goal (up (up (up t_line (Int.toNat (3 * v1)) (s0 * (t_way (Int.toNat (3 * v2))))) (Int.toNat ((3 * v1) + 1)) (s0 * (t_way (Int.toNat ((3 * v2) + 1))))) (Int.toNat ((3 * v1) + 2)) (s0 * (t_way (Int.toNat ((3 * v2) + 2))))) (t_start (Int.toNat v1)) (t_goal (Int.toNat v1)) ((t_line (Int.toNat (3 * v1))) - (s0 * (t_way (Int.toNat (3 * v2))))) ((t_line (Int.toNat ((3 * v1) + 1))) - (s0 * (t_way (Int.toNat ((3 * v2) + 1))))) ((t_line (Int.toNat ((3 * v1) + 2))) - (s0 * (t_way (Int.toNat ((3 * v2) + 2)))))).bind (fun y27 => some (y27.1, y27.2.1, y27.2.2.1, y27.2.2.2.1, y27.2.2.2.2)))))))) else (some ((-2), t_lines, t_start, t_goal, t_line))))))))))))))))))))

set_option maxRecDepth 10000 in
set_option maxHeartbeats 8000000 in
theorem g_X11_part_44 {l : Launch} {E : EE} {b0 n : Nat} {h : AH} {a_t : Nat} {t_thrown t_taped t_p t_fault t_baseLow t_baseHigh t_newBaseLow t_newBaseHigh t_from t_knots t_lines t_chosen t_undos t_redos t_aimedMany t_fits t_fitOf t_sights t_systems t_own t_cross t_curveLong t_wallFirst v1 v2 s0 : Int} {t_many t_way t_isGone t_start t_goal t_line : Nat → Int} {r : Int × Int × (Nat → Int) × (Nat → Int) × (Nat → Int)} (ao : AO b0 n [a_t, (a_t + 2), (a_t + 4), (a_t + 15), (a_t + 16), (a_t + 17), (a_t + 18)]) (ok_t_lines : inI t_lines) (ok_t_many : okA t_many) (ok_t_way : okA t_way) (ok_t_isGone : okZ t_isGone) (ok_t_start : okA t_start) (ok_t_goal : okA t_goal) (ok_t_line : okA t_line) (ok_v1 : inI v1) (ok_v2 : inI v2) (ok_s0 : inI s0) (hs : m_X11_part_44 t_lines t_many t_way t_start t_goal t_line v1 v2 s0 = some r) : G l E b0 M_X11_part (fun _ => True) (ZM E b0 (some (vI r.1)) (ov [a_t, (a_t + 2), (a_t + 4), (a_t + 15), (a_t + 16), (a_t + 17), (a_t + 18)] [.inr (11, fsX11 a_t t_thrown t_taped t_p t_fault t_baseLow t_baseHigh t_newBaseLow t_newBaseHigh t_from t_knots r.2.1 t_chosen t_undos t_redos t_aimedMany t_fits t_fitOf t_sights t_systems t_own t_cross t_curveLong t_wallFirst), IA E 7 t_many, IA E 144 t_way, ZA E 120 t_isGone, IA E 120 r.2.2.1, IA E 120 r.2.2.2.1, IA E 360 r.2.2.2.2] h) n (inI r.1 ∧ inI r.2.1 ∧ okA r.2.2.1 ∧ okA r.2.2.2.1 ∧ okA r.2.2.2.2) 0 0) 0 0 n (ov [a_t, (a_t + 2), (a_t + 4), (a_t + 15), (a_t + 16), (a_t + 17), (a_t + 18)] [.inr (11, fsX11 a_t t_thrown t_taped t_p t_fault t_baseLow t_baseHigh t_newBaseLow t_newBaseHigh t_from t_knots t_lines t_chosen t_undos t_redos t_aimedMany t_fits t_fitOf t_sights t_systems t_own t_cross t_curveLong t_wallFirst), IA E 7 t_many, IA E 144 t_way, ZA E 120 t_isGone, IA E 120 t_start, IA E 120 t_goal, IA E 360 t_line] h) 44 [some (.ref a_t), some (vI v1), some (vI v2), none, none, none, none, none, none, none, none] [vI s0] := by
  rw [m_X11_part_44] at hs
  refine g_istore e_X11_part_44 st1_4 rfl ?_
  refine g_iload e_X11_part_46 rfl ?_
  refine g_aload_n e_X11_part_48 rfl ?_
  refine g_get 0 7 ao rfl rfl fsX11_g7 fl_X11_20 e_X11_part_49 ?_
  refine g_iconst e_X11_part_52 ?_
  refine g_iload_n e_X11_part_53 rfl ?_
  refine g_imul e_X11_part_54 ?_
  refine g_iald 2 ao rfl rfl (Nat.le_of_ble_eq_true rfl) e_X11_part_55 hs (fun hi5 hs => ?_)
  refine g_imul e_X11_part_56 ?_
  refine g_istore e_X11_part_57 st1_5 rfl ?_
  refine g_iload e_X11_part_59 rfl ?_
  refine g_aload_n e_X11_part_61 rfl ?_
  refine g_get 0 7 ao rfl rfl fsX11_g7 fl_X11_20 e_X11_part_62 ?_
  refine g_iconst e_X11_part_65 ?_
  refine g_iload_n e_X11_part_66 rfl ?_
  refine g_imul e_X11_part_67 ?_
  refine g_iconst e_X11_part_68 ?_
  refine g_iadd e_X11_part_69 ?_
  refine g_iald 2 ao rfl rfl (Nat.le_of_ble_eq_true rfl) e_X11_part_70 hs (fun hi6 hs => ?_)
  refine g_imul e_X11_part_71 ?_
  refine g_istore e_X11_part_72 st1_6 rfl ?_
  refine g_iload e_X11_part_74 rfl ?_
  refine g_aload_n e_X11_part_76 rfl ?_
  refine g_get 0 7 ao rfl rfl fsX11_g7 fl_X11_20 e_X11_part_77 ?_
  refine g_iconst e_X11_part_80 ?_
  refine g_iload_n e_X11_part_81 rfl ?_
  refine g_imul e_X11_part_82 ?_
  refine g_iconst e_X11_part_83 ?_
  refine g_iadd e_X11_part_84 ?_
  refine g_iald 2 ao rfl rfl (Nat.le_of_ble_eq_true rfl) e_X11_part_85 hs (fun hi7 hs => ?_)
  refine g_imul e_X11_part_86 ?_
  refine g_istore e_X11_part_87 st1_7 rfl ?_
  refine g_aload_n e_X11_part_89 rfl ?_
  refine g_get 0 28 ao rfl rfl fsX11_g28 fl_X11_63 e_X11_part_90 ?_
  refine g_iconst e_X11_part_93 ?_
  refine g_iload_n e_X11_part_94 rfl ?_
  refine g_imul e_X11_part_95 ?_
  refine g_iald 6 ao rfl rfl (Nat.le_of_ble_eq_true rfl) e_X11_part_96 hs (fun hi8 hs => ?_)
  refine g_iload e_X11_part_97 rfl ?_
  refine g_isub e_X11_part_99 ?_
  refine g_istore e_X11_part_100 st1_8 rfl ?_
  refine g_aload_n e_X11_part_102 rfl ?_
  refine g_get 0 28 ao rfl rfl fsX11_g28 fl_X11_63 e_X11_part_103 ?_
  refine g_iconst e_X11_part_106 ?_
  refine g_iload_n e_X11_part_107 rfl ?_
  refine g_imul e_X11_part_108 ?_
  refine g_iconst e_X11_part_109 ?_
  refine g_iadd e_X11_part_110 ?_
  refine g_iald 6 ao rfl rfl (Nat.le_of_ble_eq_true rfl) e_X11_part_111 hs (fun hi9 hs => ?_)
  refine g_iload e_X11_part_112 rfl ?_
  refine g_isub e_X11_part_114 ?_
  refine g_istore e_X11_part_115 st1_9 rfl ?_
  refine g_aload_n e_X11_part_117 rfl ?_
  refine g_get 0 28 ao rfl rfl fsX11_g28 fl_X11_63 e_X11_part_118 ?_
  refine g_iconst e_X11_part_121 ?_
  refine g_iload_n e_X11_part_122 rfl ?_
  refine g_imul e_X11_part_123 ?_
  refine g_iconst e_X11_part_124 ?_
  refine g_iadd e_X11_part_125 ?_
  refine g_iald 6 ao rfl rfl (Nat.le_of_ble_eq_true rfl) e_X11_part_126 hs (fun hi10 hs => ?_)
  refine g_iload e_X11_part_127 rfl ?_
  refine g_isub e_X11_part_129 ?_
  refine g_istore e_X11_part_130 st1_10 rfl ?_
  refine g_aload_n e_X11_part_132 rfl ?_
  refine g_iload e_X11_part_133 rfl ?_
  refine g_iload e_X11_part_135 rfl ?_
  refine g_iload e_X11_part_137 rfl ?_
  obtain ⟨hc11, hs⟩ := chk_elim hs
  obtain ⟨hc12, hs⟩ := chk_elim hs
  obtain ⟨hc13, hs⟩ := chk_elim hs
  obtain ⟨y14, hy14, hs⟩ := bind_elim hs
  refine g_callVr [vI ((t_line (Int.toNat (3 * v1))) - (s0 * (t_way (Int.toNat (3 * v2))))), vI ((t_line (Int.toNat ((3 * v1) + 1))) - (s0 * (t_way (Int.toNat ((3 * v2) + 1))))), vI ((t_line (Int.toNat ((3 * v1) + 2))) - (s0 * (t_way (Int.toNat ((3 * v2) + 2)))))] cv_X11_295 ⟨rfl, rfl, Nat.le_of_ble_eq_true rfl, Nat.le_of_ble_eq_true rfl⟩ (ct_X11_isStep (a_t := a_t) (AO_call [0, 1, 2] ao (by decide) rfl) (FA_call [0, 1, 2] ao.1 rfl rfl) ok_t_many ok_t_way hc11 hc12 hc13 hy14) e_X11_part_139 (ao.2 0 _ rfl) (ov_get 0 ao.1 rfl rfl) rfl rfl rfl (Nat.le_of_ble_eq_true rfl) ⟨Nat.le_refl _, Nat.le_refl _⟩ (fun Py14 => ?_)
  refine g_if_eq e_X11_part_142 (inZ_I Py14) hs (fun c142 hs => ?_) (fun c142 hs => ?_)
  · refine g_bipush e_X11_part_172 bp_m2 ?_
    obtain rfl := Option.some.inj hs
    exact g_iret rfl ⟨(by decide : inI (-2)), ok_t_lines, ok_t_start, ok_t_goal, ok_t_line⟩ e_X11_part_174
  · refine g_iload e_X11_part_145 rfl ?_
    refine g_iload e_X11_part_147 rfl ?_
    refine g_iload e_X11_part_149 rfl ?_
    obtain ⟨hc15, hs⟩ := chk_elim hs
    obtain ⟨hc16, hs⟩ := chk_elim hs
    obtain ⟨hc17, hs⟩ := chk_elim hs
    obtain ⟨y18, hy18, hs⟩ := bind_elim hs
    refine g_callSr [vI (s0 * (t_way (Int.toNat (3 * v2)))), vI (s0 * (t_way (Int.toNat ((3 * v2) + 1)))), vI (s0 * (t_way (Int.toNat ((3 * v2) + 2))))] cs_X11_281 ⟨rfl, rfl, Nat.le_of_ble_eq_true rfl, Nat.le_of_ble_eq_true rfl⟩ (ct_X11_square ⟨List.nodup_nil, fun i a h => by simp at h⟩ (fun i a e h => by simp at h) hc15 hc16 hc17 hy18) e_X11_part_151 rfl rfl (Nat.le_of_ble_eq_true rfl) ⟨Nat.le_refl _, Nat.le_refl _⟩ (fun Py18 => ?_)
    refine g_iload e_X11_part_154 rfl ?_
    refine g_iload e_X11_part_156 rfl ?_
    refine g_iload e_X11_part_158 rfl ?_
    obtain ⟨y19, hy19, hs⟩ := bind_elim hs
    refine g_callSr [vI ((t_line (Int.toNat (3 * v1))) - (s0 * (t_way (Int.toNat (3 * v2))))), vI ((t_line (Int.toNat ((3 * v1) + 1))) - (s0 * (t_way (Int.toNat ((3 * v2) + 1))))), vI ((t_line (Int.toNat ((3 * v1) + 2))) - (s0 * (t_way (Int.toNat ((3 * v2) + 2)))))] cs_X11_281 ⟨rfl, rfl, Nat.le_of_ble_eq_true rfl, Nat.le_of_ble_eq_true rfl⟩ (ct_X11_square ⟨List.nodup_nil, fun i a h => by simp at h⟩ (fun i a e h => by simp at h) hc11 hc12 hc13 hy19) e_X11_part_160 rfl rfl (Nat.le_of_ble_eq_true rfl) ⟨Nat.le_refl _, Nat.le_refl _⟩ (fun Py19 => ?_)
    refine g_iadd e_X11_part_163 ?_
    refine g_aload_n e_X11_part_164 rfl ?_
    refine g_iload_n e_X11_part_165 rfl ?_
    obtain ⟨y20, hy20, hs⟩ := bind_elim hs
    refine g_callVr [vI v1] cv_X11_288 ⟨rfl, rfl, Nat.le_of_ble_eq_true rfl, Nat.le_of_ble_eq_true rfl⟩ (ct_X11_worth (a_t := a_t) (AO_call [0, 6] ao (by decide) rfl) (FA_call [0, 6] ao.1 rfl rfl) ok_t_line ok_v1 hy20) e_X11_part_166 (ao.2 0 _ rfl) (ov_get 0 ao.1 rfl rfl) rfl rfl rfl (Nat.le_of_ble_eq_true rfl) ⟨Nat.le_refl _, Nat.le_refl _⟩ (fun Py20 => ?_)
    obtain ⟨hc21, hs⟩ := chk_elim hs
    refine g_icmp_lt e_X11_part_169 hc21 Py20 hs (fun c169 hs => ?_) (fun c169 hs => ?_)
    · refine g_aload_n e_X11_part_175 rfl ?_
      refine g_get 0 28 ao rfl rfl fsX11_g28 fl_X11_63 e_X11_part_176 ?_
      refine g_iconst e_X11_part_179 ?_
      refine g_iload_n e_X11_part_180 rfl ?_
      refine g_imul e_X11_part_181 ?_
      refine g_iload e_X11_part_182 rfl ?_
      refine g_iast 6 ao rfl rfl ls_6 (Nat.le_of_ble_eq_true rfl) e_X11_part_184 hs (fun hi22 hs => ?_)
      refine g_aload_n e_X11_part_185 rfl ?_
      refine g_get 0 28 ao rfl rfl fsX11_g28 fl_X11_63 e_X11_part_186 ?_
      refine g_iconst e_X11_part_189 ?_
      refine g_iload_n e_X11_part_190 rfl ?_
      refine g_imul e_X11_part_191 ?_
      refine g_iconst e_X11_part_192 ?_
      refine g_iadd e_X11_part_193 ?_
      refine g_iload e_X11_part_194 rfl ?_
      refine g_iast 6 ao rfl rfl ls_6 (Nat.le_of_ble_eq_true rfl) e_X11_part_196 hs (fun hi23 hs => ?_)
      refine g_aload_n e_X11_part_197 rfl ?_
      refine g_get 0 28 ao rfl rfl fsX11_g28 fl_X11_63 e_X11_part_198 ?_
      refine g_iconst e_X11_part_201 ?_
      refine g_iload_n e_X11_part_202 rfl ?_
      refine g_imul e_X11_part_203 ?_
      refine g_iconst e_X11_part_204 ?_
      refine g_iadd e_X11_part_205 ?_
      refine g_iload e_X11_part_206 rfl ?_
      refine g_iast 6 ao rfl rfl ls_6 (Nat.le_of_ble_eq_true rfl) e_X11_part_208 hs (fun hi24 hs => ?_)
      refine g_aload_n e_X11_part_209 rfl ?_
      refine g_aload_n e_X11_part_210 rfl ?_
      refine g_get 0 26 ao rfl rfl fsX11_g26 fl_X11_57 e_X11_part_211 ?_
      refine g_iload_n e_X11_part_214 rfl ?_
      refine g_iald 4 ao rfl rfl (Nat.le_of_ble_eq_true rfl) e_X11_part_215 hs (fun hi25 hs => ?_)
      refine g_aload_n e_X11_part_216 rfl ?_
      refine g_get 0 27 ao rfl rfl fsX11_g27 fl_X11_60 e_X11_part_217 ?_
      refine g_iload_n e_X11_part_220 rfl ?_
      refine g_iald 5 ao rfl rfl (Nat.le_of_ble_eq_true rfl) e_X11_part_221 hs (fun hi26 hs => ?_)
      refine g_iload e_X11_part_222 rfl ?_
      refine g_iload e_X11_part_224 rfl ?_
      refine g_iload e_X11_part_226 rfl ?_
      obtain ⟨y27, hy27, hs⟩ := bind_elim hs
      refine g_callVr [vI (t_start (Int.toNat v1)), vI (t_goal (Int.toNat v1)), vI ((t_line (Int.toNat (3 * v1))) - (s0 * (t_way (Int.toNat (3 * v2))))), vI ((t_line (Int.toNat ((3 * v1) + 1))) - (s0 * (t_way (Int.toNat ((3 * v2) + 1))))), vI ((t_line (Int.toNat ((3 * v1) + 2))) - (s0 * (t_way (Int.toNat ((3 * v2) + 2)))))] cv_X11_277 ⟨rfl, rfl, Nat.le_of_ble_eq_true rfl, Nat.le_of_ble_eq_true rfl⟩ (Ct_heap (ct_X11_lineIn (a_t := a_t) (AO_call [0, 4, 5, 6] ao (by decide) rfl) (FA_call [0, 4, 5, 6] ao.1 rfl rfl) ok_t_lines ok_t_start ok_t_goal (okA_up (okA_up (okA_up ok_t_line hc15) hc16) hc17) (ok_t_start _) (ok_t_goal _) hc11 hc12 hc13 hy27) (ov_call (esn := [.inr (11, fsX11 a_t t_thrown t_taped t_p t_fault t_baseLow t_baseHigh t_newBaseLow t_newBaseHigh t_from t_knots y27.2.1 t_chosen t_undos t_redos t_aimedMany t_fits t_fitOf t_sights t_systems t_own t_cross t_curveLong t_wallFirst), IA E 7 t_many, IA E 144 t_way, ZA E 120 t_isGone, IA E 120 y27.2.2.1, IA E 120 y27.2.2.2.1, IA E 360 y27.2.2.2.2]) [0, 4, 5, 6] ao.1 rfl rfl rfl rfl)) e_X11_part_228 (ao.2 0 _ rfl) (ov_get 0 ao.1 rfl rfl) rfl rfl rfl (Nat.le_of_ble_eq_true rfl) ⟨Nat.le_refl _, Nat.le_refl _⟩ (fun Py27 => ?_)
      obtain rfl := Option.some.inj hs
      exact g_iret rfl ⟨Py27.1, Py27.2.1, Py27.2.2.1, Py27.2.2.2.1, Py27.2.2.2.2⟩ e_X11_part_231
    · refine g_bipush e_X11_part_172 bp_m2 ?_
      obtain rfl := Option.some.inj hs
      exact g_iret rfl ⟨(by decide : inI (-2)), ok_t_lines, ok_t_start, ok_t_goal, ok_t_line⟩ e_X11_part_174

noncomputable def m_X11_part_0 (t_lines : Int) (t_many : Nat → Int) (t_way : Nat → Int) (t_isGone : Nat → Int) (t_start : Nat → Int) (t_goal : Nat → Int) (t_line : Nat → Int) (v1 : Int) (v2 : Int) (v3 : Int) : Option (Int × Int × (Nat → Int) × (Nat → Int) × (Nat → Int)) :=
  (m_X11_isLine t_lines t_isGone v1).bind (fun y1 => if y1 = 0 then (some ((-1), t_lines, t_start, t_goal, t_line)) else (chk (inB 0 7) (chk (inI ((t_many (Int.toNat 0)) - 1)) ((m_X11_in v2 0 ((t_many (Int.toNat 0)) - 1)).bind (fun y4 => if y4 = 0 then (some ((-1), t_lines, t_start, t_goal, t_line)) else (if t_lines = 120 then (some ((-1), t_lines, t_start, t_goal, t_line)) else (if v3 = 0 then (m_X11_part_44 t_lines t_many t_way t_start t_goal t_line v1 v2 1) else (m_X11_part_44 t_lines t_many t_way t_start t_goal t_line v1 v2 (-1)))))))))

set_option maxRecDepth 10000 in
set_option maxHeartbeats 8000000 in
theorem g_X11_part_0 {l : Launch} {E : EE} {b0 n : Nat} {h : AH} {a_t : Nat} {t_thrown t_taped t_p t_fault t_baseLow t_baseHigh t_newBaseLow t_newBaseHigh t_from t_knots t_lines t_chosen t_undos t_redos t_aimedMany t_fits t_fitOf t_sights t_systems t_own t_cross t_curveLong t_wallFirst v1 v2 v3 : Int} {t_many t_way t_isGone t_start t_goal t_line : Nat → Int} {r : Int × Int × (Nat → Int) × (Nat → Int) × (Nat → Int)} (ao : AO b0 n [a_t, (a_t + 2), (a_t + 4), (a_t + 15), (a_t + 16), (a_t + 17), (a_t + 18)]) (ok_t_lines : inI t_lines) (ok_t_many : okA t_many) (ok_t_way : okA t_way) (ok_t_isGone : okZ t_isGone) (ok_t_start : okA t_start) (ok_t_goal : okA t_goal) (ok_t_line : okA t_line) (ok_v1 : inI v1) (ok_v2 : inI v2) (ok_v3 : inZ v3) (hs : m_X11_part_0 t_lines t_many t_way t_isGone t_start t_goal t_line v1 v2 v3 = some r) : G l E b0 M_X11_part (fun _ => True) (ZM E b0 (some (vI r.1)) (ov [a_t, (a_t + 2), (a_t + 4), (a_t + 15), (a_t + 16), (a_t + 17), (a_t + 18)] [.inr (11, fsX11 a_t t_thrown t_taped t_p t_fault t_baseLow t_baseHigh t_newBaseLow t_newBaseHigh t_from t_knots r.2.1 t_chosen t_undos t_redos t_aimedMany t_fits t_fitOf t_sights t_systems t_own t_cross t_curveLong t_wallFirst), IA E 7 t_many, IA E 144 t_way, ZA E 120 t_isGone, IA E 120 r.2.2.1, IA E 120 r.2.2.2.1, IA E 360 r.2.2.2.2] h) n (inI r.1 ∧ inI r.2.1 ∧ okA r.2.2.1 ∧ okA r.2.2.2.1 ∧ okA r.2.2.2.2) 0 0) 0 0 n (ov [a_t, (a_t + 2), (a_t + 4), (a_t + 15), (a_t + 16), (a_t + 17), (a_t + 18)] [.inr (11, fsX11 a_t t_thrown t_taped t_p t_fault t_baseLow t_baseHigh t_newBaseLow t_newBaseHigh t_from t_knots t_lines t_chosen t_undos t_redos t_aimedMany t_fits t_fitOf t_sights t_systems t_own t_cross t_curveLong t_wallFirst), IA E 7 t_many, IA E 144 t_way, ZA E 120 t_isGone, IA E 120 t_start, IA E 120 t_goal, IA E 360 t_line] h) 0 [some (.ref a_t), some (vI v1), some (vI v2), some (vI v3), none, none, none, none, none, none, none] [] := by
  rw [m_X11_part_0] at hs
  refine g_aload_n e_X11_part_0 rfl ?_
  refine g_iload_n e_X11_part_1 rfl ?_
  obtain ⟨y1, hy1, hs⟩ := bind_elim hs
  refine g_callVr [vI v1] cv_X11_285 ⟨rfl, rfl, Nat.le_of_ble_eq_true rfl, Nat.le_of_ble_eq_true rfl⟩ (ct_X11_isLine (a_t := a_t) (AO_call [0, 3] ao (by decide) rfl) (FA_call [0, 3] ao.1 rfl rfl) ok_t_lines ok_t_isGone ok_v1 hy1) e_X11_part_2 (ao.2 0 _ rfl) (ov_get 0 ao.1 rfl rfl) rfl rfl rfl (Nat.le_of_ble_eq_true rfl) ⟨Nat.le_refl _, Nat.le_refl _⟩ (fun Py1 => ?_)
  refine g_if_eq e_X11_part_5 (inZ_I Py1) hs (fun c5 hs => ?_) (fun c5 hs => ?_)
  · refine g_iconst e_X11_part_33 ?_
    obtain rfl := Option.some.inj hs
    exact g_iret rfl ⟨(by decide : inI (-1)), ok_t_lines, ok_t_start, ok_t_goal, ok_t_line⟩ e_X11_part_34
  · refine g_iload_n e_X11_part_8 rfl ?_
    refine g_iconst e_X11_part_9 ?_
    refine g_aload_n e_X11_part_10 rfl ?_
    refine g_get 0 5 ao rfl rfl fsX11_g5 fl_X11_13 e_X11_part_11 ?_
    refine g_iconst e_X11_part_14 ?_
    refine g_iald 1 ao rfl rfl (Nat.le_of_ble_eq_true rfl) e_X11_part_15 hs (fun hi2 hs => ?_)
    refine g_iconst e_X11_part_16 ?_
    refine g_isub e_X11_part_17 ?_
    obtain ⟨hc3, hs⟩ := chk_elim hs
    obtain ⟨y4, hy4, hs⟩ := bind_elim hs
    refine g_callSr [vI v2, vI 0, vI ((t_many (Int.toNat 0)) - 1)] cs_X11_226 ⟨rfl, rfl, Nat.le_of_ble_eq_true rfl, Nat.le_of_ble_eq_true rfl⟩ (ct_X11_in ⟨List.nodup_nil, fun i a h => by simp at h⟩ (fun i a e h => by simp at h) ok_v2 (by decide : inI 0) hc3 hy4) e_X11_part_18 rfl rfl (Nat.le_of_ble_eq_true rfl) ⟨Nat.le_refl _, Nat.le_refl _⟩ (fun Py4 => ?_)
    refine g_if_eq e_X11_part_21 (inZ_I Py4) hs (fun c21 hs => ?_) (fun c21 hs => ?_)
    · refine g_iconst e_X11_part_33 ?_
      obtain rfl := Option.some.inj hs
      exact g_iret rfl ⟨(by decide : inI (-1)), ok_t_lines, ok_t_start, ok_t_goal, ok_t_line⟩ e_X11_part_34
    · refine g_aload_n e_X11_part_24 rfl ?_
      refine g_get 0 23 ao rfl rfl fsX11_g23 fl_X11_271 e_X11_part_25 ?_
      refine g_bipush e_X11_part_28 bp_120 ?_
      refine g_icmp_ne e_X11_part_30 ok_t_lines (by decide : inI 120) hs (fun c30 hs => ?_) (fun c30 hs => ?_)
      · refine g_iconst e_X11_part_33 ?_
        obtain rfl := Option.some.inj hs
        exact g_iret rfl ⟨(by decide : inI (-1)), ok_t_lines, ok_t_start, ok_t_goal, ok_t_line⟩ e_X11_part_34
      · refine g_iload_n e_X11_part_35 rfl ?_
        refine g_if_eq e_X11_part_36 (inZ_I ok_v3) hs (fun c36 hs => ?_) (fun c36 hs => ?_)
        · refine g_iconst e_X11_part_43 ?_
          exact g_mask [true, true, true, false, true, true, true, true, true, true, true] (g_X11_part_44 ao ok_t_lines ok_t_many ok_t_way ok_t_isGone ok_t_start ok_t_goal ok_t_line ok_v1 ok_v2 (by decide : inI 1) hs)
        · refine g_iconst e_X11_part_39 ?_
          refine g_goto e_X11_part_40 ?_
          exact g_mask [true, true, true, false, true, true, true, true, true, true, true] (g_X11_part_44 ao ok_t_lines ok_t_many ok_t_way ok_t_isGone ok_t_start ok_t_goal ok_t_line ok_v1 ok_v2 (by decide : inI (-1)) hs)

noncomputable def m_X11_part (t_lines : Int) (t_many : Nat → Int) (t_way : Nat → Int) (t_isGone : Nat → Int) (t_start : Nat → Int) (t_goal : Nat → Int) (t_line : Nat → Int) (v1 : Int) (v2 : Int) (v3 : Int) : Option (Int × Int × (Nat → Int) × (Nat → Int) × (Nat → Int)) := m_X11_part_0 t_lines t_many t_way t_isGone t_start t_goal t_line v1 v2 v3

set_option maxRecDepth 10000 in
set_option maxHeartbeats 8000000 in
theorem ct_X11_part {l : Launch} {E : EE} {b0 n : Nat} {h : AH} {a_t : Nat} {t_thrown t_taped t_p t_fault t_baseLow t_baseHigh t_newBaseLow t_newBaseHigh t_from t_knots t_lines t_chosen t_undos t_redos t_aimedMany t_fits t_fitOf t_sights t_systems t_own t_cross t_curveLong t_wallFirst : Int} {t_many t_way t_isGone t_start t_goal t_line : Nat → Int} {v1 v2 v3 : Int} (ao : AO b0 n [a_t, (a_t + 2), (a_t + 4), (a_t + 15), (a_t + 16), (a_t + 17), (a_t + 18)]) (hf : FA h [a_t, (a_t + 2), (a_t + 4), (a_t + 15), (a_t + 16), (a_t + 17), (a_t + 18)] [.inr (11, fsX11 a_t t_thrown t_taped t_p t_fault t_baseLow t_baseHigh t_newBaseLow t_newBaseHigh t_from t_knots t_lines t_chosen t_undos t_redos t_aimedMany t_fits t_fitOf t_sights t_systems t_own t_cross t_curveLong t_wallFirst), IA E 7 t_many, IA E 144 t_way, ZA E 120 t_isGone, IA E 120 t_start, IA E 120 t_goal, IA E 360 t_line]) (ok_t_lines : inI t_lines) (ok_t_many : okA t_many) (ok_t_way : okA t_way) (ok_t_isGone : okZ t_isGone) (ok_t_start : okA t_start) (ok_t_goal : okA t_goal) (ok_t_line : okA t_line) (ok_v1 : inI v1) (ok_v2 : inI v2) (ok_v3 : inZ v3) {r : Int × Int × (Nat → Int) × (Nat → Int) × (Nat → Int)} (hm : m_X11_part t_lines t_many t_way t_isGone t_start t_goal t_line v1 v2 v3 = some r) : Ct l E b0 M_X11_part 0 0 [.ref a_t, vI v1, vI v2, vI v3] h n (some (vI r.1)) (ov [a_t, (a_t + 2), (a_t + 4), (a_t + 15), (a_t + 16), (a_t + 17), (a_t + 18)] [.inr (11, fsX11 a_t t_thrown t_taped t_p t_fault t_baseLow t_baseHigh t_newBaseLow t_newBaseHigh t_from t_knots r.2.1 t_chosen t_undos t_redos t_aimedMany t_fits t_fitOf t_sights t_systems t_own t_cross t_curveLong t_wallFirst), IA E 7 t_many, IA E 144 t_way, ZA E 120 t_isGone, IA E 120 r.2.2.1, IA E 120 r.2.2.2.1, IA E 360 r.2.2.2.2] h) n (inI r.1 ∧ inI r.2.1 ∧ okA r.2.2.1 ∧ okA r.2.2.2.1 ∧ okA r.2.2.2.2) := by
  rw [m_X11_part] at hm
  have hg : G l E b0 M_X11_part (fun _ => True) (ZM E b0 (some (vI r.1)) (ov [a_t, (a_t + 2), (a_t + 4), (a_t + 15), (a_t + 16), (a_t + 17), (a_t + 18)] [.inr (11, fsX11 a_t t_thrown t_taped t_p t_fault t_baseLow t_baseHigh t_newBaseLow t_newBaseHigh t_from t_knots r.2.1 t_chosen t_undos t_redos t_aimedMany t_fits t_fitOf t_sights t_systems t_own t_cross t_curveLong t_wallFirst), IA E 7 t_many, IA E 144 t_way, ZA E 120 t_isGone, IA E 120 r.2.2.1, IA E 120 r.2.2.2.1, IA E 360 r.2.2.2.2] h) n (inI r.1 ∧ inI r.2.1 ∧ okA r.2.2.1 ∧ okA r.2.2.2.1 ∧ okA r.2.2.2.2) 0 0) 0 0 n (ov [a_t, (a_t + 2), (a_t + 4), (a_t + 15), (a_t + 16), (a_t + 17), (a_t + 18)] [.inr (11, fsX11 a_t t_thrown t_taped t_p t_fault t_baseLow t_baseHigh t_newBaseLow t_newBaseHigh t_from t_knots t_lines t_chosen t_undos t_redos t_aimedMany t_fits t_fitOf t_sights t_systems t_own t_cross t_curveLong t_wallFirst), IA E 7 t_many, IA E 144 t_way, ZA E 120 t_isGone, IA E 120 t_start, IA E 120 t_goal, IA E 360 t_line] h) 0 [some (.ref a_t), some (vI v1), some (vI v2), some (vI v3), none, none, none, none, none, none, none] [] := by
    have hs := hm
    exact g_X11_part_0 ao ok_t_lines ok_t_many ok_t_way ok_t_isGone ok_t_start ok_t_goal ok_t_line ok_v1 ok_v2 ok_v3 hs
  rw [FA_id hf] at hg
  exact Ct_of [some (.ref a_t), some (vI v1), some (vI v2), some (vI v3), none, none, none, none, none, none, none] ⟨by decide +kernel, rfl⟩ rfl (Nat.le_of_ble_eq_true rfl) hg

/-! ===== X11_costOf ===== -/
theorem e_X11_costOf_0 : DC cX11_costOf 0 (.iconst 0) 1 1 := ⟨by decide +kernel, rfl⟩
theorem e_X11_costOf_1 : DC cX11_costOf 1 (.istore 4) 2 3 := ⟨by decide +kernel, rfl⟩
theorem e_X11_costOf_3 : DC cX11_costOf 3 (.iconst 0) 1 4 := ⟨by decide +kernel, rfl⟩
theorem e_X11_costOf_4 : DC cX11_costOf 4 (.istore 5) 2 6 := ⟨by decide +kernel, rfl⟩
theorem e_X11_costOf_6 : DC cX11_costOf 6 (.iconst 0) 1 7 := ⟨by decide +kernel, rfl⟩
theorem e_X11_costOf_7 : DC cX11_costOf 7 (.istore 6) 2 9 := ⟨by decide +kernel, rfl⟩
theorem e_X11_costOf_9 : DC cX11_costOf 9 (.iconst 0) 1 10 := ⟨by decide +kernel, rfl⟩
theorem e_X11_costOf_10 : DC cX11_costOf 10 (.istore 7) 2 12 := ⟨by decide +kernel, rfl⟩
theorem e_X11_costOf_12 : DC cX11_costOf 12 (.iconst 0) 1 13 := ⟨by decide +kernel, rfl⟩
theorem e_X11_costOf_13 : DC cX11_costOf 13 (.istore 8) 2 15 := ⟨by decide +kernel, rfl⟩
theorem e_X11_costOf_15 : DC cX11_costOf 15 (.iload 8) 2 17 := ⟨by decide +kernel, rfl⟩
theorem e_X11_costOf_17 : DC cX11_costOf 17 (.iload_n 2) 1 18 := ⟨by decide +kernel, rfl⟩
theorem e_X11_costOf_18 : DB cX11_costOf 18 (.if_icmp .ge 115) (115) 3 21 133 := ⟨by decide +kernel, rfl, rfl⟩
theorem e_X11_costOf_21 : DC cX11_costOf 21 (.iload_n 3) 1 22 := ⟨by decide +kernel, rfl⟩
theorem e_X11_costOf_22 : DC cX11_costOf 22 (.iload 8) 2 24 := ⟨by decide +kernel, rfl⟩
theorem e_X11_costOf_24 : DC cX11_costOf 24 (.ishr) 1 25 := ⟨by decide +kernel, rfl⟩
theorem e_X11_costOf_25 : DC cX11_costOf 25 (.iconst 1) 1 26 := ⟨by decide +kernel, rfl⟩
theorem e_X11_costOf_26 : DC cX11_costOf 26 (.iand) 1 27 := ⟨by decide +kernel, rfl⟩
theorem e_X11_costOf_27 : DC cX11_costOf 27 (.iconst 1) 1 28 := ⟨by decide +kernel, rfl⟩
theorem e_X11_costOf_28 : DB cX11_costOf 28 (.if_icmp .ne 99) (99) 3 31 127 := ⟨by decide +kernel, rfl, rfl⟩
theorem e_X11_costOf_31 : DC cX11_costOf 31 (.aload_n 0) 1 32 := ⟨by decide +kernel, rfl⟩
theorem e_X11_costOf_32 : DC cX11_costOf 32 (.getfield 57) 3 35 := ⟨by decide +kernel, rfl⟩
theorem e_X11_costOf_35 : DC cX11_costOf 35 (.aload_n 0) 1 36 := ⟨by decide +kernel, rfl⟩
theorem e_X11_costOf_36 : DC cX11_costOf 36 (.getfield 69) 3 39 := ⟨by decide +kernel, rfl⟩
theorem e_X11_costOf_39 : DC cX11_costOf 39 (.iload 8) 2 41 := ⟨by decide +kernel, rfl⟩
theorem e_X11_costOf_41 : DC cX11_costOf 41 (.iaload) 1 42 := ⟨by decide +kernel, rfl⟩
theorem e_X11_costOf_42 : DC cX11_costOf 42 (.iaload) 1 43 := ⟨by decide +kernel, rfl⟩
theorem e_X11_costOf_43 : DC cX11_costOf 43 (.iload_n 1) 1 44 := ⟨by decide +kernel, rfl⟩
theorem e_X11_costOf_44 : DB cX11_costOf 44 (.if_icmp .ne 7) (7) 3 47 51 := ⟨by decide +kernel, rfl, rfl⟩
theorem e_X11_costOf_47 : DC cX11_costOf 47 (.iconst 1) 1 48 := ⟨by decide +kernel, rfl⟩
theorem e_X11_costOf_48 : DB cX11_costOf 48 (.goto 4) (4) 3 51 52 := ⟨by decide +kernel, rfl, rfl⟩
theorem e_X11_costOf_51 : DC cX11_costOf 51 (.iconst (-1)) 1 52 := ⟨by decide +kernel, rfl⟩
theorem e_X11_costOf_52 : DC cX11_costOf 52 (.istore 9) 2 54 := ⟨by decide +kernel, rfl⟩
theorem e_X11_costOf_54 : DC cX11_costOf 54 (.iload 4) 2 56 := ⟨by decide +kernel, rfl⟩
theorem e_X11_costOf_56 : DC cX11_costOf 56 (.iload 9) 2 58 := ⟨by decide +kernel, rfl⟩
theorem e_X11_costOf_58 : DC cX11_costOf 58 (.aload_n 0) 1 59 := ⟨by decide +kernel, rfl⟩
theorem e_X11_costOf_59 : DC cX11_costOf 59 (.getfield 63) 3 62 := ⟨by decide +kernel, rfl⟩
theorem e_X11_costOf_62 : DC cX11_costOf 62 (.iconst 3) 1 63 := ⟨by decide +kernel, rfl⟩
theorem e_X11_costOf_63 : DC cX11_costOf 63 (.aload_n 0) 1 64 := ⟨by decide +kernel, rfl⟩
theorem e_X11_costOf_64 : DC cX11_costOf 64 (.getfield 69) 3 67 := ⟨by decide +kernel, rfl⟩
theorem e_X11_costOf_67 : DC cX11_costOf 67 (.iload 8) 2 69 := ⟨by decide +kernel, rfl⟩
theorem e_X11_costOf_69 : DC cX11_costOf 69 (.iaload) 1 70 := ⟨by decide +kernel, rfl⟩
theorem e_X11_costOf_70 : DC cX11_costOf 70 (.imul) 1 71 := ⟨by decide +kernel, rfl⟩
theorem e_X11_costOf_71 : DC cX11_costOf 71 (.iaload) 1 72 := ⟨by decide +kernel, rfl⟩
theorem e_X11_costOf_72 : DC cX11_costOf 72 (.imul) 1 73 := ⟨by decide +kernel, rfl⟩
theorem e_X11_costOf_73 : DC cX11_costOf 73 (.iadd) 1 74 := ⟨by decide +kernel, rfl⟩
theorem e_X11_costOf_74 : DC cX11_costOf 74 (.istore 4) 2 76 := ⟨by decide +kernel, rfl⟩
theorem e_X11_costOf_76 : DC cX11_costOf 76 (.iload 5) 2 78 := ⟨by decide +kernel, rfl⟩
theorem e_X11_costOf_78 : DC cX11_costOf 78 (.iload 9) 2 80 := ⟨by decide +kernel, rfl⟩
theorem e_X11_costOf_80 : DC cX11_costOf 80 (.aload_n 0) 1 81 := ⟨by decide +kernel, rfl⟩
theorem e_X11_costOf_81 : DC cX11_costOf 81 (.getfield 63) 3 84 := ⟨by decide +kernel, rfl⟩
theorem e_X11_costOf_84 : DC cX11_costOf 84 (.iconst 3) 1 85 := ⟨by decide +kernel, rfl⟩
theorem e_X11_costOf_85 : DC cX11_costOf 85 (.aload_n 0) 1 86 := ⟨by decide +kernel, rfl⟩
theorem e_X11_costOf_86 : DC cX11_costOf 86 (.getfield 69) 3 89 := ⟨by decide +kernel, rfl⟩
theorem e_X11_costOf_89 : DC cX11_costOf 89 (.iload 8) 2 91 := ⟨by decide +kernel, rfl⟩
theorem e_X11_costOf_91 : DC cX11_costOf 91 (.iaload) 1 92 := ⟨by decide +kernel, rfl⟩
theorem e_X11_costOf_92 : DC cX11_costOf 92 (.imul) 1 93 := ⟨by decide +kernel, rfl⟩
theorem e_X11_costOf_93 : DC cX11_costOf 93 (.iconst 1) 1 94 := ⟨by decide +kernel, rfl⟩
theorem e_X11_costOf_94 : DC cX11_costOf 94 (.iadd) 1 95 := ⟨by decide +kernel, rfl⟩
theorem e_X11_costOf_95 : DC cX11_costOf 95 (.iaload) 1 96 := ⟨by decide +kernel, rfl⟩
theorem e_X11_costOf_96 : DC cX11_costOf 96 (.imul) 1 97 := ⟨by decide +kernel, rfl⟩
theorem e_X11_costOf_97 : DC cX11_costOf 97 (.iadd) 1 98 := ⟨by decide +kernel, rfl⟩
theorem e_X11_costOf_98 : DC cX11_costOf 98 (.istore 5) 2 100 := ⟨by decide +kernel, rfl⟩
theorem e_X11_costOf_100 : DC cX11_costOf 100 (.iload 6) 2 102 := ⟨by decide +kernel, rfl⟩
theorem e_X11_costOf_102 : DC cX11_costOf 102 (.iload 9) 2 104 := ⟨by decide +kernel, rfl⟩
theorem e_X11_costOf_104 : DC cX11_costOf 104 (.aload_n 0) 1 105 := ⟨by decide +kernel, rfl⟩
theorem e_X11_costOf_105 : DC cX11_costOf 105 (.getfield 63) 3 108 := ⟨by decide +kernel, rfl⟩
theorem e_X11_costOf_108 : DC cX11_costOf 108 (.iconst 3) 1 109 := ⟨by decide +kernel, rfl⟩
theorem e_X11_costOf_109 : DC cX11_costOf 109 (.aload_n 0) 1 110 := ⟨by decide +kernel, rfl⟩
theorem e_X11_costOf_110 : DC cX11_costOf 110 (.getfield 69) 3 113 := ⟨by decide +kernel, rfl⟩
theorem e_X11_costOf_113 : DC cX11_costOf 113 (.iload 8) 2 115 := ⟨by decide +kernel, rfl⟩
theorem e_X11_costOf_115 : DC cX11_costOf 115 (.iaload) 1 116 := ⟨by decide +kernel, rfl⟩
theorem e_X11_costOf_116 : DC cX11_costOf 116 (.imul) 1 117 := ⟨by decide +kernel, rfl⟩
theorem e_X11_costOf_117 : DC cX11_costOf 117 (.iconst 2) 1 118 := ⟨by decide +kernel, rfl⟩
theorem e_X11_costOf_118 : DC cX11_costOf 118 (.iadd) 1 119 := ⟨by decide +kernel, rfl⟩
theorem e_X11_costOf_119 : DC cX11_costOf 119 (.iaload) 1 120 := ⟨by decide +kernel, rfl⟩
theorem e_X11_costOf_120 : DC cX11_costOf 120 (.imul) 1 121 := ⟨by decide +kernel, rfl⟩
theorem e_X11_costOf_121 : DC cX11_costOf 121 (.iadd) 1 122 := ⟨by decide +kernel, rfl⟩
theorem e_X11_costOf_122 : DC cX11_costOf 122 (.istore 6) 2 124 := ⟨by decide +kernel, rfl⟩
theorem e_X11_costOf_124 : DC cX11_costOf 124 (.iinc 7 1) 3 127 := ⟨by decide +kernel, rfl⟩
theorem e_X11_costOf_127 : DC cX11_costOf 127 (.iinc 8 1) 3 130 := ⟨by decide +kernel, rfl⟩
theorem e_X11_costOf_130 : DB cX11_costOf 130 (.goto (-115)) (-115) 3 133 15 := ⟨by decide +kernel, rfl, rfl⟩
theorem e_X11_costOf_133 : DC cX11_costOf 133 (.iload 7) 2 135 := ⟨by decide +kernel, rfl⟩
theorem e_X11_costOf_135 : DC cX11_costOf 135 (.iconst 1) 1 136 := ⟨by decide +kernel, rfl⟩
theorem e_X11_costOf_136 : DB cX11_costOf 136 (.if_icmp .eq 31) (31) 3 139 167 := ⟨by decide +kernel, rfl, rfl⟩
theorem e_X11_costOf_139 : DC cX11_costOf 139 (.iload 4) 2 141 := ⟨by decide +kernel, rfl⟩
theorem e_X11_costOf_141 : DB cX11_costOf 141 (.ifCond .ne 13) (13) 3 144 154 := ⟨by decide +kernel, rfl, rfl⟩
theorem e_X11_costOf_144 : DC cX11_costOf 144 (.iload 5) 2 146 := ⟨by decide +kernel, rfl⟩
theorem e_X11_costOf_146 : DB cX11_costOf 146 (.ifCond .ne 8) (8) 3 149 154 := ⟨by decide +kernel, rfl, rfl⟩
theorem e_X11_costOf_149 : DC cX11_costOf 149 (.iload 6) 2 151 := ⟨by decide +kernel, rfl⟩
theorem e_X11_costOf_151 : DB cX11_costOf 151 (.ifCond .eq 16) (16) 3 154 167 := ⟨by decide +kernel, rfl, rfl⟩
theorem e_X11_costOf_154 : DC cX11_costOf 154 (.aload_n 0) 1 155 := ⟨by decide +kernel, rfl⟩
theorem e_X11_costOf_155 : DC cX11_costOf 155 (.iload 4) 2 157 := ⟨by decide +kernel, rfl⟩
theorem e_X11_costOf_157 : DC cX11_costOf 157 (.iload 5) 2 159 := ⟨by decide +kernel, rfl⟩
theorem e_X11_costOf_159 : DC cX11_costOf 159 (.iload 6) 2 161 := ⟨by decide +kernel, rfl⟩
theorem e_X11_costOf_161 : DC cX11_costOf 161 (.invokevirtual 295) 3 164 := ⟨by decide +kernel, rfl⟩
theorem e_X11_costOf_164 : DB cX11_costOf 164 (.ifCond .eq 7) (7) 3 167 171 := ⟨by decide +kernel, rfl, rfl⟩
theorem e_X11_costOf_167 : DC cX11_costOf 167 (.iconst 1) 1 168 := ⟨by decide +kernel, rfl⟩
theorem e_X11_costOf_168 : DB cX11_costOf 168 (.goto 4) (4) 3 171 172 := ⟨by decide +kernel, rfl, rfl⟩
theorem e_X11_costOf_171 : DC cX11_costOf 171 (.iconst 0) 1 172 := ⟨by decide +kernel, rfl⟩
theorem e_X11_costOf_172 : DC cX11_costOf 172 (.istore 8) 2 174 := ⟨by decide +kernel, rfl⟩
theorem e_X11_costOf_174 : DC cX11_costOf 174 (.iload 8) 2 176 := ⟨by decide +kernel, rfl⟩
theorem e_X11_costOf_176 : DB cX11_costOf 176 (.ifCond .eq 15) (15) 3 179 191 := ⟨by decide +kernel, rfl, rfl⟩
theorem e_X11_costOf_179 : DC cX11_costOf 179 (.iload 4) 2 181 := ⟨by decide +kernel, rfl⟩
theorem e_X11_costOf_181 : DC cX11_costOf 181 (.iload 5) 2 183 := ⟨by decide +kernel, rfl⟩
theorem e_X11_costOf_183 : DC cX11_costOf 183 (.iload 6) 2 185 := ⟨by decide +kernel, rfl⟩
theorem e_X11_costOf_185 : DC cX11_costOf 185 (.invokestatic 281) 3 188 := ⟨by decide +kernel, rfl⟩
theorem e_X11_costOf_188 : DB cX11_costOf 188 (.goto 4) (4) 3 191 192 := ⟨by decide +kernel, rfl, rfl⟩
theorem e_X11_costOf_191 : DC cX11_costOf 191 (.iconst (-1)) 1 192 := ⟨by decide +kernel, rfl⟩
theorem e_X11_costOf_192 : DC cX11_costOf 192 (.ireturn) 1 193 := ⟨by decide +kernel, rfl⟩
noncomputable def m_X11_costOf_127 (t_start : Nat → Int) (t_line : Nat → Int) (t_choice : Nat → Int) (v1 : Int) (v2 : Int) (v3 : Int) (v4 : Int) (v5 : Int) (v6 : Int) (v7 : Int) (v8 : Int) (ag : Int → Int → Int → Int → Int → Option (Int)) (k_133 : Int → Int → Int → Int → Int → Option (Int)) : Option (Int) :=
  chk (inI (v8 + 1)) (ag v4 v5 v6 v7 (v8 + 1))

set_option maxRecDepth 10000 in
set_option maxHeartbeats 8000000 in
theorem g_X11_costOf_127 {l : Launch} {E : EE} {b0 n : Nat} {h : AH} {a_t : Nat} {t_thrown t_taped t_p t_fault t_baseLow t_baseHigh t_newBaseLow t_newBaseHigh t_from t_knots t_lines t_chosen t_undos t_redos t_aimedMany t_fits t_fitOf t_sights t_systems t_own t_cross t_curveLong t_wallFirst v1 v2 v3 v4 v5 v6 v7 v8 : Int} {t_many t_way t_start t_line t_choice : Nat → Int} {r : Int} {ag : Int → Int → Int → Int → Int → Option (Int)} {k_133 : Int → Int → Int → Int → Int → Option (Int)} (ao : AO b0 n [a_t, (a_t + 2), (a_t + 4), (a_t + 16), (a_t + 18), (a_t + 20)]) (ok_t_many : okA t_many) (ok_t_way : okA t_way) (ok_t_start : okA t_start) (ok_t_line : okA t_line) (ok_t_choice : okA t_choice) (ok_v1 : inI v1) (ok_v2 : inI v2) (ok_v3 : inI v3) (ok_v4 : inI v4) (ok_v5 : inI v5) (ok_v6 : inI v6) (ok_v7 : inI v7) (ok_v8 : inI v8) (hag : ∀ (v4_ : Int) (v5_ : Int) (v6_ : Int) (v7_ : Int) (v8_ : Int), inI v4_ → inI v5_ → inI v6_ → inI v7_ → inI v8_ → ag v4_ v5_ v6_ v7_ v8_ = some r → G l E b0 M_X11_costOf (fun _ => True) (ZM E b0 (some (vI r)) (ov [a_t, (a_t + 2), (a_t + 4), (a_t + 16), (a_t + 18), (a_t + 20)] [.inr (11, fsX11 a_t t_thrown t_taped t_p t_fault t_baseLow t_baseHigh t_newBaseLow t_newBaseHigh t_from t_knots t_lines t_chosen t_undos t_redos t_aimedMany t_fits t_fitOf t_sights t_systems t_own t_cross t_curveLong t_wallFirst), IA E 7 t_many, IA E 144 t_way, IA E 120 t_start, IA E 360 t_line, IA E 8 t_choice] h) n (inI r) 0 0) 0 0 n (ov [a_t, (a_t + 2), (a_t + 4), (a_t + 16), (a_t + 18), (a_t + 20)] [.inr (11, fsX11 a_t t_thrown t_taped t_p t_fault t_baseLow t_baseHigh t_newBaseLow t_newBaseHigh t_from t_knots t_lines t_chosen t_undos t_redos t_aimedMany t_fits t_fitOf t_sights t_systems t_own t_cross t_curveLong t_wallFirst), IA E 7 t_many, IA E 144 t_way, IA E 120 t_start, IA E 360 t_line, IA E 8 t_choice] h) 15 [some (.ref a_t), some (vI v1), some (vI v2), some (vI v3), some (vI v4_), some (vI v5_), some (vI v6_), some (vI v7_), some (vI v8_), none] []) (hk_133 : ∀ (v4_ : Int) (v5_ : Int) (v6_ : Int) (v7_ : Int) (v8_ : Int), inI v4_ → inI v5_ → inI v6_ → inI v7_ → inI v8_ → k_133 v4_ v5_ v6_ v7_ v8_ = some r → G l E b0 M_X11_costOf (fun _ => True) (ZM E b0 (some (vI r)) (ov [a_t, (a_t + 2), (a_t + 4), (a_t + 16), (a_t + 18), (a_t + 20)] [.inr (11, fsX11 a_t t_thrown t_taped t_p t_fault t_baseLow t_baseHigh t_newBaseLow t_newBaseHigh t_from t_knots t_lines t_chosen t_undos t_redos t_aimedMany t_fits t_fitOf t_sights t_systems t_own t_cross t_curveLong t_wallFirst), IA E 7 t_many, IA E 144 t_way, IA E 120 t_start, IA E 360 t_line, IA E 8 t_choice] h) n (inI r) 0 0) 0 0 n (ov [a_t, (a_t + 2), (a_t + 4), (a_t + 16), (a_t + 18), (a_t + 20)] [.inr (11, fsX11 a_t t_thrown t_taped t_p t_fault t_baseLow t_baseHigh t_newBaseLow t_newBaseHigh t_from t_knots t_lines t_chosen t_undos t_redos t_aimedMany t_fits t_fitOf t_sights t_systems t_own t_cross t_curveLong t_wallFirst), IA E 7 t_many, IA E 144 t_way, IA E 120 t_start, IA E 360 t_line, IA E 8 t_choice] h) 133 [some (.ref a_t), none, none, none, some (vI v4_), some (vI v5_), some (vI v6_), some (vI v7_), none, none] []) (hs : m_X11_costOf_127 t_start t_line t_choice v1 v2 v3 v4 v5 v6 v7 v8 ag k_133 = some r) : G l E b0 M_X11_costOf (fun _ => True) (ZM E b0 (some (vI r)) (ov [a_t, (a_t + 2), (a_t + 4), (a_t + 16), (a_t + 18), (a_t + 20)] [.inr (11, fsX11 a_t t_thrown t_taped t_p t_fault t_baseLow t_baseHigh t_newBaseLow t_newBaseHigh t_from t_knots t_lines t_chosen t_undos t_redos t_aimedMany t_fits t_fitOf t_sights t_systems t_own t_cross t_curveLong t_wallFirst), IA E 7 t_many, IA E 144 t_way, IA E 120 t_start, IA E 360 t_line, IA E 8 t_choice] h) n (inI r) 0 0) 0 0 n (ov [a_t, (a_t + 2), (a_t + 4), (a_t + 16), (a_t + 18), (a_t + 20)] [.inr (11, fsX11 a_t t_thrown t_taped t_p t_fault t_baseLow t_baseHigh t_newBaseLow t_newBaseHigh t_from t_knots t_lines t_chosen t_undos t_redos t_aimedMany t_fits t_fitOf t_sights t_systems t_own t_cross t_curveLong t_wallFirst), IA E 7 t_many, IA E 144 t_way, IA E 120 t_start, IA E 360 t_line, IA E 8 t_choice] h) 127 [some (.ref a_t), some (vI v1), some (vI v2), some (vI v3), some (vI v4), some (vI v5), some (vI v6), some (vI v7), some (vI v8), none] [] := by
  rw [m_X11_costOf_127] at hs
  refine g_iinc e_X11_costOf_127 rfl st1_8 rfl ?_
  refine g_goto e_X11_costOf_130 ?_
  obtain ⟨hc9, hs⟩ := chk_elim hs
  exact hag _ _ _ _ _ ok_v4 ok_v5 ok_v6 ok_v7 hc9 hs

noncomputable def m_X11_costOf_52 (t_start : Nat → Int) (t_line : Nat → Int) (t_choice : Nat → Int) (v1 : Int) (v2 : Int) (v3 : Int) (v4 : Int) (v5 : Int) (v6 : Int) (v7 : Int) (v8 : Int) (s0 : Int) (ag : Int → Int → Int → Int → Int → Option (Int)) (k_133 : Int → Int → Int → Int → Int → Option (Int)) : Option (Int) :=
  chk (inB v8 8) (chk (inB (3 * (t_choice (Int.toNat v8))) 360) (chk (inB v8 8) (chk (inB ((3 * (t_choice (Int.toNat v8))) + 1) 360) (chk (inB v8 8) (chk (inB ((3 * (t_choice (Int.toNat v8))) + 2) 360) (chk (inI (v4 + (s0 * (t_line (Int.toNat (3 * (t_choice (Int.toNat v8)))))))) (chk (inI (v5 + (s0 * (t_line (Int.toNat ((3 * (t_choice (Int.toNat v8))) + 1)))))) (chk (inI (v6 + (s0 * (t_line (Int.toNat ((3 * (t_choice (Int.toNat v8))) + 2)))))) (chk (inI (v7 + 1)) (m_X11_costOf_127 t_start t_line t_choice v1 v2 v3 (v4 + (s0 * (t_line (Int.toNat (3 * (t_choice (Int.toNat v8))))))) (v5 + (s0 * (t_line (Int.toNat ((3 * (t_choice (Int.toNat v8))) + 1))))) (v6 + (s0 * (t_line (Int.toNat ((3 * (t_choice (Int.toNat v8))) + 2))))) (v7 + 1) v8 ag k_133))))))))))

set_option maxRecDepth 10000 in
set_option maxHeartbeats 8000000 in
theorem g_X11_costOf_52 {l : Launch} {E : EE} {b0 n : Nat} {h : AH} {a_t : Nat} {t_thrown t_taped t_p t_fault t_baseLow t_baseHigh t_newBaseLow t_newBaseHigh t_from t_knots t_lines t_chosen t_undos t_redos t_aimedMany t_fits t_fitOf t_sights t_systems t_own t_cross t_curveLong t_wallFirst v1 v2 v3 v4 v5 v6 v7 v8 s0 : Int} {t_many t_way t_start t_line t_choice : Nat → Int} {r : Int} {ag : Int → Int → Int → Int → Int → Option (Int)} {k_133 : Int → Int → Int → Int → Int → Option (Int)} (ao : AO b0 n [a_t, (a_t + 2), (a_t + 4), (a_t + 16), (a_t + 18), (a_t + 20)]) (ok_t_many : okA t_many) (ok_t_way : okA t_way) (ok_t_start : okA t_start) (ok_t_line : okA t_line) (ok_t_choice : okA t_choice) (ok_v1 : inI v1) (ok_v2 : inI v2) (ok_v3 : inI v3) (ok_v4 : inI v4) (ok_v5 : inI v5) (ok_v6 : inI v6) (ok_v7 : inI v7) (ok_v8 : inI v8) (ok_s0 : inI s0) (hag : ∀ (v4_ : Int) (v5_ : Int) (v6_ : Int) (v7_ : Int) (v8_ : Int), inI v4_ → inI v5_ → inI v6_ → inI v7_ → inI v8_ → ag v4_ v5_ v6_ v7_ v8_ = some r → G l E b0 M_X11_costOf (fun _ => True) (ZM E b0 (some (vI r)) (ov [a_t, (a_t + 2), (a_t + 4), (a_t + 16), (a_t + 18), (a_t + 20)] [.inr (11, fsX11 a_t t_thrown t_taped t_p t_fault t_baseLow t_baseHigh t_newBaseLow t_newBaseHigh t_from t_knots t_lines t_chosen t_undos t_redos t_aimedMany t_fits t_fitOf t_sights t_systems t_own t_cross t_curveLong t_wallFirst), IA E 7 t_many, IA E 144 t_way, IA E 120 t_start, IA E 360 t_line, IA E 8 t_choice] h) n (inI r) 0 0) 0 0 n (ov [a_t, (a_t + 2), (a_t + 4), (a_t + 16), (a_t + 18), (a_t + 20)] [.inr (11, fsX11 a_t t_thrown t_taped t_p t_fault t_baseLow t_baseHigh t_newBaseLow t_newBaseHigh t_from t_knots t_lines t_chosen t_undos t_redos t_aimedMany t_fits t_fitOf t_sights t_systems t_own t_cross t_curveLong t_wallFirst), IA E 7 t_many, IA E 144 t_way, IA E 120 t_start, IA E 360 t_line, IA E 8 t_choice] h) 15 [some (.ref a_t), some (vI v1), some (vI v2), some (vI v3), some (vI v4_), some (vI v5_), some (vI v6_), some (vI v7_), some (vI v8_), none] []) (hk_133 : ∀ (v4_ : Int) (v5_ : Int) (v6_ : Int) (v7_ : Int) (v8_ : Int), inI v4_ → inI v5_ → inI v6_ → inI v7_ → inI v8_ → k_133 v4_ v5_ v6_ v7_ v8_ = some r → G l E b0 M_X11_costOf (fun _ => True) (ZM E b0 (some (vI r)) (ov [a_t, (a_t + 2), (a_t + 4), (a_t + 16), (a_t + 18), (a_t + 20)] [.inr (11, fsX11 a_t t_thrown t_taped t_p t_fault t_baseLow t_baseHigh t_newBaseLow t_newBaseHigh t_from t_knots t_lines t_chosen t_undos t_redos t_aimedMany t_fits t_fitOf t_sights t_systems t_own t_cross t_curveLong t_wallFirst), IA E 7 t_many, IA E 144 t_way, IA E 120 t_start, IA E 360 t_line, IA E 8 t_choice] h) n (inI r) 0 0) 0 0 n (ov [a_t, (a_t + 2), (a_t + 4), (a_t + 16), (a_t + 18), (a_t + 20)] [.inr (11, fsX11 a_t t_thrown t_taped t_p t_fault t_baseLow t_baseHigh t_newBaseLow t_newBaseHigh t_from t_knots t_lines t_chosen t_undos t_redos t_aimedMany t_fits t_fitOf t_sights t_systems t_own t_cross t_curveLong t_wallFirst), IA E 7 t_many, IA E 144 t_way, IA E 120 t_start, IA E 360 t_line, IA E 8 t_choice] h) 133 [some (.ref a_t), none, none, none, some (vI v4_), some (vI v5_), some (vI v6_), some (vI v7_), none, none] []) (hs : m_X11_costOf_52 t_start t_line t_choice v1 v2 v3 v4 v5 v6 v7 v8 s0 ag k_133 = some r) : G l E b0 M_X11_costOf (fun _ => True) (ZM E b0 (some (vI r)) (ov [a_t, (a_t + 2), (a_t + 4), (a_t + 16), (a_t + 18), (a_t + 20)] [.inr (11, fsX11 a_t t_thrown t_taped t_p t_fault t_baseLow t_baseHigh t_newBaseLow t_newBaseHigh t_from t_knots t_lines t_chosen t_undos t_redos t_aimedMany t_fits t_fitOf t_sights t_systems t_own t_cross t_curveLong t_wallFirst), IA E 7 t_many, IA E 144 t_way, IA E 120 t_start, IA E 360 t_line, IA E 8 t_choice] h) n (inI r) 0 0) 0 0 n (ov [a_t, (a_t + 2), (a_t + 4), (a_t + 16), (a_t + 18), (a_t + 20)] [.inr (11, fsX11 a_t t_thrown t_taped t_p t_fault t_baseLow t_baseHigh t_newBaseLow t_newBaseHigh t_from t_knots t_lines t_chosen t_undos t_redos t_aimedMany t_fits t_fitOf t_sights t_systems t_own t_cross t_curveLong t_wallFirst), IA E 7 t_many, IA E 144 t_way, IA E 120 t_start, IA E 360 t_line, IA E 8 t_choice] h) 52 [some (.ref a_t), some (vI v1), some (vI v2), some (vI v3), some (vI v4), some (vI v5), some (vI v6), some (vI v7), some (vI v8), none] [vI s0] := by
  rw [m_X11_costOf_52] at hs
  refine g_istore e_X11_costOf_52 st1_9 rfl ?_
  refine g_iload e_X11_costOf_54 rfl ?_
  refine g_iload e_X11_costOf_56 rfl ?_
  refine g_aload_n e_X11_costOf_58 rfl ?_
  refine g_get 0 28 ao rfl rfl fsX11_g28 fl_X11_63 e_X11_costOf_59 ?_
  refine g_iconst e_X11_costOf_62 ?_
  refine g_aload_n e_X11_costOf_63 rfl ?_
  refine g_get 0 31 ao rfl rfl fsX11_g31 fl_X11_69 e_X11_costOf_64 ?_
  refine g_iload e_X11_costOf_67 rfl ?_
  refine g_iald 5 ao rfl rfl (Nat.le_of_ble_eq_true rfl) e_X11_costOf_69 hs (fun hi3 hs => ?_)
  refine g_imul e_X11_costOf_70 ?_
  refine g_iald 4 ao rfl rfl (Nat.le_of_ble_eq_true rfl) e_X11_costOf_71 hs (fun hi4 hs => ?_)
  refine g_imul e_X11_costOf_72 ?_
  refine g_iadd e_X11_costOf_73 ?_
  refine g_istore e_X11_costOf_74 st1_4 rfl ?_
  refine g_iload e_X11_costOf_76 rfl ?_
  refine g_iload e_X11_costOf_78 rfl ?_
  refine g_aload_n e_X11_costOf_80 rfl ?_
  refine g_get 0 28 ao rfl rfl fsX11_g28 fl_X11_63 e_X11_costOf_81 ?_
  refine g_iconst e_X11_costOf_84 ?_
  refine g_aload_n e_X11_costOf_85 rfl ?_
  refine g_get 0 31 ao rfl rfl fsX11_g31 fl_X11_69 e_X11_costOf_86 ?_
  refine g_iload e_X11_costOf_89 rfl ?_
  refine g_iald 5 ao rfl rfl (Nat.le_of_ble_eq_true rfl) e_X11_costOf_91 hs (fun hi5 hs => ?_)
  refine g_imul e_X11_costOf_92 ?_
  refine g_iconst e_X11_costOf_93 ?_
  refine g_iadd e_X11_costOf_94 ?_
  refine g_iald 4 ao rfl rfl (Nat.le_of_ble_eq_true rfl) e_X11_costOf_95 hs (fun hi6 hs => ?_)
  refine g_imul e_X11_costOf_96 ?_
  refine g_iadd e_X11_costOf_97 ?_
  refine g_istore e_X11_costOf_98 st1_5 rfl ?_
  refine g_iload e_X11_costOf_100 rfl ?_
  refine g_iload e_X11_costOf_102 rfl ?_
  refine g_aload_n e_X11_costOf_104 rfl ?_
  refine g_get 0 28 ao rfl rfl fsX11_g28 fl_X11_63 e_X11_costOf_105 ?_
  refine g_iconst e_X11_costOf_108 ?_
  refine g_aload_n e_X11_costOf_109 rfl ?_
  refine g_get 0 31 ao rfl rfl fsX11_g31 fl_X11_69 e_X11_costOf_110 ?_
  refine g_iload e_X11_costOf_113 rfl ?_
  refine g_iald 5 ao rfl rfl (Nat.le_of_ble_eq_true rfl) e_X11_costOf_115 hs (fun hi7 hs => ?_)
  refine g_imul e_X11_costOf_116 ?_
  refine g_iconst e_X11_costOf_117 ?_
  refine g_iadd e_X11_costOf_118 ?_
  refine g_iald 4 ao rfl rfl (Nat.le_of_ble_eq_true rfl) e_X11_costOf_119 hs (fun hi8 hs => ?_)
  refine g_imul e_X11_costOf_120 ?_
  refine g_iadd e_X11_costOf_121 ?_
  refine g_istore e_X11_costOf_122 st1_6 rfl ?_
  refine g_iinc e_X11_costOf_124 rfl st1_7 rfl ?_
  obtain ⟨hc10, hs⟩ := chk_elim hs
  obtain ⟨hc11, hs⟩ := chk_elim hs
  obtain ⟨hc12, hs⟩ := chk_elim hs
  obtain ⟨hc13, hs⟩ := chk_elim hs
  exact g_mask [true, true, true, true, true, true, true, true, true, false] (g_X11_costOf_127 ao ok_t_many ok_t_way ok_t_start ok_t_line ok_t_choice ok_v1 ok_v2 ok_v3 hc10 hc11 hc12 hc13 ok_v8 hag hk_133 hs)

noncomputable def m_X11_costOf_15 (t_start : Nat → Int) (t_line : Nat → Int) (t_choice : Nat → Int) (v1 : Int) (v2 : Int) (v3 : Int) (k_133 : Int → Int → Int → Int → Int → Option (Int)) : Nat → Int → Int → Int → Int → Int → Option (Int)
  | 0, _, _, _, _, _ => none
  | F + 1, v4, v5, v6, v7, v8 => if v2 ≤ v8 then (k_133 v4 v5 v6 v7 v8) else (if (bAnd (bShr v3 v8) 1) = 1 then (chk (inB v8 8) (chk (inB (t_choice (Int.toNat v8)) 120) (if (t_start (Int.toNat (t_choice (Int.toNat v8)))) = v1 then (m_X11_costOf_52 t_start t_line t_choice v1 v2 v3 v4 v5 v6 v7 v8 1 (m_X11_costOf_15 t_start t_line t_choice v1 v2 v3 k_133 F) k_133) else (m_X11_costOf_52 t_start t_line t_choice v1 v2 v3 v4 v5 v6 v7 v8 (-1) (m_X11_costOf_15 t_start t_line t_choice v1 v2 v3 k_133 F) k_133)))) else (m_X11_costOf_127 t_start t_line t_choice v1 v2 v3 v4 v5 v6 v7 v8 (m_X11_costOf_15 t_start t_line t_choice v1 v2 v3 k_133 F) k_133))

set_option maxRecDepth 10000 in
set_option maxHeartbeats 8000000 in
theorem g_X11_costOf_15 {l : Launch} {E : EE} {b0 n : Nat} {h : AH} {a_t : Nat} {t_thrown t_taped t_p t_fault t_baseLow t_baseHigh t_newBaseLow t_newBaseHigh t_from t_knots t_lines t_chosen t_undos t_redos t_aimedMany t_fits t_fitOf t_sights t_systems t_own t_cross t_curveLong t_wallFirst v1 v2 v3 : Int} {t_many t_way t_start t_line t_choice : Nat → Int} {r : Int} {k_133 : Int → Int → Int → Int → Int → Option (Int)} (ao : AO b0 n [a_t, (a_t + 2), (a_t + 4), (a_t + 16), (a_t + 18), (a_t + 20)]) (ok_t_many : okA t_many) (ok_t_way : okA t_way) (ok_t_start : okA t_start) (ok_t_line : okA t_line) (ok_t_choice : okA t_choice) (ok_v1 : inI v1) (ok_v2 : inI v2) (ok_v3 : inI v3) (hk_133 : ∀ (v4_ : Int) (v5_ : Int) (v6_ : Int) (v7_ : Int) (v8_ : Int), inI v4_ → inI v5_ → inI v6_ → inI v7_ → inI v8_ → k_133 v4_ v5_ v6_ v7_ v8_ = some r → G l E b0 M_X11_costOf (fun _ => True) (ZM E b0 (some (vI r)) (ov [a_t, (a_t + 2), (a_t + 4), (a_t + 16), (a_t + 18), (a_t + 20)] [.inr (11, fsX11 a_t t_thrown t_taped t_p t_fault t_baseLow t_baseHigh t_newBaseLow t_newBaseHigh t_from t_knots t_lines t_chosen t_undos t_redos t_aimedMany t_fits t_fitOf t_sights t_systems t_own t_cross t_curveLong t_wallFirst), IA E 7 t_many, IA E 144 t_way, IA E 120 t_start, IA E 360 t_line, IA E 8 t_choice] h) n (inI r) 0 0) 0 0 n (ov [a_t, (a_t + 2), (a_t + 4), (a_t + 16), (a_t + 18), (a_t + 20)] [.inr (11, fsX11 a_t t_thrown t_taped t_p t_fault t_baseLow t_baseHigh t_newBaseLow t_newBaseHigh t_from t_knots t_lines t_chosen t_undos t_redos t_aimedMany t_fits t_fitOf t_sights t_systems t_own t_cross t_curveLong t_wallFirst), IA E 7 t_many, IA E 144 t_way, IA E 120 t_start, IA E 360 t_line, IA E 8 t_choice] h) 133 [some (.ref a_t), none, none, none, some (vI v4_), some (vI v5_), some (vI v6_), some (vI v7_), none, none] []) :
    ∀ (F : Nat) (v4 : Int) (v5 : Int) (v6 : Int) (v7 : Int) (v8 : Int), inI v4 → inI v5 → inI v6 → inI v7 → inI v8 → m_X11_costOf_15 t_start t_line t_choice v1 v2 v3 k_133 F v4 v5 v6 v7 v8 = some r → G l E b0 M_X11_costOf (fun _ => True) (ZM E b0 (some (vI r)) (ov [a_t, (a_t + 2), (a_t + 4), (a_t + 16), (a_t + 18), (a_t + 20)] [.inr (11, fsX11 a_t t_thrown t_taped t_p t_fault t_baseLow t_baseHigh t_newBaseLow t_newBaseHigh t_from t_knots t_lines t_chosen t_undos t_redos t_aimedMany t_fits t_fitOf t_sights t_systems t_own t_cross t_curveLong t_wallFirst), IA E 7 t_many, IA E 144 t_way, IA E 120 t_start, IA E 360 t_line, IA E 8 t_choice] h) n (inI r) 0 0) 0 0 n (ov [a_t, (a_t + 2), (a_t + 4), (a_t + 16), (a_t + 18), (a_t + 20)] [.inr (11, fsX11 a_t t_thrown t_taped t_p t_fault t_baseLow t_baseHigh t_newBaseLow t_newBaseHigh t_from t_knots t_lines t_chosen t_undos t_redos t_aimedMany t_fits t_fitOf t_sights t_systems t_own t_cross t_curveLong t_wallFirst), IA E 7 t_many, IA E 144 t_way, IA E 120 t_start, IA E 360 t_line, IA E 8 t_choice] h) 15 [some (.ref a_t), some (vI v1), some (vI v2), some (vI v3), some (vI v4), some (vI v5), some (vI v6), some (vI v7), some (vI v8), none] [] := by
  intro F
  induction F with
  | zero =>
    intro v4 v5 v6 v7 v8 ok_v4 ok_v5 ok_v6 ok_v7 ok_v8 hs
    rw [m_X11_costOf_15] at hs
    cases hs
  | succ F ih =>
    intro v4 v5 v6 v7 v8 ok_v4 ok_v5 ok_v6 ok_v7 ok_v8 hs
    rw [m_X11_costOf_15] at hs
    refine g_iload e_X11_costOf_15 rfl ?_
    refine g_iload_n e_X11_costOf_17 rfl ?_
    refine g_icmp_ge e_X11_costOf_18 ok_v8 ok_v2 hs (fun c18 hs => ?_) (fun c18 hs => ?_)
    · exact g_mask [true, false, false, false, true, true, true, true, false, true] (hk_133 _ _ _ _ _ ok_v4 ok_v5 ok_v6 ok_v7 ok_v8 hs)
    · refine g_iload_n e_X11_costOf_21 rfl ?_
      refine g_iload e_X11_costOf_22 rfl ?_
      refine g_ishr e_X11_costOf_24 ?_
      refine g_iconst e_X11_costOf_25 ?_
      refine g_iand e_X11_costOf_26 ?_
      refine g_iconst e_X11_costOf_27 ?_
      refine g_icmp_ne e_X11_costOf_28 (bAnd_I _ _) (by decide : inI 1) hs (fun c28 hs => ?_) (fun c28 hs => ?_)
      · refine g_aload_n e_X11_costOf_31 rfl ?_
        refine g_get 0 26 ao rfl rfl fsX11_g26 fl_X11_57 e_X11_costOf_32 ?_
        refine g_aload_n e_X11_costOf_35 rfl ?_
        refine g_get 0 31 ao rfl rfl fsX11_g31 fl_X11_69 e_X11_costOf_36 ?_
        refine g_iload e_X11_costOf_39 rfl ?_
        refine g_iald 5 ao rfl rfl (Nat.le_of_ble_eq_true rfl) e_X11_costOf_41 hs (fun hi1 hs => ?_)
        refine g_iald 3 ao rfl rfl (Nat.le_of_ble_eq_true rfl) e_X11_costOf_42 hs (fun hi2 hs => ?_)
        refine g_iload_n e_X11_costOf_43 rfl ?_
        refine g_icmp_ne e_X11_costOf_44 (ok_t_start _) ok_v1 hs (fun c44 hs => ?_) (fun c44 hs => ?_)
        · refine g_iconst e_X11_costOf_47 ?_
          refine g_goto e_X11_costOf_48 ?_
          exact g_X11_costOf_52 ao ok_t_many ok_t_way ok_t_start ok_t_line ok_t_choice ok_v1 ok_v2 ok_v3 ok_v4 ok_v5 ok_v6 ok_v7 ok_v8 (by decide : inI 1) ih hk_133 hs
        · refine g_iconst e_X11_costOf_51 ?_
          exact g_X11_costOf_52 ao ok_t_many ok_t_way ok_t_start ok_t_line ok_t_choice ok_v1 ok_v2 ok_v3 ok_v4 ok_v5 ok_v6 ok_v7 ok_v8 (by decide : inI (-1)) ih hk_133 hs
      · exact g_X11_costOf_127 ao ok_t_many ok_t_way ok_t_start ok_t_line ok_t_choice ok_v1 ok_v2 ok_v3 ok_v4 ok_v5 ok_v6 ok_v7 ok_v8 ih hk_133 hs

noncomputable def m_X11_costOf_172 (v4 : Int) (v5 : Int) (v6 : Int) (s0 : Int) : Option (Int) :=
  if s0 = 0 then (some ((-1))) else ((m_X11_square v4 v5 v6).bind (fun y14 => some (y14)))

set_option maxRecDepth 10000 in
set_option maxHeartbeats 8000000 in
theorem g_X11_costOf_172 {l : Launch} {E : EE} {b0 n : Nat} {h : AH} {a_t : Nat} {t_thrown t_taped t_p t_fault t_baseLow t_baseHigh t_newBaseLow t_newBaseHigh t_from t_knots t_lines t_chosen t_undos t_redos t_aimedMany t_fits t_fitOf t_sights t_systems t_own t_cross t_curveLong t_wallFirst v4 v5 v6 s0 : Int} {t_many t_way t_start t_line t_choice : Nat → Int} {r : Int} (ao : AO b0 n [a_t, (a_t + 2), (a_t + 4), (a_t + 16), (a_t + 18), (a_t + 20)]) (ok_t_many : okA t_many) (ok_t_way : okA t_way) (ok_t_start : okA t_start) (ok_t_line : okA t_line) (ok_t_choice : okA t_choice) (ok_v4 : inI v4) (ok_v5 : inI v5) (ok_v6 : inI v6) (ok_s0 : inZ s0) (hs : m_X11_costOf_172 v4 v5 v6 s0 = some r) : G l E b0 M_X11_costOf (fun _ => True) (ZM E b0 (some (vI r)) (ov [a_t, (a_t + 2), (a_t + 4), (a_t + 16), (a_t + 18), (a_t + 20)] [.inr (11, fsX11 a_t t_thrown t_taped t_p t_fault t_baseLow t_baseHigh t_newBaseLow t_newBaseHigh t_from t_knots t_lines t_chosen t_undos t_redos t_aimedMany t_fits t_fitOf t_sights t_systems t_own t_cross t_curveLong t_wallFirst), IA E 7 t_many, IA E 144 t_way, IA E 120 t_start, IA E 360 t_line, IA E 8 t_choice] h) n (inI r) 0 0) 0 0 n (ov [a_t, (a_t + 2), (a_t + 4), (a_t + 16), (a_t + 18), (a_t + 20)] [.inr (11, fsX11 a_t t_thrown t_taped t_p t_fault t_baseLow t_baseHigh t_newBaseLow t_newBaseHigh t_from t_knots t_lines t_chosen t_undos t_redos t_aimedMany t_fits t_fitOf t_sights t_systems t_own t_cross t_curveLong t_wallFirst), IA E 7 t_many, IA E 144 t_way, IA E 120 t_start, IA E 360 t_line, IA E 8 t_choice] h) 172 [none, none, none, none, some (vI v4), some (vI v5), some (vI v6), none, none, none] [vI s0] := by
  rw [m_X11_costOf_172] at hs
  refine g_istore e_X11_costOf_172 st1_8 rfl ?_
  refine g_iload e_X11_costOf_174 rfl ?_
  refine g_if_eq e_X11_costOf_176 (inZ_I ok_s0) hs (fun c176 hs => ?_) (fun c176 hs => ?_)
  · refine g_iconst e_X11_costOf_191 ?_
    obtain rfl := Option.some.inj hs
    exact g_iret rfl (by decide : inI (-1)) e_X11_costOf_192
  · refine g_iload e_X11_costOf_179 rfl ?_
    refine g_iload e_X11_costOf_181 rfl ?_
    refine g_iload e_X11_costOf_183 rfl ?_
    obtain ⟨y14, hy14, hs⟩ := bind_elim hs
    refine g_callSr [vI v4, vI v5, vI v6] cs_X11_281 ⟨rfl, rfl, Nat.le_of_ble_eq_true rfl, Nat.le_of_ble_eq_true rfl⟩ (ct_X11_square ⟨List.nodup_nil, fun i a h => by simp at h⟩ (fun i a e h => by simp at h) ok_v4 ok_v5 ok_v6 hy14) e_X11_costOf_185 rfl rfl (Nat.le_of_ble_eq_true rfl) ⟨Nat.le_refl _, Nat.le_refl _⟩ (fun Py14 => ?_)
    refine g_goto e_X11_costOf_188 ?_
    obtain rfl := Option.some.inj hs
    exact g_iret rfl Py14 e_X11_costOf_192

noncomputable def m_X11_costOf_167 (v4 : Int) (v5 : Int) (v6 : Int) : Option (Int) :=
  m_X11_costOf_172 v4 v5 v6 1

set_option maxRecDepth 10000 in
set_option maxHeartbeats 8000000 in
theorem g_X11_costOf_167 {l : Launch} {E : EE} {b0 n : Nat} {h : AH} {a_t : Nat} {t_thrown t_taped t_p t_fault t_baseLow t_baseHigh t_newBaseLow t_newBaseHigh t_from t_knots t_lines t_chosen t_undos t_redos t_aimedMany t_fits t_fitOf t_sights t_systems t_own t_cross t_curveLong t_wallFirst v4 v5 v6 : Int} {t_many t_way t_start t_line t_choice : Nat → Int} {r : Int} (ao : AO b0 n [a_t, (a_t + 2), (a_t + 4), (a_t + 16), (a_t + 18), (a_t + 20)]) (ok_t_many : okA t_many) (ok_t_way : okA t_way) (ok_t_start : okA t_start) (ok_t_line : okA t_line) (ok_t_choice : okA t_choice) (ok_v4 : inI v4) (ok_v5 : inI v5) (ok_v6 : inI v6) (hs : m_X11_costOf_167 v4 v5 v6 = some r) : G l E b0 M_X11_costOf (fun _ => True) (ZM E b0 (some (vI r)) (ov [a_t, (a_t + 2), (a_t + 4), (a_t + 16), (a_t + 18), (a_t + 20)] [.inr (11, fsX11 a_t t_thrown t_taped t_p t_fault t_baseLow t_baseHigh t_newBaseLow t_newBaseHigh t_from t_knots t_lines t_chosen t_undos t_redos t_aimedMany t_fits t_fitOf t_sights t_systems t_own t_cross t_curveLong t_wallFirst), IA E 7 t_many, IA E 144 t_way, IA E 120 t_start, IA E 360 t_line, IA E 8 t_choice] h) n (inI r) 0 0) 0 0 n (ov [a_t, (a_t + 2), (a_t + 4), (a_t + 16), (a_t + 18), (a_t + 20)] [.inr (11, fsX11 a_t t_thrown t_taped t_p t_fault t_baseLow t_baseHigh t_newBaseLow t_newBaseHigh t_from t_knots t_lines t_chosen t_undos t_redos t_aimedMany t_fits t_fitOf t_sights t_systems t_own t_cross t_curveLong t_wallFirst), IA E 7 t_many, IA E 144 t_way, IA E 120 t_start, IA E 360 t_line, IA E 8 t_choice] h) 167 [none, none, none, none, some (vI v4), some (vI v5), some (vI v6), none, none, none] [] := by
  rw [m_X11_costOf_167] at hs
  refine g_iconst e_X11_costOf_167 ?_
  refine g_goto e_X11_costOf_168 ?_
  exact g_X11_costOf_172 ao ok_t_many ok_t_way ok_t_start ok_t_line ok_t_choice ok_v4 ok_v5 ok_v6 (by decide : inZ 1) hs

noncomputable def m_X11_costOf_154 (t_many : Nat → Int) (t_way : Nat → Int) (v4 : Int) (v5 : Int) (v6 : Int) : Option (Int) :=
  (m_X11_isStep t_many t_way v4 v5 v6).bind (fun y15 => if y15 = 0 then (m_X11_costOf_172 v4 v5 v6 0) else (m_X11_costOf_167 v4 v5 v6))

set_option maxRecDepth 10000 in
set_option maxHeartbeats 8000000 in
theorem g_X11_costOf_154 {l : Launch} {E : EE} {b0 n : Nat} {h : AH} {a_t : Nat} {t_thrown t_taped t_p t_fault t_baseLow t_baseHigh t_newBaseLow t_newBaseHigh t_from t_knots t_lines t_chosen t_undos t_redos t_aimedMany t_fits t_fitOf t_sights t_systems t_own t_cross t_curveLong t_wallFirst v4 v5 v6 : Int} {t_many t_way t_start t_line t_choice : Nat → Int} {r : Int} (ao : AO b0 n [a_t, (a_t + 2), (a_t + 4), (a_t + 16), (a_t + 18), (a_t + 20)]) (ok_t_many : okA t_many) (ok_t_way : okA t_way) (ok_t_start : okA t_start) (ok_t_line : okA t_line) (ok_t_choice : okA t_choice) (ok_v4 : inI v4) (ok_v5 : inI v5) (ok_v6 : inI v6) (hs : m_X11_costOf_154 t_many t_way v4 v5 v6 = some r) : G l E b0 M_X11_costOf (fun _ => True) (ZM E b0 (some (vI r)) (ov [a_t, (a_t + 2), (a_t + 4), (a_t + 16), (a_t + 18), (a_t + 20)] [.inr (11, fsX11 a_t t_thrown t_taped t_p t_fault t_baseLow t_baseHigh t_newBaseLow t_newBaseHigh t_from t_knots t_lines t_chosen t_undos t_redos t_aimedMany t_fits t_fitOf t_sights t_systems t_own t_cross t_curveLong t_wallFirst), IA E 7 t_many, IA E 144 t_way, IA E 120 t_start, IA E 360 t_line, IA E 8 t_choice] h) n (inI r) 0 0) 0 0 n (ov [a_t, (a_t + 2), (a_t + 4), (a_t + 16), (a_t + 18), (a_t + 20)] [.inr (11, fsX11 a_t t_thrown t_taped t_p t_fault t_baseLow t_baseHigh t_newBaseLow t_newBaseHigh t_from t_knots t_lines t_chosen t_undos t_redos t_aimedMany t_fits t_fitOf t_sights t_systems t_own t_cross t_curveLong t_wallFirst), IA E 7 t_many, IA E 144 t_way, IA E 120 t_start, IA E 360 t_line, IA E 8 t_choice] h) 154 [some (.ref a_t), none, none, none, some (vI v4), some (vI v5), some (vI v6), none, none, none] [] := by
  rw [m_X11_costOf_154] at hs
  refine g_aload_n e_X11_costOf_154 rfl ?_
  refine g_iload e_X11_costOf_155 rfl ?_
  refine g_iload e_X11_costOf_157 rfl ?_
  refine g_iload e_X11_costOf_159 rfl ?_
  obtain ⟨y15, hy15, hs⟩ := bind_elim hs
  refine g_callVr [vI v4, vI v5, vI v6] cv_X11_295 ⟨rfl, rfl, Nat.le_of_ble_eq_true rfl, Nat.le_of_ble_eq_true rfl⟩ (ct_X11_isStep (a_t := a_t) (AO_call [0, 1, 2] ao (by decide) rfl) (FA_call [0, 1, 2] ao.1 rfl rfl) ok_t_many ok_t_way ok_v4 ok_v5 ok_v6 hy15) e_X11_costOf_161 (ao.2 0 _ rfl) (ov_get 0 ao.1 rfl rfl) rfl rfl rfl (Nat.le_of_ble_eq_true rfl) ⟨Nat.le_refl _, Nat.le_refl _⟩ (fun Py15 => ?_)
  refine g_if_eq e_X11_costOf_164 (inZ_I Py15) hs (fun c164 hs => ?_) (fun c164 hs => ?_)
  · refine g_iconst e_X11_costOf_171 ?_
    exact g_mask [false, true, true, true, true, true, true, true, true, true] (g_X11_costOf_172 ao ok_t_many ok_t_way ok_t_start ok_t_line ok_t_choice ok_v4 ok_v5 ok_v6 (by decide : inZ 0) hs)
  · exact g_mask [false, true, true, true, true, true, true, true, true, true] (g_X11_costOf_167 ao ok_t_many ok_t_way ok_t_start ok_t_line ok_t_choice ok_v4 ok_v5 ok_v6 hs)

noncomputable def m_X11_costOf_133 (t_many : Nat → Int) (t_way : Nat → Int) (v4 : Int) (v5 : Int) (v6 : Int) (v7 : Int) : Option (Int) :=
  if v7 = 1 then (m_X11_costOf_167 v4 v5 v6) else (if v4 = 0 then (if v5 = 0 then (if v6 = 0 then (m_X11_costOf_167 v4 v5 v6) else (m_X11_costOf_154 t_many t_way v4 v5 v6)) else (m_X11_costOf_154 t_many t_way v4 v5 v6)) else (m_X11_costOf_154 t_many t_way v4 v5 v6))

set_option maxRecDepth 10000 in
set_option maxHeartbeats 8000000 in
theorem g_X11_costOf_133 {l : Launch} {E : EE} {b0 n : Nat} {h : AH} {a_t : Nat} {t_thrown t_taped t_p t_fault t_baseLow t_baseHigh t_newBaseLow t_newBaseHigh t_from t_knots t_lines t_chosen t_undos t_redos t_aimedMany t_fits t_fitOf t_sights t_systems t_own t_cross t_curveLong t_wallFirst v4 v5 v6 v7 : Int} {t_many t_way t_start t_line t_choice : Nat → Int} {r : Int} (ao : AO b0 n [a_t, (a_t + 2), (a_t + 4), (a_t + 16), (a_t + 18), (a_t + 20)]) (ok_t_many : okA t_many) (ok_t_way : okA t_way) (ok_t_start : okA t_start) (ok_t_line : okA t_line) (ok_t_choice : okA t_choice) (ok_v4 : inI v4) (ok_v5 : inI v5) (ok_v6 : inI v6) (ok_v7 : inI v7) (hs : m_X11_costOf_133 t_many t_way v4 v5 v6 v7 = some r) : G l E b0 M_X11_costOf (fun _ => True) (ZM E b0 (some (vI r)) (ov [a_t, (a_t + 2), (a_t + 4), (a_t + 16), (a_t + 18), (a_t + 20)] [.inr (11, fsX11 a_t t_thrown t_taped t_p t_fault t_baseLow t_baseHigh t_newBaseLow t_newBaseHigh t_from t_knots t_lines t_chosen t_undos t_redos t_aimedMany t_fits t_fitOf t_sights t_systems t_own t_cross t_curveLong t_wallFirst), IA E 7 t_many, IA E 144 t_way, IA E 120 t_start, IA E 360 t_line, IA E 8 t_choice] h) n (inI r) 0 0) 0 0 n (ov [a_t, (a_t + 2), (a_t + 4), (a_t + 16), (a_t + 18), (a_t + 20)] [.inr (11, fsX11 a_t t_thrown t_taped t_p t_fault t_baseLow t_baseHigh t_newBaseLow t_newBaseHigh t_from t_knots t_lines t_chosen t_undos t_redos t_aimedMany t_fits t_fitOf t_sights t_systems t_own t_cross t_curveLong t_wallFirst), IA E 7 t_many, IA E 144 t_way, IA E 120 t_start, IA E 360 t_line, IA E 8 t_choice] h) 133 [some (.ref a_t), none, none, none, some (vI v4), some (vI v5), some (vI v6), some (vI v7), none, none] [] := by
  rw [m_X11_costOf_133] at hs
  refine g_iload e_X11_costOf_133 rfl ?_
  refine g_iconst e_X11_costOf_135 ?_
  refine g_icmp_eq e_X11_costOf_136 ok_v7 (by decide : inI 1) hs (fun c136 hs => ?_) (fun c136 hs => ?_)
  · exact g_mask [false, true, true, true, true, true, true, false, true, true] (g_X11_costOf_167 ao ok_t_many ok_t_way ok_t_start ok_t_line ok_t_choice ok_v4 ok_v5 ok_v6 hs)
  · refine g_iload e_X11_costOf_139 rfl ?_
    refine g_if_ne e_X11_costOf_141 ok_v4 hs (fun c141 hs => ?_) (fun c141 hs => ?_)
    · refine g_iload e_X11_costOf_144 rfl ?_
      refine g_if_ne e_X11_costOf_146 ok_v5 hs (fun c146 hs => ?_) (fun c146 hs => ?_)
      · refine g_iload e_X11_costOf_149 rfl ?_
        refine g_if_eq e_X11_costOf_151 ok_v6 hs (fun c151 hs => ?_) (fun c151 hs => ?_)
        · exact g_mask [false, true, true, true, true, true, true, false, true, true] (g_X11_costOf_167 ao ok_t_many ok_t_way ok_t_start ok_t_line ok_t_choice ok_v4 ok_v5 ok_v6 hs)
        · exact g_mask [true, true, true, true, true, true, true, false, true, true] (g_X11_costOf_154 ao ok_t_many ok_t_way ok_t_start ok_t_line ok_t_choice ok_v4 ok_v5 ok_v6 hs)
      · exact g_mask [true, true, true, true, true, true, true, false, true, true] (g_X11_costOf_154 ao ok_t_many ok_t_way ok_t_start ok_t_line ok_t_choice ok_v4 ok_v5 ok_v6 hs)
    · exact g_mask [true, true, true, true, true, true, true, false, true, true] (g_X11_costOf_154 ao ok_t_many ok_t_way ok_t_start ok_t_line ok_t_choice ok_v4 ok_v5 ok_v6 hs)

noncomputable def m_X11_costOf_0 (t_many : Nat → Int) (t_way : Nat → Int) (t_start : Nat → Int) (t_line : Nat → Int) (t_choice : Nat → Int) (v1 : Int) (v2 : Int) (v3 : Int) : Option (Int) :=
  m_X11_costOf_15 t_start t_line t_choice v1 v2 v3 (fun v4' v5' v6' v7' v8' => m_X11_costOf_133 t_many t_way v4' v5' v6' v7') FU 0 0 0 0 0

set_option maxRecDepth 10000 in
set_option maxHeartbeats 8000000 in
theorem g_X11_costOf_0 {l : Launch} {E : EE} {b0 n : Nat} {h : AH} {a_t : Nat} {t_thrown t_taped t_p t_fault t_baseLow t_baseHigh t_newBaseLow t_newBaseHigh t_from t_knots t_lines t_chosen t_undos t_redos t_aimedMany t_fits t_fitOf t_sights t_systems t_own t_cross t_curveLong t_wallFirst v1 v2 v3 : Int} {t_many t_way t_start t_line t_choice : Nat → Int} {r : Int} (ao : AO b0 n [a_t, (a_t + 2), (a_t + 4), (a_t + 16), (a_t + 18), (a_t + 20)]) (ok_t_many : okA t_many) (ok_t_way : okA t_way) (ok_t_start : okA t_start) (ok_t_line : okA t_line) (ok_t_choice : okA t_choice) (ok_v1 : inI v1) (ok_v2 : inI v2) (ok_v3 : inI v3) (hs : m_X11_costOf_0 t_many t_way t_start t_line t_choice v1 v2 v3 = some r) : G l E b0 M_X11_costOf (fun _ => True) (ZM E b0 (some (vI r)) (ov [a_t, (a_t + 2), (a_t + 4), (a_t + 16), (a_t + 18), (a_t + 20)] [.inr (11, fsX11 a_t t_thrown t_taped t_p t_fault t_baseLow t_baseHigh t_newBaseLow t_newBaseHigh t_from t_knots t_lines t_chosen t_undos t_redos t_aimedMany t_fits t_fitOf t_sights t_systems t_own t_cross t_curveLong t_wallFirst), IA E 7 t_many, IA E 144 t_way, IA E 120 t_start, IA E 360 t_line, IA E 8 t_choice] h) n (inI r) 0 0) 0 0 n (ov [a_t, (a_t + 2), (a_t + 4), (a_t + 16), (a_t + 18), (a_t + 20)] [.inr (11, fsX11 a_t t_thrown t_taped t_p t_fault t_baseLow t_baseHigh t_newBaseLow t_newBaseHigh t_from t_knots t_lines t_chosen t_undos t_redos t_aimedMany t_fits t_fitOf t_sights t_systems t_own t_cross t_curveLong t_wallFirst), IA E 7 t_many, IA E 144 t_way, IA E 120 t_start, IA E 360 t_line, IA E 8 t_choice] h) 0 [some (.ref a_t), some (vI v1), some (vI v2), some (vI v3), none, none, none, none, none, none] [] := by
  rw [m_X11_costOf_0] at hs
  refine g_iconst e_X11_costOf_0 ?_
  refine g_istore e_X11_costOf_1 st1_4 rfl ?_
  refine g_iconst e_X11_costOf_3 ?_
  refine g_istore e_X11_costOf_4 st1_5 rfl ?_
  refine g_iconst e_X11_costOf_6 ?_
  refine g_istore e_X11_costOf_7 st1_6 rfl ?_
  refine g_iconst e_X11_costOf_9 ?_
  refine g_istore e_X11_costOf_10 st1_7 rfl ?_
  refine g_iconst e_X11_costOf_12 ?_
  refine g_istore e_X11_costOf_13 st1_8 rfl ?_
  exact g_X11_costOf_15 ao ok_t_many ok_t_way ok_t_start ok_t_line ok_t_choice ok_v1 ok_v2 ok_v3 (hk_133 := by
      intro v4' v5' v6' v7' v8' ok_v4' ok_v5' ok_v6' ok_v7' ok_v8' hs
      exact g_X11_costOf_133 ao ok_t_many ok_t_way ok_t_start ok_t_line ok_t_choice ok_v4' ok_v5' ok_v6' ok_v7' hs) FU _ _ _ _ _ (by decide : inI 0) (by decide : inI 0) (by decide : inI 0) (by decide : inI 0) (by decide : inI 0) hs

noncomputable def m_X11_costOf (t_many : Nat → Int) (t_way : Nat → Int) (t_start : Nat → Int) (t_line : Nat → Int) (t_choice : Nat → Int) (v1 : Int) (v2 : Int) (v3 : Int) : Option (Int) := m_X11_costOf_0 t_many t_way t_start t_line t_choice v1 v2 v3

set_option maxRecDepth 10000 in
set_option maxHeartbeats 8000000 in
theorem ct_X11_costOf {l : Launch} {E : EE} {b0 n : Nat} {h : AH} {a_t : Nat} {t_thrown t_taped t_p t_fault t_baseLow t_baseHigh t_newBaseLow t_newBaseHigh t_from t_knots t_lines t_chosen t_undos t_redos t_aimedMany t_fits t_fitOf t_sights t_systems t_own t_cross t_curveLong t_wallFirst : Int} {t_many t_way t_start t_line t_choice : Nat → Int} {v1 v2 v3 : Int} (ao : AO b0 n [a_t, (a_t + 2), (a_t + 4), (a_t + 16), (a_t + 18), (a_t + 20)]) (hf : FA h [a_t, (a_t + 2), (a_t + 4), (a_t + 16), (a_t + 18), (a_t + 20)] [.inr (11, fsX11 a_t t_thrown t_taped t_p t_fault t_baseLow t_baseHigh t_newBaseLow t_newBaseHigh t_from t_knots t_lines t_chosen t_undos t_redos t_aimedMany t_fits t_fitOf t_sights t_systems t_own t_cross t_curveLong t_wallFirst), IA E 7 t_many, IA E 144 t_way, IA E 120 t_start, IA E 360 t_line, IA E 8 t_choice]) (ok_t_many : okA t_many) (ok_t_way : okA t_way) (ok_t_start : okA t_start) (ok_t_line : okA t_line) (ok_t_choice : okA t_choice) (ok_v1 : inI v1) (ok_v2 : inI v2) (ok_v3 : inI v3) {r : Int} (hm : m_X11_costOf t_many t_way t_start t_line t_choice v1 v2 v3 = some r) : Ct l E b0 M_X11_costOf 0 0 [.ref a_t, vI v1, vI v2, vI v3] h n (some (vI r)) h n (inI r) := by
  rw [m_X11_costOf] at hm
  have hg : G l E b0 M_X11_costOf (fun _ => True) (ZM E b0 (some (vI r)) (ov [a_t, (a_t + 2), (a_t + 4), (a_t + 16), (a_t + 18), (a_t + 20)] [.inr (11, fsX11 a_t t_thrown t_taped t_p t_fault t_baseLow t_baseHigh t_newBaseLow t_newBaseHigh t_from t_knots t_lines t_chosen t_undos t_redos t_aimedMany t_fits t_fitOf t_sights t_systems t_own t_cross t_curveLong t_wallFirst), IA E 7 t_many, IA E 144 t_way, IA E 120 t_start, IA E 360 t_line, IA E 8 t_choice] h) n (inI r) 0 0) 0 0 n (ov [a_t, (a_t + 2), (a_t + 4), (a_t + 16), (a_t + 18), (a_t + 20)] [.inr (11, fsX11 a_t t_thrown t_taped t_p t_fault t_baseLow t_baseHigh t_newBaseLow t_newBaseHigh t_from t_knots t_lines t_chosen t_undos t_redos t_aimedMany t_fits t_fitOf t_sights t_systems t_own t_cross t_curveLong t_wallFirst), IA E 7 t_many, IA E 144 t_way, IA E 120 t_start, IA E 360 t_line, IA E 8 t_choice] h) 0 [some (.ref a_t), some (vI v1), some (vI v2), some (vI v3), none, none, none, none, none, none] [] := by
    have hs := hm
    exact g_X11_costOf_0 ao ok_t_many ok_t_way ok_t_start ok_t_line ok_t_choice ok_v1 ok_v2 ok_v3 hs
  rw [FA_id hf] at hg
  exact Ct_of [some (.ref a_t), some (vI v1), some (vI v2), some (vI v3), none, none, none, none, none, none] ⟨by decide +kernel, rfl⟩ rfl (Nat.le_of_ble_eq_true rfl) hg

/-! ===== X11_group ===== -/
theorem e_X11_group_0 : DC cX11_group 0 (.iload_n 1) 1 1 := ⟨by decide +kernel, rfl⟩
theorem e_X11_group_1 : DC cX11_group 1 (.iconst 0) 1 2 := ⟨by decide +kernel, rfl⟩
theorem e_X11_group_2 : DC cX11_group 2 (.aload_n 0) 1 3 := ⟨by decide +kernel, rfl⟩
theorem e_X11_group_3 : DC cX11_group 3 (.getfield 302) 3 6 := ⟨by decide +kernel, rfl⟩
theorem e_X11_group_6 : DC cX11_group 6 (.iconst 1) 1 7 := ⟨by decide +kernel, rfl⟩
theorem e_X11_group_7 : DC cX11_group 7 (.isub) 1 8 := ⟨by decide +kernel, rfl⟩
theorem e_X11_group_8 : DC cX11_group 8 (.invokestatic 226) 3 11 := ⟨by decide +kernel, rfl⟩
theorem e_X11_group_11 : DB cX11_group 11 (.ifCond .eq 12) (12) 3 14 23 := ⟨by decide +kernel, rfl, rfl⟩
theorem e_X11_group_14 : DC cX11_group 14 (.aload_n 0) 1 15 := ⟨by decide +kernel, rfl⟩
theorem e_X11_group_15 : DC cX11_group 15 (.getfield 78) 3 18 := ⟨by decide +kernel, rfl⟩
theorem e_X11_group_18 : DC cX11_group 18 (.iload_n 1) 1 19 := ⟨by decide +kernel, rfl⟩
theorem e_X11_group_19 : DC cX11_group 19 (.iaload) 1 20 := ⟨by decide +kernel, rfl⟩
theorem e_X11_group_20 : DB cX11_group 20 (.goto 4) (4) 3 23 24 := ⟨by decide +kernel, rfl, rfl⟩
theorem e_X11_group_23 : DC cX11_group 23 (.iconst (-1)) 1 24 := ⟨by decide +kernel, rfl⟩
theorem e_X11_group_24 : DC cX11_group 24 (.ireturn) 1 25 := ⟨by decide +kernel, rfl⟩
noncomputable def m_X11_group_0 (t_chosen : Int) (t_groupOf : Nat → Int) (v1 : Int) : Option (Int) :=
  chk (inI (t_chosen - 1)) ((m_X11_in v1 0 (t_chosen - 1)).bind (fun y2 => if y2 = 0 then (some ((-1))) else (chk (inB v1 8) (some (t_groupOf (Int.toNat v1))))))

set_option maxRecDepth 10000 in
set_option maxHeartbeats 8000000 in
theorem g_X11_group_0 {l : Launch} {E : EE} {b0 n : Nat} {h : AH} {a_t : Nat} {t_thrown t_taped t_p t_fault t_baseLow t_baseHigh t_newBaseLow t_newBaseHigh t_from t_knots t_lines t_chosen t_undos t_redos t_aimedMany t_fits t_fitOf t_sights t_systems t_own t_cross t_curveLong t_wallFirst v1 : Int} {t_groupOf : Nat → Int} {r : Int} (ao : AO b0 n [a_t, (a_t + 23)]) (ok_t_chosen : inI t_chosen) (ok_t_groupOf : okA t_groupOf) (ok_v1 : inI v1) (hs : m_X11_group_0 t_chosen t_groupOf v1 = some r) : G l E b0 M_X11_group (fun _ => True) (ZM E b0 (some (vI r)) (ov [a_t, (a_t + 23)] [.inr (11, fsX11 a_t t_thrown t_taped t_p t_fault t_baseLow t_baseHigh t_newBaseLow t_newBaseHigh t_from t_knots t_lines t_chosen t_undos t_redos t_aimedMany t_fits t_fitOf t_sights t_systems t_own t_cross t_curveLong t_wallFirst), IA E 8 t_groupOf] h) n (inI r) 0 0) 0 0 n (ov [a_t, (a_t + 23)] [.inr (11, fsX11 a_t t_thrown t_taped t_p t_fault t_baseLow t_baseHigh t_newBaseLow t_newBaseHigh t_from t_knots t_lines t_chosen t_undos t_redos t_aimedMany t_fits t_fitOf t_sights t_systems t_own t_cross t_curveLong t_wallFirst), IA E 8 t_groupOf] h) 0 [some (.ref a_t), some (vI v1)] [] := by
  rw [m_X11_group_0] at hs
  refine g_iload_n e_X11_group_0 rfl ?_
  refine g_iconst e_X11_group_1 ?_
  refine g_aload_n e_X11_group_2 rfl ?_
  refine g_get 0 30 ao rfl rfl fsX11_g30 fl_X11_302 e_X11_group_3 ?_
  refine g_iconst e_X11_group_6 ?_
  refine g_isub e_X11_group_7 ?_
  obtain ⟨hc1, hs⟩ := chk_elim hs
  obtain ⟨y2, hy2, hs⟩ := bind_elim hs
  refine g_callSr [vI v1, vI 0, vI (t_chosen - 1)] cs_X11_226 ⟨rfl, rfl, Nat.le_of_ble_eq_true rfl, Nat.le_of_ble_eq_true rfl⟩ (ct_X11_in ⟨List.nodup_nil, fun i a h => by simp at h⟩ (fun i a e h => by simp at h) ok_v1 (by decide : inI 0) hc1 hy2) e_X11_group_8 rfl rfl (Nat.le_of_ble_eq_true rfl) ⟨Nat.le_refl _, Nat.le_refl _⟩ (fun Py2 => ?_)
  refine g_if_eq e_X11_group_11 (inZ_I Py2) hs (fun c11 hs => ?_) (fun c11 hs => ?_)
  · refine g_iconst e_X11_group_23 ?_
    obtain rfl := Option.some.inj hs
    exact g_iret rfl (by decide : inI (-1)) e_X11_group_24
  · refine g_aload_n e_X11_group_14 rfl ?_
    refine g_get 0 34 ao rfl rfl fsX11_g34 fl_X11_78 e_X11_group_15 ?_
    refine g_iload_n e_X11_group_18 rfl ?_
    refine g_iald 1 ao rfl rfl (Nat.le_of_ble_eq_true rfl) e_X11_group_19 hs (fun hi3 hs => ?_)
    refine g_goto e_X11_group_20 ?_
    obtain rfl := Option.some.inj hs
    exact g_iret rfl (ok_t_groupOf _) e_X11_group_24

noncomputable def m_X11_group (t_chosen : Int) (t_groupOf : Nat → Int) (v1 : Int) : Option (Int) := m_X11_group_0 t_chosen t_groupOf v1

set_option maxRecDepth 10000 in
set_option maxHeartbeats 8000000 in
theorem ct_X11_group {l : Launch} {E : EE} {b0 n : Nat} {h : AH} {a_t : Nat} {t_thrown t_taped t_p t_fault t_baseLow t_baseHigh t_newBaseLow t_newBaseHigh t_from t_knots t_lines t_chosen t_undos t_redos t_aimedMany t_fits t_fitOf t_sights t_systems t_own t_cross t_curveLong t_wallFirst : Int} {t_groupOf : Nat → Int} {v1 : Int} (ao : AO b0 n [a_t, (a_t + 23)]) (hf : FA h [a_t, (a_t + 23)] [.inr (11, fsX11 a_t t_thrown t_taped t_p t_fault t_baseLow t_baseHigh t_newBaseLow t_newBaseHigh t_from t_knots t_lines t_chosen t_undos t_redos t_aimedMany t_fits t_fitOf t_sights t_systems t_own t_cross t_curveLong t_wallFirst), IA E 8 t_groupOf]) (ok_t_chosen : inI t_chosen) (ok_t_groupOf : okA t_groupOf) (ok_v1 : inI v1) {r : Int} (hm : m_X11_group t_chosen t_groupOf v1 = some r) : Ct l E b0 M_X11_group 0 0 [.ref a_t, vI v1] h n (some (vI r)) h n (inI r) := by
  rw [m_X11_group] at hm
  have hg : G l E b0 M_X11_group (fun _ => True) (ZM E b0 (some (vI r)) (ov [a_t, (a_t + 23)] [.inr (11, fsX11 a_t t_thrown t_taped t_p t_fault t_baseLow t_baseHigh t_newBaseLow t_newBaseHigh t_from t_knots t_lines t_chosen t_undos t_redos t_aimedMany t_fits t_fitOf t_sights t_systems t_own t_cross t_curveLong t_wallFirst), IA E 8 t_groupOf] h) n (inI r) 0 0) 0 0 n (ov [a_t, (a_t + 23)] [.inr (11, fsX11 a_t t_thrown t_taped t_p t_fault t_baseLow t_baseHigh t_newBaseLow t_newBaseHigh t_from t_knots t_lines t_chosen t_undos t_redos t_aimedMany t_fits t_fitOf t_sights t_systems t_own t_cross t_curveLong t_wallFirst), IA E 8 t_groupOf] h) 0 [some (.ref a_t), some (vI v1)] [] := by
    have hs := hm
    exact g_X11_group_0 ao ok_t_chosen ok_t_groupOf ok_v1 hs
  rw [FA_id hf] at hg
  exact Ct_of [some (.ref a_t), some (vI v1)] ⟨by decide +kernel, rfl⟩ rfl (Nat.le_of_ble_eq_true rfl) hg

/-! ===== X11_isPull ===== -/
theorem e_X11_isPull_0 : DC cX11_isPull 0 (.iload_n 0) 1 1 := ⟨by decide +kernel, rfl⟩
theorem e_X11_isPull_1 : DC cX11_isPull 1 (.bipush (-9)) 2 3 := ⟨by decide +kernel, rfl⟩
theorem e_X11_isPull_3 : DC cX11_isPull 3 (.bipush 9) 2 5 := ⟨by decide +kernel, rfl⟩
theorem e_X11_isPull_5 : DC cX11_isPull 5 (.invokestatic 226) 3 8 := ⟨by decide +kernel, rfl⟩
theorem e_X11_isPull_8 : DB cX11_isPull 8 (.ifCond .eq 41) (41) 3 11 49 := ⟨by decide +kernel, rfl, rfl⟩
theorem e_X11_isPull_11 : DC cX11_isPull 11 (.iload_n 1) 1 12 := ⟨by decide +kernel, rfl⟩
theorem e_X11_isPull_12 : DC cX11_isPull 12 (.bipush (-9)) 2 14 := ⟨by decide +kernel, rfl⟩
theorem e_X11_isPull_14 : DC cX11_isPull 14 (.bipush 9) 2 16 := ⟨by decide +kernel, rfl⟩
theorem e_X11_isPull_16 : DC cX11_isPull 16 (.invokestatic 226) 3 19 := ⟨by decide +kernel, rfl⟩
theorem e_X11_isPull_19 : DB cX11_isPull 19 (.ifCond .eq 30) (30) 3 22 49 := ⟨by decide +kernel, rfl, rfl⟩
theorem e_X11_isPull_22 : DC cX11_isPull 22 (.iload_n 2) 1 23 := ⟨by decide +kernel, rfl⟩
theorem e_X11_isPull_23 : DC cX11_isPull 23 (.bipush (-9)) 2 25 := ⟨by decide +kernel, rfl⟩
theorem e_X11_isPull_25 : DC cX11_isPull 25 (.bipush 9) 2 27 := ⟨by decide +kernel, rfl⟩
theorem e_X11_isPull_27 : DC cX11_isPull 27 (.invokestatic 226) 3 30 := ⟨by decide +kernel, rfl⟩
theorem e_X11_isPull_30 : DB cX11_isPull 30 (.ifCond .eq 19) (19) 3 33 49 := ⟨by decide +kernel, rfl, rfl⟩
theorem e_X11_isPull_33 : DC cX11_isPull 33 (.iload_n 0) 1 34 := ⟨by decide +kernel, rfl⟩
theorem e_X11_isPull_34 : DB cX11_isPull 34 (.ifCond .ne 11) (11) 3 37 45 := ⟨by decide +kernel, rfl, rfl⟩
theorem e_X11_isPull_37 : DC cX11_isPull 37 (.iload_n 1) 1 38 := ⟨by decide +kernel, rfl⟩
theorem e_X11_isPull_38 : DB cX11_isPull 38 (.ifCond .ne 7) (7) 3 41 45 := ⟨by decide +kernel, rfl, rfl⟩
theorem e_X11_isPull_41 : DC cX11_isPull 41 (.iload_n 2) 1 42 := ⟨by decide +kernel, rfl⟩
theorem e_X11_isPull_42 : DB cX11_isPull 42 (.ifCond .eq 7) (7) 3 45 49 := ⟨by decide +kernel, rfl, rfl⟩
theorem e_X11_isPull_45 : DC cX11_isPull 45 (.iconst 1) 1 46 := ⟨by decide +kernel, rfl⟩
theorem e_X11_isPull_46 : DB cX11_isPull 46 (.goto 4) (4) 3 49 50 := ⟨by decide +kernel, rfl, rfl⟩
theorem e_X11_isPull_49 : DC cX11_isPull 49 (.iconst 0) 1 50 := ⟨by decide +kernel, rfl⟩
theorem e_X11_isPull_50 : DC cX11_isPull 50 (.ireturn) 1 51 := ⟨by decide +kernel, rfl⟩
noncomputable def m_X11_isPull_45 : Option (Int) :=
  some (1)

set_option maxRecDepth 10000 in
set_option maxHeartbeats 8000000 in
theorem g_X11_isPull_45 {l : Launch} {E : EE} {b0 n : Nat} {h : AH} {r : Int} (ao : AO b0 n []) (hs : m_X11_isPull_45 = some r) : G l E b0 M_X11_isPull (fun _ => True) (ZM E b0 (some (vI r)) (ov [] [] h) n (inZ r) 0 0) 0 0 n (ov [] [] h) 45 [none, none, none] [] := by
  rw [m_X11_isPull_45] at hs
  refine g_iconst e_X11_isPull_45 ?_
  refine g_goto e_X11_isPull_46 ?_
  obtain rfl := Option.some.inj hs
  exact g_zret rfl (by decide : inZ 1) (by decide : inZ 1) e_X11_isPull_50

noncomputable def m_X11_isPull_0 (v0 : Int) (v1 : Int) (v2 : Int) : Option (Int) :=
  (m_X11_in v0 (-9) 9).bind (fun y1 => if y1 = 0 then (some (0)) else ((m_X11_in v1 (-9) 9).bind (fun y2 => if y2 = 0 then (some (0)) else ((m_X11_in v2 (-9) 9).bind (fun y3 => if y3 = 0 then (some (0)) else (if v0 = 0 then (if v1 = 0 then (if v2 = 0 then (some (0)) else (m_X11_isPull_45)) else (m_X11_isPull_45)) else (m_X11_isPull_45)))))))

set_option maxRecDepth 10000 in
set_option maxHeartbeats 8000000 in
theorem g_X11_isPull_0 {l : Launch} {E : EE} {b0 n : Nat} {h : AH} {v0 v1 v2 : Int} {r : Int} (ao : AO b0 n []) (ok_v0 : inI v0) (ok_v1 : inI v1) (ok_v2 : inI v2) (hs : m_X11_isPull_0 v0 v1 v2 = some r) : G l E b0 M_X11_isPull (fun _ => True) (ZM E b0 (some (vI r)) (ov [] [] h) n (inZ r) 0 0) 0 0 n (ov [] [] h) 0 [some (vI v0), some (vI v1), some (vI v2)] [] := by
  rw [m_X11_isPull_0] at hs
  refine g_iload_n e_X11_isPull_0 rfl ?_
  refine g_bipush e_X11_isPull_1 bp_m9 ?_
  refine g_bipush e_X11_isPull_3 bp_9 ?_
  obtain ⟨y1, hy1, hs⟩ := bind_elim hs
  refine g_callSr [vI v0, vI (-9), vI 9] cs_X11_226 ⟨rfl, rfl, Nat.le_of_ble_eq_true rfl, Nat.le_of_ble_eq_true rfl⟩ (ct_X11_in ⟨List.nodup_nil, fun i a h => by simp at h⟩ (fun i a e h => by simp at h) ok_v0 (by decide : inI (-9)) (by decide : inI 9) hy1) e_X11_isPull_5 rfl rfl (Nat.le_of_ble_eq_true rfl) ⟨Nat.le_refl _, Nat.le_refl _⟩ (fun Py1 => ?_)
  refine g_if_eq e_X11_isPull_8 (inZ_I Py1) hs (fun c8 hs => ?_) (fun c8 hs => ?_)
  · refine g_iconst e_X11_isPull_49 ?_
    obtain rfl := Option.some.inj hs
    exact g_zret rfl (by decide : inZ 0) (by decide : inZ 0) e_X11_isPull_50
  · refine g_iload_n e_X11_isPull_11 rfl ?_
    refine g_bipush e_X11_isPull_12 bp_m9 ?_
    refine g_bipush e_X11_isPull_14 bp_9 ?_
    obtain ⟨y2, hy2, hs⟩ := bind_elim hs
    refine g_callSr [vI v1, vI (-9), vI 9] cs_X11_226 ⟨rfl, rfl, Nat.le_of_ble_eq_true rfl, Nat.le_of_ble_eq_true rfl⟩ (ct_X11_in ⟨List.nodup_nil, fun i a h => by simp at h⟩ (fun i a e h => by simp at h) ok_v1 (by decide : inI (-9)) (by decide : inI 9) hy2) e_X11_isPull_16 rfl rfl (Nat.le_of_ble_eq_true rfl) ⟨Nat.le_refl _, Nat.le_refl _⟩ (fun Py2 => ?_)
    refine g_if_eq e_X11_isPull_19 (inZ_I Py2) hs (fun c19 hs => ?_) (fun c19 hs => ?_)
    · refine g_iconst e_X11_isPull_49 ?_
      obtain rfl := Option.some.inj hs
      exact g_zret rfl (by decide : inZ 0) (by decide : inZ 0) e_X11_isPull_50
    · refine g_iload_n e_X11_isPull_22 rfl ?_
      refine g_bipush e_X11_isPull_23 bp_m9 ?_
      refine g_bipush e_X11_isPull_25 bp_9 ?_
      obtain ⟨y3, hy3, hs⟩ := bind_elim hs
      refine g_callSr [vI v2, vI (-9), vI 9] cs_X11_226 ⟨rfl, rfl, Nat.le_of_ble_eq_true rfl, Nat.le_of_ble_eq_true rfl⟩ (ct_X11_in ⟨List.nodup_nil, fun i a h => by simp at h⟩ (fun i a e h => by simp at h) ok_v2 (by decide : inI (-9)) (by decide : inI 9) hy3) e_X11_isPull_27 rfl rfl (Nat.le_of_ble_eq_true rfl) ⟨Nat.le_refl _, Nat.le_refl _⟩ (fun Py3 => ?_)
      refine g_if_eq e_X11_isPull_30 (inZ_I Py3) hs (fun c30 hs => ?_) (fun c30 hs => ?_)
      · refine g_iconst e_X11_isPull_49 ?_
        obtain rfl := Option.some.inj hs
        exact g_zret rfl (by decide : inZ 0) (by decide : inZ 0) e_X11_isPull_50
      · refine g_iload_n e_X11_isPull_33 rfl ?_
        refine g_if_ne e_X11_isPull_34 ok_v0 hs (fun c34 hs => ?_) (fun c34 hs => ?_)
        · refine g_iload_n e_X11_isPull_37 rfl ?_
          refine g_if_ne e_X11_isPull_38 ok_v1 hs (fun c38 hs => ?_) (fun c38 hs => ?_)
          · refine g_iload_n e_X11_isPull_41 rfl ?_
            refine g_if_eq e_X11_isPull_42 ok_v2 hs (fun c42 hs => ?_) (fun c42 hs => ?_)
            · refine g_iconst e_X11_isPull_49 ?_
              obtain rfl := Option.some.inj hs
              exact g_zret rfl (by decide : inZ 0) (by decide : inZ 0) e_X11_isPull_50
            · exact g_mask [false, false, false] (g_X11_isPull_45 ao  hs)
          · exact g_mask [false, false, false] (g_X11_isPull_45 ao  hs)
        · exact g_mask [false, false, false] (g_X11_isPull_45 ao  hs)

noncomputable def m_X11_isPull (v0 : Int) (v1 : Int) (v2 : Int) : Option (Int) := m_X11_isPull_0 v0 v1 v2

set_option maxRecDepth 10000 in
set_option maxHeartbeats 8000000 in
theorem ct_X11_isPull {l : Launch} {E : EE} {b0 n : Nat} {h : AH} {v0 v1 v2 : Int} (ao : AO b0 n []) (hf : FA h [] []) (ok_v0 : inI v0) (ok_v1 : inI v1) (ok_v2 : inI v2) {r : Int} (hm : m_X11_isPull v0 v1 v2 = some r) : Ct l E b0 M_X11_isPull 0 0 [vI v0, vI v1, vI v2] h n (some (vI r)) h n (inZ r) := by
  rw [m_X11_isPull] at hm
  have hg : G l E b0 M_X11_isPull (fun _ => True) (ZM E b0 (some (vI r)) (ov [] [] h) n (inZ r) 0 0) 0 0 n (ov [] [] h) 0 [some (vI v0), some (vI v1), some (vI v2)] [] := by
    have hs := hm
    exact g_X11_isPull_0 ao ok_v0 ok_v1 ok_v2 hs
  rw [FA_id hf] at hg
  exact Ct_of [some (vI v0), some (vI v1), some (vI v2)] ⟨by decide +kernel, rfl⟩ rfl (Nat.le_of_ble_eq_true rfl) hg

/-! ===== X11_along ===== -/
theorem e_X11_along_0 : DC cX11_along 0 (.bipush 48) 2 2 := ⟨by decide +kernel, rfl⟩
theorem e_X11_along_2 : DC cX11_along 2 (.iload 4) 2 4 := ⟨by decide +kernel, rfl⟩
theorem e_X11_along_4 : DC cX11_along 4 (.imul) 1 5 := ⟨by decide +kernel, rfl⟩
theorem e_X11_along_5 : DC cX11_along 5 (.iconst 3) 1 6 := ⟨by decide +kernel, rfl⟩
theorem e_X11_along_6 : DC cX11_along 6 (.iload 5) 2 8 := ⟨by decide +kernel, rfl⟩
theorem e_X11_along_8 : DC cX11_along 8 (.imul) 1 9 := ⟨by decide +kernel, rfl⟩
theorem e_X11_along_9 : DC cX11_along 9 (.iadd) 1 10 := ⟨by decide +kernel, rfl⟩
theorem e_X11_along_10 : DC cX11_along 10 (.istore 6) 2 12 := ⟨by decide +kernel, rfl⟩
theorem e_X11_along_12 : DC cX11_along 12 (.iload_n 1) 1 13 := ⟨by decide +kernel, rfl⟩
theorem e_X11_along_13 : DC cX11_along 13 (.aload_n 0) 1 14 := ⟨by decide +kernel, rfl⟩
theorem e_X11_along_14 : DC cX11_along 14 (.getfield 20) 3 17 := ⟨by decide +kernel, rfl⟩
theorem e_X11_along_17 : DC cX11_along 17 (.iload 6) 2 19 := ⟨by decide +kernel, rfl⟩
theorem e_X11_along_19 : DC cX11_along 19 (.iaload) 1 20 := ⟨by decide +kernel, rfl⟩
theorem e_X11_along_20 : DC cX11_along 20 (.imul) 1 21 := ⟨by decide +kernel, rfl⟩
theorem e_X11_along_21 : DC cX11_along 21 (.iload_n 2) 1 22 := ⟨by decide +kernel, rfl⟩
theorem e_X11_along_22 : DC cX11_along 22 (.aload_n 0) 1 23 := ⟨by decide +kernel, rfl⟩
theorem e_X11_along_23 : DC cX11_along 23 (.getfield 20) 3 26 := ⟨by decide +kernel, rfl⟩
theorem e_X11_along_26 : DC cX11_along 26 (.iload 6) 2 28 := ⟨by decide +kernel, rfl⟩
theorem e_X11_along_28 : DC cX11_along 28 (.iconst 1) 1 29 := ⟨by decide +kernel, rfl⟩
theorem e_X11_along_29 : DC cX11_along 29 (.iadd) 1 30 := ⟨by decide +kernel, rfl⟩
theorem e_X11_along_30 : DC cX11_along 30 (.iaload) 1 31 := ⟨by decide +kernel, rfl⟩
theorem e_X11_along_31 : DC cX11_along 31 (.imul) 1 32 := ⟨by decide +kernel, rfl⟩
theorem e_X11_along_32 : DC cX11_along 32 (.iadd) 1 33 := ⟨by decide +kernel, rfl⟩
theorem e_X11_along_33 : DC cX11_along 33 (.iload_n 3) 1 34 := ⟨by decide +kernel, rfl⟩
theorem e_X11_along_34 : DC cX11_along 34 (.aload_n 0) 1 35 := ⟨by decide +kernel, rfl⟩
theorem e_X11_along_35 : DC cX11_along 35 (.getfield 20) 3 38 := ⟨by decide +kernel, rfl⟩
theorem e_X11_along_38 : DC cX11_along 38 (.iload 6) 2 40 := ⟨by decide +kernel, rfl⟩
theorem e_X11_along_40 : DC cX11_along 40 (.iconst 2) 1 41 := ⟨by decide +kernel, rfl⟩
theorem e_X11_along_41 : DC cX11_along 41 (.iadd) 1 42 := ⟨by decide +kernel, rfl⟩
theorem e_X11_along_42 : DC cX11_along 42 (.iaload) 1 43 := ⟨by decide +kernel, rfl⟩
theorem e_X11_along_43 : DC cX11_along 43 (.imul) 1 44 := ⟨by decide +kernel, rfl⟩
theorem e_X11_along_44 : DC cX11_along 44 (.iadd) 1 45 := ⟨by decide +kernel, rfl⟩
theorem e_X11_along_45 : DC cX11_along 45 (.ireturn) 1 46 := ⟨by decide +kernel, rfl⟩
noncomputable def m_X11_along_0 (t_way : Nat → Int) (v1 : Int) (v2 : Int) (v3 : Int) (v4 : Int) (v5 : Int) : Option (Int) :=
  chk (inB ((48 * v4) + (3 * v5)) 144) (chk (inB (((48 * v4) + (3 * v5)) + 1) 144) (chk (inB (((48 * v4) + (3 * v5)) + 2) 144) (chk (inI (((v1 * (t_way (Int.toNat ((48 * v4) + (3 * v5))))) + (v2 * (t_way (Int.toNat (((48 * v4) + (3 * v5)) + 1))))) + (v3 * (t_way (Int.toNat (((48 * v4) + (3 * v5)) + 2)))))) (some (((v1 * (t_way (Int.toNat ((48 * v4) + (3 * v5))))) + (v2 * (t_way (Int.toNat (((48 * v4) + (3 * v5)) + 1))))) + (v3 * (t_way (Int.toNat (((48 * v4) + (3 * v5)) + 2)))))))))

set_option maxRecDepth 10000 in
set_option maxHeartbeats 8000000 in
theorem g_X11_along_0 {l : Launch} {E : EE} {b0 n : Nat} {h : AH} {a_t : Nat} {t_thrown t_taped t_p t_fault t_baseLow t_baseHigh t_newBaseLow t_newBaseHigh t_from t_knots t_lines t_chosen t_undos t_redos t_aimedMany t_fits t_fitOf t_sights t_systems t_own t_cross t_curveLong t_wallFirst v1 v2 v3 v4 v5 : Int} {t_way : Nat → Int} {r : Int} (ao : AO b0 n [a_t, (a_t + 4)]) (ok_t_way : okA t_way) (ok_v1 : inI v1) (ok_v2 : inI v2) (ok_v3 : inI v3) (ok_v4 : inI v4) (ok_v5 : inI v5) (hs : m_X11_along_0 t_way v1 v2 v3 v4 v5 = some r) : G l E b0 M_X11_along (fun _ => True) (ZM E b0 (some (vI r)) (ov [a_t, (a_t + 4)] [.inr (11, fsX11 a_t t_thrown t_taped t_p t_fault t_baseLow t_baseHigh t_newBaseLow t_newBaseHigh t_from t_knots t_lines t_chosen t_undos t_redos t_aimedMany t_fits t_fitOf t_sights t_systems t_own t_cross t_curveLong t_wallFirst), IA E 144 t_way] h) n (inI r) 0 0) 0 0 n (ov [a_t, (a_t + 4)] [.inr (11, fsX11 a_t t_thrown t_taped t_p t_fault t_baseLow t_baseHigh t_newBaseLow t_newBaseHigh t_from t_knots t_lines t_chosen t_undos t_redos t_aimedMany t_fits t_fitOf t_sights t_systems t_own t_cross t_curveLong t_wallFirst), IA E 144 t_way] h) 0 [some (.ref a_t), some (vI v1), some (vI v2), some (vI v3), some (vI v4), some (vI v5), none] [] := by
  rw [m_X11_along_0] at hs
  refine g_bipush e_X11_along_0 bp_48 ?_
  refine g_iload e_X11_along_2 rfl ?_
  refine g_imul e_X11_along_4 ?_
  refine g_iconst e_X11_along_5 ?_
  refine g_iload e_X11_along_6 rfl ?_
  refine g_imul e_X11_along_8 ?_
  refine g_iadd e_X11_along_9 ?_
  refine g_istore e_X11_along_10 st1_6 rfl ?_
  refine g_iload_n e_X11_along_12 rfl ?_
  refine g_aload_n e_X11_along_13 rfl ?_
  refine g_get 0 7 ao rfl rfl fsX11_g7 fl_X11_20 e_X11_along_14 ?_
  refine g_iload e_X11_along_17 rfl ?_
  refine g_iald 1 ao rfl rfl (Nat.le_of_ble_eq_true rfl) e_X11_along_19 hs (fun hi1 hs => ?_)
  refine g_imul e_X11_along_20 ?_
  refine g_iload_n e_X11_along_21 rfl ?_
  refine g_aload_n e_X11_along_22 rfl ?_
  refine g_get 0 7 ao rfl rfl fsX11_g7 fl_X11_20 e_X11_along_23 ?_
  refine g_iload e_X11_along_26 rfl ?_
  refine g_iconst e_X11_along_28 ?_
  refine g_iadd e_X11_along_29 ?_
  refine g_iald 1 ao rfl rfl (Nat.le_of_ble_eq_true rfl) e_X11_along_30 hs (fun hi2 hs => ?_)
  refine g_imul e_X11_along_31 ?_
  refine g_iadd e_X11_along_32 ?_
  refine g_iload_n e_X11_along_33 rfl ?_
  refine g_aload_n e_X11_along_34 rfl ?_
  refine g_get 0 7 ao rfl rfl fsX11_g7 fl_X11_20 e_X11_along_35 ?_
  refine g_iload e_X11_along_38 rfl ?_
  refine g_iconst e_X11_along_40 ?_
  refine g_iadd e_X11_along_41 ?_
  refine g_iald 1 ao rfl rfl (Nat.le_of_ble_eq_true rfl) e_X11_along_42 hs (fun hi3 hs => ?_)
  refine g_imul e_X11_along_43 ?_
  refine g_iadd e_X11_along_44 ?_
  obtain ⟨hc4, hs⟩ := chk_elim hs
  obtain rfl := Option.some.inj hs
  exact g_iret rfl hc4 e_X11_along_45

noncomputable def m_X11_along (t_way : Nat → Int) (v1 : Int) (v2 : Int) (v3 : Int) (v4 : Int) (v5 : Int) : Option (Int) := m_X11_along_0 t_way v1 v2 v3 v4 v5

set_option maxRecDepth 10000 in
set_option maxHeartbeats 8000000 in
theorem ct_X11_along {l : Launch} {E : EE} {b0 n : Nat} {h : AH} {a_t : Nat} {t_thrown t_taped t_p t_fault t_baseLow t_baseHigh t_newBaseLow t_newBaseHigh t_from t_knots t_lines t_chosen t_undos t_redos t_aimedMany t_fits t_fitOf t_sights t_systems t_own t_cross t_curveLong t_wallFirst : Int} {t_way : Nat → Int} {v1 v2 v3 v4 v5 : Int} (ao : AO b0 n [a_t, (a_t + 4)]) (hf : FA h [a_t, (a_t + 4)] [.inr (11, fsX11 a_t t_thrown t_taped t_p t_fault t_baseLow t_baseHigh t_newBaseLow t_newBaseHigh t_from t_knots t_lines t_chosen t_undos t_redos t_aimedMany t_fits t_fitOf t_sights t_systems t_own t_cross t_curveLong t_wallFirst), IA E 144 t_way]) (ok_t_way : okA t_way) (ok_v1 : inI v1) (ok_v2 : inI v2) (ok_v3 : inI v3) (ok_v4 : inI v4) (ok_v5 : inI v5) {r : Int} (hm : m_X11_along t_way v1 v2 v3 v4 v5 = some r) : Ct l E b0 M_X11_along 0 0 [.ref a_t, vI v1, vI v2, vI v3, vI v4, vI v5] h n (some (vI r)) h n (inI r) := by
  rw [m_X11_along] at hm
  have hg : G l E b0 M_X11_along (fun _ => True) (ZM E b0 (some (vI r)) (ov [a_t, (a_t + 4)] [.inr (11, fsX11 a_t t_thrown t_taped t_p t_fault t_baseLow t_baseHigh t_newBaseLow t_newBaseHigh t_from t_knots t_lines t_chosen t_undos t_redos t_aimedMany t_fits t_fitOf t_sights t_systems t_own t_cross t_curveLong t_wallFirst), IA E 144 t_way] h) n (inI r) 0 0) 0 0 n (ov [a_t, (a_t + 4)] [.inr (11, fsX11 a_t t_thrown t_taped t_p t_fault t_baseLow t_baseHigh t_newBaseLow t_newBaseHigh t_from t_knots t_lines t_chosen t_undos t_redos t_aimedMany t_fits t_fitOf t_sights t_systems t_own t_cross t_curveLong t_wallFirst), IA E 144 t_way] h) 0 [some (.ref a_t), some (vI v1), some (vI v2), some (vI v3), some (vI v4), some (vI v5), none] [] := by
    have hs := hm
    exact g_X11_along_0 ao ok_t_way ok_v1 ok_v2 ok_v3 ok_v4 ok_v5 hs
  rw [FA_id hf] at hg
  exact Ct_of [some (.ref a_t), some (vI v1), some (vI v2), some (vI v3), some (vI v4), some (vI v5), none] ⟨by decide +kernel, rfl⟩ rfl (Nat.le_of_ble_eq_true rfl) hg

/-! ===== X11_squareOf ===== -/
theorem e_X11_squareOf_0 : DC cX11_squareOf 0 (.bipush 48) 2 2 := ⟨by decide +kernel, rfl⟩
theorem e_X11_squareOf_2 : DC cX11_squareOf 2 (.iload_n 1) 1 3 := ⟨by decide +kernel, rfl⟩
theorem e_X11_squareOf_3 : DC cX11_squareOf 3 (.imul) 1 4 := ⟨by decide +kernel, rfl⟩
theorem e_X11_squareOf_4 : DC cX11_squareOf 4 (.iconst 3) 1 5 := ⟨by decide +kernel, rfl⟩
theorem e_X11_squareOf_5 : DC cX11_squareOf 5 (.iload_n 2) 1 6 := ⟨by decide +kernel, rfl⟩
theorem e_X11_squareOf_6 : DC cX11_squareOf 6 (.imul) 1 7 := ⟨by decide +kernel, rfl⟩
theorem e_X11_squareOf_7 : DC cX11_squareOf 7 (.iadd) 1 8 := ⟨by decide +kernel, rfl⟩
theorem e_X11_squareOf_8 : DC cX11_squareOf 8 (.istore_n 3) 1 9 := ⟨by decide +kernel, rfl⟩
theorem e_X11_squareOf_9 : DC cX11_squareOf 9 (.aload_n 0) 1 10 := ⟨by decide +kernel, rfl⟩
theorem e_X11_squareOf_10 : DC cX11_squareOf 10 (.getfield 20) 3 13 := ⟨by decide +kernel, rfl⟩
theorem e_X11_squareOf_13 : DC cX11_squareOf 13 (.iload_n 3) 1 14 := ⟨by decide +kernel, rfl⟩
theorem e_X11_squareOf_14 : DC cX11_squareOf 14 (.iaload) 1 15 := ⟨by decide +kernel, rfl⟩
theorem e_X11_squareOf_15 : DC cX11_squareOf 15 (.aload_n 0) 1 16 := ⟨by decide +kernel, rfl⟩
theorem e_X11_squareOf_16 : DC cX11_squareOf 16 (.getfield 20) 3 19 := ⟨by decide +kernel, rfl⟩
theorem e_X11_squareOf_19 : DC cX11_squareOf 19 (.iload_n 3) 1 20 := ⟨by decide +kernel, rfl⟩
theorem e_X11_squareOf_20 : DC cX11_squareOf 20 (.iconst 1) 1 21 := ⟨by decide +kernel, rfl⟩
theorem e_X11_squareOf_21 : DC cX11_squareOf 21 (.iadd) 1 22 := ⟨by decide +kernel, rfl⟩
theorem e_X11_squareOf_22 : DC cX11_squareOf 22 (.iaload) 1 23 := ⟨by decide +kernel, rfl⟩
theorem e_X11_squareOf_23 : DC cX11_squareOf 23 (.aload_n 0) 1 24 := ⟨by decide +kernel, rfl⟩
theorem e_X11_squareOf_24 : DC cX11_squareOf 24 (.getfield 20) 3 27 := ⟨by decide +kernel, rfl⟩
theorem e_X11_squareOf_27 : DC cX11_squareOf 27 (.iload_n 3) 1 28 := ⟨by decide +kernel, rfl⟩
theorem e_X11_squareOf_28 : DC cX11_squareOf 28 (.iconst 2) 1 29 := ⟨by decide +kernel, rfl⟩
theorem e_X11_squareOf_29 : DC cX11_squareOf 29 (.iadd) 1 30 := ⟨by decide +kernel, rfl⟩
theorem e_X11_squareOf_30 : DC cX11_squareOf 30 (.iaload) 1 31 := ⟨by decide +kernel, rfl⟩
theorem e_X11_squareOf_31 : DC cX11_squareOf 31 (.invokestatic 281) 3 34 := ⟨by decide +kernel, rfl⟩
theorem e_X11_squareOf_34 : DC cX11_squareOf 34 (.ireturn) 1 35 := ⟨by decide +kernel, rfl⟩
noncomputable def m_X11_squareOf_0 (t_way : Nat → Int) (v1 : Int) (v2 : Int) : Option (Int) :=
  chk (inB ((48 * v1) + (3 * v2)) 144) (chk (inB (((48 * v1) + (3 * v2)) + 1) 144) (chk (inB (((48 * v1) + (3 * v2)) + 2) 144) ((m_X11_square (t_way (Int.toNat ((48 * v1) + (3 * v2)))) (t_way (Int.toNat (((48 * v1) + (3 * v2)) + 1))) (t_way (Int.toNat (((48 * v1) + (3 * v2)) + 2)))).bind (fun y4 => some (y4)))))

set_option maxRecDepth 10000 in
set_option maxHeartbeats 8000000 in
theorem g_X11_squareOf_0 {l : Launch} {E : EE} {b0 n : Nat} {h : AH} {a_t : Nat} {t_thrown t_taped t_p t_fault t_baseLow t_baseHigh t_newBaseLow t_newBaseHigh t_from t_knots t_lines t_chosen t_undos t_redos t_aimedMany t_fits t_fitOf t_sights t_systems t_own t_cross t_curveLong t_wallFirst v1 v2 : Int} {t_way : Nat → Int} {r : Int} (ao : AO b0 n [a_t, (a_t + 4)]) (ok_t_way : okA t_way) (ok_v1 : inI v1) (ok_v2 : inI v2) (hs : m_X11_squareOf_0 t_way v1 v2 = some r) : G l E b0 M_X11_squareOf (fun _ => True) (ZM E b0 (some (vI r)) (ov [a_t, (a_t + 4)] [.inr (11, fsX11 a_t t_thrown t_taped t_p t_fault t_baseLow t_baseHigh t_newBaseLow t_newBaseHigh t_from t_knots t_lines t_chosen t_undos t_redos t_aimedMany t_fits t_fitOf t_sights t_systems t_own t_cross t_curveLong t_wallFirst), IA E 144 t_way] h) n (inI r) 0 0) 0 0 n (ov [a_t, (a_t + 4)] [.inr (11, fsX11 a_t t_thrown t_taped t_p t_fault t_baseLow t_baseHigh t_newBaseLow t_newBaseHigh t_from t_knots t_lines t_chosen t_undos t_redos t_aimedMany t_fits t_fitOf t_sights t_systems t_own t_cross t_curveLong t_wallFirst), IA E 144 t_way] h) 0 [some (.ref a_t), some (vI v1), some (vI v2), none] [] := by
  rw [m_X11_squareOf_0] at hs
  refine g_bipush e_X11_squareOf_0 bp_48 ?_
  refine g_iload_n e_X11_squareOf_2 rfl ?_
  refine g_imul e_X11_squareOf_3 ?_
  refine g_iconst e_X11_squareOf_4 ?_
  refine g_iload_n e_X11_squareOf_5 rfl ?_
  refine g_imul e_X11_squareOf_6 ?_
  refine g_iadd e_X11_squareOf_7 ?_
  refine g_istore_n e_X11_squareOf_8 st1_3 rfl ?_
  refine g_aload_n e_X11_squareOf_9 rfl ?_
  refine g_get 0 7 ao rfl rfl fsX11_g7 fl_X11_20 e_X11_squareOf_10 ?_
  refine g_iload_n e_X11_squareOf_13 rfl ?_
  refine g_iald 1 ao rfl rfl (Nat.le_of_ble_eq_true rfl) e_X11_squareOf_14 hs (fun hi1 hs => ?_)
  refine g_aload_n e_X11_squareOf_15 rfl ?_
  refine g_get 0 7 ao rfl rfl fsX11_g7 fl_X11_20 e_X11_squareOf_16 ?_
  refine g_iload_n e_X11_squareOf_19 rfl ?_
  refine g_iconst e_X11_squareOf_20 ?_
  refine g_iadd e_X11_squareOf_21 ?_
  refine g_iald 1 ao rfl rfl (Nat.le_of_ble_eq_true rfl) e_X11_squareOf_22 hs (fun hi2 hs => ?_)
  refine g_aload_n e_X11_squareOf_23 rfl ?_
  refine g_get 0 7 ao rfl rfl fsX11_g7 fl_X11_20 e_X11_squareOf_24 ?_
  refine g_iload_n e_X11_squareOf_27 rfl ?_
  refine g_iconst e_X11_squareOf_28 ?_
  refine g_iadd e_X11_squareOf_29 ?_
  refine g_iald 1 ao rfl rfl (Nat.le_of_ble_eq_true rfl) e_X11_squareOf_30 hs (fun hi3 hs => ?_)
  obtain ⟨y4, hy4, hs⟩ := bind_elim hs
  refine g_callSr [vI (t_way (Int.toNat ((48 * v1) + (3 * v2)))), vI (t_way (Int.toNat (((48 * v1) + (3 * v2)) + 1))), vI (t_way (Int.toNat (((48 * v1) + (3 * v2)) + 2)))] cs_X11_281 ⟨rfl, rfl, Nat.le_of_ble_eq_true rfl, Nat.le_of_ble_eq_true rfl⟩ (ct_X11_square ⟨List.nodup_nil, fun i a h => by simp at h⟩ (fun i a e h => by simp at h) (ok_t_way _) (ok_t_way _) (ok_t_way _) hy4) e_X11_squareOf_31 rfl rfl (Nat.le_of_ble_eq_true rfl) ⟨Nat.le_refl _, Nat.le_refl _⟩ (fun Py4 => ?_)
  obtain rfl := Option.some.inj hs
  exact g_iret rfl Py4 e_X11_squareOf_34

noncomputable def m_X11_squareOf (t_way : Nat → Int) (v1 : Int) (v2 : Int) : Option (Int) := m_X11_squareOf_0 t_way v1 v2

set_option maxRecDepth 10000 in
set_option maxHeartbeats 8000000 in
theorem ct_X11_squareOf {l : Launch} {E : EE} {b0 n : Nat} {h : AH} {a_t : Nat} {t_thrown t_taped t_p t_fault t_baseLow t_baseHigh t_newBaseLow t_newBaseHigh t_from t_knots t_lines t_chosen t_undos t_redos t_aimedMany t_fits t_fitOf t_sights t_systems t_own t_cross t_curveLong t_wallFirst : Int} {t_way : Nat → Int} {v1 v2 : Int} (ao : AO b0 n [a_t, (a_t + 4)]) (hf : FA h [a_t, (a_t + 4)] [.inr (11, fsX11 a_t t_thrown t_taped t_p t_fault t_baseLow t_baseHigh t_newBaseLow t_newBaseHigh t_from t_knots t_lines t_chosen t_undos t_redos t_aimedMany t_fits t_fitOf t_sights t_systems t_own t_cross t_curveLong t_wallFirst), IA E 144 t_way]) (ok_t_way : okA t_way) (ok_v1 : inI v1) (ok_v2 : inI v2) {r : Int} (hm : m_X11_squareOf t_way v1 v2 = some r) : Ct l E b0 M_X11_squareOf 0 0 [.ref a_t, vI v1, vI v2] h n (some (vI r)) h n (inI r) := by
  rw [m_X11_squareOf] at hm
  have hg : G l E b0 M_X11_squareOf (fun _ => True) (ZM E b0 (some (vI r)) (ov [a_t, (a_t + 4)] [.inr (11, fsX11 a_t t_thrown t_taped t_p t_fault t_baseLow t_baseHigh t_newBaseLow t_newBaseHigh t_from t_knots t_lines t_chosen t_undos t_redos t_aimedMany t_fits t_fitOf t_sights t_systems t_own t_cross t_curveLong t_wallFirst), IA E 144 t_way] h) n (inI r) 0 0) 0 0 n (ov [a_t, (a_t + 4)] [.inr (11, fsX11 a_t t_thrown t_taped t_p t_fault t_baseLow t_baseHigh t_newBaseLow t_newBaseHigh t_from t_knots t_lines t_chosen t_undos t_redos t_aimedMany t_fits t_fitOf t_sights t_systems t_own t_cross t_curveLong t_wallFirst), IA E 144 t_way] h) 0 [some (.ref a_t), some (vI v1), some (vI v2), none] [] := by
    have hs := hm
    exact g_X11_squareOf_0 ao ok_t_way ok_v1 ok_v2 hs
  rw [FA_id hf] at hg
  exact Ct_of [some (.ref a_t), some (vI v1), some (vI v2), none] ⟨by decide +kernel, rfl⟩ rfl (Nat.le_of_ble_eq_true rfl) hg

/-! ===== X11_isIn ===== -/
theorem e_X11_isIn_0 : DC cX11_isIn 0 (.aload_n 0) 1 1 := ⟨by decide +kernel, rfl⟩
theorem e_X11_isIn_1 : DC cX11_isIn 1 (.iconst 1) 1 2 := ⟨by decide +kernel, rfl⟩
theorem e_X11_isIn_2 : DC cX11_isIn 2 (.iload_n 1) 1 3 := ⟨by decide +kernel, rfl⟩
theorem e_X11_isIn_3 : DC cX11_isIn 3 (.invokevirtual 261) 3 6 := ⟨by decide +kernel, rfl⟩
theorem e_X11_isIn_6 : DB cX11_isIn 6 (.ifCond .eq 62) (62) 3 9 68 := ⟨by decide +kernel, rfl, rfl⟩
theorem e_X11_isIn_9 : DC cX11_isIn 9 (.aload_n 0) 1 10 := ⟨by decide +kernel, rfl⟩
theorem e_X11_isIn_10 : DC cX11_isIn 10 (.iconst 0) 1 11 := ⟨by decide +kernel, rfl⟩
theorem e_X11_isIn_11 : DC cX11_isIn 11 (.iload_n 2) 1 12 := ⟨by decide +kernel, rfl⟩
theorem e_X11_isIn_12 : DC cX11_isIn 12 (.invokevirtual 261) 3 15 := ⟨by decide +kernel, rfl⟩
theorem e_X11_isIn_15 : DB cX11_isIn 15 (.ifCond .eq 53) (53) 3 18 68 := ⟨by decide +kernel, rfl, rfl⟩
theorem e_X11_isIn_18 : DC cX11_isIn 18 (.aload_n 0) 1 19 := ⟨by decide +kernel, rfl⟩
theorem e_X11_isIn_19 : DC cX11_isIn 19 (.aload_n 0) 1 20 := ⟨by decide +kernel, rfl⟩
theorem e_X11_isIn_20 : DC cX11_isIn 20 (.getfield 20) 3 23 := ⟨by decide +kernel, rfl⟩
theorem e_X11_isIn_23 : DC cX11_isIn 23 (.bipush 48) 2 25 := ⟨by decide +kernel, rfl⟩
theorem e_X11_isIn_25 : DC cX11_isIn 25 (.iconst 3) 1 26 := ⟨by decide +kernel, rfl⟩
theorem e_X11_isIn_26 : DC cX11_isIn 26 (.iload_n 1) 1 27 := ⟨by decide +kernel, rfl⟩
theorem e_X11_isIn_27 : DC cX11_isIn 27 (.imul) 1 28 := ⟨by decide +kernel, rfl⟩
theorem e_X11_isIn_28 : DC cX11_isIn 28 (.iadd) 1 29 := ⟨by decide +kernel, rfl⟩
theorem e_X11_isIn_29 : DC cX11_isIn 29 (.iaload) 1 30 := ⟨by decide +kernel, rfl⟩
theorem e_X11_isIn_30 : DC cX11_isIn 30 (.aload_n 0) 1 31 := ⟨by decide +kernel, rfl⟩
theorem e_X11_isIn_31 : DC cX11_isIn 31 (.getfield 20) 3 34 := ⟨by decide +kernel, rfl⟩
theorem e_X11_isIn_34 : DC cX11_isIn 34 (.bipush 48) 2 36 := ⟨by decide +kernel, rfl⟩
theorem e_X11_isIn_36 : DC cX11_isIn 36 (.iconst 3) 1 37 := ⟨by decide +kernel, rfl⟩
theorem e_X11_isIn_37 : DC cX11_isIn 37 (.iload_n 1) 1 38 := ⟨by decide +kernel, rfl⟩
theorem e_X11_isIn_38 : DC cX11_isIn 38 (.imul) 1 39 := ⟨by decide +kernel, rfl⟩
theorem e_X11_isIn_39 : DC cX11_isIn 39 (.iadd) 1 40 := ⟨by decide +kernel, rfl⟩
theorem e_X11_isIn_40 : DC cX11_isIn 40 (.iconst 1) 1 41 := ⟨by decide +kernel, rfl⟩
theorem e_X11_isIn_41 : DC cX11_isIn 41 (.iadd) 1 42 := ⟨by decide +kernel, rfl⟩
theorem e_X11_isIn_42 : DC cX11_isIn 42 (.iaload) 1 43 := ⟨by decide +kernel, rfl⟩
theorem e_X11_isIn_43 : DC cX11_isIn 43 (.aload_n 0) 1 44 := ⟨by decide +kernel, rfl⟩
theorem e_X11_isIn_44 : DC cX11_isIn 44 (.getfield 20) 3 47 := ⟨by decide +kernel, rfl⟩
theorem e_X11_isIn_47 : DC cX11_isIn 47 (.bipush 48) 2 49 := ⟨by decide +kernel, rfl⟩
theorem e_X11_isIn_49 : DC cX11_isIn 49 (.iconst 3) 1 50 := ⟨by decide +kernel, rfl⟩
theorem e_X11_isIn_50 : DC cX11_isIn 50 (.iload_n 1) 1 51 := ⟨by decide +kernel, rfl⟩
theorem e_X11_isIn_51 : DC cX11_isIn 51 (.imul) 1 52 := ⟨by decide +kernel, rfl⟩
theorem e_X11_isIn_52 : DC cX11_isIn 52 (.iadd) 1 53 := ⟨by decide +kernel, rfl⟩
theorem e_X11_isIn_53 : DC cX11_isIn 53 (.iconst 2) 1 54 := ⟨by decide +kernel, rfl⟩
theorem e_X11_isIn_54 : DC cX11_isIn 54 (.iadd) 1 55 := ⟨by decide +kernel, rfl⟩
theorem e_X11_isIn_55 : DC cX11_isIn 55 (.iaload) 1 56 := ⟨by decide +kernel, rfl⟩
theorem e_X11_isIn_56 : DC cX11_isIn 56 (.iconst 0) 1 57 := ⟨by decide +kernel, rfl⟩
theorem e_X11_isIn_57 : DC cX11_isIn 57 (.iload_n 2) 1 58 := ⟨by decide +kernel, rfl⟩
theorem e_X11_isIn_58 : DC cX11_isIn 58 (.invokevirtual 305) 3 61 := ⟨by decide +kernel, rfl⟩
theorem e_X11_isIn_61 : DB cX11_isIn 61 (.ifCond .ne 7) (7) 3 64 68 := ⟨by decide +kernel, rfl, rfl⟩
theorem e_X11_isIn_64 : DC cX11_isIn 64 (.iconst 1) 1 65 := ⟨by decide +kernel, rfl⟩
theorem e_X11_isIn_65 : DB cX11_isIn 65 (.goto 4) (4) 3 68 69 := ⟨by decide +kernel, rfl, rfl⟩
theorem e_X11_isIn_68 : DC cX11_isIn 68 (.iconst 0) 1 69 := ⟨by decide +kernel, rfl⟩
theorem e_X11_isIn_69 : DC cX11_isIn 69 (.ireturn) 1 70 := ⟨by decide +kernel, rfl⟩
noncomputable def m_X11_isIn_0 (t_many : Nat → Int) (t_way : Nat → Int) (v1 : Int) (v2 : Int) : Option (Int) :=
  (m_X11_isTold t_many 1 v1).bind (fun y1 => if y1 = 0 then (some (0)) else ((m_X11_isTold t_many 0 v2).bind (fun y2 => if y2 = 0 then (some (0)) else (chk (inB (48 + (3 * v1)) 144) (chk (inB ((48 + (3 * v1)) + 1) 144) (chk (inB ((48 + (3 * v1)) + 2) 144) ((m_X11_along t_way (t_way (Int.toNat (48 + (3 * v1)))) (t_way (Int.toNat ((48 + (3 * v1)) + 1))) (t_way (Int.toNat ((48 + (3 * v1)) + 2))) 0 v2).bind (fun y6 => if y6 = 0 then (some (1)) else (some (0))))))))))

set_option maxRecDepth 10000 in
set_option maxHeartbeats 8000000 in
theorem g_X11_isIn_0 {l : Launch} {E : EE} {b0 n : Nat} {h : AH} {a_t : Nat} {t_thrown t_taped t_p t_fault t_baseLow t_baseHigh t_newBaseLow t_newBaseHigh t_from t_knots t_lines t_chosen t_undos t_redos t_aimedMany t_fits t_fitOf t_sights t_systems t_own t_cross t_curveLong t_wallFirst v1 v2 : Int} {t_many t_way : Nat → Int} {r : Int} (ao : AO b0 n [a_t, (a_t + 2), (a_t + 4)]) (ok_t_many : okA t_many) (ok_t_way : okA t_way) (ok_v1 : inI v1) (ok_v2 : inI v2) (hs : m_X11_isIn_0 t_many t_way v1 v2 = some r) : G l E b0 M_X11_isIn (fun _ => True) (ZM E b0 (some (vI r)) (ov [a_t, (a_t + 2), (a_t + 4)] [.inr (11, fsX11 a_t t_thrown t_taped t_p t_fault t_baseLow t_baseHigh t_newBaseLow t_newBaseHigh t_from t_knots t_lines t_chosen t_undos t_redos t_aimedMany t_fits t_fitOf t_sights t_systems t_own t_cross t_curveLong t_wallFirst), IA E 7 t_many, IA E 144 t_way] h) n (inZ r) 0 0) 0 0 n (ov [a_t, (a_t + 2), (a_t + 4)] [.inr (11, fsX11 a_t t_thrown t_taped t_p t_fault t_baseLow t_baseHigh t_newBaseLow t_newBaseHigh t_from t_knots t_lines t_chosen t_undos t_redos t_aimedMany t_fits t_fitOf t_sights t_systems t_own t_cross t_curveLong t_wallFirst), IA E 7 t_many, IA E 144 t_way] h) 0 [some (.ref a_t), some (vI v1), some (vI v2)] [] := by
  rw [m_X11_isIn_0] at hs
  refine g_aload_n e_X11_isIn_0 rfl ?_
  refine g_iconst e_X11_isIn_1 ?_
  refine g_iload_n e_X11_isIn_2 rfl ?_
  obtain ⟨y1, hy1, hs⟩ := bind_elim hs
  refine g_callVr [vI 1, vI v1] cv_X11_261 ⟨rfl, rfl, Nat.le_of_ble_eq_true rfl, Nat.le_of_ble_eq_true rfl⟩ (ct_X11_isTold (a_t := a_t) (AO_call [0, 1] ao (by decide) rfl) (FA_call [0, 1] ao.1 rfl rfl) ok_t_many (by decide : inI 1) ok_v1 hy1) e_X11_isIn_3 (ao.2 0 _ rfl) (ov_get 0 ao.1 rfl rfl) rfl rfl rfl (Nat.le_of_ble_eq_true rfl) ⟨Nat.le_refl _, Nat.le_refl _⟩ (fun Py1 => ?_)
  refine g_if_eq e_X11_isIn_6 (inZ_I Py1) hs (fun c6 hs => ?_) (fun c6 hs => ?_)
  · refine g_iconst e_X11_isIn_68 ?_
    obtain rfl := Option.some.inj hs
    exact g_zret rfl (by decide : inZ 0) (by decide : inZ 0) e_X11_isIn_69
  · refine g_aload_n e_X11_isIn_9 rfl ?_
    refine g_iconst e_X11_isIn_10 ?_
    refine g_iload_n e_X11_isIn_11 rfl ?_
    obtain ⟨y2, hy2, hs⟩ := bind_elim hs
    refine g_callVr [vI 0, vI v2] cv_X11_261 ⟨rfl, rfl, Nat.le_of_ble_eq_true rfl, Nat.le_of_ble_eq_true rfl⟩ (ct_X11_isTold (a_t := a_t) (AO_call [0, 1] ao (by decide) rfl) (FA_call [0, 1] ao.1 rfl rfl) ok_t_many (by decide : inI 0) ok_v2 hy2) e_X11_isIn_12 (ao.2 0 _ rfl) (ov_get 0 ao.1 rfl rfl) rfl rfl rfl (Nat.le_of_ble_eq_true rfl) ⟨Nat.le_refl _, Nat.le_refl _⟩ (fun Py2 => ?_)
    refine g_if_eq e_X11_isIn_15 (inZ_I Py2) hs (fun c15 hs => ?_) (fun c15 hs => ?_)
    · refine g_iconst e_X11_isIn_68 ?_
      obtain rfl := Option.some.inj hs
      exact g_zret rfl (by decide : inZ 0) (by decide : inZ 0) e_X11_isIn_69
    · refine g_aload_n e_X11_isIn_18 rfl ?_
      refine g_aload_n e_X11_isIn_19 rfl ?_
      refine g_get 0 7 ao rfl rfl fsX11_g7 fl_X11_20 e_X11_isIn_20 ?_
      refine g_bipush e_X11_isIn_23 bp_48 ?_
      refine g_iconst e_X11_isIn_25 ?_
      refine g_iload_n e_X11_isIn_26 rfl ?_
      refine g_imul e_X11_isIn_27 ?_
      refine g_iadd e_X11_isIn_28 ?_
      refine g_iald 2 ao rfl rfl (Nat.le_of_ble_eq_true rfl) e_X11_isIn_29 hs (fun hi3 hs => ?_)
      refine g_aload_n e_X11_isIn_30 rfl ?_
      refine g_get 0 7 ao rfl rfl fsX11_g7 fl_X11_20 e_X11_isIn_31 ?_
      refine g_bipush e_X11_isIn_34 bp_48 ?_
      refine g_iconst e_X11_isIn_36 ?_
      refine g_iload_n e_X11_isIn_37 rfl ?_
      refine g_imul e_X11_isIn_38 ?_
      refine g_iadd e_X11_isIn_39 ?_
      refine g_iconst e_X11_isIn_40 ?_
      refine g_iadd e_X11_isIn_41 ?_
      refine g_iald 2 ao rfl rfl (Nat.le_of_ble_eq_true rfl) e_X11_isIn_42 hs (fun hi4 hs => ?_)
      refine g_aload_n e_X11_isIn_43 rfl ?_
      refine g_get 0 7 ao rfl rfl fsX11_g7 fl_X11_20 e_X11_isIn_44 ?_
      refine g_bipush e_X11_isIn_47 bp_48 ?_
      refine g_iconst e_X11_isIn_49 ?_
      refine g_iload_n e_X11_isIn_50 rfl ?_
      refine g_imul e_X11_isIn_51 ?_
      refine g_iadd e_X11_isIn_52 ?_
      refine g_iconst e_X11_isIn_53 ?_
      refine g_iadd e_X11_isIn_54 ?_
      refine g_iald 2 ao rfl rfl (Nat.le_of_ble_eq_true rfl) e_X11_isIn_55 hs (fun hi5 hs => ?_)
      refine g_iconst e_X11_isIn_56 ?_
      refine g_iload_n e_X11_isIn_57 rfl ?_
      obtain ⟨y6, hy6, hs⟩ := bind_elim hs
      refine g_callVr [vI (t_way (Int.toNat (48 + (3 * v1)))), vI (t_way (Int.toNat ((48 + (3 * v1)) + 1))), vI (t_way (Int.toNat ((48 + (3 * v1)) + 2))), vI 0, vI v2] cv_X11_305 ⟨rfl, rfl, Nat.le_of_ble_eq_true rfl, Nat.le_of_ble_eq_true rfl⟩ (ct_X11_along (a_t := a_t) (AO_call [0, 2] ao (by decide) rfl) (FA_call [0, 2] ao.1 rfl rfl) ok_t_way (ok_t_way _) (ok_t_way _) (ok_t_way _) (by decide : inI 0) ok_v2 hy6) e_X11_isIn_58 (ao.2 0 _ rfl) (ov_get 0 ao.1 rfl rfl) rfl rfl rfl (Nat.le_of_ble_eq_true rfl) ⟨Nat.le_refl _, Nat.le_refl _⟩ (fun Py6 => ?_)
      refine g_if_ne e_X11_isIn_61 Py6 hs (fun c61 hs => ?_) (fun c61 hs => ?_)
      · refine g_iconst e_X11_isIn_64 ?_
        refine g_goto e_X11_isIn_65 ?_
        obtain rfl := Option.some.inj hs
        exact g_zret rfl (by decide : inZ 1) (by decide : inZ 1) e_X11_isIn_69
      · refine g_iconst e_X11_isIn_68 ?_
        obtain rfl := Option.some.inj hs
        exact g_zret rfl (by decide : inZ 0) (by decide : inZ 0) e_X11_isIn_69

noncomputable def m_X11_isIn (t_many : Nat → Int) (t_way : Nat → Int) (v1 : Int) (v2 : Int) : Option (Int) := m_X11_isIn_0 t_many t_way v1 v2

set_option maxRecDepth 10000 in
set_option maxHeartbeats 8000000 in
theorem ct_X11_isIn {l : Launch} {E : EE} {b0 n : Nat} {h : AH} {a_t : Nat} {t_thrown t_taped t_p t_fault t_baseLow t_baseHigh t_newBaseLow t_newBaseHigh t_from t_knots t_lines t_chosen t_undos t_redos t_aimedMany t_fits t_fitOf t_sights t_systems t_own t_cross t_curveLong t_wallFirst : Int} {t_many t_way : Nat → Int} {v1 v2 : Int} (ao : AO b0 n [a_t, (a_t + 2), (a_t + 4)]) (hf : FA h [a_t, (a_t + 2), (a_t + 4)] [.inr (11, fsX11 a_t t_thrown t_taped t_p t_fault t_baseLow t_baseHigh t_newBaseLow t_newBaseHigh t_from t_knots t_lines t_chosen t_undos t_redos t_aimedMany t_fits t_fitOf t_sights t_systems t_own t_cross t_curveLong t_wallFirst), IA E 7 t_many, IA E 144 t_way]) (ok_t_many : okA t_many) (ok_t_way : okA t_way) (ok_v1 : inI v1) (ok_v2 : inI v2) {r : Int} (hm : m_X11_isIn t_many t_way v1 v2 = some r) : Ct l E b0 M_X11_isIn 0 0 [.ref a_t, vI v1, vI v2] h n (some (vI r)) h n (inZ r) := by
  rw [m_X11_isIn] at hm
  have hg : G l E b0 M_X11_isIn (fun _ => True) (ZM E b0 (some (vI r)) (ov [a_t, (a_t + 2), (a_t + 4)] [.inr (11, fsX11 a_t t_thrown t_taped t_p t_fault t_baseLow t_baseHigh t_newBaseLow t_newBaseHigh t_from t_knots t_lines t_chosen t_undos t_redos t_aimedMany t_fits t_fitOf t_sights t_systems t_own t_cross t_curveLong t_wallFirst), IA E 7 t_many, IA E 144 t_way] h) n (inZ r) 0 0) 0 0 n (ov [a_t, (a_t + 2), (a_t + 4)] [.inr (11, fsX11 a_t t_thrown t_taped t_p t_fault t_baseLow t_baseHigh t_newBaseLow t_newBaseHigh t_from t_knots t_lines t_chosen t_undos t_redos t_aimedMany t_fits t_fitOf t_sights t_systems t_own t_cross t_curveLong t_wallFirst), IA E 7 t_many, IA E 144 t_way] h) 0 [some (.ref a_t), some (vI v1), some (vI v2)] [] := by
    have hs := hm
    exact g_X11_isIn_0 ao ok_t_many ok_t_way ok_v1 ok_v2 hs
  rw [FA_id hf] at hg
  exact Ct_of [some (.ref a_t), some (vI v1), some (vI v2)] ⟨by decide +kernel, rfl⟩ rfl (Nat.le_of_ble_eq_true rfl) hg

/-! ===== X11_above ===== -/
theorem e_X11_above_0 : DC cX11_above 0 (.aload_n 0) 1 1 := ⟨by decide +kernel, rfl⟩
theorem e_X11_above_1 : DC cX11_above 1 (.iload_n 1) 1 2 := ⟨by decide +kernel, rfl⟩
theorem e_X11_above_2 : DC cX11_above 2 (.iload_n 2) 1 3 := ⟨by decide +kernel, rfl⟩
theorem e_X11_above_3 : DC cX11_above 3 (.iload_n 3) 1 4 := ⟨by decide +kernel, rfl⟩
theorem e_X11_above_4 : DC cX11_above 4 (.iconst 1) 1 5 := ⟨by decide +kernel, rfl⟩
theorem e_X11_above_5 : DC cX11_above 5 (.iload 4) 2 7 := ⟨by decide +kernel, rfl⟩
theorem e_X11_above_7 : DC cX11_above 7 (.invokevirtual 305) 3 10 := ⟨by decide +kernel, rfl⟩
theorem e_X11_above_10 : DC cX11_above 10 (.i2l) 1 11 := ⟨by decide +kernel, rfl⟩
theorem e_X11_above_11 : DC cX11_above 11 (.aload_n 0) 1 12 := ⟨by decide +kernel, rfl⟩
theorem e_X11_above_12 : DC cX11_above 12 (.iload_n 1) 1 13 := ⟨by decide +kernel, rfl⟩
theorem e_X11_above_13 : DC cX11_above 13 (.iload_n 2) 1 14 := ⟨by decide +kernel, rfl⟩
theorem e_X11_above_14 : DC cX11_above 14 (.iload_n 3) 1 15 := ⟨by decide +kernel, rfl⟩
theorem e_X11_above_15 : DC cX11_above 15 (.iconst 0) 1 16 := ⟨by decide +kernel, rfl⟩
theorem e_X11_above_16 : DC cX11_above 16 (.iload 5) 2 18 := ⟨by decide +kernel, rfl⟩
theorem e_X11_above_18 : DC cX11_above 18 (.invokevirtual 305) 3 21 := ⟨by decide +kernel, rfl⟩
theorem e_X11_above_21 : DC cX11_above 21 (.i2l) 1 22 := ⟨by decide +kernel, rfl⟩
theorem e_X11_above_22 : DC cX11_above 22 (.lmul) 1 23 := ⟨by decide +kernel, rfl⟩
theorem e_X11_above_23 : DC cX11_above 23 (.lstore 6) 2 25 := ⟨by decide +kernel, rfl⟩
theorem e_X11_above_25 : DC cX11_above 25 (.lload 6) 2 27 := ⟨by decide +kernel, rfl⟩
theorem e_X11_above_27 : DC cX11_above 27 (.lload 6) 2 29 := ⟨by decide +kernel, rfl⟩
theorem e_X11_above_29 : DC cX11_above 29 (.lmul) 1 30 := ⟨by decide +kernel, rfl⟩
theorem e_X11_above_30 : DC cX11_above 30 (.lreturn) 1 31 := ⟨by decide +kernel, rfl⟩
noncomputable def m_X11_above_0 (t_way : Nat → Int) (v1 : Int) (v2 : Int) (v3 : Int) (v4 : Int) (v5 : Int) : Option (Int) :=
  (m_X11_along t_way v1 v2 v3 1 v4).bind (fun y1 => (m_X11_along t_way v1 v2 v3 0 v5).bind (fun y2 => chk (inJ ((y1 * y2) * (y1 * y2))) (some ((y1 * y2) * (y1 * y2)))))

set_option maxRecDepth 10000 in
set_option maxHeartbeats 8000000 in
theorem g_X11_above_0 {l : Launch} {E : EE} {b0 n : Nat} {h : AH} {a_t : Nat} {t_thrown t_taped t_p t_fault t_baseLow t_baseHigh t_newBaseLow t_newBaseHigh t_from t_knots t_lines t_chosen t_undos t_redos t_aimedMany t_fits t_fitOf t_sights t_systems t_own t_cross t_curveLong t_wallFirst v1 v2 v3 v4 v5 : Int} {t_way : Nat → Int} {r : Int} (ao : AO b0 n [a_t, (a_t + 4)]) (ok_t_way : okA t_way) (ok_v1 : inI v1) (ok_v2 : inI v2) (ok_v3 : inI v3) (ok_v4 : inI v4) (ok_v5 : inI v5) (hs : m_X11_above_0 t_way v1 v2 v3 v4 v5 = some r) : G l E b0 M_X11_above (fun _ => True) (ZM E b0 (some (vJ r)) (ov [a_t, (a_t + 4)] [.inr (11, fsX11 a_t t_thrown t_taped t_p t_fault t_baseLow t_baseHigh t_newBaseLow t_newBaseHigh t_from t_knots t_lines t_chosen t_undos t_redos t_aimedMany t_fits t_fitOf t_sights t_systems t_own t_cross t_curveLong t_wallFirst), IA E 144 t_way] h) n (inJ r) 0 0) 0 0 n (ov [a_t, (a_t + 4)] [.inr (11, fsX11 a_t t_thrown t_taped t_p t_fault t_baseLow t_baseHigh t_newBaseLow t_newBaseHigh t_from t_knots t_lines t_chosen t_undos t_redos t_aimedMany t_fits t_fitOf t_sights t_systems t_own t_cross t_curveLong t_wallFirst), IA E 144 t_way] h) 0 [some (.ref a_t), some (vI v1), some (vI v2), some (vI v3), some (vI v4), some (vI v5), none, none] [] := by
  rw [m_X11_above_0] at hs
  refine g_aload_n e_X11_above_0 rfl ?_
  refine g_iload_n e_X11_above_1 rfl ?_
  refine g_iload_n e_X11_above_2 rfl ?_
  refine g_iload_n e_X11_above_3 rfl ?_
  refine g_iconst e_X11_above_4 ?_
  refine g_iload e_X11_above_5 rfl ?_
  obtain ⟨y1, hy1, hs⟩ := bind_elim hs
  refine g_callVr [vI v1, vI v2, vI v3, vI 1, vI v4] cv_X11_305 ⟨rfl, rfl, Nat.le_of_ble_eq_true rfl, Nat.le_of_ble_eq_true rfl⟩ (ct_X11_along (a_t := a_t) (AO_call [0, 1] ao (by decide) rfl) (FA_call [0, 1] ao.1 rfl rfl) ok_t_way ok_v1 ok_v2 ok_v3 (by decide : inI 1) ok_v4 hy1) e_X11_above_7 (ao.2 0 _ rfl) (ov_get 0 ao.1 rfl rfl) rfl rfl rfl (Nat.le_of_ble_eq_true rfl) ⟨Nat.le_refl _, Nat.le_refl _⟩ (fun Py1 => ?_)
  refine g_i2l e_X11_above_10 Py1 ?_
  refine g_aload_n e_X11_above_11 rfl ?_
  refine g_iload_n e_X11_above_12 rfl ?_
  refine g_iload_n e_X11_above_13 rfl ?_
  refine g_iload_n e_X11_above_14 rfl ?_
  refine g_iconst e_X11_above_15 ?_
  refine g_iload e_X11_above_16 rfl ?_
  obtain ⟨y2, hy2, hs⟩ := bind_elim hs
  refine g_callVr [vI v1, vI v2, vI v3, vI 0, vI v5] cv_X11_305 ⟨rfl, rfl, Nat.le_of_ble_eq_true rfl, Nat.le_of_ble_eq_true rfl⟩ (ct_X11_along (a_t := a_t) (AO_call [0, 1] ao (by decide) rfl) (FA_call [0, 1] ao.1 rfl rfl) ok_t_way ok_v1 ok_v2 ok_v3 (by decide : inI 0) ok_v5 hy2) e_X11_above_18 (ao.2 0 _ rfl) (ov_get 0 ao.1 rfl rfl) rfl rfl rfl (Nat.le_of_ble_eq_true rfl) ⟨Nat.le_refl _, Nat.le_refl _⟩ (fun Py2 => ?_)
  refine g_i2l e_X11_above_21 Py2 ?_
  refine g_lmul e_X11_above_22 ?_
  refine g_lstore e_X11_above_23 st2_6 rfl ?_
  refine g_lload e_X11_above_25 rfl ?_
  refine g_lload e_X11_above_27 rfl ?_
  refine g_lmul e_X11_above_29 ?_
  obtain ⟨hc3, hs⟩ := chk_elim hs
  obtain rfl := Option.some.inj hs
  exact g_lret rfl hc3 e_X11_above_30

noncomputable def m_X11_above (t_way : Nat → Int) (v1 : Int) (v2 : Int) (v3 : Int) (v4 : Int) (v5 : Int) : Option (Int) := m_X11_above_0 t_way v1 v2 v3 v4 v5

set_option maxRecDepth 10000 in
set_option maxHeartbeats 8000000 in
theorem ct_X11_above {l : Launch} {E : EE} {b0 n : Nat} {h : AH} {a_t : Nat} {t_thrown t_taped t_p t_fault t_baseLow t_baseHigh t_newBaseLow t_newBaseHigh t_from t_knots t_lines t_chosen t_undos t_redos t_aimedMany t_fits t_fitOf t_sights t_systems t_own t_cross t_curveLong t_wallFirst : Int} {t_way : Nat → Int} {v1 v2 v3 v4 v5 : Int} (ao : AO b0 n [a_t, (a_t + 4)]) (hf : FA h [a_t, (a_t + 4)] [.inr (11, fsX11 a_t t_thrown t_taped t_p t_fault t_baseLow t_baseHigh t_newBaseLow t_newBaseHigh t_from t_knots t_lines t_chosen t_undos t_redos t_aimedMany t_fits t_fitOf t_sights t_systems t_own t_cross t_curveLong t_wallFirst), IA E 144 t_way]) (ok_t_way : okA t_way) (ok_v1 : inI v1) (ok_v2 : inI v2) (ok_v3 : inI v3) (ok_v4 : inI v4) (ok_v5 : inI v5) {r : Int} (hm : m_X11_above t_way v1 v2 v3 v4 v5 = some r) : Ct l E b0 M_X11_above 0 0 [.ref a_t, vI v1, vI v2, vI v3, vI v4, vI v5] h n (some (vJ r)) h n (inJ r) := by
  rw [m_X11_above] at hm
  have hg : G l E b0 M_X11_above (fun _ => True) (ZM E b0 (some (vJ r)) (ov [a_t, (a_t + 4)] [.inr (11, fsX11 a_t t_thrown t_taped t_p t_fault t_baseLow t_baseHigh t_newBaseLow t_newBaseHigh t_from t_knots t_lines t_chosen t_undos t_redos t_aimedMany t_fits t_fitOf t_sights t_systems t_own t_cross t_curveLong t_wallFirst), IA E 144 t_way] h) n (inJ r) 0 0) 0 0 n (ov [a_t, (a_t + 4)] [.inr (11, fsX11 a_t t_thrown t_taped t_p t_fault t_baseLow t_baseHigh t_newBaseLow t_newBaseHigh t_from t_knots t_lines t_chosen t_undos t_redos t_aimedMany t_fits t_fitOf t_sights t_systems t_own t_cross t_curveLong t_wallFirst), IA E 144 t_way] h) 0 [some (.ref a_t), some (vI v1), some (vI v2), some (vI v3), some (vI v4), some (vI v5), none, none] [] := by
    have hs := hm
    exact g_X11_above_0 ao ok_t_way ok_v1 ok_v2 ok_v3 ok_v4 ok_v5 hs
  rw [FA_id hf] at hg
  exact Ct_of [some (.ref a_t), some (vI v1), some (vI v2), some (vI v3), some (vI v4), some (vI v5), none, none] ⟨by decide +kernel, rfl⟩ rfl (Nat.le_of_ble_eq_true rfl) hg

/-! ===== X11_below ===== -/
theorem e_X11_below_0 : DC cX11_below 0 (.iload_n 1) 1 1 := ⟨by decide +kernel, rfl⟩
theorem e_X11_below_1 : DC cX11_below 1 (.iload_n 2) 1 2 := ⟨by decide +kernel, rfl⟩
theorem e_X11_below_2 : DC cX11_below 2 (.iload_n 3) 1 3 := ⟨by decide +kernel, rfl⟩
theorem e_X11_below_3 : DC cX11_below 3 (.invokestatic 281) 3 6 := ⟨by decide +kernel, rfl⟩
theorem e_X11_below_6 : DC cX11_below 6 (.i2l) 1 7 := ⟨by decide +kernel, rfl⟩
theorem e_X11_below_7 : DC cX11_below 7 (.lstore 6) 2 9 := ⟨by decide +kernel, rfl⟩
theorem e_X11_below_9 : DC cX11_below 9 (.lload 6) 2 11 := ⟨by decide +kernel, rfl⟩
theorem e_X11_below_11 : DC cX11_below 11 (.lload 6) 2 13 := ⟨by decide +kernel, rfl⟩
theorem e_X11_below_13 : DC cX11_below 13 (.lmul) 1 14 := ⟨by decide +kernel, rfl⟩
theorem e_X11_below_14 : DC cX11_below 14 (.aload_n 0) 1 15 := ⟨by decide +kernel, rfl⟩
theorem e_X11_below_15 : DC cX11_below 15 (.iconst 1) 1 16 := ⟨by decide +kernel, rfl⟩
theorem e_X11_below_16 : DC cX11_below 16 (.iload 4) 2 18 := ⟨by decide +kernel, rfl⟩
theorem e_X11_below_18 : DC cX11_below 18 (.invokevirtual 308) 3 21 := ⟨by decide +kernel, rfl⟩
theorem e_X11_below_21 : DC cX11_below 21 (.i2l) 1 22 := ⟨by decide +kernel, rfl⟩
theorem e_X11_below_22 : DC cX11_below 22 (.lmul) 1 23 := ⟨by decide +kernel, rfl⟩
theorem e_X11_below_23 : DC cX11_below 23 (.aload_n 0) 1 24 := ⟨by decide +kernel, rfl⟩
theorem e_X11_below_24 : DC cX11_below 24 (.iconst 0) 1 25 := ⟨by decide +kernel, rfl⟩
theorem e_X11_below_25 : DC cX11_below 25 (.iload 5) 2 27 := ⟨by decide +kernel, rfl⟩
theorem e_X11_below_27 : DC cX11_below 27 (.invokevirtual 308) 3 30 := ⟨by decide +kernel, rfl⟩
theorem e_X11_below_30 : DC cX11_below 30 (.i2l) 1 31 := ⟨by decide +kernel, rfl⟩
theorem e_X11_below_31 : DC cX11_below 31 (.lmul) 1 32 := ⟨by decide +kernel, rfl⟩
theorem e_X11_below_32 : DC cX11_below 32 (.lreturn) 1 33 := ⟨by decide +kernel, rfl⟩
noncomputable def m_X11_below_0 (t_way : Nat → Int) (v1 : Int) (v2 : Int) (v3 : Int) (v4 : Int) (v5 : Int) : Option (Int) :=
  (m_X11_square v1 v2 v3).bind (fun y1 => (m_X11_squareOf t_way 1 v4).bind (fun y2 => (m_X11_squareOf t_way 0 v5).bind (fun y3 => chk (inJ (((y1 * y1) * y2) * y3)) (some (((y1 * y1) * y2) * y3)))))

set_option maxRecDepth 10000 in
set_option maxHeartbeats 8000000 in
theorem g_X11_below_0 {l : Launch} {E : EE} {b0 n : Nat} {h : AH} {a_t : Nat} {t_thrown t_taped t_p t_fault t_baseLow t_baseHigh t_newBaseLow t_newBaseHigh t_from t_knots t_lines t_chosen t_undos t_redos t_aimedMany t_fits t_fitOf t_sights t_systems t_own t_cross t_curveLong t_wallFirst v1 v2 v3 v4 v5 : Int} {t_way : Nat → Int} {r : Int} (ao : AO b0 n [a_t, (a_t + 4)]) (ok_t_way : okA t_way) (ok_v1 : inI v1) (ok_v2 : inI v2) (ok_v3 : inI v3) (ok_v4 : inI v4) (ok_v5 : inI v5) (hs : m_X11_below_0 t_way v1 v2 v3 v4 v5 = some r) : G l E b0 M_X11_below (fun _ => True) (ZM E b0 (some (vJ r)) (ov [a_t, (a_t + 4)] [.inr (11, fsX11 a_t t_thrown t_taped t_p t_fault t_baseLow t_baseHigh t_newBaseLow t_newBaseHigh t_from t_knots t_lines t_chosen t_undos t_redos t_aimedMany t_fits t_fitOf t_sights t_systems t_own t_cross t_curveLong t_wallFirst), IA E 144 t_way] h) n (inJ r) 0 0) 0 0 n (ov [a_t, (a_t + 4)] [.inr (11, fsX11 a_t t_thrown t_taped t_p t_fault t_baseLow t_baseHigh t_newBaseLow t_newBaseHigh t_from t_knots t_lines t_chosen t_undos t_redos t_aimedMany t_fits t_fitOf t_sights t_systems t_own t_cross t_curveLong t_wallFirst), IA E 144 t_way] h) 0 [some (.ref a_t), some (vI v1), some (vI v2), some (vI v3), some (vI v4), some (vI v5), none, none] [] := by
  rw [m_X11_below_0] at hs
  refine g_iload_n e_X11_below_0 rfl ?_
  refine g_iload_n e_X11_below_1 rfl ?_
  refine g_iload_n e_X11_below_2 rfl ?_
  obtain ⟨y1, hy1, hs⟩ := bind_elim hs
  refine g_callSr [vI v1, vI v2, vI v3] cs_X11_281 ⟨rfl, rfl, Nat.le_of_ble_eq_true rfl, Nat.le_of_ble_eq_true rfl⟩ (ct_X11_square ⟨List.nodup_nil, fun i a h => by simp at h⟩ (fun i a e h => by simp at h) ok_v1 ok_v2 ok_v3 hy1) e_X11_below_3 rfl rfl (Nat.le_of_ble_eq_true rfl) ⟨Nat.le_refl _, Nat.le_refl _⟩ (fun Py1 => ?_)
  refine g_i2l e_X11_below_6 Py1 ?_
  refine g_lstore e_X11_below_7 st2_6 rfl ?_
  refine g_lload e_X11_below_9 rfl ?_
  refine g_lload e_X11_below_11 rfl ?_
  refine g_lmul e_X11_below_13 ?_
  refine g_aload_n e_X11_below_14 rfl ?_
  refine g_iconst e_X11_below_15 ?_
  refine g_iload e_X11_below_16 rfl ?_
  obtain ⟨y2, hy2, hs⟩ := bind_elim hs
  refine g_callVr [vI 1, vI v4] cv_X11_308 ⟨rfl, rfl, Nat.le_of_ble_eq_true rfl, Nat.le_of_ble_eq_true rfl⟩ (ct_X11_squareOf (a_t := a_t) (AO_call [0, 1] ao (by decide) rfl) (FA_call [0, 1] ao.1 rfl rfl) ok_t_way (by decide : inI 1) ok_v4 hy2) e_X11_below_18 (ao.2 0 _ rfl) (ov_get 0 ao.1 rfl rfl) rfl rfl rfl (Nat.le_of_ble_eq_true rfl) ⟨Nat.le_refl _, Nat.le_refl _⟩ (fun Py2 => ?_)
  refine g_i2l e_X11_below_21 Py2 ?_
  refine g_lmul e_X11_below_22 ?_
  refine g_aload_n e_X11_below_23 rfl ?_
  refine g_iconst e_X11_below_24 ?_
  refine g_iload e_X11_below_25 rfl ?_
  obtain ⟨y3, hy3, hs⟩ := bind_elim hs
  refine g_callVr [vI 0, vI v5] cv_X11_308 ⟨rfl, rfl, Nat.le_of_ble_eq_true rfl, Nat.le_of_ble_eq_true rfl⟩ (ct_X11_squareOf (a_t := a_t) (AO_call [0, 1] ao (by decide) rfl) (FA_call [0, 1] ao.1 rfl rfl) ok_t_way (by decide : inI 0) ok_v5 hy3) e_X11_below_27 (ao.2 0 _ rfl) (ov_get 0 ao.1 rfl rfl) rfl rfl rfl (Nat.le_of_ble_eq_true rfl) ⟨Nat.le_refl _, Nat.le_refl _⟩ (fun Py3 => ?_)
  refine g_i2l e_X11_below_30 Py3 ?_
  refine g_lmul e_X11_below_31 ?_
  obtain ⟨hc4, hs⟩ := chk_elim hs
  obtain rfl := Option.some.inj hs
  exact g_lret rfl hc4 e_X11_below_32

noncomputable def m_X11_below (t_way : Nat → Int) (v1 : Int) (v2 : Int) (v3 : Int) (v4 : Int) (v5 : Int) : Option (Int) := m_X11_below_0 t_way v1 v2 v3 v4 v5

set_option maxRecDepth 10000 in
set_option maxHeartbeats 8000000 in
theorem ct_X11_below {l : Launch} {E : EE} {b0 n : Nat} {h : AH} {a_t : Nat} {t_thrown t_taped t_p t_fault t_baseLow t_baseHigh t_newBaseLow t_newBaseHigh t_from t_knots t_lines t_chosen t_undos t_redos t_aimedMany t_fits t_fitOf t_sights t_systems t_own t_cross t_curveLong t_wallFirst : Int} {t_way : Nat → Int} {v1 v2 v3 v4 v5 : Int} (ao : AO b0 n [a_t, (a_t + 4)]) (hf : FA h [a_t, (a_t + 4)] [.inr (11, fsX11 a_t t_thrown t_taped t_p t_fault t_baseLow t_baseHigh t_newBaseLow t_newBaseHigh t_from t_knots t_lines t_chosen t_undos t_redos t_aimedMany t_fits t_fitOf t_sights t_systems t_own t_cross t_curveLong t_wallFirst), IA E 144 t_way]) (ok_t_way : okA t_way) (ok_v1 : inI v1) (ok_v2 : inI v2) (ok_v3 : inI v3) (ok_v4 : inI v4) (ok_v5 : inI v5) {r : Int} (hm : m_X11_below t_way v1 v2 v3 v4 v5 = some r) : Ct l E b0 M_X11_below 0 0 [.ref a_t, vI v1, vI v2, vI v3, vI v4, vI v5] h n (some (vJ r)) h n (inJ r) := by
  rw [m_X11_below] at hm
  have hg : G l E b0 M_X11_below (fun _ => True) (ZM E b0 (some (vJ r)) (ov [a_t, (a_t + 4)] [.inr (11, fsX11 a_t t_thrown t_taped t_p t_fault t_baseLow t_baseHigh t_newBaseLow t_newBaseHigh t_from t_knots t_lines t_chosen t_undos t_redos t_aimedMany t_fits t_fitOf t_sights t_systems t_own t_cross t_curveLong t_wallFirst), IA E 144 t_way] h) n (inJ r) 0 0) 0 0 n (ov [a_t, (a_t + 4)] [.inr (11, fsX11 a_t t_thrown t_taped t_p t_fault t_baseLow t_baseHigh t_newBaseLow t_newBaseHigh t_from t_knots t_lines t_chosen t_undos t_redos t_aimedMany t_fits t_fitOf t_sights t_systems t_own t_cross t_curveLong t_wallFirst), IA E 144 t_way] h) 0 [some (.ref a_t), some (vI v1), some (vI v2), some (vI v3), some (vI v4), some (vI v5), none, none] [] := by
    have hs := hm
    exact g_X11_below_0 ao ok_t_way ok_v1 ok_v2 ok_v3 ok_v4 ok_v5 hs
  rw [FA_id hf] at hg
  exact Ct_of [some (.ref a_t), some (vI v1), some (vI v2), some (vI v3), some (vI v4), some (vI v5), none, none] ⟨by decide +kernel, rfl⟩ rfl (Nat.le_of_ble_eq_true rfl) hg

/-! ===== X11_share ===== -/
theorem e_X11_share_0 : DC cX11_share 0 (.iload_n 1) 1 1 := ⟨by decide +kernel, rfl⟩
theorem e_X11_share_1 : DC cX11_share 1 (.iload_n 2) 1 2 := ⟨by decide +kernel, rfl⟩
theorem e_X11_share_2 : DC cX11_share 2 (.iload_n 3) 1 3 := ⟨by decide +kernel, rfl⟩
theorem e_X11_share_3 : DC cX11_share 3 (.invokestatic 311) 3 6 := ⟨by decide +kernel, rfl⟩
theorem e_X11_share_6 : DB cX11_share 6 (.ifCond .eq 24) (24) 3 9 30 := ⟨by decide +kernel, rfl, rfl⟩
theorem e_X11_share_9 : DC cX11_share 9 (.aload_n 0) 1 10 := ⟨by decide +kernel, rfl⟩
theorem e_X11_share_10 : DC cX11_share 10 (.iload 4) 2 12 := ⟨by decide +kernel, rfl⟩
theorem e_X11_share_12 : DC cX11_share 12 (.iload 5) 2 14 := ⟨by decide +kernel, rfl⟩
theorem e_X11_share_14 : DC cX11_share 14 (.invokevirtual 314) 3 17 := ⟨by decide +kernel, rfl⟩
theorem e_X11_share_17 : DB cX11_share 17 (.ifCond .eq 13) (13) 3 20 30 := ⟨by decide +kernel, rfl, rfl⟩
theorem e_X11_share_20 : DC cX11_share 20 (.iload 6) 2 22 := ⟨by decide +kernel, rfl⟩
theorem e_X11_share_22 : DC cX11_share 22 (.iconst 0) 1 23 := ⟨by decide +kernel, rfl⟩
theorem e_X11_share_23 : DC cX11_share 23 (.iconst 1) 1 24 := ⟨by decide +kernel, rfl⟩
theorem e_X11_share_24 : DC cX11_share 24 (.invokestatic 226) 3 27 := ⟨by decide +kernel, rfl⟩
theorem e_X11_share_27 : DB cX11_share 27 (.ifCond .ne 7) (7) 3 30 34 := ⟨by decide +kernel, rfl, rfl⟩
theorem e_X11_share_30 : DC cX11_share 30 (.ldc2_w 317) 3 33 := ⟨by decide +kernel, rfl⟩
theorem e_X11_share_33 : DC cX11_share 33 (.lreturn) 1 34 := ⟨by decide +kernel, rfl⟩
theorem e_X11_share_34 : DC cX11_share 34 (.aload_n 0) 1 35 := ⟨by decide +kernel, rfl⟩
theorem e_X11_share_35 : DC cX11_share 35 (.iload_n 1) 1 36 := ⟨by decide +kernel, rfl⟩
theorem e_X11_share_36 : DC cX11_share 36 (.iload_n 2) 1 37 := ⟨by decide +kernel, rfl⟩
theorem e_X11_share_37 : DC cX11_share 37 (.iload_n 3) 1 38 := ⟨by decide +kernel, rfl⟩
theorem e_X11_share_38 : DC cX11_share 38 (.iload 4) 2 40 := ⟨by decide +kernel, rfl⟩
theorem e_X11_share_40 : DC cX11_share 40 (.iload 5) 2 42 := ⟨by decide +kernel, rfl⟩
theorem e_X11_share_42 : DC cX11_share 42 (.invokevirtual 319) 3 45 := ⟨by decide +kernel, rfl⟩
theorem e_X11_share_45 : DC cX11_share 45 (.lstore 7) 2 47 := ⟨by decide +kernel, rfl⟩
theorem e_X11_share_47 : DC cX11_share 47 (.aload_n 0) 1 48 := ⟨by decide +kernel, rfl⟩
theorem e_X11_share_48 : DC cX11_share 48 (.iload_n 1) 1 49 := ⟨by decide +kernel, rfl⟩
theorem e_X11_share_49 : DC cX11_share 49 (.iload_n 2) 1 50 := ⟨by decide +kernel, rfl⟩
theorem e_X11_share_50 : DC cX11_share 50 (.iload_n 3) 1 51 := ⟨by decide +kernel, rfl⟩
theorem e_X11_share_51 : DC cX11_share 51 (.iload 4) 2 53 := ⟨by decide +kernel, rfl⟩
theorem e_X11_share_53 : DC cX11_share 53 (.iload 5) 2 55 := ⟨by decide +kernel, rfl⟩
theorem e_X11_share_55 : DC cX11_share 55 (.invokevirtual 323) 3 58 := ⟨by decide +kernel, rfl⟩
theorem e_X11_share_58 : DC cX11_share 58 (.lstore 9) 2 60 := ⟨by decide +kernel, rfl⟩
theorem e_X11_share_60 : DC cX11_share 60 (.lload 7) 2 62 := ⟨by decide +kernel, rfl⟩
theorem e_X11_share_62 : DC cX11_share 62 (.lstore 11) 2 64 := ⟨by decide +kernel, rfl⟩
theorem e_X11_share_64 : DC cX11_share 64 (.lload 9) 2 66 := ⟨by decide +kernel, rfl⟩
theorem e_X11_share_66 : DC cX11_share 66 (.lstore 13) 2 68 := ⟨by decide +kernel, rfl⟩
theorem e_X11_share_68 : DC cX11_share 68 (.lload 13) 2 70 := ⟨by decide +kernel, rfl⟩
theorem e_X11_share_70 : DC cX11_share 70 (.lconst 0) 1 71 := ⟨by decide +kernel, rfl⟩
theorem e_X11_share_71 : DC cX11_share 71 (.lcmp) 1 72 := ⟨by decide +kernel, rfl⟩
theorem e_X11_share_72 : DB cX11_share 72 (.ifCond .eq 21) (21) 3 75 93 := ⟨by decide +kernel, rfl, rfl⟩
theorem e_X11_share_75 : DC cX11_share 75 (.lload 11) 2 77 := ⟨by decide +kernel, rfl⟩
theorem e_X11_share_77 : DC cX11_share 77 (.lload 13) 2 79 := ⟨by decide +kernel, rfl⟩
theorem e_X11_share_79 : DC cX11_share 79 (.lrem) 1 80 := ⟨by decide +kernel, rfl⟩
theorem e_X11_share_80 : DC cX11_share 80 (.lstore 15) 2 82 := ⟨by decide +kernel, rfl⟩
theorem e_X11_share_82 : DC cX11_share 82 (.lload 13) 2 84 := ⟨by decide +kernel, rfl⟩
theorem e_X11_share_84 : DC cX11_share 84 (.lstore 11) 2 86 := ⟨by decide +kernel, rfl⟩
theorem e_X11_share_86 : DC cX11_share 86 (.lload 15) 2 88 := ⟨by decide +kernel, rfl⟩
theorem e_X11_share_88 : DC cX11_share 88 (.lstore 13) 2 90 := ⟨by decide +kernel, rfl⟩
theorem e_X11_share_90 : DB cX11_share 90 (.goto (-22)) (-22) 3 93 68 := ⟨by decide +kernel, rfl, rfl⟩
theorem e_X11_share_93 : DC cX11_share 93 (.iload 6) 2 95 := ⟨by decide +kernel, rfl⟩
theorem e_X11_share_95 : DB cX11_share 95 (.ifCond .ne 11) (11) 3 98 106 := ⟨by decide +kernel, rfl, rfl⟩
theorem e_X11_share_98 : DC cX11_share 98 (.lload 7) 2 100 := ⟨by decide +kernel, rfl⟩
theorem e_X11_share_100 : DC cX11_share 100 (.lload 11) 2 102 := ⟨by decide +kernel, rfl⟩
theorem e_X11_share_102 : DC cX11_share 102 (.ldiv) 1 103 := ⟨by decide +kernel, rfl⟩
theorem e_X11_share_103 : DB cX11_share 103 (.goto 8) (8) 3 106 111 := ⟨by decide +kernel, rfl, rfl⟩
theorem e_X11_share_106 : DC cX11_share 106 (.lload 9) 2 108 := ⟨by decide +kernel, rfl⟩
theorem e_X11_share_108 : DC cX11_share 108 (.lload 11) 2 110 := ⟨by decide +kernel, rfl⟩
theorem e_X11_share_110 : DC cX11_share 110 (.ldiv) 1 111 := ⟨by decide +kernel, rfl⟩
theorem e_X11_share_111 : DC cX11_share 111 (.lreturn) 1 112 := ⟨by decide +kernel, rfl⟩
noncomputable def m_X11_share_68 (k_93 : Int → Int → Option (Int)) : Nat → Int → Int → Option (Int)
  | 0, _, _ => none
  | F + 1, v11, v13 => if v13 = 0 then (k_93 v11 v13) else (chk (v13 ≠ 0) (chk (inJ (Int.tmod v11 v13)) (m_X11_share_68 k_93 F v13 (Int.tmod v11 v13))))

set_option maxRecDepth 10000 in
set_option maxHeartbeats 8000000 in
theorem g_X11_share_68 {l : Launch} {E : EE} {b0 n : Nat} {h : AH} {a_t : Nat} {t_thrown t_taped t_p t_fault t_baseLow t_baseHigh t_newBaseLow t_newBaseHigh t_from t_knots t_lines t_chosen t_undos t_redos t_aimedMany t_fits t_fitOf t_sights t_systems t_own t_cross t_curveLong t_wallFirst v6 v7 v9 : Int} {t_many t_way : Nat → Int} {r : Int} {k_93 : Int → Int → Option (Int)} (ao : AO b0 n [a_t, (a_t + 2), (a_t + 4)]) (ok_t_many : okA t_many) (ok_t_way : okA t_way) (ok_v6 : inI v6) (ok_v7 : inJ v7) (ok_v9 : inJ v9) (hk_93 : ∀ (v11_ : Int) (v13_ : Int), inJ v11_ → inJ v13_ → k_93 v11_ v13_ = some r → G l E b0 M_X11_share (fun _ => True) (ZM E b0 (some (vJ r)) (ov [a_t, (a_t + 2), (a_t + 4)] [.inr (11, fsX11 a_t t_thrown t_taped t_p t_fault t_baseLow t_baseHigh t_newBaseLow t_newBaseHigh t_from t_knots t_lines t_chosen t_undos t_redos t_aimedMany t_fits t_fitOf t_sights t_systems t_own t_cross t_curveLong t_wallFirst), IA E 7 t_many, IA E 144 t_way] h) n (inJ r) 0 0) 0 0 n (ov [a_t, (a_t + 2), (a_t + 4)] [.inr (11, fsX11 a_t t_thrown t_taped t_p t_fault t_baseLow t_baseHigh t_newBaseLow t_newBaseHigh t_from t_knots t_lines t_chosen t_undos t_redos t_aimedMany t_fits t_fitOf t_sights t_systems t_own t_cross t_curveLong t_wallFirst), IA E 7 t_many, IA E 144 t_way] h) 93 [none, none, none, none, none, none, some (vI v6), some (vJ v7), none, some (vJ v9), none, some (vJ v11_), none, none, none, none, none] []) :
    ∀ (F : Nat) (v11 : Int) (v13 : Int), inJ v11 → inJ v13 → m_X11_share_68 k_93 F v11 v13 = some r → G l E b0 M_X11_share (fun _ => True) (ZM E b0 (some (vJ r)) (ov [a_t, (a_t + 2), (a_t + 4)] [.inr (11, fsX11 a_t t_thrown t_taped t_p t_fault t_baseLow t_baseHigh t_newBaseLow t_newBaseHigh t_from t_knots t_lines t_chosen t_undos t_redos t_aimedMany t_fits t_fitOf t_sights t_systems t_own t_cross t_curveLong t_wallFirst), IA E 7 t_many, IA E 144 t_way] h) n (inJ r) 0 0) 0 0 n (ov [a_t, (a_t + 2), (a_t + 4)] [.inr (11, fsX11 a_t t_thrown t_taped t_p t_fault t_baseLow t_baseHigh t_newBaseLow t_newBaseHigh t_from t_knots t_lines t_chosen t_undos t_redos t_aimedMany t_fits t_fitOf t_sights t_systems t_own t_cross t_curveLong t_wallFirst), IA E 7 t_many, IA E 144 t_way] h) 68 [none, none, none, none, none, none, some (vI v6), some (vJ v7), none, some (vJ v9), none, some (vJ v11), none, some (vJ v13), none, none, none] [] := by
  intro F
  induction F with
  | zero =>
    intro v11 v13 ok_v11 ok_v13 hs
    rw [m_X11_share_68] at hs
    cases hs
  | succ F ih =>
    intro v11 v13 ok_v11 ok_v13 hs
    rw [m_X11_share_68] at hs
    refine g_lload e_X11_share_68 rfl ?_
    refine g_lconst (a := 0) e_X11_share_70 rfl ?_
    refine g_lcmp_eq e_X11_share_71 e_X11_share_72 ok_v13 (by decide : inJ 0) hs (fun c71 hs => ?_) (fun c71 hs => ?_)
    · exact g_mask [true, true, true, true, true, true, true, true, true, true, true, true, true, false, true, true, true] (hk_93 _ _ ok_v11 ok_v13 hs)
    · refine g_lload e_X11_share_75 rfl ?_
      refine g_lload e_X11_share_77 rfl ?_
      refine g_lrem e_X11_share_79 ok_v11 ok_v13 hs (fun hs => ?_)
      refine g_lstore e_X11_share_80 st2_15 rfl ?_
      refine g_lload e_X11_share_82 rfl ?_
      refine g_lstore e_X11_share_84 st2_11 rfl ?_
      refine g_lload e_X11_share_86 rfl ?_
      refine g_lstore e_X11_share_88 st2_13 rfl ?_
      refine g_goto e_X11_share_90 ?_
      obtain ⟨hc6, hs⟩ := chk_elim hs
      exact g_mask [true, true, true, true, true, true, true, true, true, true, true, true, true, true, true, false, true] (ih _ _ ok_v13 hc6 hs)

noncomputable def m_X11_share_93 (v6 : Int) (v7 : Int) (v9 : Int) (v11 : Int) : Option (Int) :=
  if v6 = 0 then (chk (v11 ≠ 0) (chk (inJ (Int.tdiv v7 v11)) (some (Int.tdiv v7 v11)))) else (chk (v11 ≠ 0) (chk (inJ (Int.tdiv v9 v11)) (some (Int.tdiv v9 v11))))

set_option maxRecDepth 10000 in
set_option maxHeartbeats 8000000 in
theorem g_X11_share_93 {l : Launch} {E : EE} {b0 n : Nat} {h : AH} {a_t : Nat} {t_thrown t_taped t_p t_fault t_baseLow t_baseHigh t_newBaseLow t_newBaseHigh t_from t_knots t_lines t_chosen t_undos t_redos t_aimedMany t_fits t_fitOf t_sights t_systems t_own t_cross t_curveLong t_wallFirst v6 v7 v9 v11 : Int} {t_many t_way : Nat → Int} {r : Int} (ao : AO b0 n [a_t, (a_t + 2), (a_t + 4)]) (ok_t_many : okA t_many) (ok_t_way : okA t_way) (ok_v6 : inI v6) (ok_v7 : inJ v7) (ok_v9 : inJ v9) (ok_v11 : inJ v11) (hs : m_X11_share_93 v6 v7 v9 v11 = some r) : G l E b0 M_X11_share (fun _ => True) (ZM E b0 (some (vJ r)) (ov [a_t, (a_t + 2), (a_t + 4)] [.inr (11, fsX11 a_t t_thrown t_taped t_p t_fault t_baseLow t_baseHigh t_newBaseLow t_newBaseHigh t_from t_knots t_lines t_chosen t_undos t_redos t_aimedMany t_fits t_fitOf t_sights t_systems t_own t_cross t_curveLong t_wallFirst), IA E 7 t_many, IA E 144 t_way] h) n (inJ r) 0 0) 0 0 n (ov [a_t, (a_t + 2), (a_t + 4)] [.inr (11, fsX11 a_t t_thrown t_taped t_p t_fault t_baseLow t_baseHigh t_newBaseLow t_newBaseHigh t_from t_knots t_lines t_chosen t_undos t_redos t_aimedMany t_fits t_fitOf t_sights t_systems t_own t_cross t_curveLong t_wallFirst), IA E 7 t_many, IA E 144 t_way] h) 93 [none, none, none, none, none, none, some (vI v6), some (vJ v7), none, some (vJ v9), none, some (vJ v11), none, none, none, none, none] [] := by
  rw [m_X11_share_93] at hs
  refine g_iload e_X11_share_93 rfl ?_
  refine g_if_ne e_X11_share_95 ok_v6 hs (fun c95 hs => ?_) (fun c95 hs => ?_)
  · refine g_lload e_X11_share_98 rfl ?_
    refine g_lload e_X11_share_100 rfl ?_
    refine g_ldiv e_X11_share_102 ok_v7 ok_v11 hs (fun hs => ?_)
    refine g_goto e_X11_share_103 ?_
    obtain ⟨hc7, hs⟩ := chk_elim hs
    obtain rfl := Option.some.inj hs
    exact g_lret rfl hc7 e_X11_share_111
  · refine g_lload e_X11_share_106 rfl ?_
    refine g_lload e_X11_share_108 rfl ?_
    refine g_ldiv e_X11_share_110 ok_v9 ok_v11 hs (fun hs => ?_)
    obtain ⟨hc8, hs⟩ := chk_elim hs
    obtain rfl := Option.some.inj hs
    exact g_lret rfl hc8 e_X11_share_111

noncomputable def m_X11_share_0 (t_many : Nat → Int) (t_way : Nat → Int) (v1 : Int) (v2 : Int) (v3 : Int) (v4 : Int) (v5 : Int) (v6 : Int) : Option (Int) :=
  (m_X11_isPull v1 v2 v3).bind (fun y1 => if y1 = 0 then (some ((-1))) else ((m_X11_isIn t_many t_way v4 v5).bind (fun y2 => if y2 = 0 then (some ((-1))) else ((m_X11_in v6 0 1).bind (fun y3 => if y3 = 0 then (some ((-1))) else ((m_X11_above t_way v1 v2 v3 v4 v5).bind (fun y4 => (m_X11_below t_way v1 v2 v3 v4 v5).bind (fun y5 => m_X11_share_68 (fun v11' v13' => m_X11_share_93 v6 y4 y5 v11') FU y4 y5))))))))

set_option maxRecDepth 10000 in
set_option maxHeartbeats 8000000 in
theorem g_X11_share_0 {l : Launch} {E : EE} {b0 n : Nat} {h : AH} {a_t : Nat} {t_thrown t_taped t_p t_fault t_baseLow t_baseHigh t_newBaseLow t_newBaseHigh t_from t_knots t_lines t_chosen t_undos t_redos t_aimedMany t_fits t_fitOf t_sights t_systems t_own t_cross t_curveLong t_wallFirst v1 v2 v3 v4 v5 v6 : Int} {t_many t_way : Nat → Int} {r : Int} (ao : AO b0 n [a_t, (a_t + 2), (a_t + 4)]) (ok_t_many : okA t_many) (ok_t_way : okA t_way) (ok_v1 : inI v1) (ok_v2 : inI v2) (ok_v3 : inI v3) (ok_v4 : inI v4) (ok_v5 : inI v5) (ok_v6 : inI v6) (hs : m_X11_share_0 t_many t_way v1 v2 v3 v4 v5 v6 = some r) : G l E b0 M_X11_share (fun _ => True) (ZM E b0 (some (vJ r)) (ov [a_t, (a_t + 2), (a_t + 4)] [.inr (11, fsX11 a_t t_thrown t_taped t_p t_fault t_baseLow t_baseHigh t_newBaseLow t_newBaseHigh t_from t_knots t_lines t_chosen t_undos t_redos t_aimedMany t_fits t_fitOf t_sights t_systems t_own t_cross t_curveLong t_wallFirst), IA E 7 t_many, IA E 144 t_way] h) n (inJ r) 0 0) 0 0 n (ov [a_t, (a_t + 2), (a_t + 4)] [.inr (11, fsX11 a_t t_thrown t_taped t_p t_fault t_baseLow t_baseHigh t_newBaseLow t_newBaseHigh t_from t_knots t_lines t_chosen t_undos t_redos t_aimedMany t_fits t_fitOf t_sights t_systems t_own t_cross t_curveLong t_wallFirst), IA E 7 t_many, IA E 144 t_way] h) 0 [some (.ref a_t), some (vI v1), some (vI v2), some (vI v3), some (vI v4), some (vI v5), some (vI v6), none, none, none, none, none, none, none, none, none, none] [] := by
  rw [m_X11_share_0] at hs
  refine g_iload_n e_X11_share_0 rfl ?_
  refine g_iload_n e_X11_share_1 rfl ?_
  refine g_iload_n e_X11_share_2 rfl ?_
  obtain ⟨y1, hy1, hs⟩ := bind_elim hs
  refine g_callSr [vI v1, vI v2, vI v3] cs_X11_311 ⟨rfl, rfl, Nat.le_of_ble_eq_true rfl, Nat.le_of_ble_eq_true rfl⟩ (ct_X11_isPull ⟨List.nodup_nil, fun i a h => by simp at h⟩ (fun i a e h => by simp at h) ok_v1 ok_v2 ok_v3 hy1) e_X11_share_3 rfl rfl (Nat.le_of_ble_eq_true rfl) ⟨Nat.le_refl _, Nat.le_refl _⟩ (fun Py1 => ?_)
  refine g_if_eq e_X11_share_6 (inZ_I Py1) hs (fun c6 hs => ?_) (fun c6 hs => ?_)
  · refine g_ldc2 (a := -1) e_X11_share_30 k_X11_317 ?_
    obtain rfl := Option.some.inj hs
    exact g_lret rfl (by decide : inJ (-1)) e_X11_share_33
  · refine g_aload_n e_X11_share_9 rfl ?_
    refine g_iload e_X11_share_10 rfl ?_
    refine g_iload e_X11_share_12 rfl ?_
    obtain ⟨y2, hy2, hs⟩ := bind_elim hs
    refine g_callVr [vI v4, vI v5] cv_X11_314 ⟨rfl, rfl, Nat.le_of_ble_eq_true rfl, Nat.le_of_ble_eq_true rfl⟩ (ct_X11_isIn (a_t := a_t) (AO_call [0, 1, 2] ao (by decide) rfl) (FA_call [0, 1, 2] ao.1 rfl rfl) ok_t_many ok_t_way ok_v4 ok_v5 hy2) e_X11_share_14 (ao.2 0 _ rfl) (ov_get 0 ao.1 rfl rfl) rfl rfl rfl (Nat.le_of_ble_eq_true rfl) ⟨Nat.le_refl _, Nat.le_refl _⟩ (fun Py2 => ?_)
    refine g_if_eq e_X11_share_17 (inZ_I Py2) hs (fun c17 hs => ?_) (fun c17 hs => ?_)
    · refine g_ldc2 (a := -1) e_X11_share_30 k_X11_317 ?_
      obtain rfl := Option.some.inj hs
      exact g_lret rfl (by decide : inJ (-1)) e_X11_share_33
    · refine g_iload e_X11_share_20 rfl ?_
      refine g_iconst e_X11_share_22 ?_
      refine g_iconst e_X11_share_23 ?_
      obtain ⟨y3, hy3, hs⟩ := bind_elim hs
      refine g_callSr [vI v6, vI 0, vI 1] cs_X11_226 ⟨rfl, rfl, Nat.le_of_ble_eq_true rfl, Nat.le_of_ble_eq_true rfl⟩ (ct_X11_in ⟨List.nodup_nil, fun i a h => by simp at h⟩ (fun i a e h => by simp at h) ok_v6 (by decide : inI 0) (by decide : inI 1) hy3) e_X11_share_24 rfl rfl (Nat.le_of_ble_eq_true rfl) ⟨Nat.le_refl _, Nat.le_refl _⟩ (fun Py3 => ?_)
      refine g_if_ne e_X11_share_27 (inZ_I Py3) hs (fun c27 hs => ?_) (fun c27 hs => ?_)
      · refine g_ldc2 (a := -1) e_X11_share_30 k_X11_317 ?_
        obtain rfl := Option.some.inj hs
        exact g_lret rfl (by decide : inJ (-1)) e_X11_share_33
      · refine g_aload_n e_X11_share_34 rfl ?_
        refine g_iload_n e_X11_share_35 rfl ?_
        refine g_iload_n e_X11_share_36 rfl ?_
        refine g_iload_n e_X11_share_37 rfl ?_
        refine g_iload e_X11_share_38 rfl ?_
        refine g_iload e_X11_share_40 rfl ?_
        obtain ⟨y4, hy4, hs⟩ := bind_elim hs
        refine g_callVr [vI v1, vI v2, vI v3, vI v4, vI v5] cv_X11_319 ⟨rfl, rfl, Nat.le_of_ble_eq_true rfl, Nat.le_of_ble_eq_true rfl⟩ (ct_X11_above (a_t := a_t) (AO_call [0, 2] ao (by decide) rfl) (FA_call [0, 2] ao.1 rfl rfl) ok_t_way ok_v1 ok_v2 ok_v3 ok_v4 ok_v5 hy4) e_X11_share_42 (ao.2 0 _ rfl) (ov_get 0 ao.1 rfl rfl) rfl rfl rfl (Nat.le_of_ble_eq_true rfl) ⟨Nat.le_refl _, Nat.le_refl _⟩ (fun Py4 => ?_)
        refine g_lstore e_X11_share_45 st2_7 rfl ?_
        refine g_aload_n e_X11_share_47 rfl ?_
        refine g_iload_n e_X11_share_48 rfl ?_
        refine g_iload_n e_X11_share_49 rfl ?_
        refine g_iload_n e_X11_share_50 rfl ?_
        refine g_iload e_X11_share_51 rfl ?_
        refine g_iload e_X11_share_53 rfl ?_
        obtain ⟨y5, hy5, hs⟩ := bind_elim hs
        refine g_callVr [vI v1, vI v2, vI v3, vI v4, vI v5] cv_X11_323 ⟨rfl, rfl, Nat.le_of_ble_eq_true rfl, Nat.le_of_ble_eq_true rfl⟩ (ct_X11_below (a_t := a_t) (AO_call [0, 2] ao (by decide) rfl) (FA_call [0, 2] ao.1 rfl rfl) ok_t_way ok_v1 ok_v2 ok_v3 ok_v4 ok_v5 hy5) e_X11_share_55 (ao.2 0 _ rfl) (ov_get 0 ao.1 rfl rfl) rfl rfl rfl (Nat.le_of_ble_eq_true rfl) ⟨Nat.le_refl _, Nat.le_refl _⟩ (fun Py5 => ?_)
        refine g_lstore e_X11_share_58 st2_9 rfl ?_
        refine g_lload e_X11_share_60 rfl ?_
        refine g_lstore e_X11_share_62 st2_11 rfl ?_
        refine g_lload e_X11_share_64 rfl ?_
        refine g_lstore e_X11_share_66 st2_13 rfl ?_
        exact g_mask [false, false, false, false, false, false, true, true, true, true, true, true, true, true, true, true, true] (g_X11_share_68 ao ok_t_many ok_t_way ok_v6 Py4 Py5 (hk_93 := by
      intro v11' v13' ok_v11' ok_v13' hs
      exact g_X11_share_93 ao ok_t_many ok_t_way ok_v6 Py4 Py5 ok_v11' hs) FU _ _ Py4 Py5 hs)

noncomputable def m_X11_share (t_many : Nat → Int) (t_way : Nat → Int) (v1 : Int) (v2 : Int) (v3 : Int) (v4 : Int) (v5 : Int) (v6 : Int) : Option (Int) := m_X11_share_0 t_many t_way v1 v2 v3 v4 v5 v6

set_option maxRecDepth 10000 in
set_option maxHeartbeats 8000000 in
theorem ct_X11_share {l : Launch} {E : EE} {b0 n : Nat} {h : AH} {a_t : Nat} {t_thrown t_taped t_p t_fault t_baseLow t_baseHigh t_newBaseLow t_newBaseHigh t_from t_knots t_lines t_chosen t_undos t_redos t_aimedMany t_fits t_fitOf t_sights t_systems t_own t_cross t_curveLong t_wallFirst : Int} {t_many t_way : Nat → Int} {v1 v2 v3 v4 v5 v6 : Int} (ao : AO b0 n [a_t, (a_t + 2), (a_t + 4)]) (hf : FA h [a_t, (a_t + 2), (a_t + 4)] [.inr (11, fsX11 a_t t_thrown t_taped t_p t_fault t_baseLow t_baseHigh t_newBaseLow t_newBaseHigh t_from t_knots t_lines t_chosen t_undos t_redos t_aimedMany t_fits t_fitOf t_sights t_systems t_own t_cross t_curveLong t_wallFirst), IA E 7 t_many, IA E 144 t_way]) (ok_t_many : okA t_many) (ok_t_way : okA t_way) (ok_v1 : inI v1) (ok_v2 : inI v2) (ok_v3 : inI v3) (ok_v4 : inI v4) (ok_v5 : inI v5) (ok_v6 : inI v6) {r : Int} (hm : m_X11_share t_many t_way v1 v2 v3 v4 v5 v6 = some r) : Ct l E b0 M_X11_share 0 0 [.ref a_t, vI v1, vI v2, vI v3, vI v4, vI v5, vI v6] h n (some (vJ r)) h n (inJ r) := by
  rw [m_X11_share] at hm
  have hg : G l E b0 M_X11_share (fun _ => True) (ZM E b0 (some (vJ r)) (ov [a_t, (a_t + 2), (a_t + 4)] [.inr (11, fsX11 a_t t_thrown t_taped t_p t_fault t_baseLow t_baseHigh t_newBaseLow t_newBaseHigh t_from t_knots t_lines t_chosen t_undos t_redos t_aimedMany t_fits t_fitOf t_sights t_systems t_own t_cross t_curveLong t_wallFirst), IA E 7 t_many, IA E 144 t_way] h) n (inJ r) 0 0) 0 0 n (ov [a_t, (a_t + 2), (a_t + 4)] [.inr (11, fsX11 a_t t_thrown t_taped t_p t_fault t_baseLow t_baseHigh t_newBaseLow t_newBaseHigh t_from t_knots t_lines t_chosen t_undos t_redos t_aimedMany t_fits t_fitOf t_sights t_systems t_own t_cross t_curveLong t_wallFirst), IA E 7 t_many, IA E 144 t_way] h) 0 [some (.ref a_t), some (vI v1), some (vI v2), some (vI v3), some (vI v4), some (vI v5), some (vI v6), none, none, none, none, none, none, none, none, none, none] [] := by
    have hs := hm
    exact g_X11_share_0 ao ok_t_many ok_t_way ok_v1 ok_v2 ok_v3 ok_v4 ok_v5 ok_v6 hs
  rw [FA_id hf] at hg
  exact Ct_of [some (.ref a_t), some (vI v1), some (vI v2), some (vI v3), some (vI v4), some (vI v5), some (vI v6), none, none, none, none, none, none, none, none, none, none] ⟨by decide +kernel, rfl⟩ rfl (Nat.le_of_ble_eq_true rfl) hg

/-! ===== X11_slides ===== -/
theorem e_X11_slides_0 : DC cX11_slides 0 (.iload_n 1) 1 1 := ⟨by decide +kernel, rfl⟩
theorem e_X11_slides_1 : DC cX11_slides 1 (.iload_n 2) 1 2 := ⟨by decide +kernel, rfl⟩
theorem e_X11_slides_2 : DC cX11_slides 2 (.iload_n 3) 1 3 := ⟨by decide +kernel, rfl⟩
theorem e_X11_slides_3 : DC cX11_slides 3 (.invokestatic 311) 3 6 := ⟨by decide +kernel, rfl⟩
theorem e_X11_slides_6 : DB cX11_slides 6 (.ifCond .eq 38) (38) 3 9 44 := ⟨by decide +kernel, rfl, rfl⟩
theorem e_X11_slides_9 : DC cX11_slides 9 (.aload_n 0) 1 10 := ⟨by decide +kernel, rfl⟩
theorem e_X11_slides_10 : DC cX11_slides 10 (.iload 4) 2 12 := ⟨by decide +kernel, rfl⟩
theorem e_X11_slides_12 : DC cX11_slides 12 (.iload 5) 2 14 := ⟨by decide +kernel, rfl⟩
theorem e_X11_slides_14 : DC cX11_slides 14 (.invokevirtual 314) 3 17 := ⟨by decide +kernel, rfl⟩
theorem e_X11_slides_17 : DB cX11_slides 17 (.ifCond .eq 27) (27) 3 20 44 := ⟨by decide +kernel, rfl, rfl⟩
theorem e_X11_slides_20 : DC cX11_slides 20 (.iload 6) 2 22 := ⟨by decide +kernel, rfl⟩
theorem e_X11_slides_22 : DC cX11_slides 22 (.iconst 0) 1 23 := ⟨by decide +kernel, rfl⟩
theorem e_X11_slides_23 : DC cX11_slides 23 (.sipush 9999) 3 26 := ⟨by decide +kernel, rfl⟩
theorem e_X11_slides_26 : DC cX11_slides 26 (.invokestatic 226) 3 29 := ⟨by decide +kernel, rfl⟩
theorem e_X11_slides_29 : DB cX11_slides 29 (.ifCond .eq 15) (15) 3 32 44 := ⟨by decide +kernel, rfl, rfl⟩
theorem e_X11_slides_32 : DC cX11_slides 32 (.iload 7) 2 34 := ⟨by decide +kernel, rfl⟩
theorem e_X11_slides_34 : DC cX11_slides 34 (.iconst 0) 1 35 := ⟨by decide +kernel, rfl⟩
theorem e_X11_slides_35 : DC cX11_slides 35 (.sipush 9999) 3 38 := ⟨by decide +kernel, rfl⟩
theorem e_X11_slides_38 : DC cX11_slides 38 (.invokestatic 226) 3 41 := ⟨by decide +kernel, rfl⟩
theorem e_X11_slides_41 : DB cX11_slides 41 (.ifCond .ne 5) (5) 3 44 46 := ⟨by decide +kernel, rfl, rfl⟩
theorem e_X11_slides_44 : DC cX11_slides 44 (.iconst (-1)) 1 45 := ⟨by decide +kernel, rfl⟩
theorem e_X11_slides_45 : DC cX11_slides 45 (.ireturn) 1 46 := ⟨by decide +kernel, rfl⟩
theorem e_X11_slides_46 : DC cX11_slides 46 (.iload 6) 2 48 := ⟨by decide +kernel, rfl⟩
theorem e_X11_slides_48 : DC cX11_slides 48 (.i2l) 1 49 := ⟨by decide +kernel, rfl⟩
theorem e_X11_slides_49 : DC cX11_slides 49 (.iload 6) 2 51 := ⟨by decide +kernel, rfl⟩
theorem e_X11_slides_51 : DC cX11_slides 51 (.i2l) 1 52 := ⟨by decide +kernel, rfl⟩
theorem e_X11_slides_52 : DC cX11_slides 52 (.lmul) 1 53 := ⟨by decide +kernel, rfl⟩
theorem e_X11_slides_53 : DC cX11_slides 53 (.aload_n 0) 1 54 := ⟨by decide +kernel, rfl⟩
theorem e_X11_slides_54 : DC cX11_slides 54 (.iload_n 1) 1 55 := ⟨by decide +kernel, rfl⟩
theorem e_X11_slides_55 : DC cX11_slides 55 (.iload_n 2) 1 56 := ⟨by decide +kernel, rfl⟩
theorem e_X11_slides_56 : DC cX11_slides 56 (.iload_n 3) 1 57 := ⟨by decide +kernel, rfl⟩
theorem e_X11_slides_57 : DC cX11_slides 57 (.iload 4) 2 59 := ⟨by decide +kernel, rfl⟩
theorem e_X11_slides_59 : DC cX11_slides 59 (.iload 5) 2 61 := ⟨by decide +kernel, rfl⟩
theorem e_X11_slides_61 : DC cX11_slides 61 (.invokevirtual 319) 3 64 := ⟨by decide +kernel, rfl⟩
theorem e_X11_slides_64 : DC cX11_slides 64 (.lmul) 1 65 := ⟨by decide +kernel, rfl⟩
theorem e_X11_slides_65 : DC cX11_slides 65 (.iload 7) 2 67 := ⟨by decide +kernel, rfl⟩
theorem e_X11_slides_67 : DC cX11_slides 67 (.i2l) 1 68 := ⟨by decide +kernel, rfl⟩
theorem e_X11_slides_68 : DC cX11_slides 68 (.iload 7) 2 70 := ⟨by decide +kernel, rfl⟩
theorem e_X11_slides_70 : DC cX11_slides 70 (.i2l) 1 71 := ⟨by decide +kernel, rfl⟩
theorem e_X11_slides_71 : DC cX11_slides 71 (.lmul) 1 72 := ⟨by decide +kernel, rfl⟩
theorem e_X11_slides_72 : DC cX11_slides 72 (.aload_n 0) 1 73 := ⟨by decide +kernel, rfl⟩
theorem e_X11_slides_73 : DC cX11_slides 73 (.iload_n 1) 1 74 := ⟨by decide +kernel, rfl⟩
theorem e_X11_slides_74 : DC cX11_slides 74 (.iload_n 2) 1 75 := ⟨by decide +kernel, rfl⟩
theorem e_X11_slides_75 : DC cX11_slides 75 (.iload_n 3) 1 76 := ⟨by decide +kernel, rfl⟩
theorem e_X11_slides_76 : DC cX11_slides 76 (.iload 4) 2 78 := ⟨by decide +kernel, rfl⟩
theorem e_X11_slides_78 : DC cX11_slides 78 (.iload 5) 2 80 := ⟨by decide +kernel, rfl⟩
theorem e_X11_slides_80 : DC cX11_slides 80 (.invokevirtual 323) 3 83 := ⟨by decide +kernel, rfl⟩
theorem e_X11_slides_83 : DC cX11_slides 83 (.lmul) 1 84 := ⟨by decide +kernel, rfl⟩
theorem e_X11_slides_84 : DC cX11_slides 84 (.lcmp) 1 85 := ⟨by decide +kernel, rfl⟩
theorem e_X11_slides_85 : DB cX11_slides 85 (.ifCond .le 7) (7) 3 88 92 := ⟨by decide +kernel, rfl, rfl⟩
theorem e_X11_slides_88 : DC cX11_slides 88 (.iconst 1) 1 89 := ⟨by decide +kernel, rfl⟩
theorem e_X11_slides_89 : DB cX11_slides 89 (.goto 4) (4) 3 92 93 := ⟨by decide +kernel, rfl, rfl⟩
theorem e_X11_slides_92 : DC cX11_slides 92 (.iconst 0) 1 93 := ⟨by decide +kernel, rfl⟩
theorem e_X11_slides_93 : DC cX11_slides 93 (.ireturn) 1 94 := ⟨by decide +kernel, rfl⟩
noncomputable def m_X11_slides_0 (t_many : Nat → Int) (t_way : Nat → Int) (v1 : Int) (v2 : Int) (v3 : Int) (v4 : Int) (v5 : Int) (v6 : Int) (v7 : Int) : Option (Int) :=
  (m_X11_isPull v1 v2 v3).bind (fun y1 => if y1 = 0 then (some ((-1))) else ((m_X11_isIn t_many t_way v4 v5).bind (fun y2 => if y2 = 0 then (some ((-1))) else ((m_X11_in v6 0 9999).bind (fun y3 => if y3 = 0 then (some ((-1))) else ((m_X11_in v7 0 9999).bind (fun y4 => if y4 = 0 then (some ((-1))) else ((m_X11_above t_way v1 v2 v3 v4 v5).bind (fun y5 => (m_X11_below t_way v1 v2 v3 v4 v5).bind (fun y6 => chk (inJ ((v6 * v6) * y5)) (chk (inJ ((v7 * v7) * y6)) (if ((v6 * v6) * y5) ≤ ((v7 * v7) * y6) then (some (0)) else (some (1))))))))))))))

set_option maxRecDepth 10000 in
set_option maxHeartbeats 8000000 in
theorem g_X11_slides_0 {l : Launch} {E : EE} {b0 n : Nat} {h : AH} {a_t : Nat} {t_thrown t_taped t_p t_fault t_baseLow t_baseHigh t_newBaseLow t_newBaseHigh t_from t_knots t_lines t_chosen t_undos t_redos t_aimedMany t_fits t_fitOf t_sights t_systems t_own t_cross t_curveLong t_wallFirst v1 v2 v3 v4 v5 v6 v7 : Int} {t_many t_way : Nat → Int} {r : Int} (ao : AO b0 n [a_t, (a_t + 2), (a_t + 4)]) (ok_t_many : okA t_many) (ok_t_way : okA t_way) (ok_v1 : inI v1) (ok_v2 : inI v2) (ok_v3 : inI v3) (ok_v4 : inI v4) (ok_v5 : inI v5) (ok_v6 : inI v6) (ok_v7 : inI v7) (hs : m_X11_slides_0 t_many t_way v1 v2 v3 v4 v5 v6 v7 = some r) : G l E b0 M_X11_slides (fun _ => True) (ZM E b0 (some (vI r)) (ov [a_t, (a_t + 2), (a_t + 4)] [.inr (11, fsX11 a_t t_thrown t_taped t_p t_fault t_baseLow t_baseHigh t_newBaseLow t_newBaseHigh t_from t_knots t_lines t_chosen t_undos t_redos t_aimedMany t_fits t_fitOf t_sights t_systems t_own t_cross t_curveLong t_wallFirst), IA E 7 t_many, IA E 144 t_way] h) n (inI r) 0 0) 0 0 n (ov [a_t, (a_t + 2), (a_t + 4)] [.inr (11, fsX11 a_t t_thrown t_taped t_p t_fault t_baseLow t_baseHigh t_newBaseLow t_newBaseHigh t_from t_knots t_lines t_chosen t_undos t_redos t_aimedMany t_fits t_fitOf t_sights t_systems t_own t_cross t_curveLong t_wallFirst), IA E 7 t_many, IA E 144 t_way] h) 0 [some (.ref a_t), some (vI v1), some (vI v2), some (vI v3), some (vI v4), some (vI v5), some (vI v6), some (vI v7)] [] := by
  rw [m_X11_slides_0] at hs
  refine g_iload_n e_X11_slides_0 rfl ?_
  refine g_iload_n e_X11_slides_1 rfl ?_
  refine g_iload_n e_X11_slides_2 rfl ?_
  obtain ⟨y1, hy1, hs⟩ := bind_elim hs
  refine g_callSr [vI v1, vI v2, vI v3] cs_X11_311 ⟨rfl, rfl, Nat.le_of_ble_eq_true rfl, Nat.le_of_ble_eq_true rfl⟩ (ct_X11_isPull ⟨List.nodup_nil, fun i a h => by simp at h⟩ (fun i a e h => by simp at h) ok_v1 ok_v2 ok_v3 hy1) e_X11_slides_3 rfl rfl (Nat.le_of_ble_eq_true rfl) ⟨Nat.le_refl _, Nat.le_refl _⟩ (fun Py1 => ?_)
  refine g_if_eq e_X11_slides_6 (inZ_I Py1) hs (fun c6 hs => ?_) (fun c6 hs => ?_)
  · refine g_iconst e_X11_slides_44 ?_
    obtain rfl := Option.some.inj hs
    exact g_iret rfl (by decide : inI (-1)) e_X11_slides_45
  · refine g_aload_n e_X11_slides_9 rfl ?_
    refine g_iload e_X11_slides_10 rfl ?_
    refine g_iload e_X11_slides_12 rfl ?_
    obtain ⟨y2, hy2, hs⟩ := bind_elim hs
    refine g_callVr [vI v4, vI v5] cv_X11_314 ⟨rfl, rfl, Nat.le_of_ble_eq_true rfl, Nat.le_of_ble_eq_true rfl⟩ (ct_X11_isIn (a_t := a_t) (AO_call [0, 1, 2] ao (by decide) rfl) (FA_call [0, 1, 2] ao.1 rfl rfl) ok_t_many ok_t_way ok_v4 ok_v5 hy2) e_X11_slides_14 (ao.2 0 _ rfl) (ov_get 0 ao.1 rfl rfl) rfl rfl rfl (Nat.le_of_ble_eq_true rfl) ⟨Nat.le_refl _, Nat.le_refl _⟩ (fun Py2 => ?_)
    refine g_if_eq e_X11_slides_17 (inZ_I Py2) hs (fun c17 hs => ?_) (fun c17 hs => ?_)
    · refine g_iconst e_X11_slides_44 ?_
      obtain rfl := Option.some.inj hs
      exact g_iret rfl (by decide : inI (-1)) e_X11_slides_45
    · refine g_iload e_X11_slides_20 rfl ?_
      refine g_iconst e_X11_slides_22 ?_
      refine g_sipush e_X11_slides_23 sp_9999 ?_
      obtain ⟨y3, hy3, hs⟩ := bind_elim hs
      refine g_callSr [vI v6, vI 0, vI 9999] cs_X11_226 ⟨rfl, rfl, Nat.le_of_ble_eq_true rfl, Nat.le_of_ble_eq_true rfl⟩ (ct_X11_in ⟨List.nodup_nil, fun i a h => by simp at h⟩ (fun i a e h => by simp at h) ok_v6 (by decide : inI 0) (by decide : inI 9999) hy3) e_X11_slides_26 rfl rfl (Nat.le_of_ble_eq_true rfl) ⟨Nat.le_refl _, Nat.le_refl _⟩ (fun Py3 => ?_)
      refine g_if_eq e_X11_slides_29 (inZ_I Py3) hs (fun c29 hs => ?_) (fun c29 hs => ?_)
      · refine g_iconst e_X11_slides_44 ?_
        obtain rfl := Option.some.inj hs
        exact g_iret rfl (by decide : inI (-1)) e_X11_slides_45
      · refine g_iload e_X11_slides_32 rfl ?_
        refine g_iconst e_X11_slides_34 ?_
        refine g_sipush e_X11_slides_35 sp_9999 ?_
        obtain ⟨y4, hy4, hs⟩ := bind_elim hs
        refine g_callSr [vI v7, vI 0, vI 9999] cs_X11_226 ⟨rfl, rfl, Nat.le_of_ble_eq_true rfl, Nat.le_of_ble_eq_true rfl⟩ (ct_X11_in ⟨List.nodup_nil, fun i a h => by simp at h⟩ (fun i a e h => by simp at h) ok_v7 (by decide : inI 0) (by decide : inI 9999) hy4) e_X11_slides_38 rfl rfl (Nat.le_of_ble_eq_true rfl) ⟨Nat.le_refl _, Nat.le_refl _⟩ (fun Py4 => ?_)
        refine g_if_ne e_X11_slides_41 (inZ_I Py4) hs (fun c41 hs => ?_) (fun c41 hs => ?_)
        · refine g_iconst e_X11_slides_44 ?_
          obtain rfl := Option.some.inj hs
          exact g_iret rfl (by decide : inI (-1)) e_X11_slides_45
        · refine g_iload e_X11_slides_46 rfl ?_
          refine g_i2l e_X11_slides_48 ok_v6 ?_
          refine g_iload e_X11_slides_49 rfl ?_
          refine g_i2l e_X11_slides_51 ok_v6 ?_
          refine g_lmul e_X11_slides_52 ?_
          refine g_aload_n e_X11_slides_53 rfl ?_
          refine g_iload_n e_X11_slides_54 rfl ?_
          refine g_iload_n e_X11_slides_55 rfl ?_
          refine g_iload_n e_X11_slides_56 rfl ?_
          refine g_iload e_X11_slides_57 rfl ?_
          refine g_iload e_X11_slides_59 rfl ?_
          obtain ⟨y5, hy5, hs⟩ := bind_elim hs
          refine g_callVr [vI v1, vI v2, vI v3, vI v4, vI v5] cv_X11_319 ⟨rfl, rfl, Nat.le_of_ble_eq_true rfl, Nat.le_of_ble_eq_true rfl⟩ (ct_X11_above (a_t := a_t) (AO_call [0, 2] ao (by decide) rfl) (FA_call [0, 2] ao.1 rfl rfl) ok_t_way ok_v1 ok_v2 ok_v3 ok_v4 ok_v5 hy5) e_X11_slides_61 (ao.2 0 _ rfl) (ov_get 0 ao.1 rfl rfl) rfl rfl rfl (Nat.le_of_ble_eq_true rfl) ⟨Nat.le_refl _, Nat.le_refl _⟩ (fun Py5 => ?_)
          refine g_lmul e_X11_slides_64 ?_
          refine g_iload e_X11_slides_65 rfl ?_
          refine g_i2l e_X11_slides_67 ok_v7 ?_
          refine g_iload e_X11_slides_68 rfl ?_
          refine g_i2l e_X11_slides_70 ok_v7 ?_
          refine g_lmul e_X11_slides_71 ?_
          refine g_aload_n e_X11_slides_72 rfl ?_
          refine g_iload_n e_X11_slides_73 rfl ?_
          refine g_iload_n e_X11_slides_74 rfl ?_
          refine g_iload_n e_X11_slides_75 rfl ?_
          refine g_iload e_X11_slides_76 rfl ?_
          refine g_iload e_X11_slides_78 rfl ?_
          obtain ⟨y6, hy6, hs⟩ := bind_elim hs
          refine g_callVr [vI v1, vI v2, vI v3, vI v4, vI v5] cv_X11_323 ⟨rfl, rfl, Nat.le_of_ble_eq_true rfl, Nat.le_of_ble_eq_true rfl⟩ (ct_X11_below (a_t := a_t) (AO_call [0, 2] ao (by decide) rfl) (FA_call [0, 2] ao.1 rfl rfl) ok_t_way ok_v1 ok_v2 ok_v3 ok_v4 ok_v5 hy6) e_X11_slides_80 (ao.2 0 _ rfl) (ov_get 0 ao.1 rfl rfl) rfl rfl rfl (Nat.le_of_ble_eq_true rfl) ⟨Nat.le_refl _, Nat.le_refl _⟩ (fun Py6 => ?_)
          refine g_lmul e_X11_slides_83 ?_
          obtain ⟨hc7, hs⟩ := chk_elim hs
          obtain ⟨hc8, hs⟩ := chk_elim hs
          refine g_lcmp_le e_X11_slides_84 e_X11_slides_85 hc7 hc8 hs (fun c84 hs => ?_) (fun c84 hs => ?_)
          · refine g_iconst e_X11_slides_92 ?_
            obtain rfl := Option.some.inj hs
            exact g_iret rfl (by decide : inI 0) e_X11_slides_93
          · refine g_iconst e_X11_slides_88 ?_
            refine g_goto e_X11_slides_89 ?_
            obtain rfl := Option.some.inj hs
            exact g_iret rfl (by decide : inI 1) e_X11_slides_93

noncomputable def m_X11_slides (t_many : Nat → Int) (t_way : Nat → Int) (v1 : Int) (v2 : Int) (v3 : Int) (v4 : Int) (v5 : Int) (v6 : Int) (v7 : Int) : Option (Int) := m_X11_slides_0 t_many t_way v1 v2 v3 v4 v5 v6 v7

set_option maxRecDepth 10000 in
set_option maxHeartbeats 8000000 in
theorem ct_X11_slides {l : Launch} {E : EE} {b0 n : Nat} {h : AH} {a_t : Nat} {t_thrown t_taped t_p t_fault t_baseLow t_baseHigh t_newBaseLow t_newBaseHigh t_from t_knots t_lines t_chosen t_undos t_redos t_aimedMany t_fits t_fitOf t_sights t_systems t_own t_cross t_curveLong t_wallFirst : Int} {t_many t_way : Nat → Int} {v1 v2 v3 v4 v5 v6 v7 : Int} (ao : AO b0 n [a_t, (a_t + 2), (a_t + 4)]) (hf : FA h [a_t, (a_t + 2), (a_t + 4)] [.inr (11, fsX11 a_t t_thrown t_taped t_p t_fault t_baseLow t_baseHigh t_newBaseLow t_newBaseHigh t_from t_knots t_lines t_chosen t_undos t_redos t_aimedMany t_fits t_fitOf t_sights t_systems t_own t_cross t_curveLong t_wallFirst), IA E 7 t_many, IA E 144 t_way]) (ok_t_many : okA t_many) (ok_t_way : okA t_way) (ok_v1 : inI v1) (ok_v2 : inI v2) (ok_v3 : inI v3) (ok_v4 : inI v4) (ok_v5 : inI v5) (ok_v6 : inI v6) (ok_v7 : inI v7) {r : Int} (hm : m_X11_slides t_many t_way v1 v2 v3 v4 v5 v6 v7 = some r) : Ct l E b0 M_X11_slides 0 0 [.ref a_t, vI v1, vI v2, vI v3, vI v4, vI v5, vI v6, vI v7] h n (some (vI r)) h n (inI r) := by
  rw [m_X11_slides] at hm
  have hg : G l E b0 M_X11_slides (fun _ => True) (ZM E b0 (some (vI r)) (ov [a_t, (a_t + 2), (a_t + 4)] [.inr (11, fsX11 a_t t_thrown t_taped t_p t_fault t_baseLow t_baseHigh t_newBaseLow t_newBaseHigh t_from t_knots t_lines t_chosen t_undos t_redos t_aimedMany t_fits t_fitOf t_sights t_systems t_own t_cross t_curveLong t_wallFirst), IA E 7 t_many, IA E 144 t_way] h) n (inI r) 0 0) 0 0 n (ov [a_t, (a_t + 2), (a_t + 4)] [.inr (11, fsX11 a_t t_thrown t_taped t_p t_fault t_baseLow t_baseHigh t_newBaseLow t_newBaseHigh t_from t_knots t_lines t_chosen t_undos t_redos t_aimedMany t_fits t_fitOf t_sights t_systems t_own t_cross t_curveLong t_wallFirst), IA E 7 t_many, IA E 144 t_way] h) 0 [some (.ref a_t), some (vI v1), some (vI v2), some (vI v3), some (vI v4), some (vI v5), some (vI v6), some (vI v7)] [] := by
    have hs := hm
    exact g_X11_slides_0 ao ok_t_many ok_t_way ok_v1 ok_v2 ok_v3 ok_v4 ok_v5 ok_v6 ok_v7 hs
  rw [FA_id hf] at hg
  exact Ct_of [some (.ref a_t), some (vI v1), some (vI v2), some (vI v3), some (vI v4), some (vI v5), some (vI v6), some (vI v7)] ⟨by decide +kernel, rfl⟩ rfl (Nat.le_of_ble_eq_true rfl) hg

/-! ===== X11_compares ===== -/
theorem e_X11_compares_0 : DC cX11_compares 0 (.aload_n 0) 1 1 := ⟨by decide +kernel, rfl⟩
theorem e_X11_compares_1 : DC cX11_compares 1 (.iload_n 1) 1 2 := ⟨by decide +kernel, rfl⟩
theorem e_X11_compares_2 : DC cX11_compares 2 (.iload_n 2) 1 3 := ⟨by decide +kernel, rfl⟩
theorem e_X11_compares_3 : DC cX11_compares 3 (.iload_n 3) 1 4 := ⟨by decide +kernel, rfl⟩
theorem e_X11_compares_4 : DC cX11_compares 4 (.iload 4) 2 6 := ⟨by decide +kernel, rfl⟩
theorem e_X11_compares_6 : DC cX11_compares 6 (.iconst 4) 1 7 := ⟨by decide +kernel, rfl⟩
theorem e_X11_compares_7 : DC cX11_compares 7 (.ishr) 1 8 := ⟨by decide +kernel, rfl⟩
theorem e_X11_compares_8 : DC cX11_compares 8 (.iload 4) 2 10 := ⟨by decide +kernel, rfl⟩
theorem e_X11_compares_10 : DC cX11_compares 10 (.bipush 15) 2 12 := ⟨by decide +kernel, rfl⟩
theorem e_X11_compares_12 : DC cX11_compares 12 (.iand) 1 13 := ⟨by decide +kernel, rfl⟩
theorem e_X11_compares_13 : DC cX11_compares 13 (.invokevirtual 319) 3 16 := ⟨by decide +kernel, rfl⟩
theorem e_X11_compares_16 : DC cX11_compares 16 (.aload_n 0) 1 17 := ⟨by decide +kernel, rfl⟩
theorem e_X11_compares_17 : DC cX11_compares 17 (.iconst 1) 1 18 := ⟨by decide +kernel, rfl⟩
theorem e_X11_compares_18 : DC cX11_compares 18 (.iload 5) 2 20 := ⟨by decide +kernel, rfl⟩
theorem e_X11_compares_20 : DC cX11_compares 20 (.iconst 4) 1 21 := ⟨by decide +kernel, rfl⟩
theorem e_X11_compares_21 : DC cX11_compares 21 (.ishr) 1 22 := ⟨by decide +kernel, rfl⟩
theorem e_X11_compares_22 : DC cX11_compares 22 (.invokevirtual 308) 3 25 := ⟨by decide +kernel, rfl⟩
theorem e_X11_compares_25 : DC cX11_compares 25 (.i2l) 1 26 := ⟨by decide +kernel, rfl⟩
theorem e_X11_compares_26 : DC cX11_compares 26 (.lmul) 1 27 := ⟨by decide +kernel, rfl⟩
theorem e_X11_compares_27 : DC cX11_compares 27 (.aload_n 0) 1 28 := ⟨by decide +kernel, rfl⟩
theorem e_X11_compares_28 : DC cX11_compares 28 (.iconst 0) 1 29 := ⟨by decide +kernel, rfl⟩
theorem e_X11_compares_29 : DC cX11_compares 29 (.iload 5) 2 31 := ⟨by decide +kernel, rfl⟩
theorem e_X11_compares_31 : DC cX11_compares 31 (.bipush 15) 2 33 := ⟨by decide +kernel, rfl⟩
theorem e_X11_compares_33 : DC cX11_compares 33 (.iand) 1 34 := ⟨by decide +kernel, rfl⟩
theorem e_X11_compares_34 : DC cX11_compares 34 (.invokevirtual 308) 3 37 := ⟨by decide +kernel, rfl⟩
theorem e_X11_compares_37 : DC cX11_compares 37 (.i2l) 1 38 := ⟨by decide +kernel, rfl⟩
theorem e_X11_compares_38 : DC cX11_compares 38 (.lmul) 1 39 := ⟨by decide +kernel, rfl⟩
theorem e_X11_compares_39 : DC cX11_compares 39 (.lstore 6) 2 41 := ⟨by decide +kernel, rfl⟩
theorem e_X11_compares_41 : DC cX11_compares 41 (.aload_n 0) 1 42 := ⟨by decide +kernel, rfl⟩
theorem e_X11_compares_42 : DC cX11_compares 42 (.iload_n 1) 1 43 := ⟨by decide +kernel, rfl⟩
theorem e_X11_compares_43 : DC cX11_compares 43 (.iload_n 2) 1 44 := ⟨by decide +kernel, rfl⟩
theorem e_X11_compares_44 : DC cX11_compares 44 (.iload_n 3) 1 45 := ⟨by decide +kernel, rfl⟩
theorem e_X11_compares_45 : DC cX11_compares 45 (.iload 5) 2 47 := ⟨by decide +kernel, rfl⟩
theorem e_X11_compares_47 : DC cX11_compares 47 (.iconst 4) 1 48 := ⟨by decide +kernel, rfl⟩
theorem e_X11_compares_48 : DC cX11_compares 48 (.ishr) 1 49 := ⟨by decide +kernel, rfl⟩
theorem e_X11_compares_49 : DC cX11_compares 49 (.iload 5) 2 51 := ⟨by decide +kernel, rfl⟩
theorem e_X11_compares_51 : DC cX11_compares 51 (.bipush 15) 2 53 := ⟨by decide +kernel, rfl⟩
theorem e_X11_compares_53 : DC cX11_compares 53 (.iand) 1 54 := ⟨by decide +kernel, rfl⟩
theorem e_X11_compares_54 : DC cX11_compares 54 (.invokevirtual 319) 3 57 := ⟨by decide +kernel, rfl⟩
theorem e_X11_compares_57 : DC cX11_compares 57 (.aload_n 0) 1 58 := ⟨by decide +kernel, rfl⟩
theorem e_X11_compares_58 : DC cX11_compares 58 (.iconst 1) 1 59 := ⟨by decide +kernel, rfl⟩
theorem e_X11_compares_59 : DC cX11_compares 59 (.iload 4) 2 61 := ⟨by decide +kernel, rfl⟩
theorem e_X11_compares_61 : DC cX11_compares 61 (.iconst 4) 1 62 := ⟨by decide +kernel, rfl⟩
theorem e_X11_compares_62 : DC cX11_compares 62 (.ishr) 1 63 := ⟨by decide +kernel, rfl⟩
theorem e_X11_compares_63 : DC cX11_compares 63 (.invokevirtual 308) 3 66 := ⟨by decide +kernel, rfl⟩
theorem e_X11_compares_66 : DC cX11_compares 66 (.i2l) 1 67 := ⟨by decide +kernel, rfl⟩
theorem e_X11_compares_67 : DC cX11_compares 67 (.lmul) 1 68 := ⟨by decide +kernel, rfl⟩
theorem e_X11_compares_68 : DC cX11_compares 68 (.aload_n 0) 1 69 := ⟨by decide +kernel, rfl⟩
theorem e_X11_compares_69 : DC cX11_compares 69 (.iconst 0) 1 70 := ⟨by decide +kernel, rfl⟩
theorem e_X11_compares_70 : DC cX11_compares 70 (.iload 4) 2 72 := ⟨by decide +kernel, rfl⟩
theorem e_X11_compares_72 : DC cX11_compares 72 (.bipush 15) 2 74 := ⟨by decide +kernel, rfl⟩
theorem e_X11_compares_74 : DC cX11_compares 74 (.iand) 1 75 := ⟨by decide +kernel, rfl⟩
theorem e_X11_compares_75 : DC cX11_compares 75 (.invokevirtual 308) 3 78 := ⟨by decide +kernel, rfl⟩
theorem e_X11_compares_78 : DC cX11_compares 78 (.i2l) 1 79 := ⟨by decide +kernel, rfl⟩
theorem e_X11_compares_79 : DC cX11_compares 79 (.lmul) 1 80 := ⟨by decide +kernel, rfl⟩
theorem e_X11_compares_80 : DC cX11_compares 80 (.lstore 8) 2 82 := ⟨by decide +kernel, rfl⟩
theorem e_X11_compares_82 : DC cX11_compares 82 (.lload 6) 2 84 := ⟨by decide +kernel, rfl⟩
theorem e_X11_compares_84 : DC cX11_compares 84 (.lload 8) 2 86 := ⟨by decide +kernel, rfl⟩
theorem e_X11_compares_86 : DC cX11_compares 86 (.lcmp) 1 87 := ⟨by decide +kernel, rfl⟩
theorem e_X11_compares_87 : DB cX11_compares 87 (.ifCond .ge 7) (7) 3 90 94 := ⟨by decide +kernel, rfl, rfl⟩
theorem e_X11_compares_90 : DC cX11_compares 90 (.iconst (-1)) 1 91 := ⟨by decide +kernel, rfl⟩
theorem e_X11_compares_91 : DB cX11_compares 91 (.goto 16) (16) 3 94 107 := ⟨by decide +kernel, rfl, rfl⟩
theorem e_X11_compares_94 : DC cX11_compares 94 (.lload 6) 2 96 := ⟨by decide +kernel, rfl⟩
theorem e_X11_compares_96 : DC cX11_compares 96 (.lload 8) 2 98 := ⟨by decide +kernel, rfl⟩
theorem e_X11_compares_98 : DC cX11_compares 98 (.lcmp) 1 99 := ⟨by decide +kernel, rfl⟩
theorem e_X11_compares_99 : DB cX11_compares 99 (.ifCond .le 7) (7) 3 102 106 := ⟨by decide +kernel, rfl, rfl⟩
theorem e_X11_compares_102 : DC cX11_compares 102 (.iconst 1) 1 103 := ⟨by decide +kernel, rfl⟩
theorem e_X11_compares_103 : DB cX11_compares 103 (.goto 4) (4) 3 106 107 := ⟨by decide +kernel, rfl, rfl⟩
theorem e_X11_compares_106 : DC cX11_compares 106 (.iconst 0) 1 107 := ⟨by decide +kernel, rfl⟩
theorem e_X11_compares_107 : DC cX11_compares 107 (.ireturn) 1 108 := ⟨by decide +kernel, rfl⟩
noncomputable def m_X11_compares_0 (t_way : Nat → Int) (v1 : Int) (v2 : Int) (v3 : Int) (v4 : Int) (v5 : Int) : Option (Int) :=
  (m_X11_above t_way v1 v2 v3 (bShr v4 4) (bAnd v4 15)).bind (fun y1 => (m_X11_squareOf t_way 1 (bShr v5 4)).bind (fun y2 => (m_X11_squareOf t_way 0 (bAnd v5 15)).bind (fun y3 => (m_X11_above t_way v1 v2 v3 (bShr v5 4) (bAnd v5 15)).bind (fun y4 => (m_X11_squareOf t_way 1 (bShr v4 4)).bind (fun y5 => (m_X11_squareOf t_way 0 (bAnd v4 15)).bind (fun y6 => chk (inJ ((y1 * y2) * y3)) (chk (inJ ((y4 * y5) * y6)) (if ((y4 * y5) * y6) ≤ ((y1 * y2) * y3) then (if ((y1 * y2) * y3) ≤ ((y4 * y5) * y6) then (some (0)) else (some (1))) else (some ((-1)))))))))))

set_option maxRecDepth 10000 in
set_option maxHeartbeats 8000000 in
theorem g_X11_compares_0 {l : Launch} {E : EE} {b0 n : Nat} {h : AH} {a_t : Nat} {t_thrown t_taped t_p t_fault t_baseLow t_baseHigh t_newBaseLow t_newBaseHigh t_from t_knots t_lines t_chosen t_undos t_redos t_aimedMany t_fits t_fitOf t_sights t_systems t_own t_cross t_curveLong t_wallFirst v1 v2 v3 v4 v5 : Int} {t_way : Nat → Int} {r : Int} (ao : AO b0 n [a_t, (a_t + 4)]) (ok_t_way : okA t_way) (ok_v1 : inI v1) (ok_v2 : inI v2) (ok_v3 : inI v3) (ok_v4 : inI v4) (ok_v5 : inI v5) (hs : m_X11_compares_0 t_way v1 v2 v3 v4 v5 = some r) : G l E b0 M_X11_compares (fun _ => True) (ZM E b0 (some (vI r)) (ov [a_t, (a_t + 4)] [.inr (11, fsX11 a_t t_thrown t_taped t_p t_fault t_baseLow t_baseHigh t_newBaseLow t_newBaseHigh t_from t_knots t_lines t_chosen t_undos t_redos t_aimedMany t_fits t_fitOf t_sights t_systems t_own t_cross t_curveLong t_wallFirst), IA E 144 t_way] h) n (inI r) 0 0) 0 0 n (ov [a_t, (a_t + 4)] [.inr (11, fsX11 a_t t_thrown t_taped t_p t_fault t_baseLow t_baseHigh t_newBaseLow t_newBaseHigh t_from t_knots t_lines t_chosen t_undos t_redos t_aimedMany t_fits t_fitOf t_sights t_systems t_own t_cross t_curveLong t_wallFirst), IA E 144 t_way] h) 0 [some (.ref a_t), some (vI v1), some (vI v2), some (vI v3), some (vI v4), some (vI v5), none, none, none, none] [] := by
  rw [m_X11_compares_0] at hs
  refine g_aload_n e_X11_compares_0 rfl ?_
  refine g_iload_n e_X11_compares_1 rfl ?_
  refine g_iload_n e_X11_compares_2 rfl ?_
  refine g_iload_n e_X11_compares_3 rfl ?_
  refine g_iload e_X11_compares_4 rfl ?_
  refine g_iconst e_X11_compares_6 ?_
  refine g_ishr e_X11_compares_7 ?_
  refine g_iload e_X11_compares_8 rfl ?_
  refine g_bipush e_X11_compares_10 bp_15 ?_
  refine g_iand e_X11_compares_12 ?_
  obtain ⟨y1, hy1, hs⟩ := bind_elim hs
  refine g_callVr [vI v1, vI v2, vI v3, vI (bShr v4 4), vI (bAnd v4 15)] cv_X11_319 ⟨rfl, rfl, Nat.le_of_ble_eq_true rfl, Nat.le_of_ble_eq_true rfl⟩ (ct_X11_above (a_t := a_t) (AO_call [0, 1] ao (by decide) rfl) (FA_call [0, 1] ao.1 rfl rfl) ok_t_way ok_v1 ok_v2 ok_v3 (bShr_I _ _) (bAnd_I _ _) hy1) e_X11_compares_13 (ao.2 0 _ rfl) (ov_get 0 ao.1 rfl rfl) rfl rfl rfl (Nat.le_of_ble_eq_true rfl) ⟨Nat.le_refl _, Nat.le_refl _⟩ (fun Py1 => ?_)
  refine g_aload_n e_X11_compares_16 rfl ?_
  refine g_iconst e_X11_compares_17 ?_
  refine g_iload e_X11_compares_18 rfl ?_
  refine g_iconst e_X11_compares_20 ?_
  refine g_ishr e_X11_compares_21 ?_
  obtain ⟨y2, hy2, hs⟩ := bind_elim hs
  refine g_callVr [vI 1, vI (bShr v5 4)] cv_X11_308 ⟨rfl, rfl, Nat.le_of_ble_eq_true rfl, Nat.le_of_ble_eq_true rfl⟩ (ct_X11_squareOf (a_t := a_t) (AO_call [0, 1] ao (by decide) rfl) (FA_call [0, 1] ao.1 rfl rfl) ok_t_way (by decide : inI 1) (bShr_I _ _) hy2) e_X11_compares_22 (ao.2 0 _ rfl) (ov_get 0 ao.1 rfl rfl) rfl rfl rfl (Nat.le_of_ble_eq_true rfl) ⟨Nat.le_refl _, Nat.le_refl _⟩ (fun Py2 => ?_)
  refine g_i2l e_X11_compares_25 Py2 ?_
  refine g_lmul e_X11_compares_26 ?_
  refine g_aload_n e_X11_compares_27 rfl ?_
  refine g_iconst e_X11_compares_28 ?_
  refine g_iload e_X11_compares_29 rfl ?_
  refine g_bipush e_X11_compares_31 bp_15 ?_
  refine g_iand e_X11_compares_33 ?_
  obtain ⟨y3, hy3, hs⟩ := bind_elim hs
  refine g_callVr [vI 0, vI (bAnd v5 15)] cv_X11_308 ⟨rfl, rfl, Nat.le_of_ble_eq_true rfl, Nat.le_of_ble_eq_true rfl⟩ (ct_X11_squareOf (a_t := a_t) (AO_call [0, 1] ao (by decide) rfl) (FA_call [0, 1] ao.1 rfl rfl) ok_t_way (by decide : inI 0) (bAnd_I _ _) hy3) e_X11_compares_34 (ao.2 0 _ rfl) (ov_get 0 ao.1 rfl rfl) rfl rfl rfl (Nat.le_of_ble_eq_true rfl) ⟨Nat.le_refl _, Nat.le_refl _⟩ (fun Py3 => ?_)
  refine g_i2l e_X11_compares_37 Py3 ?_
  refine g_lmul e_X11_compares_38 ?_
  refine g_lstore e_X11_compares_39 st2_6 rfl ?_
  refine g_aload_n e_X11_compares_41 rfl ?_
  refine g_iload_n e_X11_compares_42 rfl ?_
  refine g_iload_n e_X11_compares_43 rfl ?_
  refine g_iload_n e_X11_compares_44 rfl ?_
  refine g_iload e_X11_compares_45 rfl ?_
  refine g_iconst e_X11_compares_47 ?_
  refine g_ishr e_X11_compares_48 ?_
  refine g_iload e_X11_compares_49 rfl ?_
  refine g_bipush e_X11_compares_51 bp_15 ?_
  refine g_iand e_X11_compares_53 ?_
  obtain ⟨y4, hy4, hs⟩ := bind_elim hs
  refine g_callVr [vI v1, vI v2, vI v3, vI (bShr v5 4), vI (bAnd v5 15)] cv_X11_319 ⟨rfl, rfl, Nat.le_of_ble_eq_true rfl, Nat.le_of_ble_eq_true rfl⟩ (ct_X11_above (a_t := a_t) (AO_call [0, 1] ao (by decide) rfl) (FA_call [0, 1] ao.1 rfl rfl) ok_t_way ok_v1 ok_v2 ok_v3 (bShr_I _ _) (bAnd_I _ _) hy4) e_X11_compares_54 (ao.2 0 _ rfl) (ov_get 0 ao.1 rfl rfl) rfl rfl rfl (Nat.le_of_ble_eq_true rfl) ⟨Nat.le_refl _, Nat.le_refl _⟩ (fun Py4 => ?_)
  refine g_aload_n e_X11_compares_57 rfl ?_
  refine g_iconst e_X11_compares_58 ?_
  refine g_iload e_X11_compares_59 rfl ?_
  refine g_iconst e_X11_compares_61 ?_
  refine g_ishr e_X11_compares_62 ?_
  obtain ⟨y5, hy5, hs⟩ := bind_elim hs
  refine g_callVr [vI 1, vI (bShr v4 4)] cv_X11_308 ⟨rfl, rfl, Nat.le_of_ble_eq_true rfl, Nat.le_of_ble_eq_true rfl⟩ (ct_X11_squareOf (a_t := a_t) (AO_call [0, 1] ao (by decide) rfl) (FA_call [0, 1] ao.1 rfl rfl) ok_t_way (by decide : inI 1) (bShr_I _ _) hy5) e_X11_compares_63 (ao.2 0 _ rfl) (ov_get 0 ao.1 rfl rfl) rfl rfl rfl (Nat.le_of_ble_eq_true rfl) ⟨Nat.le_refl _, Nat.le_refl _⟩ (fun Py5 => ?_)
  refine g_i2l e_X11_compares_66 Py5 ?_
  refine g_lmul e_X11_compares_67 ?_
  refine g_aload_n e_X11_compares_68 rfl ?_
  refine g_iconst e_X11_compares_69 ?_
  refine g_iload e_X11_compares_70 rfl ?_
  refine g_bipush e_X11_compares_72 bp_15 ?_
  refine g_iand e_X11_compares_74 ?_
  obtain ⟨y6, hy6, hs⟩ := bind_elim hs
  refine g_callVr [vI 0, vI (bAnd v4 15)] cv_X11_308 ⟨rfl, rfl, Nat.le_of_ble_eq_true rfl, Nat.le_of_ble_eq_true rfl⟩ (ct_X11_squareOf (a_t := a_t) (AO_call [0, 1] ao (by decide) rfl) (FA_call [0, 1] ao.1 rfl rfl) ok_t_way (by decide : inI 0) (bAnd_I _ _) hy6) e_X11_compares_75 (ao.2 0 _ rfl) (ov_get 0 ao.1 rfl rfl) rfl rfl rfl (Nat.le_of_ble_eq_true rfl) ⟨Nat.le_refl _, Nat.le_refl _⟩ (fun Py6 => ?_)
  refine g_i2l e_X11_compares_78 Py6 ?_
  refine g_lmul e_X11_compares_79 ?_
  refine g_lstore e_X11_compares_80 st2_8 rfl ?_
  refine g_lload e_X11_compares_82 rfl ?_
  refine g_lload e_X11_compares_84 rfl ?_
  obtain ⟨hc7, hs⟩ := chk_elim hs
  obtain ⟨hc8, hs⟩ := chk_elim hs
  refine g_lcmp_ge e_X11_compares_86 e_X11_compares_87 hc7 hc8 hs (fun c86 hs => ?_) (fun c86 hs => ?_)
  · refine g_lload e_X11_compares_94 rfl ?_
    refine g_lload e_X11_compares_96 rfl ?_
    refine g_lcmp_le e_X11_compares_98 e_X11_compares_99 hc7 hc8 hs (fun c98 hs => ?_) (fun c98 hs => ?_)
    · refine g_iconst e_X11_compares_106 ?_
      obtain rfl := Option.some.inj hs
      exact g_iret rfl (by decide : inI 0) e_X11_compares_107
    · refine g_iconst e_X11_compares_102 ?_
      refine g_goto e_X11_compares_103 ?_
      obtain rfl := Option.some.inj hs
      exact g_iret rfl (by decide : inI 1) e_X11_compares_107
  · refine g_iconst e_X11_compares_90 ?_
    refine g_goto e_X11_compares_91 ?_
    obtain rfl := Option.some.inj hs
    exact g_iret rfl (by decide : inI (-1)) e_X11_compares_107

noncomputable def m_X11_compares (t_way : Nat → Int) (v1 : Int) (v2 : Int) (v3 : Int) (v4 : Int) (v5 : Int) : Option (Int) := m_X11_compares_0 t_way v1 v2 v3 v4 v5

set_option maxRecDepth 10000 in
set_option maxHeartbeats 8000000 in
theorem ct_X11_compares {l : Launch} {E : EE} {b0 n : Nat} {h : AH} {a_t : Nat} {t_thrown t_taped t_p t_fault t_baseLow t_baseHigh t_newBaseLow t_newBaseHigh t_from t_knots t_lines t_chosen t_undos t_redos t_aimedMany t_fits t_fitOf t_sights t_systems t_own t_cross t_curveLong t_wallFirst : Int} {t_way : Nat → Int} {v1 v2 v3 v4 v5 : Int} (ao : AO b0 n [a_t, (a_t + 4)]) (hf : FA h [a_t, (a_t + 4)] [.inr (11, fsX11 a_t t_thrown t_taped t_p t_fault t_baseLow t_baseHigh t_newBaseLow t_newBaseHigh t_from t_knots t_lines t_chosen t_undos t_redos t_aimedMany t_fits t_fitOf t_sights t_systems t_own t_cross t_curveLong t_wallFirst), IA E 144 t_way]) (ok_t_way : okA t_way) (ok_v1 : inI v1) (ok_v2 : inI v2) (ok_v3 : inI v3) (ok_v4 : inI v4) (ok_v5 : inI v5) {r : Int} (hm : m_X11_compares t_way v1 v2 v3 v4 v5 = some r) : Ct l E b0 M_X11_compares 0 0 [.ref a_t, vI v1, vI v2, vI v3, vI v4, vI v5] h n (some (vI r)) h n (inI r) := by
  rw [m_X11_compares] at hm
  have hg : G l E b0 M_X11_compares (fun _ => True) (ZM E b0 (some (vI r)) (ov [a_t, (a_t + 4)] [.inr (11, fsX11 a_t t_thrown t_taped t_p t_fault t_baseLow t_baseHigh t_newBaseLow t_newBaseHigh t_from t_knots t_lines t_chosen t_undos t_redos t_aimedMany t_fits t_fitOf t_sights t_systems t_own t_cross t_curveLong t_wallFirst), IA E 144 t_way] h) n (inI r) 0 0) 0 0 n (ov [a_t, (a_t + 4)] [.inr (11, fsX11 a_t t_thrown t_taped t_p t_fault t_baseLow t_baseHigh t_newBaseLow t_newBaseHigh t_from t_knots t_lines t_chosen t_undos t_redos t_aimedMany t_fits t_fitOf t_sights t_systems t_own t_cross t_curveLong t_wallFirst), IA E 144 t_way] h) 0 [some (.ref a_t), some (vI v1), some (vI v2), some (vI v3), some (vI v4), some (vI v5), none, none, none, none] [] := by
    have hs := hm
    exact g_X11_compares_0 ao ok_t_way ok_v1 ok_v2 ok_v3 ok_v4 ok_v5 hs
  rw [FA_id hf] at hg
  exact Ct_of [some (.ref a_t), some (vI v1), some (vI v2), some (vI v3), some (vI v4), some (vI v5), none, none, none, none] ⟨by decide +kernel, rfl⟩ rfl (Nat.le_of_ble_eq_true rfl) hg

/-! ===== X11_first ===== -/
theorem e_X11_first_0 : DC cX11_first 0 (.iload_n 1) 1 1 := ⟨by decide +kernel, rfl⟩
theorem e_X11_first_1 : DC cX11_first 1 (.iload_n 2) 1 2 := ⟨by decide +kernel, rfl⟩
theorem e_X11_first_2 : DC cX11_first 2 (.iload_n 3) 1 3 := ⟨by decide +kernel, rfl⟩
theorem e_X11_first_3 : DC cX11_first 3 (.invokestatic 311) 3 6 := ⟨by decide +kernel, rfl⟩
theorem e_X11_first_6 : DB cX11_first 6 (.ifCond .ne 5) (5) 3 9 11 := ⟨by decide +kernel, rfl, rfl⟩
theorem e_X11_first_9 : DC cX11_first 9 (.iconst (-1)) 1 10 := ⟨by decide +kernel, rfl⟩
theorem e_X11_first_10 : DC cX11_first 10 (.ireturn) 1 11 := ⟨by decide +kernel, rfl⟩
theorem e_X11_first_11 : DC cX11_first 11 (.iconst (-1)) 1 12 := ⟨by decide +kernel, rfl⟩
theorem e_X11_first_12 : DC cX11_first 12 (.istore 5) 2 14 := ⟨by decide +kernel, rfl⟩
theorem e_X11_first_14 : DC cX11_first 14 (.iconst 0) 1 15 := ⟨by decide +kernel, rfl⟩
theorem e_X11_first_15 : DC cX11_first 15 (.istore 6) 2 17 := ⟨by decide +kernel, rfl⟩
theorem e_X11_first_17 : DC cX11_first 17 (.iload 6) 2 19 := ⟨by decide +kernel, rfl⟩
theorem e_X11_first_19 : DC cX11_first 19 (.bipush 16) 2 21 := ⟨by decide +kernel, rfl⟩
theorem e_X11_first_21 : DC cX11_first 21 (.aload_n 0) 1 22 := ⟨by decide +kernel, rfl⟩
theorem e_X11_first_22 : DC cX11_first 22 (.getfield 13) 3 25 := ⟨by decide +kernel, rfl⟩
theorem e_X11_first_25 : DC cX11_first 25 (.iconst 1) 1 26 := ⟨by decide +kernel, rfl⟩
theorem e_X11_first_26 : DC cX11_first 26 (.iaload) 1 27 := ⟨by decide +kernel, rfl⟩
theorem e_X11_first_27 : DC cX11_first 27 (.imul) 1 28 := ⟨by decide +kernel, rfl⟩
theorem e_X11_first_28 : DB cX11_first 28 (.if_icmp .ge 101) (101) 3 31 129 := ⟨by decide +kernel, rfl, rfl⟩
theorem e_X11_first_31 : DC cX11_first 31 (.iload 6) 2 33 := ⟨by decide +kernel, rfl⟩
theorem e_X11_first_33 : DC cX11_first 33 (.bipush 15) 2 35 := ⟨by decide +kernel, rfl⟩
theorem e_X11_first_35 : DC cX11_first 35 (.iand) 1 36 := ⟨by decide +kernel, rfl⟩
theorem e_X11_first_36 : DC cX11_first 36 (.aload_n 0) 1 37 := ⟨by decide +kernel, rfl⟩
theorem e_X11_first_37 : DC cX11_first 37 (.getfield 13) 3 40 := ⟨by decide +kernel, rfl⟩
theorem e_X11_first_40 : DC cX11_first 40 (.iconst 0) 1 41 := ⟨by decide +kernel, rfl⟩
theorem e_X11_first_41 : DC cX11_first 41 (.iaload) 1 42 := ⟨by decide +kernel, rfl⟩
theorem e_X11_first_42 : DB cX11_first 42 (.if_icmp .ge 44) (44) 3 45 86 := ⟨by decide +kernel, rfl, rfl⟩
theorem e_X11_first_45 : DC cX11_first 45 (.aload_n 0) 1 46 := ⟨by decide +kernel, rfl⟩
theorem e_X11_first_46 : DC cX11_first 46 (.iload 6) 2 48 := ⟨by decide +kernel, rfl⟩
theorem e_X11_first_48 : DC cX11_first 48 (.iconst 4) 1 49 := ⟨by decide +kernel, rfl⟩
theorem e_X11_first_49 : DC cX11_first 49 (.ishr) 1 50 := ⟨by decide +kernel, rfl⟩
theorem e_X11_first_50 : DC cX11_first 50 (.iload 6) 2 52 := ⟨by decide +kernel, rfl⟩
theorem e_X11_first_52 : DC cX11_first 52 (.bipush 15) 2 54 := ⟨by decide +kernel, rfl⟩
theorem e_X11_first_54 : DC cX11_first 54 (.iand) 1 55 := ⟨by decide +kernel, rfl⟩
theorem e_X11_first_55 : DC cX11_first 55 (.invokevirtual 314) 3 58 := ⟨by decide +kernel, rfl⟩
theorem e_X11_first_58 : DB cX11_first 58 (.ifCond .eq 28) (28) 3 61 86 := ⟨by decide +kernel, rfl, rfl⟩
theorem e_X11_first_61 : DC cX11_first 61 (.aload_n 0) 1 62 := ⟨by decide +kernel, rfl⟩
theorem e_X11_first_62 : DC cX11_first 62 (.iload_n 1) 1 63 := ⟨by decide +kernel, rfl⟩
theorem e_X11_first_63 : DC cX11_first 63 (.iload_n 2) 1 64 := ⟨by decide +kernel, rfl⟩
theorem e_X11_first_64 : DC cX11_first 64 (.iload_n 3) 1 65 := ⟨by decide +kernel, rfl⟩
theorem e_X11_first_65 : DC cX11_first 65 (.iload 6) 2 67 := ⟨by decide +kernel, rfl⟩
theorem e_X11_first_67 : DC cX11_first 67 (.iconst 4) 1 68 := ⟨by decide +kernel, rfl⟩
theorem e_X11_first_68 : DC cX11_first 68 (.ishr) 1 69 := ⟨by decide +kernel, rfl⟩
theorem e_X11_first_69 : DC cX11_first 69 (.iload 6) 2 71 := ⟨by decide +kernel, rfl⟩
theorem e_X11_first_71 : DC cX11_first 71 (.bipush 15) 2 73 := ⟨by decide +kernel, rfl⟩
theorem e_X11_first_73 : DC cX11_first 73 (.iand) 1 74 := ⟨by decide +kernel, rfl⟩
theorem e_X11_first_74 : DC cX11_first 74 (.invokevirtual 319) 3 77 := ⟨by decide +kernel, rfl⟩
theorem e_X11_first_77 : DC cX11_first 77 (.lconst 0) 1 78 := ⟨by decide +kernel, rfl⟩
theorem e_X11_first_78 : DC cX11_first 78 (.lcmp) 1 79 := ⟨by decide +kernel, rfl⟩
theorem e_X11_first_79 : DB cX11_first 79 (.ifCond .le 7) (7) 3 82 86 := ⟨by decide +kernel, rfl, rfl⟩
theorem e_X11_first_82 : DC cX11_first 82 (.iconst 1) 1 83 := ⟨by decide +kernel, rfl⟩
theorem e_X11_first_83 : DB cX11_first 83 (.goto 4) (4) 3 86 87 := ⟨by decide +kernel, rfl, rfl⟩
theorem e_X11_first_86 : DC cX11_first 86 (.iconst 0) 1 87 := ⟨by decide +kernel, rfl⟩
theorem e_X11_first_87 : DC cX11_first 87 (.istore 7) 2 89 := ⟨by decide +kernel, rfl⟩
theorem e_X11_first_89 : DC cX11_first 89 (.iload 7) 2 91 := ⟨by decide +kernel, rfl⟩
theorem e_X11_first_91 : DB cX11_first 91 (.ifCond .eq 28) (28) 3 94 119 := ⟨by decide +kernel, rfl, rfl⟩
theorem e_X11_first_94 : DC cX11_first 94 (.iload 5) 2 96 := ⟨by decide +kernel, rfl⟩
theorem e_X11_first_96 : DC cX11_first 96 (.iconst (-1)) 1 97 := ⟨by decide +kernel, rfl⟩
theorem e_X11_first_97 : DB cX11_first 97 (.if_icmp .eq 17) (17) 3 100 114 := ⟨by decide +kernel, rfl, rfl⟩
theorem e_X11_first_100 : DC cX11_first 100 (.aload_n 0) 1 101 := ⟨by decide +kernel, rfl⟩
theorem e_X11_first_101 : DC cX11_first 101 (.iload_n 1) 1 102 := ⟨by decide +kernel, rfl⟩
theorem e_X11_first_102 : DC cX11_first 102 (.iload_n 2) 1 103 := ⟨by decide +kernel, rfl⟩
theorem e_X11_first_103 : DC cX11_first 103 (.iload_n 3) 1 104 := ⟨by decide +kernel, rfl⟩
theorem e_X11_first_104 : DC cX11_first 104 (.iload 6) 2 106 := ⟨by decide +kernel, rfl⟩
theorem e_X11_first_106 : DC cX11_first 106 (.iload 5) 2 108 := ⟨by decide +kernel, rfl⟩
theorem e_X11_first_108 : DC cX11_first 108 (.invokevirtual 326) 3 111 := ⟨by decide +kernel, rfl⟩
theorem e_X11_first_111 : DB cX11_first 111 (.ifCond .le 8) (8) 3 114 119 := ⟨by decide +kernel, rfl, rfl⟩
theorem e_X11_first_114 : DC cX11_first 114 (.iload 6) 2 116 := ⟨by decide +kernel, rfl⟩
theorem e_X11_first_116 : DB cX11_first 116 (.goto 5) (5) 3 119 121 := ⟨by decide +kernel, rfl, rfl⟩
theorem e_X11_first_119 : DC cX11_first 119 (.iload 5) 2 121 := ⟨by decide +kernel, rfl⟩
theorem e_X11_first_121 : DC cX11_first 121 (.istore 5) 2 123 := ⟨by decide +kernel, rfl⟩
theorem e_X11_first_123 : DC cX11_first 123 (.iinc 6 1) 3 126 := ⟨by decide +kernel, rfl⟩
theorem e_X11_first_126 : DB cX11_first 126 (.goto (-109)) (-109) 3 129 17 := ⟨by decide +kernel, rfl, rfl⟩
theorem e_X11_first_129 : DC cX11_first 129 (.iconst 0) 1 130 := ⟨by decide +kernel, rfl⟩
theorem e_X11_first_130 : DC cX11_first 130 (.istore 6) 2 132 := ⟨by decide +kernel, rfl⟩
theorem e_X11_first_132 : DC cX11_first 132 (.iload 5) 2 134 := ⟨by decide +kernel, rfl⟩
theorem e_X11_first_134 : DC cX11_first 134 (.istore 7) 2 136 := ⟨by decide +kernel, rfl⟩
theorem e_X11_first_136 : DC cX11_first 136 (.iload 5) 2 138 := ⟨by decide +kernel, rfl⟩
theorem e_X11_first_138 : DC cX11_first 138 (.iconst (-1)) 1 139 := ⟨by decide +kernel, rfl⟩
theorem e_X11_first_139 : DB cX11_first 139 (.if_icmp .eq 104) (104) 3 142 243 := ⟨by decide +kernel, rfl, rfl⟩
theorem e_X11_first_142 : DC cX11_first 142 (.iload 7) 2 144 := ⟨by decide +kernel, rfl⟩
theorem e_X11_first_144 : DC cX11_first 144 (.bipush 16) 2 146 := ⟨by decide +kernel, rfl⟩
theorem e_X11_first_146 : DC cX11_first 146 (.aload_n 0) 1 147 := ⟨by decide +kernel, rfl⟩
theorem e_X11_first_147 : DC cX11_first 147 (.getfield 13) 3 150 := ⟨by decide +kernel, rfl⟩
theorem e_X11_first_150 : DC cX11_first 150 (.iconst 1) 1 151 := ⟨by decide +kernel, rfl⟩
theorem e_X11_first_151 : DC cX11_first 151 (.iaload) 1 152 := ⟨by decide +kernel, rfl⟩
theorem e_X11_first_152 : DC cX11_first 152 (.imul) 1 153 := ⟨by decide +kernel, rfl⟩
theorem e_X11_first_153 : DB cX11_first 153 (.if_icmp .ge 90) (90) 3 156 243 := ⟨by decide +kernel, rfl, rfl⟩
theorem e_X11_first_156 : DC cX11_first 156 (.iload 7) 2 158 := ⟨by decide +kernel, rfl⟩
theorem e_X11_first_158 : DC cX11_first 158 (.bipush 15) 2 160 := ⟨by decide +kernel, rfl⟩
theorem e_X11_first_160 : DC cX11_first 160 (.iand) 1 161 := ⟨by decide +kernel, rfl⟩
theorem e_X11_first_161 : DC cX11_first 161 (.aload_n 0) 1 162 := ⟨by decide +kernel, rfl⟩
theorem e_X11_first_162 : DC cX11_first 162 (.getfield 13) 3 165 := ⟨by decide +kernel, rfl⟩
theorem e_X11_first_165 : DC cX11_first 165 (.iconst 0) 1 166 := ⟨by decide +kernel, rfl⟩
theorem e_X11_first_166 : DC cX11_first 166 (.iaload) 1 167 := ⟨by decide +kernel, rfl⟩
theorem e_X11_first_167 : DB cX11_first 167 (.if_icmp .ge 37) (37) 3 170 204 := ⟨by decide +kernel, rfl, rfl⟩
theorem e_X11_first_170 : DC cX11_first 170 (.aload_n 0) 1 171 := ⟨by decide +kernel, rfl⟩
theorem e_X11_first_171 : DC cX11_first 171 (.iload 7) 2 173 := ⟨by decide +kernel, rfl⟩
theorem e_X11_first_173 : DC cX11_first 173 (.iconst 4) 1 174 := ⟨by decide +kernel, rfl⟩
theorem e_X11_first_174 : DC cX11_first 174 (.ishr) 1 175 := ⟨by decide +kernel, rfl⟩
theorem e_X11_first_175 : DC cX11_first 175 (.iload 7) 2 177 := ⟨by decide +kernel, rfl⟩
theorem e_X11_first_177 : DC cX11_first 177 (.bipush 15) 2 179 := ⟨by decide +kernel, rfl⟩
theorem e_X11_first_179 : DC cX11_first 179 (.iand) 1 180 := ⟨by decide +kernel, rfl⟩
theorem e_X11_first_180 : DC cX11_first 180 (.invokevirtual 314) 3 183 := ⟨by decide +kernel, rfl⟩
theorem e_X11_first_183 : DB cX11_first 183 (.ifCond .eq 21) (21) 3 186 204 := ⟨by decide +kernel, rfl, rfl⟩
theorem e_X11_first_186 : DC cX11_first 186 (.aload_n 0) 1 187 := ⟨by decide +kernel, rfl⟩
theorem e_X11_first_187 : DC cX11_first 187 (.iload_n 1) 1 188 := ⟨by decide +kernel, rfl⟩
theorem e_X11_first_188 : DC cX11_first 188 (.iload_n 2) 1 189 := ⟨by decide +kernel, rfl⟩
theorem e_X11_first_189 : DC cX11_first 189 (.iload_n 3) 1 190 := ⟨by decide +kernel, rfl⟩
theorem e_X11_first_190 : DC cX11_first 190 (.iload 7) 2 192 := ⟨by decide +kernel, rfl⟩
theorem e_X11_first_192 : DC cX11_first 192 (.iload 5) 2 194 := ⟨by decide +kernel, rfl⟩
theorem e_X11_first_194 : DC cX11_first 194 (.invokevirtual 326) 3 197 := ⟨by decide +kernel, rfl⟩
theorem e_X11_first_197 : DB cX11_first 197 (.ifCond .ne 7) (7) 3 200 204 := ⟨by decide +kernel, rfl, rfl⟩
theorem e_X11_first_200 : DC cX11_first 200 (.iconst 1) 1 201 := ⟨by decide +kernel, rfl⟩
theorem e_X11_first_201 : DB cX11_first 201 (.goto 4) (4) 3 204 205 := ⟨by decide +kernel, rfl, rfl⟩
theorem e_X11_first_204 : DC cX11_first 204 (.iconst 0) 1 205 := ⟨by decide +kernel, rfl⟩
theorem e_X11_first_205 : DC cX11_first 205 (.istore 8) 2 207 := ⟨by decide +kernel, rfl⟩
theorem e_X11_first_207 : DC cX11_first 207 (.iload 8) 2 209 := ⟨by decide +kernel, rfl⟩
theorem e_X11_first_209 : DB cX11_first 209 (.ifCond .eq 13) (13) 3 212 222 := ⟨by decide +kernel, rfl, rfl⟩
theorem e_X11_first_212 : DC cX11_first 212 (.iload 6) 2 214 := ⟨by decide +kernel, rfl⟩
theorem e_X11_first_214 : DC cX11_first 214 (.iload 4) 2 216 := ⟨by decide +kernel, rfl⟩
theorem e_X11_first_216 : DB cX11_first 216 (.if_icmp .ne 6) (6) 3 219 222 := ⟨by decide +kernel, rfl, rfl⟩
theorem e_X11_first_219 : DC cX11_first 219 (.iload 7) 2 221 := ⟨by decide +kernel, rfl⟩
theorem e_X11_first_221 : DC cX11_first 221 (.ireturn) 1 222 := ⟨by decide +kernel, rfl⟩
theorem e_X11_first_222 : DC cX11_first 222 (.iload 6) 2 224 := ⟨by decide +kernel, rfl⟩
theorem e_X11_first_224 : DC cX11_first 224 (.iload 8) 2 226 := ⟨by decide +kernel, rfl⟩
theorem e_X11_first_226 : DB cX11_first 226 (.ifCond .eq 7) (7) 3 229 233 := ⟨by decide +kernel, rfl, rfl⟩
theorem e_X11_first_229 : DC cX11_first 229 (.iconst 1) 1 230 := ⟨by decide +kernel, rfl⟩
theorem e_X11_first_230 : DB cX11_first 230 (.goto 4) (4) 3 233 234 := ⟨by decide +kernel, rfl, rfl⟩
theorem e_X11_first_233 : DC cX11_first 233 (.iconst 0) 1 234 := ⟨by decide +kernel, rfl⟩
theorem e_X11_first_234 : DC cX11_first 234 (.iadd) 1 235 := ⟨by decide +kernel, rfl⟩
theorem e_X11_first_235 : DC cX11_first 235 (.istore 6) 2 237 := ⟨by decide +kernel, rfl⟩
theorem e_X11_first_237 : DC cX11_first 237 (.iinc 7 1) 3 240 := ⟨by decide +kernel, rfl⟩
theorem e_X11_first_240 : DB cX11_first 240 (.goto (-104)) (-104) 3 243 136 := ⟨by decide +kernel, rfl, rfl⟩
theorem e_X11_first_243 : DC cX11_first 243 (.iload 4) 2 245 := ⟨by decide +kernel, rfl⟩
theorem e_X11_first_245 : DC cX11_first 245 (.iconst (-1)) 1 246 := ⟨by decide +kernel, rfl⟩
theorem e_X11_first_246 : DB cX11_first 246 (.if_icmp .ne 8) (8) 3 249 254 := ⟨by decide +kernel, rfl, rfl⟩
theorem e_X11_first_249 : DC cX11_first 249 (.iload 6) 2 251 := ⟨by decide +kernel, rfl⟩
theorem e_X11_first_251 : DB cX11_first 251 (.goto 4) (4) 3 254 255 := ⟨by decide +kernel, rfl, rfl⟩
theorem e_X11_first_254 : DC cX11_first 254 (.iconst (-1)) 1 255 := ⟨by decide +kernel, rfl⟩
theorem e_X11_first_255 : DC cX11_first 255 (.ireturn) 1 256 := ⟨by decide +kernel, rfl⟩
noncomputable def m_X11_first_121 (t_many : Nat → Int) (t_way : Nat → Int) (v1 : Int) (v2 : Int) (v3 : Int) (v6 : Int) (s0 : Int) (ag : Int → Int → Option (Int)) (k_129 : Int → Int → Option (Int)) : Option (Int) :=
  chk (inI (v6 + 1)) (ag s0 (v6 + 1))

set_option maxRecDepth 10000 in
set_option maxHeartbeats 8000000 in
theorem g_X11_first_121 {l : Launch} {E : EE} {b0 n : Nat} {h : AH} {a_t : Nat} {t_thrown t_taped t_p t_fault t_baseLow t_baseHigh t_newBaseLow t_newBaseHigh t_from t_knots t_lines t_chosen t_undos t_redos t_aimedMany t_fits t_fitOf t_sights t_systems t_own t_cross t_curveLong t_wallFirst v1 v2 v3 v4 v6 s0 : Int} {t_many t_way : Nat → Int} {r : Int} {ag : Int → Int → Option (Int)} {k_129 : Int → Int → Option (Int)} (ao : AO b0 n [a_t, (a_t + 2), (a_t + 4)]) (ok_t_many : okA t_many) (ok_t_way : okA t_way) (ok_v1 : inI v1) (ok_v2 : inI v2) (ok_v3 : inI v3) (ok_v4 : inI v4) (ok_v6 : inI v6) (ok_s0 : inI s0) (hag : ∀ (v5_ : Int) (v6_ : Int), inI v5_ → inI v6_ → ag v5_ v6_ = some r → G l E b0 M_X11_first (fun _ => True) (ZM E b0 (some (vI r)) (ov [a_t, (a_t + 2), (a_t + 4)] [.inr (11, fsX11 a_t t_thrown t_taped t_p t_fault t_baseLow t_baseHigh t_newBaseLow t_newBaseHigh t_from t_knots t_lines t_chosen t_undos t_redos t_aimedMany t_fits t_fitOf t_sights t_systems t_own t_cross t_curveLong t_wallFirst), IA E 7 t_many, IA E 144 t_way] h) n (inI r) 0 0) 0 0 n (ov [a_t, (a_t + 2), (a_t + 4)] [.inr (11, fsX11 a_t t_thrown t_taped t_p t_fault t_baseLow t_baseHigh t_newBaseLow t_newBaseHigh t_from t_knots t_lines t_chosen t_undos t_redos t_aimedMany t_fits t_fitOf t_sights t_systems t_own t_cross t_curveLong t_wallFirst), IA E 7 t_many, IA E 144 t_way] h) 17 [some (.ref a_t), some (vI v1), some (vI v2), some (vI v3), some (vI v4), some (vI v5_), some (vI v6_), none, none] []) (hk_129 : ∀ (v5_ : Int) (v6_ : Int), inI v5_ → inI v6_ → k_129 v5_ v6_ = some r → G l E b0 M_X11_first (fun _ => True) (ZM E b0 (some (vI r)) (ov [a_t, (a_t + 2), (a_t + 4)] [.inr (11, fsX11 a_t t_thrown t_taped t_p t_fault t_baseLow t_baseHigh t_newBaseLow t_newBaseHigh t_from t_knots t_lines t_chosen t_undos t_redos t_aimedMany t_fits t_fitOf t_sights t_systems t_own t_cross t_curveLong t_wallFirst), IA E 7 t_many, IA E 144 t_way] h) n (inI r) 0 0) 0 0 n (ov [a_t, (a_t + 2), (a_t + 4)] [.inr (11, fsX11 a_t t_thrown t_taped t_p t_fault t_baseLow t_baseHigh t_newBaseLow t_newBaseHigh t_from t_knots t_lines t_chosen t_undos t_redos t_aimedMany t_fits t_fitOf t_sights t_systems t_own t_cross t_curveLong t_wallFirst), IA E 7 t_many, IA E 144 t_way] h) 129 [some (.ref a_t), some (vI v1), some (vI v2), some (vI v3), some (vI v4), some (vI v5_), none, none, none] []) (hs : m_X11_first_121 t_many t_way v1 v2 v3 v6 s0 ag k_129 = some r) : G l E b0 M_X11_first (fun _ => True) (ZM E b0 (some (vI r)) (ov [a_t, (a_t + 2), (a_t + 4)] [.inr (11, fsX11 a_t t_thrown t_taped t_p t_fault t_baseLow t_baseHigh t_newBaseLow t_newBaseHigh t_from t_knots t_lines t_chosen t_undos t_redos t_aimedMany t_fits t_fitOf t_sights t_systems t_own t_cross t_curveLong t_wallFirst), IA E 7 t_many, IA E 144 t_way] h) n (inI r) 0 0) 0 0 n (ov [a_t, (a_t + 2), (a_t + 4)] [.inr (11, fsX11 a_t t_thrown t_taped t_p t_fault t_baseLow t_baseHigh t_newBaseLow t_newBaseHigh t_from t_knots t_lines t_chosen t_undos t_redos t_aimedMany t_fits t_fitOf t_sights t_systems t_own t_cross t_curveLong t_wallFirst), IA E 7 t_many, IA E 144 t_way] h) 121 [some (.ref a_t), some (vI v1), some (vI v2), some (vI v3), some (vI v4), none, some (vI v6), none, none] [vI s0] := by
  rw [m_X11_first_121] at hs
  refine g_istore e_X11_first_121 st1_5 rfl ?_
  refine g_iinc e_X11_first_123 rfl st1_6 rfl ?_
  refine g_goto e_X11_first_126 ?_
  obtain ⟨hc5, hs⟩ := chk_elim hs
  exact hag _ _ ok_s0 hc5 hs

noncomputable def m_X11_first_119 (t_many : Nat → Int) (t_way : Nat → Int) (v1 : Int) (v2 : Int) (v3 : Int) (v5 : Int) (v6 : Int) (ag : Int → Int → Option (Int)) (k_129 : Int → Int → Option (Int)) : Option (Int) :=
  m_X11_first_121 t_many t_way v1 v2 v3 v6 v5 ag k_129

set_option maxRecDepth 10000 in
set_option maxHeartbeats 8000000 in
theorem g_X11_first_119 {l : Launch} {E : EE} {b0 n : Nat} {h : AH} {a_t : Nat} {t_thrown t_taped t_p t_fault t_baseLow t_baseHigh t_newBaseLow t_newBaseHigh t_from t_knots t_lines t_chosen t_undos t_redos t_aimedMany t_fits t_fitOf t_sights t_systems t_own t_cross t_curveLong t_wallFirst v1 v2 v3 v4 v5 v6 : Int} {t_many t_way : Nat → Int} {r : Int} {ag : Int → Int → Option (Int)} {k_129 : Int → Int → Option (Int)} (ao : AO b0 n [a_t, (a_t + 2), (a_t + 4)]) (ok_t_many : okA t_many) (ok_t_way : okA t_way) (ok_v1 : inI v1) (ok_v2 : inI v2) (ok_v3 : inI v3) (ok_v4 : inI v4) (ok_v5 : inI v5) (ok_v6 : inI v6) (hag : ∀ (v5_ : Int) (v6_ : Int), inI v5_ → inI v6_ → ag v5_ v6_ = some r → G l E b0 M_X11_first (fun _ => True) (ZM E b0 (some (vI r)) (ov [a_t, (a_t + 2), (a_t + 4)] [.inr (11, fsX11 a_t t_thrown t_taped t_p t_fault t_baseLow t_baseHigh t_newBaseLow t_newBaseHigh t_from t_knots t_lines t_chosen t_undos t_redos t_aimedMany t_fits t_fitOf t_sights t_systems t_own t_cross t_curveLong t_wallFirst), IA E 7 t_many, IA E 144 t_way] h) n (inI r) 0 0) 0 0 n (ov [a_t, (a_t + 2), (a_t + 4)] [.inr (11, fsX11 a_t t_thrown t_taped t_p t_fault t_baseLow t_baseHigh t_newBaseLow t_newBaseHigh t_from t_knots t_lines t_chosen t_undos t_redos t_aimedMany t_fits t_fitOf t_sights t_systems t_own t_cross t_curveLong t_wallFirst), IA E 7 t_many, IA E 144 t_way] h) 17 [some (.ref a_t), some (vI v1), some (vI v2), some (vI v3), some (vI v4), some (vI v5_), some (vI v6_), none, none] []) (hk_129 : ∀ (v5_ : Int) (v6_ : Int), inI v5_ → inI v6_ → k_129 v5_ v6_ = some r → G l E b0 M_X11_first (fun _ => True) (ZM E b0 (some (vI r)) (ov [a_t, (a_t + 2), (a_t + 4)] [.inr (11, fsX11 a_t t_thrown t_taped t_p t_fault t_baseLow t_baseHigh t_newBaseLow t_newBaseHigh t_from t_knots t_lines t_chosen t_undos t_redos t_aimedMany t_fits t_fitOf t_sights t_systems t_own t_cross t_curveLong t_wallFirst), IA E 7 t_many, IA E 144 t_way] h) n (inI r) 0 0) 0 0 n (ov [a_t, (a_t + 2), (a_t + 4)] [.inr (11, fsX11 a_t t_thrown t_taped t_p t_fault t_baseLow t_baseHigh t_newBaseLow t_newBaseHigh t_from t_knots t_lines t_chosen t_undos t_redos t_aimedMany t_fits t_fitOf t_sights t_systems t_own t_cross t_curveLong t_wallFirst), IA E 7 t_many, IA E 144 t_way] h) 129 [some (.ref a_t), some (vI v1), some (vI v2), some (vI v3), some (vI v4), some (vI v5_), none, none, none] []) (hs : m_X11_first_119 t_many t_way v1 v2 v3 v5 v6 ag k_129 = some r) : G l E b0 M_X11_first (fun _ => True) (ZM E b0 (some (vI r)) (ov [a_t, (a_t + 2), (a_t + 4)] [.inr (11, fsX11 a_t t_thrown t_taped t_p t_fault t_baseLow t_baseHigh t_newBaseLow t_newBaseHigh t_from t_knots t_lines t_chosen t_undos t_redos t_aimedMany t_fits t_fitOf t_sights t_systems t_own t_cross t_curveLong t_wallFirst), IA E 7 t_many, IA E 144 t_way] h) n (inI r) 0 0) 0 0 n (ov [a_t, (a_t + 2), (a_t + 4)] [.inr (11, fsX11 a_t t_thrown t_taped t_p t_fault t_baseLow t_baseHigh t_newBaseLow t_newBaseHigh t_from t_knots t_lines t_chosen t_undos t_redos t_aimedMany t_fits t_fitOf t_sights t_systems t_own t_cross t_curveLong t_wallFirst), IA E 7 t_many, IA E 144 t_way] h) 119 [some (.ref a_t), some (vI v1), some (vI v2), some (vI v3), some (vI v4), some (vI v5), some (vI v6), none, none] [] := by
  rw [m_X11_first_119] at hs
  refine g_iload e_X11_first_119 rfl ?_
  exact g_mask [true, true, true, true, true, false, true, true, true] (g_X11_first_121 ao ok_t_many ok_t_way ok_v1 ok_v2 ok_v3 ok_v4 ok_v6 ok_v5 hag hk_129 hs)

noncomputable def m_X11_first_114 (t_many : Nat → Int) (t_way : Nat → Int) (v1 : Int) (v2 : Int) (v3 : Int) (v6 : Int) (ag : Int → Int → Option (Int)) (k_129 : Int → Int → Option (Int)) : Option (Int) :=
  m_X11_first_121 t_many t_way v1 v2 v3 v6 v6 ag k_129

set_option maxRecDepth 10000 in
set_option maxHeartbeats 8000000 in
theorem g_X11_first_114 {l : Launch} {E : EE} {b0 n : Nat} {h : AH} {a_t : Nat} {t_thrown t_taped t_p t_fault t_baseLow t_baseHigh t_newBaseLow t_newBaseHigh t_from t_knots t_lines t_chosen t_undos t_redos t_aimedMany t_fits t_fitOf t_sights t_systems t_own t_cross t_curveLong t_wallFirst v1 v2 v3 v4 v6 : Int} {t_many t_way : Nat → Int} {r : Int} {ag : Int → Int → Option (Int)} {k_129 : Int → Int → Option (Int)} (ao : AO b0 n [a_t, (a_t + 2), (a_t + 4)]) (ok_t_many : okA t_many) (ok_t_way : okA t_way) (ok_v1 : inI v1) (ok_v2 : inI v2) (ok_v3 : inI v3) (ok_v4 : inI v4) (ok_v6 : inI v6) (hag : ∀ (v5_ : Int) (v6_ : Int), inI v5_ → inI v6_ → ag v5_ v6_ = some r → G l E b0 M_X11_first (fun _ => True) (ZM E b0 (some (vI r)) (ov [a_t, (a_t + 2), (a_t + 4)] [.inr (11, fsX11 a_t t_thrown t_taped t_p t_fault t_baseLow t_baseHigh t_newBaseLow t_newBaseHigh t_from t_knots t_lines t_chosen t_undos t_redos t_aimedMany t_fits t_fitOf t_sights t_systems t_own t_cross t_curveLong t_wallFirst), IA E 7 t_many, IA E 144 t_way] h) n (inI r) 0 0) 0 0 n (ov [a_t, (a_t + 2), (a_t + 4)] [.inr (11, fsX11 a_t t_thrown t_taped t_p t_fault t_baseLow t_baseHigh t_newBaseLow t_newBaseHigh t_from t_knots t_lines t_chosen t_undos t_redos t_aimedMany t_fits t_fitOf t_sights t_systems t_own t_cross t_curveLong t_wallFirst), IA E 7 t_many, IA E 144 t_way] h) 17 [some (.ref a_t), some (vI v1), some (vI v2), some (vI v3), some (vI v4), some (vI v5_), some (vI v6_), none, none] []) (hk_129 : ∀ (v5_ : Int) (v6_ : Int), inI v5_ → inI v6_ → k_129 v5_ v6_ = some r → G l E b0 M_X11_first (fun _ => True) (ZM E b0 (some (vI r)) (ov [a_t, (a_t + 2), (a_t + 4)] [.inr (11, fsX11 a_t t_thrown t_taped t_p t_fault t_baseLow t_baseHigh t_newBaseLow t_newBaseHigh t_from t_knots t_lines t_chosen t_undos t_redos t_aimedMany t_fits t_fitOf t_sights t_systems t_own t_cross t_curveLong t_wallFirst), IA E 7 t_many, IA E 144 t_way] h) n (inI r) 0 0) 0 0 n (ov [a_t, (a_t + 2), (a_t + 4)] [.inr (11, fsX11 a_t t_thrown t_taped t_p t_fault t_baseLow t_baseHigh t_newBaseLow t_newBaseHigh t_from t_knots t_lines t_chosen t_undos t_redos t_aimedMany t_fits t_fitOf t_sights t_systems t_own t_cross t_curveLong t_wallFirst), IA E 7 t_many, IA E 144 t_way] h) 129 [some (.ref a_t), some (vI v1), some (vI v2), some (vI v3), some (vI v4), some (vI v5_), none, none, none] []) (hs : m_X11_first_114 t_many t_way v1 v2 v3 v6 ag k_129 = some r) : G l E b0 M_X11_first (fun _ => True) (ZM E b0 (some (vI r)) (ov [a_t, (a_t + 2), (a_t + 4)] [.inr (11, fsX11 a_t t_thrown t_taped t_p t_fault t_baseLow t_baseHigh t_newBaseLow t_newBaseHigh t_from t_knots t_lines t_chosen t_undos t_redos t_aimedMany t_fits t_fitOf t_sights t_systems t_own t_cross t_curveLong t_wallFirst), IA E 7 t_many, IA E 144 t_way] h) n (inI r) 0 0) 0 0 n (ov [a_t, (a_t + 2), (a_t + 4)] [.inr (11, fsX11 a_t t_thrown t_taped t_p t_fault t_baseLow t_baseHigh t_newBaseLow t_newBaseHigh t_from t_knots t_lines t_chosen t_undos t_redos t_aimedMany t_fits t_fitOf t_sights t_systems t_own t_cross t_curveLong t_wallFirst), IA E 7 t_many, IA E 144 t_way] h) 114 [some (.ref a_t), some (vI v1), some (vI v2), some (vI v3), some (vI v4), none, some (vI v6), none, none] [] := by
  rw [m_X11_first_114] at hs
  refine g_iload e_X11_first_114 rfl ?_
  refine g_goto e_X11_first_116 ?_
  exact g_X11_first_121 ao ok_t_many ok_t_way ok_v1 ok_v2 ok_v3 ok_v4 ok_v6 ok_v6 hag hk_129 hs

noncomputable def m_X11_first_87 (t_many : Nat → Int) (t_way : Nat → Int) (v1 : Int) (v2 : Int) (v3 : Int) (v5 : Int) (v6 : Int) (s0 : Int) (ag : Int → Int → Option (Int)) (k_129 : Int → Int → Option (Int)) : Option (Int) :=
  if s0 = 0 then (m_X11_first_119 t_many t_way v1 v2 v3 v5 v6 ag k_129) else (if v5 = (-1) then (m_X11_first_114 t_many t_way v1 v2 v3 v6 ag k_129) else ((m_X11_compares t_way v1 v2 v3 v6 v5).bind (fun y6 => if y6 ≤ 0 then (m_X11_first_119 t_many t_way v1 v2 v3 v5 v6 ag k_129) else (m_X11_first_114 t_many t_way v1 v2 v3 v6 ag k_129))))

set_option maxRecDepth 10000 in
set_option maxHeartbeats 8000000 in
theorem g_X11_first_87 {l : Launch} {E : EE} {b0 n : Nat} {h : AH} {a_t : Nat} {t_thrown t_taped t_p t_fault t_baseLow t_baseHigh t_newBaseLow t_newBaseHigh t_from t_knots t_lines t_chosen t_undos t_redos t_aimedMany t_fits t_fitOf t_sights t_systems t_own t_cross t_curveLong t_wallFirst v1 v2 v3 v4 v5 v6 s0 : Int} {t_many t_way : Nat → Int} {r : Int} {ag : Int → Int → Option (Int)} {k_129 : Int → Int → Option (Int)} (ao : AO b0 n [a_t, (a_t + 2), (a_t + 4)]) (ok_t_many : okA t_many) (ok_t_way : okA t_way) (ok_v1 : inI v1) (ok_v2 : inI v2) (ok_v3 : inI v3) (ok_v4 : inI v4) (ok_v5 : inI v5) (ok_v6 : inI v6) (ok_s0 : inZ s0) (hag : ∀ (v5_ : Int) (v6_ : Int), inI v5_ → inI v6_ → ag v5_ v6_ = some r → G l E b0 M_X11_first (fun _ => True) (ZM E b0 (some (vI r)) (ov [a_t, (a_t + 2), (a_t + 4)] [.inr (11, fsX11 a_t t_thrown t_taped t_p t_fault t_baseLow t_baseHigh t_newBaseLow t_newBaseHigh t_from t_knots t_lines t_chosen t_undos t_redos t_aimedMany t_fits t_fitOf t_sights t_systems t_own t_cross t_curveLong t_wallFirst), IA E 7 t_many, IA E 144 t_way] h) n (inI r) 0 0) 0 0 n (ov [a_t, (a_t + 2), (a_t + 4)] [.inr (11, fsX11 a_t t_thrown t_taped t_p t_fault t_baseLow t_baseHigh t_newBaseLow t_newBaseHigh t_from t_knots t_lines t_chosen t_undos t_redos t_aimedMany t_fits t_fitOf t_sights t_systems t_own t_cross t_curveLong t_wallFirst), IA E 7 t_many, IA E 144 t_way] h) 17 [some (.ref a_t), some (vI v1), some (vI v2), some (vI v3), some (vI v4), some (vI v5_), some (vI v6_), none, none] []) (hk_129 : ∀ (v5_ : Int) (v6_ : Int), inI v5_ → inI v6_ → k_129 v5_ v6_ = some r → G l E b0 M_X11_first (fun _ => True) (ZM E b0 (some (vI r)) (ov [a_t, (a_t + 2), (a_t + 4)] [.inr (11, fsX11 a_t t_thrown t_taped t_p t_fault t_baseLow t_baseHigh t_newBaseLow t_newBaseHigh t_from t_knots t_lines t_chosen t_undos t_redos t_aimedMany t_fits t_fitOf t_sights t_systems t_own t_cross t_curveLong t_wallFirst), IA E 7 t_many, IA E 144 t_way] h) n (inI r) 0 0) 0 0 n (ov [a_t, (a_t + 2), (a_t + 4)] [.inr (11, fsX11 a_t t_thrown t_taped t_p t_fault t_baseLow t_baseHigh t_newBaseLow t_newBaseHigh t_from t_knots t_lines t_chosen t_undos t_redos t_aimedMany t_fits t_fitOf t_sights t_systems t_own t_cross t_curveLong t_wallFirst), IA E 7 t_many, IA E 144 t_way] h) 129 [some (.ref a_t), some (vI v1), some (vI v2), some (vI v3), some (vI v4), some (vI v5_), none, none, none] []) (hs : m_X11_first_87 t_many t_way v1 v2 v3 v5 v6 s0 ag k_129 = some r) : G l E b0 M_X11_first (fun _ => True) (ZM E b0 (some (vI r)) (ov [a_t, (a_t + 2), (a_t + 4)] [.inr (11, fsX11 a_t t_thrown t_taped t_p t_fault t_baseLow t_baseHigh t_newBaseLow t_newBaseHigh t_from t_knots t_lines t_chosen t_undos t_redos t_aimedMany t_fits t_fitOf t_sights t_systems t_own t_cross t_curveLong t_wallFirst), IA E 7 t_many, IA E 144 t_way] h) n (inI r) 0 0) 0 0 n (ov [a_t, (a_t + 2), (a_t + 4)] [.inr (11, fsX11 a_t t_thrown t_taped t_p t_fault t_baseLow t_baseHigh t_newBaseLow t_newBaseHigh t_from t_knots t_lines t_chosen t_undos t_redos t_aimedMany t_fits t_fitOf t_sights t_systems t_own t_cross t_curveLong t_wallFirst), IA E 7 t_many, IA E 144 t_way] h) 87 [some (.ref a_t), some (vI v1), some (vI v2), some (vI v3), some (vI v4), some (vI v5), some (vI v6), none, none] [vI s0] := by
  rw [m_X11_first_87] at hs
  refine g_istore e_X11_first_87 st1_7 rfl ?_
  refine g_iload e_X11_first_89 rfl ?_
  refine g_if_eq e_X11_first_91 (inZ_I ok_s0) hs (fun c91 hs => ?_) (fun c91 hs => ?_)
  · exact g_mask [true, true, true, true, true, true, true, false, true] (g_X11_first_119 ao ok_t_many ok_t_way ok_v1 ok_v2 ok_v3 ok_v4 ok_v5 ok_v6 hag hk_129 hs)
  · refine g_iload e_X11_first_94 rfl ?_
    refine g_iconst e_X11_first_96 ?_
    refine g_icmp_eq e_X11_first_97 ok_v5 (by decide : inI (-1)) hs (fun c97 hs => ?_) (fun c97 hs => ?_)
    · exact g_mask [true, true, true, true, true, false, true, false, true] (g_X11_first_114 ao ok_t_many ok_t_way ok_v1 ok_v2 ok_v3 ok_v4 ok_v6 hag hk_129 hs)
    · refine g_aload_n e_X11_first_100 rfl ?_
      refine g_iload_n e_X11_first_101 rfl ?_
      refine g_iload_n e_X11_first_102 rfl ?_
      refine g_iload_n e_X11_first_103 rfl ?_
      refine g_iload e_X11_first_104 rfl ?_
      refine g_iload e_X11_first_106 rfl ?_
      obtain ⟨y6, hy6, hs⟩ := bind_elim hs
      refine g_callVr [vI v1, vI v2, vI v3, vI v6, vI v5] cv_X11_326 ⟨rfl, rfl, Nat.le_of_ble_eq_true rfl, Nat.le_of_ble_eq_true rfl⟩ (ct_X11_compares (a_t := a_t) (AO_call [0, 2] ao (by decide) rfl) (FA_call [0, 2] ao.1 rfl rfl) ok_t_way ok_v1 ok_v2 ok_v3 ok_v6 ok_v5 hy6) e_X11_first_108 (ao.2 0 _ rfl) (ov_get 0 ao.1 rfl rfl) rfl rfl rfl (Nat.le_of_ble_eq_true rfl) ⟨Nat.le_refl _, Nat.le_refl _⟩ (fun Py6 => ?_)
      refine g_if_le e_X11_first_111 Py6 hs (fun c111 hs => ?_) (fun c111 hs => ?_)
      · exact g_mask [true, true, true, true, true, true, true, false, true] (g_X11_first_119 ao ok_t_many ok_t_way ok_v1 ok_v2 ok_v3 ok_v4 ok_v5 ok_v6 hag hk_129 hs)
      · exact g_mask [true, true, true, true, true, false, true, false, true] (g_X11_first_114 ao ok_t_many ok_t_way ok_v1 ok_v2 ok_v3 ok_v4 ok_v6 hag hk_129 hs)

noncomputable def m_X11_first_86 (t_many : Nat → Int) (t_way : Nat → Int) (v1 : Int) (v2 : Int) (v3 : Int) (v5 : Int) (v6 : Int) (ag : Int → Int → Option (Int)) (k_129 : Int → Int → Option (Int)) : Option (Int) :=
  m_X11_first_87 t_many t_way v1 v2 v3 v5 v6 0 ag k_129

set_option maxRecDepth 10000 in
set_option maxHeartbeats 8000000 in
theorem g_X11_first_86 {l : Launch} {E : EE} {b0 n : Nat} {h : AH} {a_t : Nat} {t_thrown t_taped t_p t_fault t_baseLow t_baseHigh t_newBaseLow t_newBaseHigh t_from t_knots t_lines t_chosen t_undos t_redos t_aimedMany t_fits t_fitOf t_sights t_systems t_own t_cross t_curveLong t_wallFirst v1 v2 v3 v4 v5 v6 : Int} {t_many t_way : Nat → Int} {r : Int} {ag : Int → Int → Option (Int)} {k_129 : Int → Int → Option (Int)} (ao : AO b0 n [a_t, (a_t + 2), (a_t + 4)]) (ok_t_many : okA t_many) (ok_t_way : okA t_way) (ok_v1 : inI v1) (ok_v2 : inI v2) (ok_v3 : inI v3) (ok_v4 : inI v4) (ok_v5 : inI v5) (ok_v6 : inI v6) (hag : ∀ (v5_ : Int) (v6_ : Int), inI v5_ → inI v6_ → ag v5_ v6_ = some r → G l E b0 M_X11_first (fun _ => True) (ZM E b0 (some (vI r)) (ov [a_t, (a_t + 2), (a_t + 4)] [.inr (11, fsX11 a_t t_thrown t_taped t_p t_fault t_baseLow t_baseHigh t_newBaseLow t_newBaseHigh t_from t_knots t_lines t_chosen t_undos t_redos t_aimedMany t_fits t_fitOf t_sights t_systems t_own t_cross t_curveLong t_wallFirst), IA E 7 t_many, IA E 144 t_way] h) n (inI r) 0 0) 0 0 n (ov [a_t, (a_t + 2), (a_t + 4)] [.inr (11, fsX11 a_t t_thrown t_taped t_p t_fault t_baseLow t_baseHigh t_newBaseLow t_newBaseHigh t_from t_knots t_lines t_chosen t_undos t_redos t_aimedMany t_fits t_fitOf t_sights t_systems t_own t_cross t_curveLong t_wallFirst), IA E 7 t_many, IA E 144 t_way] h) 17 [some (.ref a_t), some (vI v1), some (vI v2), some (vI v3), some (vI v4), some (vI v5_), some (vI v6_), none, none] []) (hk_129 : ∀ (v5_ : Int) (v6_ : Int), inI v5_ → inI v6_ → k_129 v5_ v6_ = some r → G l E b0 M_X11_first (fun _ => True) (ZM E b0 (some (vI r)) (ov [a_t, (a_t + 2), (a_t + 4)] [.inr (11, fsX11 a_t t_thrown t_taped t_p t_fault t_baseLow t_baseHigh t_newBaseLow t_newBaseHigh t_from t_knots t_lines t_chosen t_undos t_redos t_aimedMany t_fits t_fitOf t_sights t_systems t_own t_cross t_curveLong t_wallFirst), IA E 7 t_many, IA E 144 t_way] h) n (inI r) 0 0) 0 0 n (ov [a_t, (a_t + 2), (a_t + 4)] [.inr (11, fsX11 a_t t_thrown t_taped t_p t_fault t_baseLow t_baseHigh t_newBaseLow t_newBaseHigh t_from t_knots t_lines t_chosen t_undos t_redos t_aimedMany t_fits t_fitOf t_sights t_systems t_own t_cross t_curveLong t_wallFirst), IA E 7 t_many, IA E 144 t_way] h) 129 [some (.ref a_t), some (vI v1), some (vI v2), some (vI v3), some (vI v4), some (vI v5_), none, none, none] []) (hs : m_X11_first_86 t_many t_way v1 v2 v3 v5 v6 ag k_129 = some r) : G l E b0 M_X11_first (fun _ => True) (ZM E b0 (some (vI r)) (ov [a_t, (a_t + 2), (a_t + 4)] [.inr (11, fsX11 a_t t_thrown t_taped t_p t_fault t_baseLow t_baseHigh t_newBaseLow t_newBaseHigh t_from t_knots t_lines t_chosen t_undos t_redos t_aimedMany t_fits t_fitOf t_sights t_systems t_own t_cross t_curveLong t_wallFirst), IA E 7 t_many, IA E 144 t_way] h) n (inI r) 0 0) 0 0 n (ov [a_t, (a_t + 2), (a_t + 4)] [.inr (11, fsX11 a_t t_thrown t_taped t_p t_fault t_baseLow t_baseHigh t_newBaseLow t_newBaseHigh t_from t_knots t_lines t_chosen t_undos t_redos t_aimedMany t_fits t_fitOf t_sights t_systems t_own t_cross t_curveLong t_wallFirst), IA E 7 t_many, IA E 144 t_way] h) 86 [some (.ref a_t), some (vI v1), some (vI v2), some (vI v3), some (vI v4), some (vI v5), some (vI v6), none, none] [] := by
  rw [m_X11_first_86] at hs
  refine g_iconst e_X11_first_86 ?_
  exact g_X11_first_87 ao ok_t_many ok_t_way ok_v1 ok_v2 ok_v3 ok_v4 ok_v5 ok_v6 (by decide : inZ 0) hag hk_129 hs

noncomputable def m_X11_first_17 (t_many : Nat → Int) (t_way : Nat → Int) (v1 : Int) (v2 : Int) (v3 : Int) (k_129 : Int → Int → Option (Int)) : Nat → Int → Int → Option (Int)
  | 0, _, _ => none
  | F + 1, v5, v6 => chk (inB 1 7) (chk (inI (16 * (t_many (Int.toNat 1)))) (if (16 * (t_many (Int.toNat 1))) ≤ v6 then (k_129 v5 v6) else (chk (inB 0 7) (if (t_many (Int.toNat 0)) ≤ (bAnd v6 15) then (m_X11_first_86 t_many t_way v1 v2 v3 v5 v6 (m_X11_first_17 t_many t_way v1 v2 v3 k_129 F) k_129) else ((m_X11_isIn t_many t_way (bShr v6 4) (bAnd v6 15)).bind (fun y7 => if y7 = 0 then (m_X11_first_86 t_many t_way v1 v2 v3 v5 v6 (m_X11_first_17 t_many t_way v1 v2 v3 k_129 F) k_129) else ((m_X11_above t_way v1 v2 v3 (bShr v6 4) (bAnd v6 15)).bind (fun y8 => if y8 ≤ 0 then (m_X11_first_86 t_many t_way v1 v2 v3 v5 v6 (m_X11_first_17 t_many t_way v1 v2 v3 k_129 F) k_129) else (m_X11_first_87 t_many t_way v1 v2 v3 v5 v6 1 (m_X11_first_17 t_many t_way v1 v2 v3 k_129 F) k_129)))))))))

set_option maxRecDepth 10000 in
set_option maxHeartbeats 8000000 in
theorem g_X11_first_17 {l : Launch} {E : EE} {b0 n : Nat} {h : AH} {a_t : Nat} {t_thrown t_taped t_p t_fault t_baseLow t_baseHigh t_newBaseLow t_newBaseHigh t_from t_knots t_lines t_chosen t_undos t_redos t_aimedMany t_fits t_fitOf t_sights t_systems t_own t_cross t_curveLong t_wallFirst v1 v2 v3 v4 : Int} {t_many t_way : Nat → Int} {r : Int} {k_129 : Int → Int → Option (Int)} (ao : AO b0 n [a_t, (a_t + 2), (a_t + 4)]) (ok_t_many : okA t_many) (ok_t_way : okA t_way) (ok_v1 : inI v1) (ok_v2 : inI v2) (ok_v3 : inI v3) (ok_v4 : inI v4) (hk_129 : ∀ (v5_ : Int) (v6_ : Int), inI v5_ → inI v6_ → k_129 v5_ v6_ = some r → G l E b0 M_X11_first (fun _ => True) (ZM E b0 (some (vI r)) (ov [a_t, (a_t + 2), (a_t + 4)] [.inr (11, fsX11 a_t t_thrown t_taped t_p t_fault t_baseLow t_baseHigh t_newBaseLow t_newBaseHigh t_from t_knots t_lines t_chosen t_undos t_redos t_aimedMany t_fits t_fitOf t_sights t_systems t_own t_cross t_curveLong t_wallFirst), IA E 7 t_many, IA E 144 t_way] h) n (inI r) 0 0) 0 0 n (ov [a_t, (a_t + 2), (a_t + 4)] [.inr (11, fsX11 a_t t_thrown t_taped t_p t_fault t_baseLow t_baseHigh t_newBaseLow t_newBaseHigh t_from t_knots t_lines t_chosen t_undos t_redos t_aimedMany t_fits t_fitOf t_sights t_systems t_own t_cross t_curveLong t_wallFirst), IA E 7 t_many, IA E 144 t_way] h) 129 [some (.ref a_t), some (vI v1), some (vI v2), some (vI v3), some (vI v4), some (vI v5_), none, none, none] []) :
    ∀ (F : Nat) (v5 : Int) (v6 : Int), inI v5 → inI v6 → m_X11_first_17 t_many t_way v1 v2 v3 k_129 F v5 v6 = some r → G l E b0 M_X11_first (fun _ => True) (ZM E b0 (some (vI r)) (ov [a_t, (a_t + 2), (a_t + 4)] [.inr (11, fsX11 a_t t_thrown t_taped t_p t_fault t_baseLow t_baseHigh t_newBaseLow t_newBaseHigh t_from t_knots t_lines t_chosen t_undos t_redos t_aimedMany t_fits t_fitOf t_sights t_systems t_own t_cross t_curveLong t_wallFirst), IA E 7 t_many, IA E 144 t_way] h) n (inI r) 0 0) 0 0 n (ov [a_t, (a_t + 2), (a_t + 4)] [.inr (11, fsX11 a_t t_thrown t_taped t_p t_fault t_baseLow t_baseHigh t_newBaseLow t_newBaseHigh t_from t_knots t_lines t_chosen t_undos t_redos t_aimedMany t_fits t_fitOf t_sights t_systems t_own t_cross t_curveLong t_wallFirst), IA E 7 t_many, IA E 144 t_way] h) 17 [some (.ref a_t), some (vI v1), some (vI v2), some (vI v3), some (vI v4), some (vI v5), some (vI v6), none, none] [] := by
  intro F
  induction F with
  | zero =>
    intro v5 v6 ok_v5 ok_v6 hs
    rw [m_X11_first_17] at hs
    cases hs
  | succ F ih =>
    intro v5 v6 ok_v5 ok_v6 hs
    rw [m_X11_first_17] at hs
    refine g_iload e_X11_first_17 rfl ?_
    refine g_bipush e_X11_first_19 bp_16 ?_
    refine g_aload_n e_X11_first_21 rfl ?_
    refine g_get 0 5 ao rfl rfl fsX11_g5 fl_X11_13 e_X11_first_22 ?_
    refine g_iconst e_X11_first_25 ?_
    refine g_iald 1 ao rfl rfl (Nat.le_of_ble_eq_true rfl) e_X11_first_26 hs (fun hi2 hs => ?_)
    refine g_imul e_X11_first_27 ?_
    obtain ⟨hc3, hs⟩ := chk_elim hs
    refine g_icmp_ge e_X11_first_28 ok_v6 hc3 hs (fun c28 hs => ?_) (fun c28 hs => ?_)
    · exact g_mask [true, true, true, true, true, true, false, true, true] (hk_129 _ _ ok_v5 ok_v6 hs)
    · refine g_iload e_X11_first_31 rfl ?_
      refine g_bipush e_X11_first_33 bp_15 ?_
      refine g_iand e_X11_first_35 ?_
      refine g_aload_n e_X11_first_36 rfl ?_
      refine g_get 0 5 ao rfl rfl fsX11_g5 fl_X11_13 e_X11_first_37 ?_
      refine g_iconst e_X11_first_40 ?_
      refine g_iald 1 ao rfl rfl (Nat.le_of_ble_eq_true rfl) e_X11_first_41 hs (fun hi4 hs => ?_)
      refine g_icmp_ge e_X11_first_42 (bAnd_I _ _) (ok_t_many _) hs (fun c42 hs => ?_) (fun c42 hs => ?_)
      · exact g_X11_first_86 ao ok_t_many ok_t_way ok_v1 ok_v2 ok_v3 ok_v4 ok_v5 ok_v6 ih hk_129 hs
      · refine g_aload_n e_X11_first_45 rfl ?_
        refine g_iload e_X11_first_46 rfl ?_
        refine g_iconst e_X11_first_48 ?_
        refine g_ishr e_X11_first_49 ?_
        refine g_iload e_X11_first_50 rfl ?_
        refine g_bipush e_X11_first_52 bp_15 ?_
        refine g_iand e_X11_first_54 ?_
        obtain ⟨y7, hy7, hs⟩ := bind_elim hs
        refine g_callVr [vI (bShr v6 4), vI (bAnd v6 15)] cv_X11_314 ⟨rfl, rfl, Nat.le_of_ble_eq_true rfl, Nat.le_of_ble_eq_true rfl⟩ (ct_X11_isIn (a_t := a_t) (AO_call [0, 1, 2] ao (by decide) rfl) (FA_call [0, 1, 2] ao.1 rfl rfl) ok_t_many ok_t_way (bShr_I _ _) (bAnd_I _ _) hy7) e_X11_first_55 (ao.2 0 _ rfl) (ov_get 0 ao.1 rfl rfl) rfl rfl rfl (Nat.le_of_ble_eq_true rfl) ⟨Nat.le_refl _, Nat.le_refl _⟩ (fun Py7 => ?_)
        refine g_if_eq e_X11_first_58 (inZ_I Py7) hs (fun c58 hs => ?_) (fun c58 hs => ?_)
        · exact g_X11_first_86 ao ok_t_many ok_t_way ok_v1 ok_v2 ok_v3 ok_v4 ok_v5 ok_v6 ih hk_129 hs
        · refine g_aload_n e_X11_first_61 rfl ?_
          refine g_iload_n e_X11_first_62 rfl ?_
          refine g_iload_n e_X11_first_63 rfl ?_
          refine g_iload_n e_X11_first_64 rfl ?_
          refine g_iload e_X11_first_65 rfl ?_
          refine g_iconst e_X11_first_67 ?_
          refine g_ishr e_X11_first_68 ?_
          refine g_iload e_X11_first_69 rfl ?_
          refine g_bipush e_X11_first_71 bp_15 ?_
          refine g_iand e_X11_first_73 ?_
          obtain ⟨y8, hy8, hs⟩ := bind_elim hs
          refine g_callVr [vI v1, vI v2, vI v3, vI (bShr v6 4), vI (bAnd v6 15)] cv_X11_319 ⟨rfl, rfl, Nat.le_of_ble_eq_true rfl, Nat.le_of_ble_eq_true rfl⟩ (ct_X11_above (a_t := a_t) (AO_call [0, 2] ao (by decide) rfl) (FA_call [0, 2] ao.1 rfl rfl) ok_t_way ok_v1 ok_v2 ok_v3 (bShr_I _ _) (bAnd_I _ _) hy8) e_X11_first_74 (ao.2 0 _ rfl) (ov_get 0 ao.1 rfl rfl) rfl rfl rfl (Nat.le_of_ble_eq_true rfl) ⟨Nat.le_refl _, Nat.le_refl _⟩ (fun Py8 => ?_)
          refine g_lconst (a := 0) e_X11_first_77 rfl ?_
          refine g_lcmp_le e_X11_first_78 e_X11_first_79 Py8 (by decide : inJ 0) hs (fun c78 hs => ?_) (fun c78 hs => ?_)
          · exact g_X11_first_86 ao ok_t_many ok_t_way ok_v1 ok_v2 ok_v3 ok_v4 ok_v5 ok_v6 ih hk_129 hs
          · refine g_iconst e_X11_first_82 ?_
            refine g_goto e_X11_first_83 ?_
            exact g_X11_first_87 ao ok_t_many ok_t_way ok_v1 ok_v2 ok_v3 ok_v4 ok_v5 ok_v6 (by decide : inZ 1) ih hk_129 hs

noncomputable def m_X11_first_234 (t_many : Nat → Int) (t_way : Nat → Int) (v1 : Int) (v2 : Int) (v3 : Int) (v4 : Int) (v5 : Int) (v7 : Int) (s0 : Int) (s1 : Int) (ag : Int → Int → Option (Int)) (k_243 : Int → Int → Option (Int)) (k_219 : Int → Int → Option (Int)) : Option (Int) :=
  chk (inI (s0 + s1)) (chk (inI (v7 + 1)) (ag (s0 + s1) (v7 + 1)))

set_option maxRecDepth 10000 in
set_option maxHeartbeats 8000000 in
theorem g_X11_first_234 {l : Launch} {E : EE} {b0 n : Nat} {h : AH} {a_t : Nat} {t_thrown t_taped t_p t_fault t_baseLow t_baseHigh t_newBaseLow t_newBaseHigh t_from t_knots t_lines t_chosen t_undos t_redos t_aimedMany t_fits t_fitOf t_sights t_systems t_own t_cross t_curveLong t_wallFirst v1 v2 v3 v4 v5 v7 s0 s1 : Int} {t_many t_way : Nat → Int} {r : Int} {ag : Int → Int → Option (Int)} {k_243 : Int → Int → Option (Int)} {k_219 : Int → Int → Option (Int)} (ao : AO b0 n [a_t, (a_t + 2), (a_t + 4)]) (ok_t_many : okA t_many) (ok_t_way : okA t_way) (ok_v1 : inI v1) (ok_v2 : inI v2) (ok_v3 : inI v3) (ok_v4 : inI v4) (ok_v5 : inI v5) (ok_v7 : inI v7) (ok_s0 : inI s0) (ok_s1 : inZ s1) (hag : ∀ (v6_ : Int) (v7_ : Int), inI v6_ → inI v7_ → ag v6_ v7_ = some r → G l E b0 M_X11_first (fun _ => True) (ZM E b0 (some (vI r)) (ov [a_t, (a_t + 2), (a_t + 4)] [.inr (11, fsX11 a_t t_thrown t_taped t_p t_fault t_baseLow t_baseHigh t_newBaseLow t_newBaseHigh t_from t_knots t_lines t_chosen t_undos t_redos t_aimedMany t_fits t_fitOf t_sights t_systems t_own t_cross t_curveLong t_wallFirst), IA E 7 t_many, IA E 144 t_way] h) n (inI r) 0 0) 0 0 n (ov [a_t, (a_t + 2), (a_t + 4)] [.inr (11, fsX11 a_t t_thrown t_taped t_p t_fault t_baseLow t_baseHigh t_newBaseLow t_newBaseHigh t_from t_knots t_lines t_chosen t_undos t_redos t_aimedMany t_fits t_fitOf t_sights t_systems t_own t_cross t_curveLong t_wallFirst), IA E 7 t_many, IA E 144 t_way] h) 136 [some (.ref a_t), some (vI v1), some (vI v2), some (vI v3), some (vI v4), some (vI v5), some (vI v6_), some (vI v7_), none] []) (hk_243 : ∀ (v6_ : Int) (v7_ : Int), inI v6_ → inI v7_ → k_243 v6_ v7_ = some r → G l E b0 M_X11_first (fun _ => True) (ZM E b0 (some (vI r)) (ov [a_t, (a_t + 2), (a_t + 4)] [.inr (11, fsX11 a_t t_thrown t_taped t_p t_fault t_baseLow t_baseHigh t_newBaseLow t_newBaseHigh t_from t_knots t_lines t_chosen t_undos t_redos t_aimedMany t_fits t_fitOf t_sights t_systems t_own t_cross t_curveLong t_wallFirst), IA E 7 t_many, IA E 144 t_way] h) n (inI r) 0 0) 0 0 n (ov [a_t, (a_t + 2), (a_t + 4)] [.inr (11, fsX11 a_t t_thrown t_taped t_p t_fault t_baseLow t_baseHigh t_newBaseLow t_newBaseHigh t_from t_knots t_lines t_chosen t_undos t_redos t_aimedMany t_fits t_fitOf t_sights t_systems t_own t_cross t_curveLong t_wallFirst), IA E 7 t_many, IA E 144 t_way] h) 243 [none, none, none, none, some (vI v4), none, some (vI v6_), none, none] []) (hk_219 : ∀ (v6_ : Int) (v7_ : Int), inI v6_ → inI v7_ → k_219 v6_ v7_ = some r → G l E b0 M_X11_first (fun _ => True) (ZM E b0 (some (vI r)) (ov [a_t, (a_t + 2), (a_t + 4)] [.inr (11, fsX11 a_t t_thrown t_taped t_p t_fault t_baseLow t_baseHigh t_newBaseLow t_newBaseHigh t_from t_knots t_lines t_chosen t_undos t_redos t_aimedMany t_fits t_fitOf t_sights t_systems t_own t_cross t_curveLong t_wallFirst), IA E 7 t_many, IA E 144 t_way] h) n (inI r) 0 0) 0 0 n (ov [a_t, (a_t + 2), (a_t + 4)] [.inr (11, fsX11 a_t t_thrown t_taped t_p t_fault t_baseLow t_baseHigh t_newBaseLow t_newBaseHigh t_from t_knots t_lines t_chosen t_undos t_redos t_aimedMany t_fits t_fitOf t_sights t_systems t_own t_cross t_curveLong t_wallFirst), IA E 7 t_many, IA E 144 t_way] h) 219 [none, none, none, none, none, none, none, some (vI v7_), none] []) (hs : m_X11_first_234 t_many t_way v1 v2 v3 v4 v5 v7 s0 s1 ag k_243 k_219 = some r) : G l E b0 M_X11_first (fun _ => True) (ZM E b0 (some (vI r)) (ov [a_t, (a_t + 2), (a_t + 4)] [.inr (11, fsX11 a_t t_thrown t_taped t_p t_fault t_baseLow t_baseHigh t_newBaseLow t_newBaseHigh t_from t_knots t_lines t_chosen t_undos t_redos t_aimedMany t_fits t_fitOf t_sights t_systems t_own t_cross t_curveLong t_wallFirst), IA E 7 t_many, IA E 144 t_way] h) n (inI r) 0 0) 0 0 n (ov [a_t, (a_t + 2), (a_t + 4)] [.inr (11, fsX11 a_t t_thrown t_taped t_p t_fault t_baseLow t_baseHigh t_newBaseLow t_newBaseHigh t_from t_knots t_lines t_chosen t_undos t_redos t_aimedMany t_fits t_fitOf t_sights t_systems t_own t_cross t_curveLong t_wallFirst), IA E 7 t_many, IA E 144 t_way] h) 234 [some (.ref a_t), some (vI v1), some (vI v2), some (vI v3), some (vI v4), some (vI v5), none, some (vI v7), none] [vI s1, vI s0] := by
  rw [m_X11_first_234] at hs
  refine g_iadd e_X11_first_234 ?_
  refine g_istore e_X11_first_235 st1_6 rfl ?_
  refine g_iinc e_X11_first_237 rfl st1_7 rfl ?_
  refine g_goto e_X11_first_240 ?_
  obtain ⟨hc12, hs⟩ := chk_elim hs
  obtain ⟨hc13, hs⟩ := chk_elim hs
  exact hag _ _ hc12 hc13 hs

noncomputable def m_X11_first_222 (t_many : Nat → Int) (t_way : Nat → Int) (v1 : Int) (v2 : Int) (v3 : Int) (v4 : Int) (v5 : Int) (v6 : Int) (v7 : Int) (v8 : Int) (ag : Int → Int → Option (Int)) (k_243 : Int → Int → Option (Int)) (k_219 : Int → Int → Option (Int)) : Option (Int) :=
  if v8 = 0 then (m_X11_first_234 t_many t_way v1 v2 v3 v4 v5 v7 v6 0 ag k_243 k_219) else (m_X11_first_234 t_many t_way v1 v2 v3 v4 v5 v7 v6 1 ag k_243 k_219)

set_option maxRecDepth 10000 in
set_option maxHeartbeats 8000000 in
theorem g_X11_first_222 {l : Launch} {E : EE} {b0 n : Nat} {h : AH} {a_t : Nat} {t_thrown t_taped t_p t_fault t_baseLow t_baseHigh t_newBaseLow t_newBaseHigh t_from t_knots t_lines t_chosen t_undos t_redos t_aimedMany t_fits t_fitOf t_sights t_systems t_own t_cross t_curveLong t_wallFirst v1 v2 v3 v4 v5 v6 v7 v8 : Int} {t_many t_way : Nat → Int} {r : Int} {ag : Int → Int → Option (Int)} {k_243 : Int → Int → Option (Int)} {k_219 : Int → Int → Option (Int)} (ao : AO b0 n [a_t, (a_t + 2), (a_t + 4)]) (ok_t_many : okA t_many) (ok_t_way : okA t_way) (ok_v1 : inI v1) (ok_v2 : inI v2) (ok_v3 : inI v3) (ok_v4 : inI v4) (ok_v5 : inI v5) (ok_v6 : inI v6) (ok_v7 : inI v7) (ok_v8 : inZ v8) (hag : ∀ (v6_ : Int) (v7_ : Int), inI v6_ → inI v7_ → ag v6_ v7_ = some r → G l E b0 M_X11_first (fun _ => True) (ZM E b0 (some (vI r)) (ov [a_t, (a_t + 2), (a_t + 4)] [.inr (11, fsX11 a_t t_thrown t_taped t_p t_fault t_baseLow t_baseHigh t_newBaseLow t_newBaseHigh t_from t_knots t_lines t_chosen t_undos t_redos t_aimedMany t_fits t_fitOf t_sights t_systems t_own t_cross t_curveLong t_wallFirst), IA E 7 t_many, IA E 144 t_way] h) n (inI r) 0 0) 0 0 n (ov [a_t, (a_t + 2), (a_t + 4)] [.inr (11, fsX11 a_t t_thrown t_taped t_p t_fault t_baseLow t_baseHigh t_newBaseLow t_newBaseHigh t_from t_knots t_lines t_chosen t_undos t_redos t_aimedMany t_fits t_fitOf t_sights t_systems t_own t_cross t_curveLong t_wallFirst), IA E 7 t_many, IA E 144 t_way] h) 136 [some (.ref a_t), some (vI v1), some (vI v2), some (vI v3), some (vI v4), some (vI v5), some (vI v6_), some (vI v7_), none] []) (hk_243 : ∀ (v6_ : Int) (v7_ : Int), inI v6_ → inI v7_ → k_243 v6_ v7_ = some r → G l E b0 M_X11_first (fun _ => True) (ZM E b0 (some (vI r)) (ov [a_t, (a_t + 2), (a_t + 4)] [.inr (11, fsX11 a_t t_thrown t_taped t_p t_fault t_baseLow t_baseHigh t_newBaseLow t_newBaseHigh t_from t_knots t_lines t_chosen t_undos t_redos t_aimedMany t_fits t_fitOf t_sights t_systems t_own t_cross t_curveLong t_wallFirst), IA E 7 t_many, IA E 144 t_way] h) n (inI r) 0 0) 0 0 n (ov [a_t, (a_t + 2), (a_t + 4)] [.inr (11, fsX11 a_t t_thrown t_taped t_p t_fault t_baseLow t_baseHigh t_newBaseLow t_newBaseHigh t_from t_knots t_lines t_chosen t_undos t_redos t_aimedMany t_fits t_fitOf t_sights t_systems t_own t_cross t_curveLong t_wallFirst), IA E 7 t_many, IA E 144 t_way] h) 243 [none, none, none, none, some (vI v4), none, some (vI v6_), none, none] []) (hk_219 : ∀ (v6_ : Int) (v7_ : Int), inI v6_ → inI v7_ → k_219 v6_ v7_ = some r → G l E b0 M_X11_first (fun _ => True) (ZM E b0 (some (vI r)) (ov [a_t, (a_t + 2), (a_t + 4)] [.inr (11, fsX11 a_t t_thrown t_taped t_p t_fault t_baseLow t_baseHigh t_newBaseLow t_newBaseHigh t_from t_knots t_lines t_chosen t_undos t_redos t_aimedMany t_fits t_fitOf t_sights t_systems t_own t_cross t_curveLong t_wallFirst), IA E 7 t_many, IA E 144 t_way] h) n (inI r) 0 0) 0 0 n (ov [a_t, (a_t + 2), (a_t + 4)] [.inr (11, fsX11 a_t t_thrown t_taped t_p t_fault t_baseLow t_baseHigh t_newBaseLow t_newBaseHigh t_from t_knots t_lines t_chosen t_undos t_redos t_aimedMany t_fits t_fitOf t_sights t_systems t_own t_cross t_curveLong t_wallFirst), IA E 7 t_many, IA E 144 t_way] h) 219 [none, none, none, none, none, none, none, some (vI v7_), none] []) (hs : m_X11_first_222 t_many t_way v1 v2 v3 v4 v5 v6 v7 v8 ag k_243 k_219 = some r) : G l E b0 M_X11_first (fun _ => True) (ZM E b0 (some (vI r)) (ov [a_t, (a_t + 2), (a_t + 4)] [.inr (11, fsX11 a_t t_thrown t_taped t_p t_fault t_baseLow t_baseHigh t_newBaseLow t_newBaseHigh t_from t_knots t_lines t_chosen t_undos t_redos t_aimedMany t_fits t_fitOf t_sights t_systems t_own t_cross t_curveLong t_wallFirst), IA E 7 t_many, IA E 144 t_way] h) n (inI r) 0 0) 0 0 n (ov [a_t, (a_t + 2), (a_t + 4)] [.inr (11, fsX11 a_t t_thrown t_taped t_p t_fault t_baseLow t_baseHigh t_newBaseLow t_newBaseHigh t_from t_knots t_lines t_chosen t_undos t_redos t_aimedMany t_fits t_fitOf t_sights t_systems t_own t_cross t_curveLong t_wallFirst), IA E 7 t_many, IA E 144 t_way] h) 222 [some (.ref a_t), some (vI v1), some (vI v2), some (vI v3), some (vI v4), some (vI v5), some (vI v6), some (vI v7), some (vI v8)] [] := by
  rw [m_X11_first_222] at hs
  refine g_iload e_X11_first_222 rfl ?_
  refine g_iload e_X11_first_224 rfl ?_
  refine g_if_eq e_X11_first_226 (inZ_I ok_v8) hs (fun c226 hs => ?_) (fun c226 hs => ?_)
  · refine g_iconst e_X11_first_233 ?_
    exact g_mask [true, true, true, true, true, true, false, true, false] (g_X11_first_234 ao ok_t_many ok_t_way ok_v1 ok_v2 ok_v3 ok_v4 ok_v5 ok_v7 ok_v6 (by decide : inZ 0) hag hk_243 hk_219 hs)
  · refine g_iconst e_X11_first_229 ?_
    refine g_goto e_X11_first_230 ?_
    exact g_mask [true, true, true, true, true, true, false, true, false] (g_X11_first_234 ao ok_t_many ok_t_way ok_v1 ok_v2 ok_v3 ok_v4 ok_v5 ok_v7 ok_v6 (by decide : inZ 1) hag hk_243 hk_219 hs)

noncomputable def m_X11_first_205 (t_many : Nat → Int) (t_way : Nat → Int) (v1 : Int) (v2 : Int) (v3 : Int) (v4 : Int) (v5 : Int) (v6 : Int) (v7 : Int) (s0 : Int) (ag : Int → Int → Option (Int)) (k_243 : Int → Int → Option (Int)) (k_219 : Int → Int → Option (Int)) : Option (Int) :=
  if s0 = 0 then (m_X11_first_222 t_many t_way v1 v2 v3 v4 v5 v6 v7 s0 ag k_243 k_219) else (if v6 = v4 then (some (v7)) else (m_X11_first_222 t_many t_way v1 v2 v3 v4 v5 v6 v7 s0 ag k_243 k_219))

set_option maxRecDepth 10000 in
set_option maxHeartbeats 8000000 in
theorem g_X11_first_205 {l : Launch} {E : EE} {b0 n : Nat} {h : AH} {a_t : Nat} {t_thrown t_taped t_p t_fault t_baseLow t_baseHigh t_newBaseLow t_newBaseHigh t_from t_knots t_lines t_chosen t_undos t_redos t_aimedMany t_fits t_fitOf t_sights t_systems t_own t_cross t_curveLong t_wallFirst v1 v2 v3 v4 v5 v6 v7 s0 : Int} {t_many t_way : Nat → Int} {r : Int} {ag : Int → Int → Option (Int)} {k_243 : Int → Int → Option (Int)} {k_219 : Int → Int → Option (Int)} (ao : AO b0 n [a_t, (a_t + 2), (a_t + 4)]) (ok_t_many : okA t_many) (ok_t_way : okA t_way) (ok_v1 : inI v1) (ok_v2 : inI v2) (ok_v3 : inI v3) (ok_v4 : inI v4) (ok_v5 : inI v5) (ok_v6 : inI v6) (ok_v7 : inI v7) (ok_s0 : inZ s0) (hag : ∀ (v6_ : Int) (v7_ : Int), inI v6_ → inI v7_ → ag v6_ v7_ = some r → G l E b0 M_X11_first (fun _ => True) (ZM E b0 (some (vI r)) (ov [a_t, (a_t + 2), (a_t + 4)] [.inr (11, fsX11 a_t t_thrown t_taped t_p t_fault t_baseLow t_baseHigh t_newBaseLow t_newBaseHigh t_from t_knots t_lines t_chosen t_undos t_redos t_aimedMany t_fits t_fitOf t_sights t_systems t_own t_cross t_curveLong t_wallFirst), IA E 7 t_many, IA E 144 t_way] h) n (inI r) 0 0) 0 0 n (ov [a_t, (a_t + 2), (a_t + 4)] [.inr (11, fsX11 a_t t_thrown t_taped t_p t_fault t_baseLow t_baseHigh t_newBaseLow t_newBaseHigh t_from t_knots t_lines t_chosen t_undos t_redos t_aimedMany t_fits t_fitOf t_sights t_systems t_own t_cross t_curveLong t_wallFirst), IA E 7 t_many, IA E 144 t_way] h) 136 [some (.ref a_t), some (vI v1), some (vI v2), some (vI v3), some (vI v4), some (vI v5), some (vI v6_), some (vI v7_), none] []) (hk_243 : ∀ (v6_ : Int) (v7_ : Int), inI v6_ → inI v7_ → k_243 v6_ v7_ = some r → G l E b0 M_X11_first (fun _ => True) (ZM E b0 (some (vI r)) (ov [a_t, (a_t + 2), (a_t + 4)] [.inr (11, fsX11 a_t t_thrown t_taped t_p t_fault t_baseLow t_baseHigh t_newBaseLow t_newBaseHigh t_from t_knots t_lines t_chosen t_undos t_redos t_aimedMany t_fits t_fitOf t_sights t_systems t_own t_cross t_curveLong t_wallFirst), IA E 7 t_many, IA E 144 t_way] h) n (inI r) 0 0) 0 0 n (ov [a_t, (a_t + 2), (a_t + 4)] [.inr (11, fsX11 a_t t_thrown t_taped t_p t_fault t_baseLow t_baseHigh t_newBaseLow t_newBaseHigh t_from t_knots t_lines t_chosen t_undos t_redos t_aimedMany t_fits t_fitOf t_sights t_systems t_own t_cross t_curveLong t_wallFirst), IA E 7 t_many, IA E 144 t_way] h) 243 [none, none, none, none, some (vI v4), none, some (vI v6_), none, none] []) (hk_219 : ∀ (v6_ : Int) (v7_ : Int), inI v6_ → inI v7_ → k_219 v6_ v7_ = some r → G l E b0 M_X11_first (fun _ => True) (ZM E b0 (some (vI r)) (ov [a_t, (a_t + 2), (a_t + 4)] [.inr (11, fsX11 a_t t_thrown t_taped t_p t_fault t_baseLow t_baseHigh t_newBaseLow t_newBaseHigh t_from t_knots t_lines t_chosen t_undos t_redos t_aimedMany t_fits t_fitOf t_sights t_systems t_own t_cross t_curveLong t_wallFirst), IA E 7 t_many, IA E 144 t_way] h) n (inI r) 0 0) 0 0 n (ov [a_t, (a_t + 2), (a_t + 4)] [.inr (11, fsX11 a_t t_thrown t_taped t_p t_fault t_baseLow t_baseHigh t_newBaseLow t_newBaseHigh t_from t_knots t_lines t_chosen t_undos t_redos t_aimedMany t_fits t_fitOf t_sights t_systems t_own t_cross t_curveLong t_wallFirst), IA E 7 t_many, IA E 144 t_way] h) 219 [none, none, none, none, none, none, none, some (vI v7_), none] []) (hs : m_X11_first_205 t_many t_way v1 v2 v3 v4 v5 v6 v7 s0 ag k_243 k_219 = some r) : G l E b0 M_X11_first (fun _ => True) (ZM E b0 (some (vI r)) (ov [a_t, (a_t + 2), (a_t + 4)] [.inr (11, fsX11 a_t t_thrown t_taped t_p t_fault t_baseLow t_baseHigh t_newBaseLow t_newBaseHigh t_from t_knots t_lines t_chosen t_undos t_redos t_aimedMany t_fits t_fitOf t_sights t_systems t_own t_cross t_curveLong t_wallFirst), IA E 7 t_many, IA E 144 t_way] h) n (inI r) 0 0) 0 0 n (ov [a_t, (a_t + 2), (a_t + 4)] [.inr (11, fsX11 a_t t_thrown t_taped t_p t_fault t_baseLow t_baseHigh t_newBaseLow t_newBaseHigh t_from t_knots t_lines t_chosen t_undos t_redos t_aimedMany t_fits t_fitOf t_sights t_systems t_own t_cross t_curveLong t_wallFirst), IA E 7 t_many, IA E 144 t_way] h) 205 [some (.ref a_t), some (vI v1), some (vI v2), some (vI v3), some (vI v4), some (vI v5), some (vI v6), some (vI v7), none] [vI s0] := by
  rw [m_X11_first_205] at hs
  refine g_istore e_X11_first_205 st1_8 rfl ?_
  refine g_iload e_X11_first_207 rfl ?_
  refine g_if_eq e_X11_first_209 (inZ_I ok_s0) hs (fun c209 hs => ?_) (fun c209 hs => ?_)
  · exact g_X11_first_222 ao ok_t_many ok_t_way ok_v1 ok_v2 ok_v3 ok_v4 ok_v5 ok_v6 ok_v7 ok_s0 hag hk_243 hk_219 hs
  · refine g_iload e_X11_first_212 rfl ?_
    refine g_iload e_X11_first_214 rfl ?_
    refine g_icmp_ne e_X11_first_216 ok_v6 ok_v4 hs (fun c216 hs => ?_) (fun c216 hs => ?_)
    · refine g_iload e_X11_first_219 rfl ?_
      obtain rfl := Option.some.inj hs
      exact g_iret rfl ok_v7 e_X11_first_221
    · exact g_X11_first_222 ao ok_t_many ok_t_way ok_v1 ok_v2 ok_v3 ok_v4 ok_v5 ok_v6 ok_v7 ok_s0 hag hk_243 hk_219 hs

noncomputable def m_X11_first_204 (t_many : Nat → Int) (t_way : Nat → Int) (v1 : Int) (v2 : Int) (v3 : Int) (v4 : Int) (v5 : Int) (v6 : Int) (v7 : Int) (ag : Int → Int → Option (Int)) (k_243 : Int → Int → Option (Int)) (k_219 : Int → Int → Option (Int)) : Option (Int) :=
  m_X11_first_205 t_many t_way v1 v2 v3 v4 v5 v6 v7 0 ag k_243 k_219

set_option maxRecDepth 10000 in
set_option maxHeartbeats 8000000 in
theorem g_X11_first_204 {l : Launch} {E : EE} {b0 n : Nat} {h : AH} {a_t : Nat} {t_thrown t_taped t_p t_fault t_baseLow t_baseHigh t_newBaseLow t_newBaseHigh t_from t_knots t_lines t_chosen t_undos t_redos t_aimedMany t_fits t_fitOf t_sights t_systems t_own t_cross t_curveLong t_wallFirst v1 v2 v3 v4 v5 v6 v7 : Int} {t_many t_way : Nat → Int} {r : Int} {ag : Int → Int → Option (Int)} {k_243 : Int → Int → Option (Int)} {k_219 : Int → Int → Option (Int)} (ao : AO b0 n [a_t, (a_t + 2), (a_t + 4)]) (ok_t_many : okA t_many) (ok_t_way : okA t_way) (ok_v1 : inI v1) (ok_v2 : inI v2) (ok_v3 : inI v3) (ok_v4 : inI v4) (ok_v5 : inI v5) (ok_v6 : inI v6) (ok_v7 : inI v7) (hag : ∀ (v6_ : Int) (v7_ : Int), inI v6_ → inI v7_ → ag v6_ v7_ = some r → G l E b0 M_X11_first (fun _ => True) (ZM E b0 (some (vI r)) (ov [a_t, (a_t + 2), (a_t + 4)] [.inr (11, fsX11 a_t t_thrown t_taped t_p t_fault t_baseLow t_baseHigh t_newBaseLow t_newBaseHigh t_from t_knots t_lines t_chosen t_undos t_redos t_aimedMany t_fits t_fitOf t_sights t_systems t_own t_cross t_curveLong t_wallFirst), IA E 7 t_many, IA E 144 t_way] h) n (inI r) 0 0) 0 0 n (ov [a_t, (a_t + 2), (a_t + 4)] [.inr (11, fsX11 a_t t_thrown t_taped t_p t_fault t_baseLow t_baseHigh t_newBaseLow t_newBaseHigh t_from t_knots t_lines t_chosen t_undos t_redos t_aimedMany t_fits t_fitOf t_sights t_systems t_own t_cross t_curveLong t_wallFirst), IA E 7 t_many, IA E 144 t_way] h) 136 [some (.ref a_t), some (vI v1), some (vI v2), some (vI v3), some (vI v4), some (vI v5), some (vI v6_), some (vI v7_), none] []) (hk_243 : ∀ (v6_ : Int) (v7_ : Int), inI v6_ → inI v7_ → k_243 v6_ v7_ = some r → G l E b0 M_X11_first (fun _ => True) (ZM E b0 (some (vI r)) (ov [a_t, (a_t + 2), (a_t + 4)] [.inr (11, fsX11 a_t t_thrown t_taped t_p t_fault t_baseLow t_baseHigh t_newBaseLow t_newBaseHigh t_from t_knots t_lines t_chosen t_undos t_redos t_aimedMany t_fits t_fitOf t_sights t_systems t_own t_cross t_curveLong t_wallFirst), IA E 7 t_many, IA E 144 t_way] h) n (inI r) 0 0) 0 0 n (ov [a_t, (a_t + 2), (a_t + 4)] [.inr (11, fsX11 a_t t_thrown t_taped t_p t_fault t_baseLow t_baseHigh t_newBaseLow t_newBaseHigh t_from t_knots t_lines t_chosen t_undos t_redos t_aimedMany t_fits t_fitOf t_sights t_systems t_own t_cross t_curveLong t_wallFirst), IA E 7 t_many, IA E 144 t_way] h) 243 [none, none, none, none, some (vI v4), none, some (vI v6_), none, none] []) (hk_219 : ∀ (v6_ : Int) (v7_ : Int), inI v6_ → inI v7_ → k_219 v6_ v7_ = some r → G l E b0 M_X11_first (fun _ => True) (ZM E b0 (some (vI r)) (ov [a_t, (a_t + 2), (a_t + 4)] [.inr (11, fsX11 a_t t_thrown t_taped t_p t_fault t_baseLow t_baseHigh t_newBaseLow t_newBaseHigh t_from t_knots t_lines t_chosen t_undos t_redos t_aimedMany t_fits t_fitOf t_sights t_systems t_own t_cross t_curveLong t_wallFirst), IA E 7 t_many, IA E 144 t_way] h) n (inI r) 0 0) 0 0 n (ov [a_t, (a_t + 2), (a_t + 4)] [.inr (11, fsX11 a_t t_thrown t_taped t_p t_fault t_baseLow t_baseHigh t_newBaseLow t_newBaseHigh t_from t_knots t_lines t_chosen t_undos t_redos t_aimedMany t_fits t_fitOf t_sights t_systems t_own t_cross t_curveLong t_wallFirst), IA E 7 t_many, IA E 144 t_way] h) 219 [none, none, none, none, none, none, none, some (vI v7_), none] []) (hs : m_X11_first_204 t_many t_way v1 v2 v3 v4 v5 v6 v7 ag k_243 k_219 = some r) : G l E b0 M_X11_first (fun _ => True) (ZM E b0 (some (vI r)) (ov [a_t, (a_t + 2), (a_t + 4)] [.inr (11, fsX11 a_t t_thrown t_taped t_p t_fault t_baseLow t_baseHigh t_newBaseLow t_newBaseHigh t_from t_knots t_lines t_chosen t_undos t_redos t_aimedMany t_fits t_fitOf t_sights t_systems t_own t_cross t_curveLong t_wallFirst), IA E 7 t_many, IA E 144 t_way] h) n (inI r) 0 0) 0 0 n (ov [a_t, (a_t + 2), (a_t + 4)] [.inr (11, fsX11 a_t t_thrown t_taped t_p t_fault t_baseLow t_baseHigh t_newBaseLow t_newBaseHigh t_from t_knots t_lines t_chosen t_undos t_redos t_aimedMany t_fits t_fitOf t_sights t_systems t_own t_cross t_curveLong t_wallFirst), IA E 7 t_many, IA E 144 t_way] h) 204 [some (.ref a_t), some (vI v1), some (vI v2), some (vI v3), some (vI v4), some (vI v5), some (vI v6), some (vI v7), none] [] := by
  rw [m_X11_first_204] at hs
  refine g_iconst e_X11_first_204 ?_
  exact g_X11_first_205 ao ok_t_many ok_t_way ok_v1 ok_v2 ok_v3 ok_v4 ok_v5 ok_v6 ok_v7 (by decide : inZ 0) hag hk_243 hk_219 hs

noncomputable def m_X11_first_136 (t_many : Nat → Int) (t_way : Nat → Int) (v1 : Int) (v2 : Int) (v3 : Int) (v4 : Int) (v5 : Int) (k_243 : Int → Int → Option (Int)) (k_219 : Int → Int → Option (Int)) : Nat → Int → Int → Option (Int)
  | 0, _, _ => none
  | F + 1, v6, v7 => if v5 = (-1) then (k_243 v6 v7) else (chk (inB 1 7) (chk (inI (16 * (t_many (Int.toNat 1)))) (if (16 * (t_many (Int.toNat 1))) ≤ v7 then (k_243 v6 v7) else (chk (inB 0 7) (if (t_many (Int.toNat 0)) ≤ (bAnd v7 15) then (m_X11_first_204 t_many t_way v1 v2 v3 v4 v5 v6 v7 (m_X11_first_136 t_many t_way v1 v2 v3 v4 v5 k_243 k_219 F) k_243 k_219) else ((m_X11_isIn t_many t_way (bShr v7 4) (bAnd v7 15)).bind (fun y14 => if y14 = 0 then (m_X11_first_204 t_many t_way v1 v2 v3 v4 v5 v6 v7 (m_X11_first_136 t_many t_way v1 v2 v3 v4 v5 k_243 k_219 F) k_243 k_219) else ((m_X11_compares t_way v1 v2 v3 v7 v5).bind (fun y15 => if y15 = 0 then (m_X11_first_205 t_many t_way v1 v2 v3 v4 v5 v6 v7 1 (m_X11_first_136 t_many t_way v1 v2 v3 v4 v5 k_243 k_219 F) k_243 k_219) else (m_X11_first_204 t_many t_way v1 v2 v3 v4 v5 v6 v7 (m_X11_first_136 t_many t_way v1 v2 v3 v4 v5 k_243 k_219 F) k_243 k_219))))))))))

set_option maxRecDepth 10000 in
set_option maxHeartbeats 8000000 in
theorem g_X11_first_136 {l : Launch} {E : EE} {b0 n : Nat} {h : AH} {a_t : Nat} {t_thrown t_taped t_p t_fault t_baseLow t_baseHigh t_newBaseLow t_newBaseHigh t_from t_knots t_lines t_chosen t_undos t_redos t_aimedMany t_fits t_fitOf t_sights t_systems t_own t_cross t_curveLong t_wallFirst v1 v2 v3 v4 v5 : Int} {t_many t_way : Nat → Int} {r : Int} {k_243 : Int → Int → Option (Int)} {k_219 : Int → Int → Option (Int)} (ao : AO b0 n [a_t, (a_t + 2), (a_t + 4)]) (ok_t_many : okA t_many) (ok_t_way : okA t_way) (ok_v1 : inI v1) (ok_v2 : inI v2) (ok_v3 : inI v3) (ok_v4 : inI v4) (ok_v5 : inI v5) (hk_243 : ∀ (v6_ : Int) (v7_ : Int), inI v6_ → inI v7_ → k_243 v6_ v7_ = some r → G l E b0 M_X11_first (fun _ => True) (ZM E b0 (some (vI r)) (ov [a_t, (a_t + 2), (a_t + 4)] [.inr (11, fsX11 a_t t_thrown t_taped t_p t_fault t_baseLow t_baseHigh t_newBaseLow t_newBaseHigh t_from t_knots t_lines t_chosen t_undos t_redos t_aimedMany t_fits t_fitOf t_sights t_systems t_own t_cross t_curveLong t_wallFirst), IA E 7 t_many, IA E 144 t_way] h) n (inI r) 0 0) 0 0 n (ov [a_t, (a_t + 2), (a_t + 4)] [.inr (11, fsX11 a_t t_thrown t_taped t_p t_fault t_baseLow t_baseHigh t_newBaseLow t_newBaseHigh t_from t_knots t_lines t_chosen t_undos t_redos t_aimedMany t_fits t_fitOf t_sights t_systems t_own t_cross t_curveLong t_wallFirst), IA E 7 t_many, IA E 144 t_way] h) 243 [none, none, none, none, some (vI v4), none, some (vI v6_), none, none] []) (hk_219 : ∀ (v6_ : Int) (v7_ : Int), inI v6_ → inI v7_ → k_219 v6_ v7_ = some r → G l E b0 M_X11_first (fun _ => True) (ZM E b0 (some (vI r)) (ov [a_t, (a_t + 2), (a_t + 4)] [.inr (11, fsX11 a_t t_thrown t_taped t_p t_fault t_baseLow t_baseHigh t_newBaseLow t_newBaseHigh t_from t_knots t_lines t_chosen t_undos t_redos t_aimedMany t_fits t_fitOf t_sights t_systems t_own t_cross t_curveLong t_wallFirst), IA E 7 t_many, IA E 144 t_way] h) n (inI r) 0 0) 0 0 n (ov [a_t, (a_t + 2), (a_t + 4)] [.inr (11, fsX11 a_t t_thrown t_taped t_p t_fault t_baseLow t_baseHigh t_newBaseLow t_newBaseHigh t_from t_knots t_lines t_chosen t_undos t_redos t_aimedMany t_fits t_fitOf t_sights t_systems t_own t_cross t_curveLong t_wallFirst), IA E 7 t_many, IA E 144 t_way] h) 219 [none, none, none, none, none, none, none, some (vI v7_), none] []) :
    ∀ (F : Nat) (v6 : Int) (v7 : Int), inI v6 → inI v7 → m_X11_first_136 t_many t_way v1 v2 v3 v4 v5 k_243 k_219 F v6 v7 = some r → G l E b0 M_X11_first (fun _ => True) (ZM E b0 (some (vI r)) (ov [a_t, (a_t + 2), (a_t + 4)] [.inr (11, fsX11 a_t t_thrown t_taped t_p t_fault t_baseLow t_baseHigh t_newBaseLow t_newBaseHigh t_from t_knots t_lines t_chosen t_undos t_redos t_aimedMany t_fits t_fitOf t_sights t_systems t_own t_cross t_curveLong t_wallFirst), IA E 7 t_many, IA E 144 t_way] h) n (inI r) 0 0) 0 0 n (ov [a_t, (a_t + 2), (a_t + 4)] [.inr (11, fsX11 a_t t_thrown t_taped t_p t_fault t_baseLow t_baseHigh t_newBaseLow t_newBaseHigh t_from t_knots t_lines t_chosen t_undos t_redos t_aimedMany t_fits t_fitOf t_sights t_systems t_own t_cross t_curveLong t_wallFirst), IA E 7 t_many, IA E 144 t_way] h) 136 [some (.ref a_t), some (vI v1), some (vI v2), some (vI v3), some (vI v4), some (vI v5), some (vI v6), some (vI v7), none] [] := by
  intro F
  induction F with
  | zero =>
    intro v6 v7 ok_v6 ok_v7 hs
    rw [m_X11_first_136] at hs
    cases hs
  | succ F ih =>
    intro v6 v7 ok_v6 ok_v7 hs
    rw [m_X11_first_136] at hs
    refine g_iload e_X11_first_136 rfl ?_
    refine g_iconst e_X11_first_138 ?_
    refine g_icmp_eq e_X11_first_139 ok_v5 (by decide : inI (-1)) hs (fun c139 hs => ?_) (fun c139 hs => ?_)
    · exact g_mask [false, false, false, false, true, false, true, false, true] (hk_243 _ _ ok_v6 ok_v7 hs)
    · refine g_iload e_X11_first_142 rfl ?_
      refine g_bipush e_X11_first_144 bp_16 ?_
      refine g_aload_n e_X11_first_146 rfl ?_
      refine g_get 0 5 ao rfl rfl fsX11_g5 fl_X11_13 e_X11_first_147 ?_
      refine g_iconst e_X11_first_150 ?_
      refine g_iald 1 ao rfl rfl (Nat.le_of_ble_eq_true rfl) e_X11_first_151 hs (fun hi9 hs => ?_)
      refine g_imul e_X11_first_152 ?_
      obtain ⟨hc10, hs⟩ := chk_elim hs
      refine g_icmp_ge e_X11_first_153 ok_v7 hc10 hs (fun c153 hs => ?_) (fun c153 hs => ?_)
      · exact g_mask [false, false, false, false, true, false, true, false, true] (hk_243 _ _ ok_v6 ok_v7 hs)
      · refine g_iload e_X11_first_156 rfl ?_
        refine g_bipush e_X11_first_158 bp_15 ?_
        refine g_iand e_X11_first_160 ?_
        refine g_aload_n e_X11_first_161 rfl ?_
        refine g_get 0 5 ao rfl rfl fsX11_g5 fl_X11_13 e_X11_first_162 ?_
        refine g_iconst e_X11_first_165 ?_
        refine g_iald 1 ao rfl rfl (Nat.le_of_ble_eq_true rfl) e_X11_first_166 hs (fun hi11 hs => ?_)
        refine g_icmp_ge e_X11_first_167 (bAnd_I _ _) (ok_t_many _) hs (fun c167 hs => ?_) (fun c167 hs => ?_)
        · exact g_X11_first_204 ao ok_t_many ok_t_way ok_v1 ok_v2 ok_v3 ok_v4 ok_v5 ok_v6 ok_v7 ih hk_243 hk_219 hs
        · refine g_aload_n e_X11_first_170 rfl ?_
          refine g_iload e_X11_first_171 rfl ?_
          refine g_iconst e_X11_first_173 ?_
          refine g_ishr e_X11_first_174 ?_
          refine g_iload e_X11_first_175 rfl ?_
          refine g_bipush e_X11_first_177 bp_15 ?_
          refine g_iand e_X11_first_179 ?_
          obtain ⟨y14, hy14, hs⟩ := bind_elim hs
          refine g_callVr [vI (bShr v7 4), vI (bAnd v7 15)] cv_X11_314 ⟨rfl, rfl, Nat.le_of_ble_eq_true rfl, Nat.le_of_ble_eq_true rfl⟩ (ct_X11_isIn (a_t := a_t) (AO_call [0, 1, 2] ao (by decide) rfl) (FA_call [0, 1, 2] ao.1 rfl rfl) ok_t_many ok_t_way (bShr_I _ _) (bAnd_I _ _) hy14) e_X11_first_180 (ao.2 0 _ rfl) (ov_get 0 ao.1 rfl rfl) rfl rfl rfl (Nat.le_of_ble_eq_true rfl) ⟨Nat.le_refl _, Nat.le_refl _⟩ (fun Py14 => ?_)
          refine g_if_eq e_X11_first_183 (inZ_I Py14) hs (fun c183 hs => ?_) (fun c183 hs => ?_)
          · exact g_X11_first_204 ao ok_t_many ok_t_way ok_v1 ok_v2 ok_v3 ok_v4 ok_v5 ok_v6 ok_v7 ih hk_243 hk_219 hs
          · refine g_aload_n e_X11_first_186 rfl ?_
            refine g_iload_n e_X11_first_187 rfl ?_
            refine g_iload_n e_X11_first_188 rfl ?_
            refine g_iload_n e_X11_first_189 rfl ?_
            refine g_iload e_X11_first_190 rfl ?_
            refine g_iload e_X11_first_192 rfl ?_
            obtain ⟨y15, hy15, hs⟩ := bind_elim hs
            refine g_callVr [vI v1, vI v2, vI v3, vI v7, vI v5] cv_X11_326 ⟨rfl, rfl, Nat.le_of_ble_eq_true rfl, Nat.le_of_ble_eq_true rfl⟩ (ct_X11_compares (a_t := a_t) (AO_call [0, 2] ao (by decide) rfl) (FA_call [0, 2] ao.1 rfl rfl) ok_t_way ok_v1 ok_v2 ok_v3 ok_v7 ok_v5 hy15) e_X11_first_194 (ao.2 0 _ rfl) (ov_get 0 ao.1 rfl rfl) rfl rfl rfl (Nat.le_of_ble_eq_true rfl) ⟨Nat.le_refl _, Nat.le_refl _⟩ (fun Py15 => ?_)
            refine g_if_ne e_X11_first_197 Py15 hs (fun c197 hs => ?_) (fun c197 hs => ?_)
            · refine g_iconst e_X11_first_200 ?_
              refine g_goto e_X11_first_201 ?_
              exact g_X11_first_205 ao ok_t_many ok_t_way ok_v1 ok_v2 ok_v3 ok_v4 ok_v5 ok_v6 ok_v7 (by decide : inZ 1) ih hk_243 hk_219 hs
            · exact g_X11_first_204 ao ok_t_many ok_t_way ok_v1 ok_v2 ok_v3 ok_v4 ok_v5 ok_v6 ok_v7 ih hk_243 hk_219 hs

noncomputable def m_X11_first_243 (v4 : Int) (v6 : Int) : Option (Int) :=
  if v4 = (-1) then (some (v6)) else (some ((-1)))

set_option maxRecDepth 10000 in
set_option maxHeartbeats 8000000 in
theorem g_X11_first_243 {l : Launch} {E : EE} {b0 n : Nat} {h : AH} {a_t : Nat} {t_thrown t_taped t_p t_fault t_baseLow t_baseHigh t_newBaseLow t_newBaseHigh t_from t_knots t_lines t_chosen t_undos t_redos t_aimedMany t_fits t_fitOf t_sights t_systems t_own t_cross t_curveLong t_wallFirst v4 v6 : Int} {t_many t_way : Nat → Int} {r : Int} (ao : AO b0 n [a_t, (a_t + 2), (a_t + 4)]) (ok_t_many : okA t_many) (ok_t_way : okA t_way) (ok_v4 : inI v4) (ok_v6 : inI v6) (hs : m_X11_first_243 v4 v6 = some r) : G l E b0 M_X11_first (fun _ => True) (ZM E b0 (some (vI r)) (ov [a_t, (a_t + 2), (a_t + 4)] [.inr (11, fsX11 a_t t_thrown t_taped t_p t_fault t_baseLow t_baseHigh t_newBaseLow t_newBaseHigh t_from t_knots t_lines t_chosen t_undos t_redos t_aimedMany t_fits t_fitOf t_sights t_systems t_own t_cross t_curveLong t_wallFirst), IA E 7 t_many, IA E 144 t_way] h) n (inI r) 0 0) 0 0 n (ov [a_t, (a_t + 2), (a_t + 4)] [.inr (11, fsX11 a_t t_thrown t_taped t_p t_fault t_baseLow t_baseHigh t_newBaseLow t_newBaseHigh t_from t_knots t_lines t_chosen t_undos t_redos t_aimedMany t_fits t_fitOf t_sights t_systems t_own t_cross t_curveLong t_wallFirst), IA E 7 t_many, IA E 144 t_way] h) 243 [none, none, none, none, some (vI v4), none, some (vI v6), none, none] [] := by
  rw [m_X11_first_243] at hs
  refine g_iload e_X11_first_243 rfl ?_
  refine g_iconst e_X11_first_245 ?_
  refine g_icmp_ne e_X11_first_246 ok_v4 (by decide : inI (-1)) hs (fun c246 hs => ?_) (fun c246 hs => ?_)
  · refine g_iload e_X11_first_249 rfl ?_
    refine g_goto e_X11_first_251 ?_
    obtain rfl := Option.some.inj hs
    exact g_iret rfl ok_v6 e_X11_first_255
  · refine g_iconst e_X11_first_254 ?_
    obtain rfl := Option.some.inj hs
    exact g_iret rfl (by decide : inI (-1)) e_X11_first_255

noncomputable def m_X11_first_219 (v7 : Int) : Option (Int) :=
  some (v7)

set_option maxRecDepth 10000 in
set_option maxHeartbeats 8000000 in
theorem g_X11_first_219 {l : Launch} {E : EE} {b0 n : Nat} {h : AH} {a_t : Nat} {t_thrown t_taped t_p t_fault t_baseLow t_baseHigh t_newBaseLow t_newBaseHigh t_from t_knots t_lines t_chosen t_undos t_redos t_aimedMany t_fits t_fitOf t_sights t_systems t_own t_cross t_curveLong t_wallFirst v7 : Int} {t_many t_way : Nat → Int} {r : Int} (ao : AO b0 n [a_t, (a_t + 2), (a_t + 4)]) (ok_t_many : okA t_many) (ok_t_way : okA t_way) (ok_v7 : inI v7) (hs : m_X11_first_219 v7 = some r) : G l E b0 M_X11_first (fun _ => True) (ZM E b0 (some (vI r)) (ov [a_t, (a_t + 2), (a_t + 4)] [.inr (11, fsX11 a_t t_thrown t_taped t_p t_fault t_baseLow t_baseHigh t_newBaseLow t_newBaseHigh t_from t_knots t_lines t_chosen t_undos t_redos t_aimedMany t_fits t_fitOf t_sights t_systems t_own t_cross t_curveLong t_wallFirst), IA E 7 t_many, IA E 144 t_way] h) n (inI r) 0 0) 0 0 n (ov [a_t, (a_t + 2), (a_t + 4)] [.inr (11, fsX11 a_t t_thrown t_taped t_p t_fault t_baseLow t_baseHigh t_newBaseLow t_newBaseHigh t_from t_knots t_lines t_chosen t_undos t_redos t_aimedMany t_fits t_fitOf t_sights t_systems t_own t_cross t_curveLong t_wallFirst), IA E 7 t_many, IA E 144 t_way] h) 219 [none, none, none, none, none, none, none, some (vI v7), none] [] := by
  rw [m_X11_first_219] at hs
  refine g_iload e_X11_first_219 rfl ?_
  obtain rfl := Option.some.inj hs
  exact g_iret rfl ok_v7 e_X11_first_221

noncomputable def m_X11_first_129 (t_many : Nat → Int) (t_way : Nat → Int) (v1 : Int) (v2 : Int) (v3 : Int) (v4 : Int) (v5 : Int) : Option (Int) :=
  m_X11_first_136 t_many t_way v1 v2 v3 v4 v5 (fun v6' v7' => m_X11_first_243 v4 v6') (fun v6' v7' => m_X11_first_219 v7') FU 0 v5

set_option maxRecDepth 10000 in
set_option maxHeartbeats 8000000 in
theorem g_X11_first_129 {l : Launch} {E : EE} {b0 n : Nat} {h : AH} {a_t : Nat} {t_thrown t_taped t_p t_fault t_baseLow t_baseHigh t_newBaseLow t_newBaseHigh t_from t_knots t_lines t_chosen t_undos t_redos t_aimedMany t_fits t_fitOf t_sights t_systems t_own t_cross t_curveLong t_wallFirst v1 v2 v3 v4 v5 : Int} {t_many t_way : Nat → Int} {r : Int} (ao : AO b0 n [a_t, (a_t + 2), (a_t + 4)]) (ok_t_many : okA t_many) (ok_t_way : okA t_way) (ok_v1 : inI v1) (ok_v2 : inI v2) (ok_v3 : inI v3) (ok_v4 : inI v4) (ok_v5 : inI v5) (hs : m_X11_first_129 t_many t_way v1 v2 v3 v4 v5 = some r) : G l E b0 M_X11_first (fun _ => True) (ZM E b0 (some (vI r)) (ov [a_t, (a_t + 2), (a_t + 4)] [.inr (11, fsX11 a_t t_thrown t_taped t_p t_fault t_baseLow t_baseHigh t_newBaseLow t_newBaseHigh t_from t_knots t_lines t_chosen t_undos t_redos t_aimedMany t_fits t_fitOf t_sights t_systems t_own t_cross t_curveLong t_wallFirst), IA E 7 t_many, IA E 144 t_way] h) n (inI r) 0 0) 0 0 n (ov [a_t, (a_t + 2), (a_t + 4)] [.inr (11, fsX11 a_t t_thrown t_taped t_p t_fault t_baseLow t_baseHigh t_newBaseLow t_newBaseHigh t_from t_knots t_lines t_chosen t_undos t_redos t_aimedMany t_fits t_fitOf t_sights t_systems t_own t_cross t_curveLong t_wallFirst), IA E 7 t_many, IA E 144 t_way] h) 129 [some (.ref a_t), some (vI v1), some (vI v2), some (vI v3), some (vI v4), some (vI v5), none, none, none] [] := by
  rw [m_X11_first_129] at hs
  refine g_iconst e_X11_first_129 ?_
  refine g_istore e_X11_first_130 st1_6 rfl ?_
  refine g_iload e_X11_first_132 rfl ?_
  refine g_istore e_X11_first_134 st1_7 rfl ?_
  exact g_X11_first_136 ao ok_t_many ok_t_way ok_v1 ok_v2 ok_v3 ok_v4 ok_v5 (hk_243 := by
      intro v6' v7' ok_v6' ok_v7' hs
      exact g_X11_first_243 ao ok_t_many ok_t_way ok_v4 ok_v6' hs) (hk_219 := by
      intro v6' v7' ok_v6' ok_v7' hs
      exact g_X11_first_219 ao ok_t_many ok_t_way ok_v7' hs) FU _ _ (by decide : inI 0) ok_v5 hs

noncomputable def m_X11_first_0 (t_many : Nat → Int) (t_way : Nat → Int) (v1 : Int) (v2 : Int) (v3 : Int) (v4 : Int) : Option (Int) :=
  (m_X11_isPull v1 v2 v3).bind (fun y1 => if y1 = 0 then (some ((-1))) else (m_X11_first_17 t_many t_way v1 v2 v3 (fun v5' v6' => m_X11_first_129 t_many t_way v1 v2 v3 v4 v5') FU (-1) 0))

set_option maxRecDepth 10000 in
set_option maxHeartbeats 8000000 in
theorem g_X11_first_0 {l : Launch} {E : EE} {b0 n : Nat} {h : AH} {a_t : Nat} {t_thrown t_taped t_p t_fault t_baseLow t_baseHigh t_newBaseLow t_newBaseHigh t_from t_knots t_lines t_chosen t_undos t_redos t_aimedMany t_fits t_fitOf t_sights t_systems t_own t_cross t_curveLong t_wallFirst v1 v2 v3 v4 : Int} {t_many t_way : Nat → Int} {r : Int} (ao : AO b0 n [a_t, (a_t + 2), (a_t + 4)]) (ok_t_many : okA t_many) (ok_t_way : okA t_way) (ok_v1 : inI v1) (ok_v2 : inI v2) (ok_v3 : inI v3) (ok_v4 : inI v4) (hs : m_X11_first_0 t_many t_way v1 v2 v3 v4 = some r) : G l E b0 M_X11_first (fun _ => True) (ZM E b0 (some (vI r)) (ov [a_t, (a_t + 2), (a_t + 4)] [.inr (11, fsX11 a_t t_thrown t_taped t_p t_fault t_baseLow t_baseHigh t_newBaseLow t_newBaseHigh t_from t_knots t_lines t_chosen t_undos t_redos t_aimedMany t_fits t_fitOf t_sights t_systems t_own t_cross t_curveLong t_wallFirst), IA E 7 t_many, IA E 144 t_way] h) n (inI r) 0 0) 0 0 n (ov [a_t, (a_t + 2), (a_t + 4)] [.inr (11, fsX11 a_t t_thrown t_taped t_p t_fault t_baseLow t_baseHigh t_newBaseLow t_newBaseHigh t_from t_knots t_lines t_chosen t_undos t_redos t_aimedMany t_fits t_fitOf t_sights t_systems t_own t_cross t_curveLong t_wallFirst), IA E 7 t_many, IA E 144 t_way] h) 0 [some (.ref a_t), some (vI v1), some (vI v2), some (vI v3), some (vI v4), none, none, none, none] [] := by
  rw [m_X11_first_0] at hs
  refine g_iload_n e_X11_first_0 rfl ?_
  refine g_iload_n e_X11_first_1 rfl ?_
  refine g_iload_n e_X11_first_2 rfl ?_
  obtain ⟨y1, hy1, hs⟩ := bind_elim hs
  refine g_callSr [vI v1, vI v2, vI v3] cs_X11_311 ⟨rfl, rfl, Nat.le_of_ble_eq_true rfl, Nat.le_of_ble_eq_true rfl⟩ (ct_X11_isPull ⟨List.nodup_nil, fun i a h => by simp at h⟩ (fun i a e h => by simp at h) ok_v1 ok_v2 ok_v3 hy1) e_X11_first_3 rfl rfl (Nat.le_of_ble_eq_true rfl) ⟨Nat.le_refl _, Nat.le_refl _⟩ (fun Py1 => ?_)
  refine g_if_ne e_X11_first_6 (inZ_I Py1) hs (fun c6 hs => ?_) (fun c6 hs => ?_)
  · refine g_iconst e_X11_first_9 ?_
    obtain rfl := Option.some.inj hs
    exact g_iret rfl (by decide : inI (-1)) e_X11_first_10
  · refine g_iconst e_X11_first_11 ?_
    refine g_istore e_X11_first_12 st1_5 rfl ?_
    refine g_iconst e_X11_first_14 ?_
    refine g_istore e_X11_first_15 st1_6 rfl ?_
    exact g_X11_first_17 ao ok_t_many ok_t_way ok_v1 ok_v2 ok_v3 ok_v4 (hk_129 := by
      intro v5' v6' ok_v5' ok_v6' hs
      exact g_X11_first_129 ao ok_t_many ok_t_way ok_v1 ok_v2 ok_v3 ok_v4 ok_v5' hs) FU _ _ (by decide : inI (-1)) (by decide : inI 0) hs

noncomputable def m_X11_first (t_many : Nat → Int) (t_way : Nat → Int) (v1 : Int) (v2 : Int) (v3 : Int) (v4 : Int) : Option (Int) := m_X11_first_0 t_many t_way v1 v2 v3 v4

set_option maxRecDepth 10000 in
set_option maxHeartbeats 8000000 in
theorem ct_X11_first {l : Launch} {E : EE} {b0 n : Nat} {h : AH} {a_t : Nat} {t_thrown t_taped t_p t_fault t_baseLow t_baseHigh t_newBaseLow t_newBaseHigh t_from t_knots t_lines t_chosen t_undos t_redos t_aimedMany t_fits t_fitOf t_sights t_systems t_own t_cross t_curveLong t_wallFirst : Int} {t_many t_way : Nat → Int} {v1 v2 v3 v4 : Int} (ao : AO b0 n [a_t, (a_t + 2), (a_t + 4)]) (hf : FA h [a_t, (a_t + 2), (a_t + 4)] [.inr (11, fsX11 a_t t_thrown t_taped t_p t_fault t_baseLow t_baseHigh t_newBaseLow t_newBaseHigh t_from t_knots t_lines t_chosen t_undos t_redos t_aimedMany t_fits t_fitOf t_sights t_systems t_own t_cross t_curveLong t_wallFirst), IA E 7 t_many, IA E 144 t_way]) (ok_t_many : okA t_many) (ok_t_way : okA t_way) (ok_v1 : inI v1) (ok_v2 : inI v2) (ok_v3 : inI v3) (ok_v4 : inI v4) {r : Int} (hm : m_X11_first t_many t_way v1 v2 v3 v4 = some r) : Ct l E b0 M_X11_first 0 0 [.ref a_t, vI v1, vI v2, vI v3, vI v4] h n (some (vI r)) h n (inI r) := by
  rw [m_X11_first] at hm
  have hg : G l E b0 M_X11_first (fun _ => True) (ZM E b0 (some (vI r)) (ov [a_t, (a_t + 2), (a_t + 4)] [.inr (11, fsX11 a_t t_thrown t_taped t_p t_fault t_baseLow t_baseHigh t_newBaseLow t_newBaseHigh t_from t_knots t_lines t_chosen t_undos t_redos t_aimedMany t_fits t_fitOf t_sights t_systems t_own t_cross t_curveLong t_wallFirst), IA E 7 t_many, IA E 144 t_way] h) n (inI r) 0 0) 0 0 n (ov [a_t, (a_t + 2), (a_t + 4)] [.inr (11, fsX11 a_t t_thrown t_taped t_p t_fault t_baseLow t_baseHigh t_newBaseLow t_newBaseHigh t_from t_knots t_lines t_chosen t_undos t_redos t_aimedMany t_fits t_fitOf t_sights t_systems t_own t_cross t_curveLong t_wallFirst), IA E 7 t_many, IA E 144 t_way] h) 0 [some (.ref a_t), some (vI v1), some (vI v2), some (vI v3), some (vI v4), none, none, none, none] [] := by
    have hs := hm
    exact g_X11_first_0 ao ok_t_many ok_t_way ok_v1 ok_v2 ok_v3 ok_v4 hs
  rw [FA_id hf] at hg
  exact Ct_of [some (.ref a_t), some (vI v1), some (vI v2), some (vI v3), some (vI v4), none, none, none, none] ⟨by decide +kernel, rfl⟩ rfl (Nat.le_of_ble_eq_true rfl) hg

/-! ===== X11_takes ===== -/
theorem e_X11_takes_0 : DC cX11_takes 0 (.iconst 0) 1 1 := ⟨by decide +kernel, rfl⟩
theorem e_X11_takes_1 : DC cX11_takes 1 (.istore 5) 2 3 := ⟨by decide +kernel, rfl⟩
theorem e_X11_takes_3 : DC cX11_takes 3 (.iload 5) 2 5 := ⟨by decide +kernel, rfl⟩
theorem e_X11_takes_5 : DC cX11_takes 5 (.bipush 100) 2 7 := ⟨by decide +kernel, rfl⟩
theorem e_X11_takes_7 : DB cX11_takes 7 (.if_icmp .ge 22) (22) 3 10 29 := ⟨by decide +kernel, rfl, rfl⟩
theorem e_X11_takes_10 : DC cX11_takes 10 (.aload_n 0) 1 11 := ⟨by decide +kernel, rfl⟩
theorem e_X11_takes_11 : DC cX11_takes 11 (.getfield 81) 3 14 := ⟨by decide +kernel, rfl⟩
theorem e_X11_takes_14 : DC cX11_takes 14 (.iload 5) 2 16 := ⟨by decide +kernel, rfl⟩
theorem e_X11_takes_16 : DC cX11_takes 16 (.aload_n 1) 1 17 := ⟨by decide +kernel, rfl⟩
theorem e_X11_takes_17 : DC cX11_takes 17 (.iload_n 2) 1 18 := ⟨by decide +kernel, rfl⟩
theorem e_X11_takes_18 : DC cX11_takes 18 (.iload 5) 2 20 := ⟨by decide +kernel, rfl⟩
theorem e_X11_takes_20 : DC cX11_takes 20 (.iadd) 1 21 := ⟨by decide +kernel, rfl⟩
theorem e_X11_takes_21 : DC cX11_takes 21 (.iaload) 1 22 := ⟨by decide +kernel, rfl⟩
theorem e_X11_takes_22 : DC cX11_takes 22 (.iastore) 1 23 := ⟨by decide +kernel, rfl⟩
theorem e_X11_takes_23 : DC cX11_takes 23 (.iinc 5 1) 3 26 := ⟨by decide +kernel, rfl⟩
theorem e_X11_takes_26 : DB cX11_takes 26 (.goto (-23)) (-23) 3 29 3 := ⟨by decide +kernel, rfl, rfl⟩
theorem e_X11_takes_29 : DC cX11_takes 29 (.iconst 0) 1 30 := ⟨by decide +kernel, rfl⟩
theorem e_X11_takes_30 : DC cX11_takes 30 (.istore 5) 2 32 := ⟨by decide +kernel, rfl⟩
theorem e_X11_takes_32 : DC cX11_takes 32 (.iload 5) 2 34 := ⟨by decide +kernel, rfl⟩
theorem e_X11_takes_34 : DC cX11_takes 34 (.bipush 6) 2 36 := ⟨by decide +kernel, rfl⟩
theorem e_X11_takes_36 : DB cX11_takes 36 (.if_icmp .ge 23) (23) 3 39 59 := ⟨by decide +kernel, rfl, rfl⟩
theorem e_X11_takes_39 : DC cX11_takes 39 (.aload_n 0) 1 40 := ⟨by decide +kernel, rfl⟩
theorem e_X11_takes_40 : DC cX11_takes 40 (.getfield 93) 3 43 := ⟨by decide +kernel, rfl⟩
theorem e_X11_takes_43 : DC cX11_takes 43 (.iload 5) 2 45 := ⟨by decide +kernel, rfl⟩
theorem e_X11_takes_45 : DC cX11_takes 45 (.aload_n 3) 1 46 := ⟨by decide +kernel, rfl⟩
theorem e_X11_takes_46 : DC cX11_takes 46 (.iload 4) 2 48 := ⟨by decide +kernel, rfl⟩
theorem e_X11_takes_48 : DC cX11_takes 48 (.iload 5) 2 50 := ⟨by decide +kernel, rfl⟩
theorem e_X11_takes_50 : DC cX11_takes 50 (.iadd) 1 51 := ⟨by decide +kernel, rfl⟩
theorem e_X11_takes_51 : DC cX11_takes 51 (.laload) 1 52 := ⟨by decide +kernel, rfl⟩
theorem e_X11_takes_52 : DC cX11_takes 52 (.lastore) 1 53 := ⟨by decide +kernel, rfl⟩
theorem e_X11_takes_53 : DC cX11_takes 53 (.iinc 5 1) 3 56 := ⟨by decide +kernel, rfl⟩
theorem e_X11_takes_56 : DB cX11_takes 56 (.goto (-24)) (-24) 3 59 32 := ⟨by decide +kernel, rfl, rfl⟩
theorem e_X11_takes_59 : DC cX11_takes 59 (.return_) 1 60 := ⟨by decide +kernel, rfl⟩
noncomputable def m_X11_takes_3 (N_p1 : Nat) (N_p3 : Nat) (p1_a : Nat → Int) (v2 : Int) (k_29 : (Nat → Int) → Int → Option ((Nat → Int) × (Nat → Int))) : Nat → (Nat → Int) → Int → Option ((Nat → Int) × (Nat → Int))
  | 0, _, _ => none
  | F + 1, t_cur, v5 => if 100 ≤ v5 then (k_29 t_cur v5) else (chk (inB (v2 + v5) N_p1) (chk (inB v5 100) (chk (inI (v5 + 1)) (m_X11_takes_3 N_p1 N_p3 p1_a v2 k_29 F (up t_cur (Int.toNat v5) (p1_a (Int.toNat (v2 + v5)))) (v5 + 1)))))

set_option maxRecDepth 10000 in
set_option maxHeartbeats 8000000 in
theorem g_X11_takes_3 {l : Launch} {E : EE} {b0 n : Nat} {h : AH} {a_t a_p1 a_p3 : Nat} {N_p1 N_p3 : Nat} {t_thrown t_taped t_p t_fault t_baseLow t_baseHigh t_newBaseLow t_newBaseHigh t_from t_knots t_lines t_chosen t_undos t_redos t_aimedMany t_fits t_fitOf t_sights t_systems t_own t_cross t_curveLong t_wallFirst v2 v4 : Int} {t_curSum p1_a p3_a : Nat → Int} {r : (Nat → Int) × (Nat → Int)} {k_29 : (Nat → Int) → Int → Option ((Nat → Int) × (Nat → Int))} (ao : AO b0 n [a_t, (a_t + 24), (a_t + 28), a_p1, a_p3]) (hN_p1 : N_p1 ≤ 100000) (hN_p3 : N_p3 ≤ 100000) (ok_t_curSum : okJ t_curSum) (ok_p1_a : okA p1_a) (ok_p3_a : okJ p3_a) (ok_v2 : inI v2) (ok_v4 : inI v4) (hk_29 : ∀ (t_cur_ : Nat → Int) (v5_ : Int), okA t_cur_ → inI v5_ → k_29 t_cur_ v5_ = some r → G l E b0 M_X11_takes (fun _ => True) (ZM E b0 (none) (ov [a_t, (a_t + 24), (a_t + 28), a_p1, a_p3] [.inr (11, fsX11 a_t t_thrown t_taped t_p t_fault t_baseLow t_baseHigh t_newBaseLow t_newBaseHigh t_from t_knots t_lines t_chosen t_undos t_redos t_aimedMany t_fits t_fitOf t_sights t_systems t_own t_cross t_curveLong t_wallFirst), IA E 100 r.1, JA E 6 r.2, IA E N_p1 p1_a, JA E N_p3 p3_a] h) n (okA r.1 ∧ okJ r.2) 0 0) 0 0 n (ov [a_t, (a_t + 24), (a_t + 28), a_p1, a_p3] [.inr (11, fsX11 a_t t_thrown t_taped t_p t_fault t_baseLow t_baseHigh t_newBaseLow t_newBaseHigh t_from t_knots t_lines t_chosen t_undos t_redos t_aimedMany t_fits t_fitOf t_sights t_systems t_own t_cross t_curveLong t_wallFirst), IA E 100 t_cur_, JA E 6 t_curSum, IA E N_p1 p1_a, JA E N_p3 p3_a] h) 29 [some (.ref a_t), none, none, some (.ref a_p3), some (vI v4), none] []) :
    ∀ (F : Nat) (t_cur : Nat → Int) (v5 : Int), okA t_cur → inI v5 → m_X11_takes_3 N_p1 N_p3 p1_a v2 k_29 F t_cur v5 = some r → G l E b0 M_X11_takes (fun _ => True) (ZM E b0 (none) (ov [a_t, (a_t + 24), (a_t + 28), a_p1, a_p3] [.inr (11, fsX11 a_t t_thrown t_taped t_p t_fault t_baseLow t_baseHigh t_newBaseLow t_newBaseHigh t_from t_knots t_lines t_chosen t_undos t_redos t_aimedMany t_fits t_fitOf t_sights t_systems t_own t_cross t_curveLong t_wallFirst), IA E 100 r.1, JA E 6 r.2, IA E N_p1 p1_a, JA E N_p3 p3_a] h) n (okA r.1 ∧ okJ r.2) 0 0) 0 0 n (ov [a_t, (a_t + 24), (a_t + 28), a_p1, a_p3] [.inr (11, fsX11 a_t t_thrown t_taped t_p t_fault t_baseLow t_baseHigh t_newBaseLow t_newBaseHigh t_from t_knots t_lines t_chosen t_undos t_redos t_aimedMany t_fits t_fitOf t_sights t_systems t_own t_cross t_curveLong t_wallFirst), IA E 100 t_cur, JA E 6 t_curSum, IA E N_p1 p1_a, JA E N_p3 p3_a] h) 3 [some (.ref a_t), some (.ref a_p1), some (vI v2), some (.ref a_p3), some (vI v4), some (vI v5)] [] := by
  intro F
  induction F with
  | zero =>
    intro t_cur v5 ok_t_cur ok_v5 hs
    rw [m_X11_takes_3] at hs
    cases hs
  | succ F ih =>
    intro t_cur v5 ok_t_cur ok_v5 hs
    rw [m_X11_takes_3] at hs
    refine g_iload e_X11_takes_3 rfl ?_
    refine g_bipush e_X11_takes_5 bp_100 ?_
    refine g_icmp_ge e_X11_takes_7 ok_v5 (by decide : inI 100) hs (fun c7 hs => ?_) (fun c7 hs => ?_)
    · exact g_mask [true, false, false, true, true, false] (hk_29 _ _ ok_t_cur ok_v5 hs)
    · refine g_aload_n e_X11_takes_10 rfl ?_
      refine g_get 0 35 ao rfl rfl fsX11_g35 fl_X11_81 e_X11_takes_11 ?_
      refine g_iload e_X11_takes_14 rfl ?_
      refine g_aload_n e_X11_takes_16 rfl ?_
      refine g_iload_n e_X11_takes_17 rfl ?_
      refine g_iload e_X11_takes_18 rfl ?_
      refine g_iadd e_X11_takes_20 ?_
      refine g_iald 3 ao rfl rfl (Nat.le_trans hN_p1 (Nat.le_of_ble_eq_true rfl)) e_X11_takes_21 hs (fun hi1 hs => ?_)
      refine g_iast 1 ao rfl rfl ls_1 (Nat.le_of_ble_eq_true rfl) e_X11_takes_22 hs (fun hi2 hs => ?_)
      refine g_iinc e_X11_takes_23 rfl st1_5 rfl ?_
      refine g_goto e_X11_takes_26 ?_
      obtain ⟨hc3, hs⟩ := chk_elim hs
      exact ih _ _ (okA_up ok_t_cur (ok_p1_a _)) hc3 hs

noncomputable def m_X11_takes_32 (N_p1 : Nat) (N_p3 : Nat) (p3_a : Nat → Int) (v4 : Int) (k_59 : (Nat → Int) → Int → Option ((Nat → Int) × (Nat → Int))) : Nat → (Nat → Int) → Int → Option ((Nat → Int) × (Nat → Int))
  | 0, _, _ => none
  | F + 1, t_curSum, v5 => if 6 ≤ v5 then (k_59 t_curSum v5) else (chk (inB (v4 + v5) N_p3) (chk (inB v5 6) (chk (inI (v5 + 1)) (m_X11_takes_32 N_p1 N_p3 p3_a v4 k_59 F (up t_curSum (Int.toNat v5) (p3_a (Int.toNat (v4 + v5)))) (v5 + 1)))))

set_option maxRecDepth 10000 in
set_option maxHeartbeats 8000000 in
theorem g_X11_takes_32 {l : Launch} {E : EE} {b0 n : Nat} {h : AH} {a_t a_p1 a_p3 : Nat} {N_p1 N_p3 : Nat} {t_thrown t_taped t_p t_fault t_baseLow t_baseHigh t_newBaseLow t_newBaseHigh t_from t_knots t_lines t_chosen t_undos t_redos t_aimedMany t_fits t_fitOf t_sights t_systems t_own t_cross t_curveLong t_wallFirst v4 : Int} {t_cur p1_a p3_a : Nat → Int} {r : (Nat → Int) × (Nat → Int)} {k_59 : (Nat → Int) → Int → Option ((Nat → Int) × (Nat → Int))} (ao : AO b0 n [a_t, (a_t + 24), (a_t + 28), a_p1, a_p3]) (hN_p1 : N_p1 ≤ 100000) (hN_p3 : N_p3 ≤ 100000) (ok_t_cur : okA t_cur) (ok_p1_a : okA p1_a) (ok_p3_a : okJ p3_a) (ok_v4 : inI v4) (hk_59 : ∀ (t_curSum_ : Nat → Int) (v5_ : Int), okJ t_curSum_ → inI v5_ → k_59 t_curSum_ v5_ = some r → G l E b0 M_X11_takes (fun _ => True) (ZM E b0 (none) (ov [a_t, (a_t + 24), (a_t + 28), a_p1, a_p3] [.inr (11, fsX11 a_t t_thrown t_taped t_p t_fault t_baseLow t_baseHigh t_newBaseLow t_newBaseHigh t_from t_knots t_lines t_chosen t_undos t_redos t_aimedMany t_fits t_fitOf t_sights t_systems t_own t_cross t_curveLong t_wallFirst), IA E 100 r.1, JA E 6 r.2, IA E N_p1 p1_a, JA E N_p3 p3_a] h) n (okA r.1 ∧ okJ r.2) 0 0) 0 0 n (ov [a_t, (a_t + 24), (a_t + 28), a_p1, a_p3] [.inr (11, fsX11 a_t t_thrown t_taped t_p t_fault t_baseLow t_baseHigh t_newBaseLow t_newBaseHigh t_from t_knots t_lines t_chosen t_undos t_redos t_aimedMany t_fits t_fitOf t_sights t_systems t_own t_cross t_curveLong t_wallFirst), IA E 100 t_cur, JA E 6 t_curSum_, IA E N_p1 p1_a, JA E N_p3 p3_a] h) 59 [none, none, none, none, none, none] []) :
    ∀ (F : Nat) (t_curSum : Nat → Int) (v5 : Int), okJ t_curSum → inI v5 → m_X11_takes_32 N_p1 N_p3 p3_a v4 k_59 F t_curSum v5 = some r → G l E b0 M_X11_takes (fun _ => True) (ZM E b0 (none) (ov [a_t, (a_t + 24), (a_t + 28), a_p1, a_p3] [.inr (11, fsX11 a_t t_thrown t_taped t_p t_fault t_baseLow t_baseHigh t_newBaseLow t_newBaseHigh t_from t_knots t_lines t_chosen t_undos t_redos t_aimedMany t_fits t_fitOf t_sights t_systems t_own t_cross t_curveLong t_wallFirst), IA E 100 r.1, JA E 6 r.2, IA E N_p1 p1_a, JA E N_p3 p3_a] h) n (okA r.1 ∧ okJ r.2) 0 0) 0 0 n (ov [a_t, (a_t + 24), (a_t + 28), a_p1, a_p3] [.inr (11, fsX11 a_t t_thrown t_taped t_p t_fault t_baseLow t_baseHigh t_newBaseLow t_newBaseHigh t_from t_knots t_lines t_chosen t_undos t_redos t_aimedMany t_fits t_fitOf t_sights t_systems t_own t_cross t_curveLong t_wallFirst), IA E 100 t_cur, JA E 6 t_curSum, IA E N_p1 p1_a, JA E N_p3 p3_a] h) 32 [some (.ref a_t), none, none, some (.ref a_p3), some (vI v4), some (vI v5)] [] := by
  intro F
  induction F with
  | zero =>
    intro t_curSum v5 ok_t_curSum ok_v5 hs
    rw [m_X11_takes_32] at hs
    cases hs
  | succ F ih =>
    intro t_curSum v5 ok_t_curSum ok_v5 hs
    rw [m_X11_takes_32] at hs
    refine g_iload e_X11_takes_32 rfl ?_
    refine g_bipush e_X11_takes_34 bp_6 ?_
    refine g_icmp_ge e_X11_takes_36 ok_v5 (by decide : inI 6) hs (fun c36 hs => ?_) (fun c36 hs => ?_)
    · exact g_mask [false, true, true, false, false, false] (hk_59 _ _ ok_t_curSum ok_v5 hs)
    · refine g_aload_n e_X11_takes_39 rfl ?_
      refine g_get 0 39 ao rfl rfl fsX11_g39 fl_X11_93 e_X11_takes_40 ?_
      refine g_iload e_X11_takes_43 rfl ?_
      refine g_aload_n e_X11_takes_45 rfl ?_
      refine g_iload e_X11_takes_46 rfl ?_
      refine g_iload e_X11_takes_48 rfl ?_
      refine g_iadd e_X11_takes_50 ?_
      refine g_lald 4 ao rfl rfl (Nat.le_trans hN_p3 (Nat.le_of_ble_eq_true rfl)) e_X11_takes_51 hs (fun hi4 hs => ?_)
      refine g_last 2 ao rfl rfl ls_2 (Nat.le_of_ble_eq_true rfl) e_X11_takes_52 hs (fun hi5 hs => ?_)
      refine g_iinc e_X11_takes_53 rfl st1_5 rfl ?_
      refine g_goto e_X11_takes_56 ?_
      obtain ⟨hc6, hs⟩ := chk_elim hs
      exact ih _ _ (okJ_up ok_t_curSum (ok_p3_a _)) hc6 hs

noncomputable def m_X11_takes_59 (N_p1 : Nat) (N_p3 : Nat) (t_cur : Nat → Int) (t_curSum : Nat → Int) : Option ((Nat → Int) × (Nat → Int)) :=
  some (t_cur, t_curSum)

set_option maxRecDepth 10000 in
set_option maxHeartbeats 8000000 in
theorem g_X11_takes_59 {l : Launch} {E : EE} {b0 n : Nat} {h : AH} {a_t a_p1 a_p3 : Nat} {N_p1 N_p3 : Nat} {t_thrown t_taped t_p t_fault t_baseLow t_baseHigh t_newBaseLow t_newBaseHigh t_from t_knots t_lines t_chosen t_undos t_redos t_aimedMany t_fits t_fitOf t_sights t_systems t_own t_cross t_curveLong t_wallFirst : Int} {t_cur t_curSum p1_a p3_a : Nat → Int} {r : (Nat → Int) × (Nat → Int)} (ao : AO b0 n [a_t, (a_t + 24), (a_t + 28), a_p1, a_p3]) (hN_p1 : N_p1 ≤ 100000) (hN_p3 : N_p3 ≤ 100000) (ok_t_cur : okA t_cur) (ok_t_curSum : okJ t_curSum) (ok_p1_a : okA p1_a) (ok_p3_a : okJ p3_a) (hs : m_X11_takes_59 N_p1 N_p3 t_cur t_curSum = some r) : G l E b0 M_X11_takes (fun _ => True) (ZM E b0 (none) (ov [a_t, (a_t + 24), (a_t + 28), a_p1, a_p3] [.inr (11, fsX11 a_t t_thrown t_taped t_p t_fault t_baseLow t_baseHigh t_newBaseLow t_newBaseHigh t_from t_knots t_lines t_chosen t_undos t_redos t_aimedMany t_fits t_fitOf t_sights t_systems t_own t_cross t_curveLong t_wallFirst), IA E 100 r.1, JA E 6 r.2, IA E N_p1 p1_a, JA E N_p3 p3_a] h) n (okA r.1 ∧ okJ r.2) 0 0) 0 0 n (ov [a_t, (a_t + 24), (a_t + 28), a_p1, a_p3] [.inr (11, fsX11 a_t t_thrown t_taped t_p t_fault t_baseLow t_baseHigh t_newBaseLow t_newBaseHigh t_from t_knots t_lines t_chosen t_undos t_redos t_aimedMany t_fits t_fitOf t_sights t_systems t_own t_cross t_curveLong t_wallFirst), IA E 100 t_cur, JA E 6 t_curSum, IA E N_p1 p1_a, JA E N_p3 p3_a] h) 59 [none, none, none, none, none, none] [] := by
  rw [m_X11_takes_59] at hs
  obtain rfl := Option.some.inj hs
  exact g_vret rfl ⟨ok_t_cur, ok_t_curSum⟩ e_X11_takes_59

noncomputable def m_X11_takes_29 (N_p1 : Nat) (N_p3 : Nat) (t_cur : Nat → Int) (t_curSum : Nat → Int) (p3_a : Nat → Int) (v4 : Int) : Option ((Nat → Int) × (Nat → Int)) :=
  m_X11_takes_32 N_p1 N_p3 p3_a v4 (fun t_curSum' v5' => m_X11_takes_59 N_p1 N_p3 t_cur t_curSum') FU t_curSum 0

set_option maxRecDepth 10000 in
set_option maxHeartbeats 8000000 in
theorem g_X11_takes_29 {l : Launch} {E : EE} {b0 n : Nat} {h : AH} {a_t a_p1 a_p3 : Nat} {N_p1 N_p3 : Nat} {t_thrown t_taped t_p t_fault t_baseLow t_baseHigh t_newBaseLow t_newBaseHigh t_from t_knots t_lines t_chosen t_undos t_redos t_aimedMany t_fits t_fitOf t_sights t_systems t_own t_cross t_curveLong t_wallFirst v4 : Int} {t_cur t_curSum p1_a p3_a : Nat → Int} {r : (Nat → Int) × (Nat → Int)} (ao : AO b0 n [a_t, (a_t + 24), (a_t + 28), a_p1, a_p3]) (hN_p1 : N_p1 ≤ 100000) (hN_p3 : N_p3 ≤ 100000) (ok_t_cur : okA t_cur) (ok_t_curSum : okJ t_curSum) (ok_p1_a : okA p1_a) (ok_p3_a : okJ p3_a) (ok_v4 : inI v4) (hs : m_X11_takes_29 N_p1 N_p3 t_cur t_curSum p3_a v4 = some r) : G l E b0 M_X11_takes (fun _ => True) (ZM E b0 (none) (ov [a_t, (a_t + 24), (a_t + 28), a_p1, a_p3] [.inr (11, fsX11 a_t t_thrown t_taped t_p t_fault t_baseLow t_baseHigh t_newBaseLow t_newBaseHigh t_from t_knots t_lines t_chosen t_undos t_redos t_aimedMany t_fits t_fitOf t_sights t_systems t_own t_cross t_curveLong t_wallFirst), IA E 100 r.1, JA E 6 r.2, IA E N_p1 p1_a, JA E N_p3 p3_a] h) n (okA r.1 ∧ okJ r.2) 0 0) 0 0 n (ov [a_t, (a_t + 24), (a_t + 28), a_p1, a_p3] [.inr (11, fsX11 a_t t_thrown t_taped t_p t_fault t_baseLow t_baseHigh t_newBaseLow t_newBaseHigh t_from t_knots t_lines t_chosen t_undos t_redos t_aimedMany t_fits t_fitOf t_sights t_systems t_own t_cross t_curveLong t_wallFirst), IA E 100 t_cur, JA E 6 t_curSum, IA E N_p1 p1_a, JA E N_p3 p3_a] h) 29 [some (.ref a_t), none, none, some (.ref a_p3), some (vI v4), none] [] := by
  rw [m_X11_takes_29] at hs
  refine g_iconst e_X11_takes_29 ?_
  refine g_istore e_X11_takes_30 st1_5 rfl ?_
  exact g_X11_takes_32 ao hN_p1 hN_p3 ok_t_cur ok_p1_a ok_p3_a ok_v4 (hk_59 := by
      intro t_curSum' v5' ok_t_curSum' ok_v5' hs
      exact g_X11_takes_59 ao hN_p1 hN_p3 ok_t_cur ok_t_curSum' ok_p1_a ok_p3_a hs) FU _ _ ok_t_curSum (by decide : inI 0) hs

noncomputable def m_X11_takes_0 (N_p1 : Nat) (N_p3 : Nat) (t_cur : Nat → Int) (t_curSum : Nat → Int) (p1_a : Nat → Int) (p3_a : Nat → Int) (v2 : Int) (v4 : Int) : Option ((Nat → Int) × (Nat → Int)) :=
  m_X11_takes_3 N_p1 N_p3 p1_a v2 (fun t_cur' v5' => m_X11_takes_29 N_p1 N_p3 t_cur' t_curSum p3_a v4) FU t_cur 0

set_option maxRecDepth 10000 in
set_option maxHeartbeats 8000000 in
theorem g_X11_takes_0 {l : Launch} {E : EE} {b0 n : Nat} {h : AH} {a_t a_p1 a_p3 : Nat} {N_p1 N_p3 : Nat} {t_thrown t_taped t_p t_fault t_baseLow t_baseHigh t_newBaseLow t_newBaseHigh t_from t_knots t_lines t_chosen t_undos t_redos t_aimedMany t_fits t_fitOf t_sights t_systems t_own t_cross t_curveLong t_wallFirst v2 v4 : Int} {t_cur t_curSum p1_a p3_a : Nat → Int} {r : (Nat → Int) × (Nat → Int)} (ao : AO b0 n [a_t, (a_t + 24), (a_t + 28), a_p1, a_p3]) (hN_p1 : N_p1 ≤ 100000) (hN_p3 : N_p3 ≤ 100000) (ok_t_cur : okA t_cur) (ok_t_curSum : okJ t_curSum) (ok_p1_a : okA p1_a) (ok_p3_a : okJ p3_a) (ok_v2 : inI v2) (ok_v4 : inI v4) (hs : m_X11_takes_0 N_p1 N_p3 t_cur t_curSum p1_a p3_a v2 v4 = some r) : G l E b0 M_X11_takes (fun _ => True) (ZM E b0 (none) (ov [a_t, (a_t + 24), (a_t + 28), a_p1, a_p3] [.inr (11, fsX11 a_t t_thrown t_taped t_p t_fault t_baseLow t_baseHigh t_newBaseLow t_newBaseHigh t_from t_knots t_lines t_chosen t_undos t_redos t_aimedMany t_fits t_fitOf t_sights t_systems t_own t_cross t_curveLong t_wallFirst), IA E 100 r.1, JA E 6 r.2, IA E N_p1 p1_a, JA E N_p3 p3_a] h) n (okA r.1 ∧ okJ r.2) 0 0) 0 0 n (ov [a_t, (a_t + 24), (a_t + 28), a_p1, a_p3] [.inr (11, fsX11 a_t t_thrown t_taped t_p t_fault t_baseLow t_baseHigh t_newBaseLow t_newBaseHigh t_from t_knots t_lines t_chosen t_undos t_redos t_aimedMany t_fits t_fitOf t_sights t_systems t_own t_cross t_curveLong t_wallFirst), IA E 100 t_cur, JA E 6 t_curSum, IA E N_p1 p1_a, JA E N_p3 p3_a] h) 0 [some (.ref a_t), some (.ref a_p1), some (vI v2), some (.ref a_p3), some (vI v4), none] [] := by
  rw [m_X11_takes_0] at hs
  refine g_iconst e_X11_takes_0 ?_
  refine g_istore e_X11_takes_1 st1_5 rfl ?_
  exact g_X11_takes_3 ao hN_p1 hN_p3 ok_t_curSum ok_p1_a ok_p3_a ok_v2 ok_v4 (hk_29 := by
      intro t_cur' v5' ok_t_cur' ok_v5' hs
      exact g_X11_takes_29 ao hN_p1 hN_p3 ok_t_cur' ok_t_curSum ok_p1_a ok_p3_a ok_v4 hs) FU _ _ ok_t_cur (by decide : inI 0) hs

noncomputable def m_X11_takes (N_p1 : Nat) (N_p3 : Nat) (t_cur : Nat → Int) (t_curSum : Nat → Int) (p1_a : Nat → Int) (p3_a : Nat → Int) (v2 : Int) (v4 : Int) : Option ((Nat → Int) × (Nat → Int)) := m_X11_takes_0 N_p1 N_p3 t_cur t_curSum p1_a p3_a v2 v4

set_option maxRecDepth 10000 in
set_option maxHeartbeats 8000000 in
theorem ct_X11_takes {l : Launch} {E : EE} {b0 n : Nat} {h : AH} {a_t a_p1 a_p3 : Nat} {N_p1 N_p3 : Nat} {t_thrown t_taped t_p t_fault t_baseLow t_baseHigh t_newBaseLow t_newBaseHigh t_from t_knots t_lines t_chosen t_undos t_redos t_aimedMany t_fits t_fitOf t_sights t_systems t_own t_cross t_curveLong t_wallFirst : Int} {t_cur t_curSum p1_a p3_a : Nat → Int} {v2 v4 : Int} (ao : AO b0 n [a_t, (a_t + 24), (a_t + 28), a_p1, a_p3]) (hN_p1 : N_p1 ≤ 100000) (hN_p3 : N_p3 ≤ 100000) (hf : FA h [a_t, (a_t + 24), (a_t + 28), a_p1, a_p3] [.inr (11, fsX11 a_t t_thrown t_taped t_p t_fault t_baseLow t_baseHigh t_newBaseLow t_newBaseHigh t_from t_knots t_lines t_chosen t_undos t_redos t_aimedMany t_fits t_fitOf t_sights t_systems t_own t_cross t_curveLong t_wallFirst), IA E 100 t_cur, JA E 6 t_curSum, IA E N_p1 p1_a, JA E N_p3 p3_a]) (ok_t_cur : okA t_cur) (ok_t_curSum : okJ t_curSum) (ok_p1_a : okA p1_a) (ok_p3_a : okJ p3_a) (ok_v2 : inI v2) (ok_v4 : inI v4) {r : (Nat → Int) × (Nat → Int)} (hm : m_X11_takes N_p1 N_p3 t_cur t_curSum p1_a p3_a v2 v4 = some r) : Ct l E b0 M_X11_takes 0 0 [.ref a_t, .ref a_p1, vI v2, .ref a_p3, vI v4] h n (none) (ov [a_t, (a_t + 24), (a_t + 28), a_p1, a_p3] [.inr (11, fsX11 a_t t_thrown t_taped t_p t_fault t_baseLow t_baseHigh t_newBaseLow t_newBaseHigh t_from t_knots t_lines t_chosen t_undos t_redos t_aimedMany t_fits t_fitOf t_sights t_systems t_own t_cross t_curveLong t_wallFirst), IA E 100 r.1, JA E 6 r.2, IA E N_p1 p1_a, JA E N_p3 p3_a] h) n (okA r.1 ∧ okJ r.2) := by
  rw [m_X11_takes] at hm
  have hg : G l E b0 M_X11_takes (fun _ => True) (ZM E b0 (none) (ov [a_t, (a_t + 24), (a_t + 28), a_p1, a_p3] [.inr (11, fsX11 a_t t_thrown t_taped t_p t_fault t_baseLow t_baseHigh t_newBaseLow t_newBaseHigh t_from t_knots t_lines t_chosen t_undos t_redos t_aimedMany t_fits t_fitOf t_sights t_systems t_own t_cross t_curveLong t_wallFirst), IA E 100 r.1, JA E 6 r.2, IA E N_p1 p1_a, JA E N_p3 p3_a] h) n (okA r.1 ∧ okJ r.2) 0 0) 0 0 n (ov [a_t, (a_t + 24), (a_t + 28), a_p1, a_p3] [.inr (11, fsX11 a_t t_thrown t_taped t_p t_fault t_baseLow t_baseHigh t_newBaseLow t_newBaseHigh t_from t_knots t_lines t_chosen t_undos t_redos t_aimedMany t_fits t_fitOf t_sights t_systems t_own t_cross t_curveLong t_wallFirst), IA E 100 t_cur, JA E 6 t_curSum, IA E N_p1 p1_a, JA E N_p3 p3_a] h) 0 [some (.ref a_t), some (.ref a_p1), some (vI v2), some (.ref a_p3), some (vI v4), none] [] := by
    have hs := hm
    exact g_X11_takes_0 ao hN_p1 hN_p3 ok_t_cur ok_t_curSum ok_p1_a ok_p3_a ok_v2 ok_v4 hs
  rw [FA_id hf] at hg
  exact Ct_of [some (.ref a_t), some (.ref a_p1), some (vI v2), some (.ref a_p3), some (vI v4), none] ⟨by decide +kernel, rfl⟩ rfl (Nat.le_of_ble_eq_true rfl) hg

/-! ===== X11_keeps ===== -/
theorem e_X11_keeps_0 : DC cX11_keeps 0 (.iconst 0) 1 1 := ⟨by decide +kernel, rfl⟩
theorem e_X11_keeps_1 : DC cX11_keeps 1 (.istore 5) 2 3 := ⟨by decide +kernel, rfl⟩
theorem e_X11_keeps_3 : DC cX11_keeps 3 (.iload 5) 2 5 := ⟨by decide +kernel, rfl⟩
theorem e_X11_keeps_5 : DC cX11_keeps 5 (.bipush 100) 2 7 := ⟨by decide +kernel, rfl⟩
theorem e_X11_keeps_7 : DB cX11_keeps 7 (.if_icmp .ge 22) (22) 3 10 29 := ⟨by decide +kernel, rfl, rfl⟩
theorem e_X11_keeps_10 : DC cX11_keeps 10 (.aload_n 1) 1 11 := ⟨by decide +kernel, rfl⟩
theorem e_X11_keeps_11 : DC cX11_keeps 11 (.iload_n 2) 1 12 := ⟨by decide +kernel, rfl⟩
theorem e_X11_keeps_12 : DC cX11_keeps 12 (.iload 5) 2 14 := ⟨by decide +kernel, rfl⟩
theorem e_X11_keeps_14 : DC cX11_keeps 14 (.iadd) 1 15 := ⟨by decide +kernel, rfl⟩
theorem e_X11_keeps_15 : DC cX11_keeps 15 (.aload_n 0) 1 16 := ⟨by decide +kernel, rfl⟩
theorem e_X11_keeps_16 : DC cX11_keeps 16 (.getfield 81) 3 19 := ⟨by decide +kernel, rfl⟩
theorem e_X11_keeps_19 : DC cX11_keeps 19 (.iload 5) 2 21 := ⟨by decide +kernel, rfl⟩
theorem e_X11_keeps_21 : DC cX11_keeps 21 (.iaload) 1 22 := ⟨by decide +kernel, rfl⟩
theorem e_X11_keeps_22 : DC cX11_keeps 22 (.iastore) 1 23 := ⟨by decide +kernel, rfl⟩
theorem e_X11_keeps_23 : DC cX11_keeps 23 (.iinc 5 1) 3 26 := ⟨by decide +kernel, rfl⟩
theorem e_X11_keeps_26 : DB cX11_keeps 26 (.goto (-23)) (-23) 3 29 3 := ⟨by decide +kernel, rfl, rfl⟩
theorem e_X11_keeps_29 : DC cX11_keeps 29 (.iconst 0) 1 30 := ⟨by decide +kernel, rfl⟩
theorem e_X11_keeps_30 : DC cX11_keeps 30 (.istore 5) 2 32 := ⟨by decide +kernel, rfl⟩
theorem e_X11_keeps_32 : DC cX11_keeps 32 (.iload 5) 2 34 := ⟨by decide +kernel, rfl⟩
theorem e_X11_keeps_34 : DC cX11_keeps 34 (.bipush 6) 2 36 := ⟨by decide +kernel, rfl⟩
theorem e_X11_keeps_36 : DB cX11_keeps 36 (.if_icmp .ge 23) (23) 3 39 59 := ⟨by decide +kernel, rfl, rfl⟩
theorem e_X11_keeps_39 : DC cX11_keeps 39 (.aload_n 3) 1 40 := ⟨by decide +kernel, rfl⟩
theorem e_X11_keeps_40 : DC cX11_keeps 40 (.iload 4) 2 42 := ⟨by decide +kernel, rfl⟩
theorem e_X11_keeps_42 : DC cX11_keeps 42 (.iload 5) 2 44 := ⟨by decide +kernel, rfl⟩
theorem e_X11_keeps_44 : DC cX11_keeps 44 (.iadd) 1 45 := ⟨by decide +kernel, rfl⟩
theorem e_X11_keeps_45 : DC cX11_keeps 45 (.aload_n 0) 1 46 := ⟨by decide +kernel, rfl⟩
theorem e_X11_keeps_46 : DC cX11_keeps 46 (.getfield 93) 3 49 := ⟨by decide +kernel, rfl⟩
theorem e_X11_keeps_49 : DC cX11_keeps 49 (.iload 5) 2 51 := ⟨by decide +kernel, rfl⟩
theorem e_X11_keeps_51 : DC cX11_keeps 51 (.laload) 1 52 := ⟨by decide +kernel, rfl⟩
theorem e_X11_keeps_52 : DC cX11_keeps 52 (.lastore) 1 53 := ⟨by decide +kernel, rfl⟩
theorem e_X11_keeps_53 : DC cX11_keeps 53 (.iinc 5 1) 3 56 := ⟨by decide +kernel, rfl⟩
theorem e_X11_keeps_56 : DB cX11_keeps 56 (.goto (-24)) (-24) 3 59 32 := ⟨by decide +kernel, rfl, rfl⟩
theorem e_X11_keeps_59 : DC cX11_keeps 59 (.return_) 1 60 := ⟨by decide +kernel, rfl⟩
noncomputable def m_X11_keeps_3 (N_p1 : Nat) (N_p3 : Nat) (t_cur : Nat → Int) (v2 : Int) (k_29 : (Nat → Int) → Int → Option ((Nat → Int) × (Nat → Int))) : Nat → (Nat → Int) → Int → Option ((Nat → Int) × (Nat → Int))
  | 0, _, _ => none
  | F + 1, p1_a, v5 => if 100 ≤ v5 then (k_29 p1_a v5) else (chk (inB v5 100) (chk (inB (v2 + v5) N_p1) (chk (inI (v5 + 1)) (m_X11_keeps_3 N_p1 N_p3 t_cur v2 k_29 F (up p1_a (Int.toNat (v2 + v5)) (t_cur (Int.toNat v5))) (v5 + 1)))))

set_option maxRecDepth 10000 in
set_option maxHeartbeats 8000000 in
theorem g_X11_keeps_3 {l : Launch} {E : EE} {b0 n : Nat} {h : AH} {a_t a_p1 a_p3 : Nat} {N_p1 N_p3 : Nat} {t_thrown t_taped t_p t_fault t_baseLow t_baseHigh t_newBaseLow t_newBaseHigh t_from t_knots t_lines t_chosen t_undos t_redos t_aimedMany t_fits t_fitOf t_sights t_systems t_own t_cross t_curveLong t_wallFirst v2 v4 : Int} {t_cur t_curSum p3_a : Nat → Int} {r : (Nat → Int) × (Nat → Int)} {k_29 : (Nat → Int) → Int → Option ((Nat → Int) × (Nat → Int))} (ao : AO b0 n [a_t, (a_t + 24), (a_t + 28), a_p1, a_p3]) (hN_p1 : N_p1 ≤ 100000) (hN_p3 : N_p3 ≤ 100000) (ok_t_cur : okA t_cur) (ok_t_curSum : okJ t_curSum) (ok_p3_a : okJ p3_a) (ok_v2 : inI v2) (ok_v4 : inI v4) (hk_29 : ∀ (p1_a_ : Nat → Int) (v5_ : Int), okA p1_a_ → inI v5_ → k_29 p1_a_ v5_ = some r → G l E b0 M_X11_keeps (fun _ => True) (ZM E b0 (none) (ov [a_t, (a_t + 24), (a_t + 28), a_p1, a_p3] [.inr (11, fsX11 a_t t_thrown t_taped t_p t_fault t_baseLow t_baseHigh t_newBaseLow t_newBaseHigh t_from t_knots t_lines t_chosen t_undos t_redos t_aimedMany t_fits t_fitOf t_sights t_systems t_own t_cross t_curveLong t_wallFirst), IA E 100 t_cur, JA E 6 t_curSum, IA E N_p1 r.1, JA E N_p3 r.2] h) n (okA r.1 ∧ okJ r.2) 0 0) 0 0 n (ov [a_t, (a_t + 24), (a_t + 28), a_p1, a_p3] [.inr (11, fsX11 a_t t_thrown t_taped t_p t_fault t_baseLow t_baseHigh t_newBaseLow t_newBaseHigh t_from t_knots t_lines t_chosen t_undos t_redos t_aimedMany t_fits t_fitOf t_sights t_systems t_own t_cross t_curveLong t_wallFirst), IA E 100 t_cur, JA E 6 t_curSum, IA E N_p1 p1_a_, JA E N_p3 p3_a] h) 29 [some (.ref a_t), none, none, some (.ref a_p3), some (vI v4), none] []) :
    ∀ (F : Nat) (p1_a : Nat → Int) (v5 : Int), okA p1_a → inI v5 → m_X11_keeps_3 N_p1 N_p3 t_cur v2 k_29 F p1_a v5 = some r → G l E b0 M_X11_keeps (fun _ => True) (ZM E b0 (none) (ov [a_t, (a_t + 24), (a_t + 28), a_p1, a_p3] [.inr (11, fsX11 a_t t_thrown t_taped t_p t_fault t_baseLow t_baseHigh t_newBaseLow t_newBaseHigh t_from t_knots t_lines t_chosen t_undos t_redos t_aimedMany t_fits t_fitOf t_sights t_systems t_own t_cross t_curveLong t_wallFirst), IA E 100 t_cur, JA E 6 t_curSum, IA E N_p1 r.1, JA E N_p3 r.2] h) n (okA r.1 ∧ okJ r.2) 0 0) 0 0 n (ov [a_t, (a_t + 24), (a_t + 28), a_p1, a_p3] [.inr (11, fsX11 a_t t_thrown t_taped t_p t_fault t_baseLow t_baseHigh t_newBaseLow t_newBaseHigh t_from t_knots t_lines t_chosen t_undos t_redos t_aimedMany t_fits t_fitOf t_sights t_systems t_own t_cross t_curveLong t_wallFirst), IA E 100 t_cur, JA E 6 t_curSum, IA E N_p1 p1_a, JA E N_p3 p3_a] h) 3 [some (.ref a_t), some (.ref a_p1), some (vI v2), some (.ref a_p3), some (vI v4), some (vI v5)] [] := by
  intro F
  induction F with
  | zero =>
    intro p1_a v5 ok_p1_a ok_v5 hs
    rw [m_X11_keeps_3] at hs
    cases hs
  | succ F ih =>
    intro p1_a v5 ok_p1_a ok_v5 hs
    rw [m_X11_keeps_3] at hs
    refine g_iload e_X11_keeps_3 rfl ?_
    refine g_bipush e_X11_keeps_5 bp_100 ?_
    refine g_icmp_ge e_X11_keeps_7 ok_v5 (by decide : inI 100) hs (fun c7 hs => ?_) (fun c7 hs => ?_)
    · exact g_mask [true, false, false, true, true, false] (hk_29 _ _ ok_p1_a ok_v5 hs)
    · refine g_aload_n e_X11_keeps_10 rfl ?_
      refine g_iload_n e_X11_keeps_11 rfl ?_
      refine g_iload e_X11_keeps_12 rfl ?_
      refine g_iadd e_X11_keeps_14 ?_
      refine g_aload_n e_X11_keeps_15 rfl ?_
      refine g_get 0 35 ao rfl rfl fsX11_g35 fl_X11_81 e_X11_keeps_16 ?_
      refine g_iload e_X11_keeps_19 rfl ?_
      refine g_iald 1 ao rfl rfl (Nat.le_of_ble_eq_true rfl) e_X11_keeps_21 hs (fun hi1 hs => ?_)
      refine g_iast 3 ao rfl rfl ls_3 (Nat.le_trans hN_p1 (Nat.le_of_ble_eq_true rfl)) e_X11_keeps_22 hs (fun hi2 hs => ?_)
      refine g_iinc e_X11_keeps_23 rfl st1_5 rfl ?_
      refine g_goto e_X11_keeps_26 ?_
      obtain ⟨hc3, hs⟩ := chk_elim hs
      exact ih _ _ (okA_up ok_p1_a (ok_t_cur _)) hc3 hs

noncomputable def m_X11_keeps_32 (N_p1 : Nat) (N_p3 : Nat) (t_curSum : Nat → Int) (v4 : Int) (k_59 : (Nat → Int) → Int → Option ((Nat → Int) × (Nat → Int))) : Nat → (Nat → Int) → Int → Option ((Nat → Int) × (Nat → Int))
  | 0, _, _ => none
  | F + 1, p3_a, v5 => if 6 ≤ v5 then (k_59 p3_a v5) else (chk (inB v5 6) (chk (inB (v4 + v5) N_p3) (chk (inI (v5 + 1)) (m_X11_keeps_32 N_p1 N_p3 t_curSum v4 k_59 F (up p3_a (Int.toNat (v4 + v5)) (t_curSum (Int.toNat v5))) (v5 + 1)))))

set_option maxRecDepth 10000 in
set_option maxHeartbeats 8000000 in
theorem g_X11_keeps_32 {l : Launch} {E : EE} {b0 n : Nat} {h : AH} {a_t a_p1 a_p3 : Nat} {N_p1 N_p3 : Nat} {t_thrown t_taped t_p t_fault t_baseLow t_baseHigh t_newBaseLow t_newBaseHigh t_from t_knots t_lines t_chosen t_undos t_redos t_aimedMany t_fits t_fitOf t_sights t_systems t_own t_cross t_curveLong t_wallFirst v4 : Int} {t_cur t_curSum p1_a : Nat → Int} {r : (Nat → Int) × (Nat → Int)} {k_59 : (Nat → Int) → Int → Option ((Nat → Int) × (Nat → Int))} (ao : AO b0 n [a_t, (a_t + 24), (a_t + 28), a_p1, a_p3]) (hN_p1 : N_p1 ≤ 100000) (hN_p3 : N_p3 ≤ 100000) (ok_t_cur : okA t_cur) (ok_t_curSum : okJ t_curSum) (ok_p1_a : okA p1_a) (ok_v4 : inI v4) (hk_59 : ∀ (p3_a_ : Nat → Int) (v5_ : Int), okJ p3_a_ → inI v5_ → k_59 p3_a_ v5_ = some r → G l E b0 M_X11_keeps (fun _ => True) (ZM E b0 (none) (ov [a_t, (a_t + 24), (a_t + 28), a_p1, a_p3] [.inr (11, fsX11 a_t t_thrown t_taped t_p t_fault t_baseLow t_baseHigh t_newBaseLow t_newBaseHigh t_from t_knots t_lines t_chosen t_undos t_redos t_aimedMany t_fits t_fitOf t_sights t_systems t_own t_cross t_curveLong t_wallFirst), IA E 100 t_cur, JA E 6 t_curSum, IA E N_p1 r.1, JA E N_p3 r.2] h) n (okA r.1 ∧ okJ r.2) 0 0) 0 0 n (ov [a_t, (a_t + 24), (a_t + 28), a_p1, a_p3] [.inr (11, fsX11 a_t t_thrown t_taped t_p t_fault t_baseLow t_baseHigh t_newBaseLow t_newBaseHigh t_from t_knots t_lines t_chosen t_undos t_redos t_aimedMany t_fits t_fitOf t_sights t_systems t_own t_cross t_curveLong t_wallFirst), IA E 100 t_cur, JA E 6 t_curSum, IA E N_p1 p1_a, JA E N_p3 p3_a_] h) 59 [none, none, none, none, none, none] []) :
    ∀ (F : Nat) (p3_a : Nat → Int) (v5 : Int), okJ p3_a → inI v5 → m_X11_keeps_32 N_p1 N_p3 t_curSum v4 k_59 F p3_a v5 = some r → G l E b0 M_X11_keeps (fun _ => True) (ZM E b0 (none) (ov [a_t, (a_t + 24), (a_t + 28), a_p1, a_p3] [.inr (11, fsX11 a_t t_thrown t_taped t_p t_fault t_baseLow t_baseHigh t_newBaseLow t_newBaseHigh t_from t_knots t_lines t_chosen t_undos t_redos t_aimedMany t_fits t_fitOf t_sights t_systems t_own t_cross t_curveLong t_wallFirst), IA E 100 t_cur, JA E 6 t_curSum, IA E N_p1 r.1, JA E N_p3 r.2] h) n (okA r.1 ∧ okJ r.2) 0 0) 0 0 n (ov [a_t, (a_t + 24), (a_t + 28), a_p1, a_p3] [.inr (11, fsX11 a_t t_thrown t_taped t_p t_fault t_baseLow t_baseHigh t_newBaseLow t_newBaseHigh t_from t_knots t_lines t_chosen t_undos t_redos t_aimedMany t_fits t_fitOf t_sights t_systems t_own t_cross t_curveLong t_wallFirst), IA E 100 t_cur, JA E 6 t_curSum, IA E N_p1 p1_a, JA E N_p3 p3_a] h) 32 [some (.ref a_t), none, none, some (.ref a_p3), some (vI v4), some (vI v5)] [] := by
  intro F
  induction F with
  | zero =>
    intro p3_a v5 ok_p3_a ok_v5 hs
    rw [m_X11_keeps_32] at hs
    cases hs
  | succ F ih =>
    intro p3_a v5 ok_p3_a ok_v5 hs
    rw [m_X11_keeps_32] at hs
    refine g_iload e_X11_keeps_32 rfl ?_
    refine g_bipush e_X11_keeps_34 bp_6 ?_
    refine g_icmp_ge e_X11_keeps_36 ok_v5 (by decide : inI 6) hs (fun c36 hs => ?_) (fun c36 hs => ?_)
    · exact g_mask [false, true, true, false, false, false] (hk_59 _ _ ok_p3_a ok_v5 hs)
    · refine g_aload_n e_X11_keeps_39 rfl ?_
      refine g_iload e_X11_keeps_40 rfl ?_
      refine g_iload e_X11_keeps_42 rfl ?_
      refine g_iadd e_X11_keeps_44 ?_
      refine g_aload_n e_X11_keeps_45 rfl ?_
      refine g_get 0 39 ao rfl rfl fsX11_g39 fl_X11_93 e_X11_keeps_46 ?_
      refine g_iload e_X11_keeps_49 rfl ?_
      refine g_lald 2 ao rfl rfl (Nat.le_of_ble_eq_true rfl) e_X11_keeps_51 hs (fun hi4 hs => ?_)
      refine g_last 4 ao rfl rfl ls_4 (Nat.le_trans hN_p3 (Nat.le_of_ble_eq_true rfl)) e_X11_keeps_52 hs (fun hi5 hs => ?_)
      refine g_iinc e_X11_keeps_53 rfl st1_5 rfl ?_
      refine g_goto e_X11_keeps_56 ?_
      obtain ⟨hc6, hs⟩ := chk_elim hs
      exact ih _ _ (okJ_up ok_p3_a (ok_t_curSum _)) hc6 hs

noncomputable def m_X11_keeps_59 (N_p1 : Nat) (N_p3 : Nat) (p1_a : Nat → Int) (p3_a : Nat → Int) : Option ((Nat → Int) × (Nat → Int)) :=
  some (p1_a, p3_a)

set_option maxRecDepth 10000 in
set_option maxHeartbeats 8000000 in
theorem g_X11_keeps_59 {l : Launch} {E : EE} {b0 n : Nat} {h : AH} {a_t a_p1 a_p3 : Nat} {N_p1 N_p3 : Nat} {t_thrown t_taped t_p t_fault t_baseLow t_baseHigh t_newBaseLow t_newBaseHigh t_from t_knots t_lines t_chosen t_undos t_redos t_aimedMany t_fits t_fitOf t_sights t_systems t_own t_cross t_curveLong t_wallFirst : Int} {t_cur t_curSum p1_a p3_a : Nat → Int} {r : (Nat → Int) × (Nat → Int)} (ao : AO b0 n [a_t, (a_t + 24), (a_t + 28), a_p1, a_p3]) (hN_p1 : N_p1 ≤ 100000) (hN_p3 : N_p3 ≤ 100000) (ok_t_cur : okA t_cur) (ok_t_curSum : okJ t_curSum) (ok_p1_a : okA p1_a) (ok_p3_a : okJ p3_a) (hs : m_X11_keeps_59 N_p1 N_p3 p1_a p3_a = some r) : G l E b0 M_X11_keeps (fun _ => True) (ZM E b0 (none) (ov [a_t, (a_t + 24), (a_t + 28), a_p1, a_p3] [.inr (11, fsX11 a_t t_thrown t_taped t_p t_fault t_baseLow t_baseHigh t_newBaseLow t_newBaseHigh t_from t_knots t_lines t_chosen t_undos t_redos t_aimedMany t_fits t_fitOf t_sights t_systems t_own t_cross t_curveLong t_wallFirst), IA E 100 t_cur, JA E 6 t_curSum, IA E N_p1 r.1, JA E N_p3 r.2] h) n (okA r.1 ∧ okJ r.2) 0 0) 0 0 n (ov [a_t, (a_t + 24), (a_t + 28), a_p1, a_p3] [.inr (11, fsX11 a_t t_thrown t_taped t_p t_fault t_baseLow t_baseHigh t_newBaseLow t_newBaseHigh t_from t_knots t_lines t_chosen t_undos t_redos t_aimedMany t_fits t_fitOf t_sights t_systems t_own t_cross t_curveLong t_wallFirst), IA E 100 t_cur, JA E 6 t_curSum, IA E N_p1 p1_a, JA E N_p3 p3_a] h) 59 [none, none, none, none, none, none] [] := by
  rw [m_X11_keeps_59] at hs
  obtain rfl := Option.some.inj hs
  exact g_vret rfl ⟨ok_p1_a, ok_p3_a⟩ e_X11_keeps_59

noncomputable def m_X11_keeps_29 (N_p1 : Nat) (N_p3 : Nat) (t_curSum : Nat → Int) (p1_a : Nat → Int) (p3_a : Nat → Int) (v4 : Int) : Option ((Nat → Int) × (Nat → Int)) :=
  m_X11_keeps_32 N_p1 N_p3 t_curSum v4 (fun p3_a' v5' => m_X11_keeps_59 N_p1 N_p3 p1_a p3_a') FU p3_a 0

set_option maxRecDepth 10000 in
set_option maxHeartbeats 8000000 in
theorem g_X11_keeps_29 {l : Launch} {E : EE} {b0 n : Nat} {h : AH} {a_t a_p1 a_p3 : Nat} {N_p1 N_p3 : Nat} {t_thrown t_taped t_p t_fault t_baseLow t_baseHigh t_newBaseLow t_newBaseHigh t_from t_knots t_lines t_chosen t_undos t_redos t_aimedMany t_fits t_fitOf t_sights t_systems t_own t_cross t_curveLong t_wallFirst v4 : Int} {t_cur t_curSum p1_a p3_a : Nat → Int} {r : (Nat → Int) × (Nat → Int)} (ao : AO b0 n [a_t, (a_t + 24), (a_t + 28), a_p1, a_p3]) (hN_p1 : N_p1 ≤ 100000) (hN_p3 : N_p3 ≤ 100000) (ok_t_cur : okA t_cur) (ok_t_curSum : okJ t_curSum) (ok_p1_a : okA p1_a) (ok_p3_a : okJ p3_a) (ok_v4 : inI v4) (hs : m_X11_keeps_29 N_p1 N_p3 t_curSum p1_a p3_a v4 = some r) : G l E b0 M_X11_keeps (fun _ => True) (ZM E b0 (none) (ov [a_t, (a_t + 24), (a_t + 28), a_p1, a_p3] [.inr (11, fsX11 a_t t_thrown t_taped t_p t_fault t_baseLow t_baseHigh t_newBaseLow t_newBaseHigh t_from t_knots t_lines t_chosen t_undos t_redos t_aimedMany t_fits t_fitOf t_sights t_systems t_own t_cross t_curveLong t_wallFirst), IA E 100 t_cur, JA E 6 t_curSum, IA E N_p1 r.1, JA E N_p3 r.2] h) n (okA r.1 ∧ okJ r.2) 0 0) 0 0 n (ov [a_t, (a_t + 24), (a_t + 28), a_p1, a_p3] [.inr (11, fsX11 a_t t_thrown t_taped t_p t_fault t_baseLow t_baseHigh t_newBaseLow t_newBaseHigh t_from t_knots t_lines t_chosen t_undos t_redos t_aimedMany t_fits t_fitOf t_sights t_systems t_own t_cross t_curveLong t_wallFirst), IA E 100 t_cur, JA E 6 t_curSum, IA E N_p1 p1_a, JA E N_p3 p3_a] h) 29 [some (.ref a_t), none, none, some (.ref a_p3), some (vI v4), none] [] := by
  rw [m_X11_keeps_29] at hs
  refine g_iconst e_X11_keeps_29 ?_
  refine g_istore e_X11_keeps_30 st1_5 rfl ?_
  exact g_X11_keeps_32 ao hN_p1 hN_p3 ok_t_cur ok_t_curSum ok_p1_a ok_v4 (hk_59 := by
      intro p3_a' v5' ok_p3_a' ok_v5' hs
      exact g_X11_keeps_59 ao hN_p1 hN_p3 ok_t_cur ok_t_curSum ok_p1_a ok_p3_a' hs) FU _ _ ok_p3_a (by decide : inI 0) hs

noncomputable def m_X11_keeps_0 (N_p1 : Nat) (N_p3 : Nat) (t_cur : Nat → Int) (t_curSum : Nat → Int) (p1_a : Nat → Int) (p3_a : Nat → Int) (v2 : Int) (v4 : Int) : Option ((Nat → Int) × (Nat → Int)) :=
  m_X11_keeps_3 N_p1 N_p3 t_cur v2 (fun p1_a' v5' => m_X11_keeps_29 N_p1 N_p3 t_curSum p1_a' p3_a v4) FU p1_a 0

set_option maxRecDepth 10000 in
set_option maxHeartbeats 8000000 in
theorem g_X11_keeps_0 {l : Launch} {E : EE} {b0 n : Nat} {h : AH} {a_t a_p1 a_p3 : Nat} {N_p1 N_p3 : Nat} {t_thrown t_taped t_p t_fault t_baseLow t_baseHigh t_newBaseLow t_newBaseHigh t_from t_knots t_lines t_chosen t_undos t_redos t_aimedMany t_fits t_fitOf t_sights t_systems t_own t_cross t_curveLong t_wallFirst v2 v4 : Int} {t_cur t_curSum p1_a p3_a : Nat → Int} {r : (Nat → Int) × (Nat → Int)} (ao : AO b0 n [a_t, (a_t + 24), (a_t + 28), a_p1, a_p3]) (hN_p1 : N_p1 ≤ 100000) (hN_p3 : N_p3 ≤ 100000) (ok_t_cur : okA t_cur) (ok_t_curSum : okJ t_curSum) (ok_p1_a : okA p1_a) (ok_p3_a : okJ p3_a) (ok_v2 : inI v2) (ok_v4 : inI v4) (hs : m_X11_keeps_0 N_p1 N_p3 t_cur t_curSum p1_a p3_a v2 v4 = some r) : G l E b0 M_X11_keeps (fun _ => True) (ZM E b0 (none) (ov [a_t, (a_t + 24), (a_t + 28), a_p1, a_p3] [.inr (11, fsX11 a_t t_thrown t_taped t_p t_fault t_baseLow t_baseHigh t_newBaseLow t_newBaseHigh t_from t_knots t_lines t_chosen t_undos t_redos t_aimedMany t_fits t_fitOf t_sights t_systems t_own t_cross t_curveLong t_wallFirst), IA E 100 t_cur, JA E 6 t_curSum, IA E N_p1 r.1, JA E N_p3 r.2] h) n (okA r.1 ∧ okJ r.2) 0 0) 0 0 n (ov [a_t, (a_t + 24), (a_t + 28), a_p1, a_p3] [.inr (11, fsX11 a_t t_thrown t_taped t_p t_fault t_baseLow t_baseHigh t_newBaseLow t_newBaseHigh t_from t_knots t_lines t_chosen t_undos t_redos t_aimedMany t_fits t_fitOf t_sights t_systems t_own t_cross t_curveLong t_wallFirst), IA E 100 t_cur, JA E 6 t_curSum, IA E N_p1 p1_a, JA E N_p3 p3_a] h) 0 [some (.ref a_t), some (.ref a_p1), some (vI v2), some (.ref a_p3), some (vI v4), none] [] := by
  rw [m_X11_keeps_0] at hs
  refine g_iconst e_X11_keeps_0 ?_
  refine g_istore e_X11_keeps_1 st1_5 rfl ?_
  exact g_X11_keeps_3 ao hN_p1 hN_p3 ok_t_cur ok_t_curSum ok_p3_a ok_v2 ok_v4 (hk_29 := by
      intro p1_a' v5' ok_p1_a' ok_v5' hs
      exact g_X11_keeps_29 ao hN_p1 hN_p3 ok_t_cur ok_t_curSum ok_p1_a' ok_p3_a ok_v4 hs) FU _ _ ok_p1_a (by decide : inI 0) hs

noncomputable def m_X11_keeps (N_p1 : Nat) (N_p3 : Nat) (t_cur : Nat → Int) (t_curSum : Nat → Int) (p1_a : Nat → Int) (p3_a : Nat → Int) (v2 : Int) (v4 : Int) : Option ((Nat → Int) × (Nat → Int)) := m_X11_keeps_0 N_p1 N_p3 t_cur t_curSum p1_a p3_a v2 v4

set_option maxRecDepth 10000 in
set_option maxHeartbeats 8000000 in
theorem ct_X11_keeps {l : Launch} {E : EE} {b0 n : Nat} {h : AH} {a_t a_p1 a_p3 : Nat} {N_p1 N_p3 : Nat} {t_thrown t_taped t_p t_fault t_baseLow t_baseHigh t_newBaseLow t_newBaseHigh t_from t_knots t_lines t_chosen t_undos t_redos t_aimedMany t_fits t_fitOf t_sights t_systems t_own t_cross t_curveLong t_wallFirst : Int} {t_cur t_curSum p1_a p3_a : Nat → Int} {v2 v4 : Int} (ao : AO b0 n [a_t, (a_t + 24), (a_t + 28), a_p1, a_p3]) (hN_p1 : N_p1 ≤ 100000) (hN_p3 : N_p3 ≤ 100000) (hf : FA h [a_t, (a_t + 24), (a_t + 28), a_p1, a_p3] [.inr (11, fsX11 a_t t_thrown t_taped t_p t_fault t_baseLow t_baseHigh t_newBaseLow t_newBaseHigh t_from t_knots t_lines t_chosen t_undos t_redos t_aimedMany t_fits t_fitOf t_sights t_systems t_own t_cross t_curveLong t_wallFirst), IA E 100 t_cur, JA E 6 t_curSum, IA E N_p1 p1_a, JA E N_p3 p3_a]) (ok_t_cur : okA t_cur) (ok_t_curSum : okJ t_curSum) (ok_p1_a : okA p1_a) (ok_p3_a : okJ p3_a) (ok_v2 : inI v2) (ok_v4 : inI v4) {r : (Nat → Int) × (Nat → Int)} (hm : m_X11_keeps N_p1 N_p3 t_cur t_curSum p1_a p3_a v2 v4 = some r) : Ct l E b0 M_X11_keeps 0 0 [.ref a_t, .ref a_p1, vI v2, .ref a_p3, vI v4] h n (none) (ov [a_t, (a_t + 24), (a_t + 28), a_p1, a_p3] [.inr (11, fsX11 a_t t_thrown t_taped t_p t_fault t_baseLow t_baseHigh t_newBaseLow t_newBaseHigh t_from t_knots t_lines t_chosen t_undos t_redos t_aimedMany t_fits t_fitOf t_sights t_systems t_own t_cross t_curveLong t_wallFirst), IA E 100 t_cur, JA E 6 t_curSum, IA E N_p1 r.1, JA E N_p3 r.2] h) n (okA r.1 ∧ okJ r.2) := by
  rw [m_X11_keeps] at hm
  have hg : G l E b0 M_X11_keeps (fun _ => True) (ZM E b0 (none) (ov [a_t, (a_t + 24), (a_t + 28), a_p1, a_p3] [.inr (11, fsX11 a_t t_thrown t_taped t_p t_fault t_baseLow t_baseHigh t_newBaseLow t_newBaseHigh t_from t_knots t_lines t_chosen t_undos t_redos t_aimedMany t_fits t_fitOf t_sights t_systems t_own t_cross t_curveLong t_wallFirst), IA E 100 t_cur, JA E 6 t_curSum, IA E N_p1 r.1, JA E N_p3 r.2] h) n (okA r.1 ∧ okJ r.2) 0 0) 0 0 n (ov [a_t, (a_t + 24), (a_t + 28), a_p1, a_p3] [.inr (11, fsX11 a_t t_thrown t_taped t_p t_fault t_baseLow t_baseHigh t_newBaseLow t_newBaseHigh t_from t_knots t_lines t_chosen t_undos t_redos t_aimedMany t_fits t_fitOf t_sights t_systems t_own t_cross t_curveLong t_wallFirst), IA E 100 t_cur, JA E 6 t_curSum, IA E N_p1 p1_a, JA E N_p3 p3_a] h) 0 [some (.ref a_t), some (.ref a_p1), some (vI v2), some (.ref a_p3), some (vI v4), none] [] := by
    have hs := hm
    exact g_X11_keeps_0 ao hN_p1 hN_p3 ok_t_cur ok_t_curSum ok_p1_a ok_p3_a ok_v2 ok_v4 hs
  rw [FA_id hf] at hg
  exact Ct_of [some (.ref a_t), some (.ref a_p1), some (vI v2), some (.ref a_p3), some (vI v4), none] ⟨by decide +kernel, rfl⟩ rfl (Nat.le_of_ble_eq_true rfl) hg

/-! ===== X11_pushesAsRead ===== -/
theorem e_X11_pushesAsRead_0 : DC cX11_pushesAsRead 0 (.iconst 0) 1 1 := ⟨by decide +kernel, rfl⟩
theorem e_X11_pushesAsRead_1 : DC cX11_pushesAsRead 1 (.istore_n 1) 1 2 := ⟨by decide +kernel, rfl⟩
theorem e_X11_pushesAsRead_2 : DC cX11_pushesAsRead 2 (.iload_n 1) 1 3 := ⟨by decide +kernel, rfl⟩
theorem e_X11_pushesAsRead_3 : DC cX11_pushesAsRead 3 (.bipush 21) 2 5 := ⟨by decide +kernel, rfl⟩
theorem e_X11_pushesAsRead_5 : DB cX11_pushesAsRead 5 (.if_icmp .ge 21) (21) 3 8 26 := ⟨by decide +kernel, rfl, rfl⟩
theorem e_X11_pushesAsRead_8 : DC cX11_pushesAsRead 8 (.aload_n 0) 1 9 := ⟨by decide +kernel, rfl⟩
theorem e_X11_pushesAsRead_9 : DC cX11_pushesAsRead 9 (.getfield 90) 3 12 := ⟨by decide +kernel, rfl⟩
theorem e_X11_pushesAsRead_12 : DC cX11_pushesAsRead 12 (.iload_n 1) 1 13 := ⟨by decide +kernel, rfl⟩
theorem e_X11_pushesAsRead_13 : DC cX11_pushesAsRead 13 (.aload_n 0) 1 14 := ⟨by decide +kernel, rfl⟩
theorem e_X11_pushesAsRead_14 : DC cX11_pushesAsRead 14 (.getfield 26) 3 17 := ⟨by decide +kernel, rfl⟩
theorem e_X11_pushesAsRead_17 : DC cX11_pushesAsRead 17 (.iload_n 1) 1 18 := ⟨by decide +kernel, rfl⟩
theorem e_X11_pushesAsRead_18 : DC cX11_pushesAsRead 18 (.iaload) 1 19 := ⟨by decide +kernel, rfl⟩
theorem e_X11_pushesAsRead_19 : DC cX11_pushesAsRead 19 (.iastore) 1 20 := ⟨by decide +kernel, rfl⟩
theorem e_X11_pushesAsRead_20 : DC cX11_pushesAsRead 20 (.iinc 1 1) 3 23 := ⟨by decide +kernel, rfl⟩
theorem e_X11_pushesAsRead_23 : DB cX11_pushesAsRead 23 (.goto (-21)) (-21) 3 26 2 := ⟨by decide +kernel, rfl, rfl⟩
theorem e_X11_pushesAsRead_26 : DC cX11_pushesAsRead 26 (.return_) 1 27 := ⟨by decide +kernel, rfl⟩
noncomputable def m_X11_pushesAsRead_2 (t_push : Nat → Int) (k_26 : (Nat → Int) → Int → Option ((Nat → Int))) : Nat → (Nat → Int) → Int → Option ((Nat → Int))
  | 0, _, _ => none
  | F + 1, t_pushAt, v1 => if 21 ≤ v1 then (some (t_pushAt)) else (chk (inB v1 21) (chk (inB v1 21) (chk (inI (v1 + 1)) (m_X11_pushesAsRead_2 t_push k_26 F (up t_pushAt (Int.toNat v1) (t_push (Int.toNat v1))) (v1 + 1)))))

set_option maxRecDepth 10000 in
set_option maxHeartbeats 8000000 in
theorem g_X11_pushesAsRead_2 {l : Launch} {E : EE} {b0 n : Nat} {h : AH} {a_t : Nat} {t_thrown t_taped t_p t_fault t_baseLow t_baseHigh t_newBaseLow t_newBaseHigh t_from t_knots t_lines t_chosen t_undos t_redos t_aimedMany t_fits t_fitOf t_sights t_systems t_own t_cross t_curveLong t_wallFirst : Int} {t_push : Nat → Int} {r : (Nat → Int)} {k_26 : (Nat → Int) → Int → Option ((Nat → Int))} (ao : AO b0 n [a_t, (a_t + 6), (a_t + 27)]) (ok_t_push : okA t_push) (hk_26 : ∀ (t_pushAt_ : Nat → Int) (v1_ : Int), okA t_pushAt_ → inI v1_ → k_26 t_pushAt_ v1_ = some r → G l E b0 M_X11_pushesAsRead (fun _ => True) (ZM E b0 (none) (ov [a_t, (a_t + 6), (a_t + 27)] [.inr (11, fsX11 a_t t_thrown t_taped t_p t_fault t_baseLow t_baseHigh t_newBaseLow t_newBaseHigh t_from t_knots t_lines t_chosen t_undos t_redos t_aimedMany t_fits t_fitOf t_sights t_systems t_own t_cross t_curveLong t_wallFirst), IA E 21 t_push, IA E 21 r] h) n (okA r) 0 0) 0 0 n (ov [a_t, (a_t + 6), (a_t + 27)] [.inr (11, fsX11 a_t t_thrown t_taped t_p t_fault t_baseLow t_baseHigh t_newBaseLow t_newBaseHigh t_from t_knots t_lines t_chosen t_undos t_redos t_aimedMany t_fits t_fitOf t_sights t_systems t_own t_cross t_curveLong t_wallFirst), IA E 21 t_push, IA E 21 t_pushAt_] h) 26 [none, none] []) :
    ∀ (F : Nat) (t_pushAt : Nat → Int) (v1 : Int), okA t_pushAt → inI v1 → m_X11_pushesAsRead_2 t_push k_26 F t_pushAt v1 = some r → G l E b0 M_X11_pushesAsRead (fun _ => True) (ZM E b0 (none) (ov [a_t, (a_t + 6), (a_t + 27)] [.inr (11, fsX11 a_t t_thrown t_taped t_p t_fault t_baseLow t_baseHigh t_newBaseLow t_newBaseHigh t_from t_knots t_lines t_chosen t_undos t_redos t_aimedMany t_fits t_fitOf t_sights t_systems t_own t_cross t_curveLong t_wallFirst), IA E 21 t_push, IA E 21 r] h) n (okA r) 0 0) 0 0 n (ov [a_t, (a_t + 6), (a_t + 27)] [.inr (11, fsX11 a_t t_thrown t_taped t_p t_fault t_baseLow t_baseHigh t_newBaseLow t_newBaseHigh t_from t_knots t_lines t_chosen t_undos t_redos t_aimedMany t_fits t_fitOf t_sights t_systems t_own t_cross t_curveLong t_wallFirst), IA E 21 t_push, IA E 21 t_pushAt] h) 2 [some (.ref a_t), some (vI v1)] [] := by
  intro F
  induction F with
  | zero =>
    intro t_pushAt v1 ok_t_pushAt ok_v1 hs
    rw [m_X11_pushesAsRead_2] at hs
    cases hs
  | succ F ih =>
    intro t_pushAt v1 ok_t_pushAt ok_v1 hs
    rw [m_X11_pushesAsRead_2] at hs
    refine g_iload_n e_X11_pushesAsRead_2 rfl ?_
    refine g_bipush e_X11_pushesAsRead_3 bp_21 ?_
    refine g_icmp_ge e_X11_pushesAsRead_5 ok_v1 (by decide : inI 21) hs (fun c5 hs => ?_) (fun c5 hs => ?_)
    · obtain rfl := Option.some.inj hs
      exact g_vret rfl ok_t_pushAt e_X11_pushesAsRead_26
    · refine g_aload_n e_X11_pushesAsRead_8 rfl ?_
      refine g_get 0 38 ao rfl rfl fsX11_g38 fl_X11_90 e_X11_pushesAsRead_9 ?_
      refine g_iload_n e_X11_pushesAsRead_12 rfl ?_
      refine g_aload_n e_X11_pushesAsRead_13 rfl ?_
      refine g_get 0 9 ao rfl rfl fsX11_g9 fl_X11_26 e_X11_pushesAsRead_14 ?_
      refine g_iload_n e_X11_pushesAsRead_17 rfl ?_
      refine g_iald 1 ao rfl rfl (Nat.le_of_ble_eq_true rfl) e_X11_pushesAsRead_18 hs (fun hi1 hs => ?_)
      refine g_iast 2 ao rfl rfl ls_2 (Nat.le_of_ble_eq_true rfl) e_X11_pushesAsRead_19 hs (fun hi2 hs => ?_)
      refine g_iinc e_X11_pushesAsRead_20 rfl st1_1 rfl ?_
      refine g_goto e_X11_pushesAsRead_23 ?_
      obtain ⟨hc3, hs⟩ := chk_elim hs
      exact ih _ _ (okA_up ok_t_pushAt (ok_t_push _)) hc3 hs

noncomputable def m_X11_pushesAsRead_26 (t_pushAt : Nat → Int) : Option ((Nat → Int)) :=
  some (t_pushAt)

set_option maxRecDepth 10000 in
set_option maxHeartbeats 8000000 in
theorem g_X11_pushesAsRead_26 {l : Launch} {E : EE} {b0 n : Nat} {h : AH} {a_t : Nat} {t_thrown t_taped t_p t_fault t_baseLow t_baseHigh t_newBaseLow t_newBaseHigh t_from t_knots t_lines t_chosen t_undos t_redos t_aimedMany t_fits t_fitOf t_sights t_systems t_own t_cross t_curveLong t_wallFirst : Int} {t_push t_pushAt : Nat → Int} {r : (Nat → Int)} (ao : AO b0 n [a_t, (a_t + 6), (a_t + 27)]) (ok_t_push : okA t_push) (ok_t_pushAt : okA t_pushAt) (hs : m_X11_pushesAsRead_26 t_pushAt = some r) : G l E b0 M_X11_pushesAsRead (fun _ => True) (ZM E b0 (none) (ov [a_t, (a_t + 6), (a_t + 27)] [.inr (11, fsX11 a_t t_thrown t_taped t_p t_fault t_baseLow t_baseHigh t_newBaseLow t_newBaseHigh t_from t_knots t_lines t_chosen t_undos t_redos t_aimedMany t_fits t_fitOf t_sights t_systems t_own t_cross t_curveLong t_wallFirst), IA E 21 t_push, IA E 21 r] h) n (okA r) 0 0) 0 0 n (ov [a_t, (a_t + 6), (a_t + 27)] [.inr (11, fsX11 a_t t_thrown t_taped t_p t_fault t_baseLow t_baseHigh t_newBaseLow t_newBaseHigh t_from t_knots t_lines t_chosen t_undos t_redos t_aimedMany t_fits t_fitOf t_sights t_systems t_own t_cross t_curveLong t_wallFirst), IA E 21 t_push, IA E 21 t_pushAt] h) 26 [none, none] [] := by
  rw [m_X11_pushesAsRead_26] at hs
  obtain rfl := Option.some.inj hs
  exact g_vret rfl ok_t_pushAt e_X11_pushesAsRead_26

noncomputable def m_X11_pushesAsRead_0 (t_push : Nat → Int) (t_pushAt : Nat → Int) : Option ((Nat → Int)) :=
  m_X11_pushesAsRead_2 t_push (fun t_pushAt' v1' => m_X11_pushesAsRead_26 t_pushAt') FU t_pushAt 0

set_option maxRecDepth 10000 in
set_option maxHeartbeats 8000000 in
theorem g_X11_pushesAsRead_0 {l : Launch} {E : EE} {b0 n : Nat} {h : AH} {a_t : Nat} {t_thrown t_taped t_p t_fault t_baseLow t_baseHigh t_newBaseLow t_newBaseHigh t_from t_knots t_lines t_chosen t_undos t_redos t_aimedMany t_fits t_fitOf t_sights t_systems t_own t_cross t_curveLong t_wallFirst : Int} {t_push t_pushAt : Nat → Int} {r : (Nat → Int)} (ao : AO b0 n [a_t, (a_t + 6), (a_t + 27)]) (ok_t_push : okA t_push) (ok_t_pushAt : okA t_pushAt) (hs : m_X11_pushesAsRead_0 t_push t_pushAt = some r) : G l E b0 M_X11_pushesAsRead (fun _ => True) (ZM E b0 (none) (ov [a_t, (a_t + 6), (a_t + 27)] [.inr (11, fsX11 a_t t_thrown t_taped t_p t_fault t_baseLow t_baseHigh t_newBaseLow t_newBaseHigh t_from t_knots t_lines t_chosen t_undos t_redos t_aimedMany t_fits t_fitOf t_sights t_systems t_own t_cross t_curveLong t_wallFirst), IA E 21 t_push, IA E 21 r] h) n (okA r) 0 0) 0 0 n (ov [a_t, (a_t + 6), (a_t + 27)] [.inr (11, fsX11 a_t t_thrown t_taped t_p t_fault t_baseLow t_baseHigh t_newBaseLow t_newBaseHigh t_from t_knots t_lines t_chosen t_undos t_redos t_aimedMany t_fits t_fitOf t_sights t_systems t_own t_cross t_curveLong t_wallFirst), IA E 21 t_push, IA E 21 t_pushAt] h) 0 [some (.ref a_t), none] [] := by
  rw [m_X11_pushesAsRead_0] at hs
  refine g_iconst e_X11_pushesAsRead_0 ?_
  refine g_istore_n e_X11_pushesAsRead_1 st1_1 rfl ?_
  exact g_X11_pushesAsRead_2 ao ok_t_push (hk_26 := by
      intro t_pushAt' v1' ok_t_pushAt' ok_v1' hs
      exact g_X11_pushesAsRead_26 ao ok_t_push ok_t_pushAt' hs) FU _ _ ok_t_pushAt (by decide : inI 0) hs

noncomputable def m_X11_pushesAsRead (t_push : Nat → Int) (t_pushAt : Nat → Int) : Option ((Nat → Int)) := m_X11_pushesAsRead_0 t_push t_pushAt

set_option maxRecDepth 10000 in
set_option maxHeartbeats 8000000 in
theorem ct_X11_pushesAsRead {l : Launch} {E : EE} {b0 n : Nat} {h : AH} {a_t : Nat} {t_thrown t_taped t_p t_fault t_baseLow t_baseHigh t_newBaseLow t_newBaseHigh t_from t_knots t_lines t_chosen t_undos t_redos t_aimedMany t_fits t_fitOf t_sights t_systems t_own t_cross t_curveLong t_wallFirst : Int} {t_push t_pushAt : Nat → Int} (ao : AO b0 n [a_t, (a_t + 6), (a_t + 27)]) (hf : FA h [a_t, (a_t + 6), (a_t + 27)] [.inr (11, fsX11 a_t t_thrown t_taped t_p t_fault t_baseLow t_baseHigh t_newBaseLow t_newBaseHigh t_from t_knots t_lines t_chosen t_undos t_redos t_aimedMany t_fits t_fitOf t_sights t_systems t_own t_cross t_curveLong t_wallFirst), IA E 21 t_push, IA E 21 t_pushAt]) (ok_t_push : okA t_push) (ok_t_pushAt : okA t_pushAt) {r : (Nat → Int)} (hm : m_X11_pushesAsRead t_push t_pushAt = some r) : Ct l E b0 M_X11_pushesAsRead 0 0 [.ref a_t] h n (none) (ov [a_t, (a_t + 6), (a_t + 27)] [.inr (11, fsX11 a_t t_thrown t_taped t_p t_fault t_baseLow t_baseHigh t_newBaseLow t_newBaseHigh t_from t_knots t_lines t_chosen t_undos t_redos t_aimedMany t_fits t_fitOf t_sights t_systems t_own t_cross t_curveLong t_wallFirst), IA E 21 t_push, IA E 21 r] h) n (okA r) := by
  rw [m_X11_pushesAsRead] at hm
  have hg : G l E b0 M_X11_pushesAsRead (fun _ => True) (ZM E b0 (none) (ov [a_t, (a_t + 6), (a_t + 27)] [.inr (11, fsX11 a_t t_thrown t_taped t_p t_fault t_baseLow t_baseHigh t_newBaseLow t_newBaseHigh t_from t_knots t_lines t_chosen t_undos t_redos t_aimedMany t_fits t_fitOf t_sights t_systems t_own t_cross t_curveLong t_wallFirst), IA E 21 t_push, IA E 21 r] h) n (okA r) 0 0) 0 0 n (ov [a_t, (a_t + 6), (a_t + 27)] [.inr (11, fsX11 a_t t_thrown t_taped t_p t_fault t_baseLow t_baseHigh t_newBaseLow t_newBaseHigh t_from t_knots t_lines t_chosen t_undos t_redos t_aimedMany t_fits t_fitOf t_sights t_systems t_own t_cross t_curveLong t_wallFirst), IA E 21 t_push, IA E 21 t_pushAt] h) 0 [some (.ref a_t), none] [] := by
    have hs := hm
    exact g_X11_pushesAsRead_0 ao ok_t_push ok_t_pushAt hs
  rw [FA_id hf] at hg
  exact Ct_of [some (.ref a_t), none] ⟨by decide +kernel, rfl⟩ rfl (Nat.le_of_ble_eq_true rfl) hg

/-! ===== X11_flaws ===== -/
theorem e_X11_flaws_0 : DC cX11_flaws 0 (.iconst 0) 1 1 := ⟨by decide +kernel, rfl⟩
theorem e_X11_flaws_1 : DC cX11_flaws 1 (.istore_n 1) 1 2 := ⟨by decide +kernel, rfl⟩
theorem e_X11_flaws_2 : DC cX11_flaws 2 (.iconst 0) 1 3 := ⟨by decide +kernel, rfl⟩
theorem e_X11_flaws_3 : DC cX11_flaws 3 (.istore_n 2) 1 4 := ⟨by decide +kernel, rfl⟩
theorem e_X11_flaws_4 : DC cX11_flaws 4 (.iload_n 2) 1 5 := ⟨by decide +kernel, rfl⟩
theorem e_X11_flaws_5 : DC cX11_flaws 5 (.bipush 100) 2 7 := ⟨by decide +kernel, rfl⟩
theorem e_X11_flaws_7 : DB cX11_flaws 7 (.if_icmp .ge 26) (26) 3 10 33 := ⟨by decide +kernel, rfl, rfl⟩
theorem e_X11_flaws_10 : DC cX11_flaws 10 (.iload_n 1) 1 11 := ⟨by decide +kernel, rfl⟩
theorem e_X11_flaws_11 : DC cX11_flaws 11 (.aload_n 0) 1 12 := ⟨by decide +kernel, rfl⟩
theorem e_X11_flaws_12 : DC cX11_flaws 12 (.getfield 81) 3 15 := ⟨by decide +kernel, rfl⟩
theorem e_X11_flaws_15 : DC cX11_flaws 15 (.iload_n 2) 1 16 := ⟨by decide +kernel, rfl⟩
theorem e_X11_flaws_16 : DC cX11_flaws 16 (.iaload) 1 17 := ⟨by decide +kernel, rfl⟩
theorem e_X11_flaws_17 : DB cX11_flaws 17 (.ifCond .ne 7) (7) 3 20 24 := ⟨by decide +kernel, rfl, rfl⟩
theorem e_X11_flaws_20 : DC cX11_flaws 20 (.iconst 0) 1 21 := ⟨by decide +kernel, rfl⟩
theorem e_X11_flaws_21 : DB cX11_flaws 21 (.goto 4) (4) 3 24 25 := ⟨by decide +kernel, rfl, rfl⟩
theorem e_X11_flaws_24 : DC cX11_flaws 24 (.iconst 1) 1 25 := ⟨by decide +kernel, rfl⟩
theorem e_X11_flaws_25 : DC cX11_flaws 25 (.iadd) 1 26 := ⟨by decide +kernel, rfl⟩
theorem e_X11_flaws_26 : DC cX11_flaws 26 (.istore_n 1) 1 27 := ⟨by decide +kernel, rfl⟩
theorem e_X11_flaws_27 : DC cX11_flaws 27 (.iinc 2 1) 3 30 := ⟨by decide +kernel, rfl⟩
theorem e_X11_flaws_30 : DB cX11_flaws 30 (.goto (-26)) (-26) 3 33 4 := ⟨by decide +kernel, rfl, rfl⟩
theorem e_X11_flaws_33 : DC cX11_flaws 33 (.iload_n 1) 1 34 := ⟨by decide +kernel, rfl⟩
theorem e_X11_flaws_34 : DC cX11_flaws 34 (.ireturn) 1 35 := ⟨by decide +kernel, rfl⟩
noncomputable def m_X11_flaws_25 (t_cur : Nat → Int) (v2 : Int) (s0 : Int) (s1 : Int) (ag : Int → Int → Option (Int)) (k_33 : Int → Int → Option (Int)) : Option (Int) :=
  chk (inI (s0 + s1)) (chk (inI (v2 + 1)) (ag (s0 + s1) (v2 + 1)))

set_option maxRecDepth 10000 in
set_option maxHeartbeats 8000000 in
theorem g_X11_flaws_25 {l : Launch} {E : EE} {b0 n : Nat} {h : AH} {a_t : Nat} {t_thrown t_taped t_p t_fault t_baseLow t_baseHigh t_newBaseLow t_newBaseHigh t_from t_knots t_lines t_chosen t_undos t_redos t_aimedMany t_fits t_fitOf t_sights t_systems t_own t_cross t_curveLong t_wallFirst v2 s0 s1 : Int} {t_cur : Nat → Int} {r : Int} {ag : Int → Int → Option (Int)} {k_33 : Int → Int → Option (Int)} (ao : AO b0 n [a_t, (a_t + 24)]) (ok_t_cur : okA t_cur) (ok_v2 : inI v2) (ok_s0 : inI s0) (ok_s1 : inZ s1) (hag : ∀ (v1_ : Int) (v2_ : Int), inI v1_ → inI v2_ → ag v1_ v2_ = some r → G l E b0 M_X11_flaws (fun _ => True) (ZM E b0 (some (vI r)) (ov [a_t, (a_t + 24)] [.inr (11, fsX11 a_t t_thrown t_taped t_p t_fault t_baseLow t_baseHigh t_newBaseLow t_newBaseHigh t_from t_knots t_lines t_chosen t_undos t_redos t_aimedMany t_fits t_fitOf t_sights t_systems t_own t_cross t_curveLong t_wallFirst), IA E 100 t_cur] h) n (inI r) 0 0) 0 0 n (ov [a_t, (a_t + 24)] [.inr (11, fsX11 a_t t_thrown t_taped t_p t_fault t_baseLow t_baseHigh t_newBaseLow t_newBaseHigh t_from t_knots t_lines t_chosen t_undos t_redos t_aimedMany t_fits t_fitOf t_sights t_systems t_own t_cross t_curveLong t_wallFirst), IA E 100 t_cur] h) 4 [some (.ref a_t), some (vI v1_), some (vI v2_)] []) (hk_33 : ∀ (v1_ : Int) (v2_ : Int), inI v1_ → inI v2_ → k_33 v1_ v2_ = some r → G l E b0 M_X11_flaws (fun _ => True) (ZM E b0 (some (vI r)) (ov [a_t, (a_t + 24)] [.inr (11, fsX11 a_t t_thrown t_taped t_p t_fault t_baseLow t_baseHigh t_newBaseLow t_newBaseHigh t_from t_knots t_lines t_chosen t_undos t_redos t_aimedMany t_fits t_fitOf t_sights t_systems t_own t_cross t_curveLong t_wallFirst), IA E 100 t_cur] h) n (inI r) 0 0) 0 0 n (ov [a_t, (a_t + 24)] [.inr (11, fsX11 a_t t_thrown t_taped t_p t_fault t_baseLow t_baseHigh t_newBaseLow t_newBaseHigh t_from t_knots t_lines t_chosen t_undos t_redos t_aimedMany t_fits t_fitOf t_sights t_systems t_own t_cross t_curveLong t_wallFirst), IA E 100 t_cur] h) 33 [none, some (vI v1_), none] []) (hs : m_X11_flaws_25 t_cur v2 s0 s1 ag k_33 = some r) : G l E b0 M_X11_flaws (fun _ => True) (ZM E b0 (some (vI r)) (ov [a_t, (a_t + 24)] [.inr (11, fsX11 a_t t_thrown t_taped t_p t_fault t_baseLow t_baseHigh t_newBaseLow t_newBaseHigh t_from t_knots t_lines t_chosen t_undos t_redos t_aimedMany t_fits t_fitOf t_sights t_systems t_own t_cross t_curveLong t_wallFirst), IA E 100 t_cur] h) n (inI r) 0 0) 0 0 n (ov [a_t, (a_t + 24)] [.inr (11, fsX11 a_t t_thrown t_taped t_p t_fault t_baseLow t_baseHigh t_newBaseLow t_newBaseHigh t_from t_knots t_lines t_chosen t_undos t_redos t_aimedMany t_fits t_fitOf t_sights t_systems t_own t_cross t_curveLong t_wallFirst), IA E 100 t_cur] h) 25 [some (.ref a_t), none, some (vI v2)] [vI s1, vI s0] := by
  rw [m_X11_flaws_25] at hs
  refine g_iadd e_X11_flaws_25 ?_
  refine g_istore_n e_X11_flaws_26 st1_1 rfl ?_
  refine g_iinc e_X11_flaws_27 rfl st1_2 rfl ?_
  refine g_goto e_X11_flaws_30 ?_
  obtain ⟨hc2, hs⟩ := chk_elim hs
  obtain ⟨hc3, hs⟩ := chk_elim hs
  exact hag _ _ hc2 hc3 hs

noncomputable def m_X11_flaws_4 (t_cur : Nat → Int) (k_33 : Int → Int → Option (Int)) : Nat → Int → Int → Option (Int)
  | 0, _, _ => none
  | F + 1, v1, v2 => if 100 ≤ v2 then (some (v1)) else (chk (inB v2 100) (if (t_cur (Int.toNat v2)) = 0 then (m_X11_flaws_25 t_cur v2 v1 0 (m_X11_flaws_4 t_cur k_33 F) k_33) else (m_X11_flaws_25 t_cur v2 v1 1 (m_X11_flaws_4 t_cur k_33 F) k_33)))

set_option maxRecDepth 10000 in
set_option maxHeartbeats 8000000 in
theorem g_X11_flaws_4 {l : Launch} {E : EE} {b0 n : Nat} {h : AH} {a_t : Nat} {t_thrown t_taped t_p t_fault t_baseLow t_baseHigh t_newBaseLow t_newBaseHigh t_from t_knots t_lines t_chosen t_undos t_redos t_aimedMany t_fits t_fitOf t_sights t_systems t_own t_cross t_curveLong t_wallFirst : Int} {t_cur : Nat → Int} {r : Int} {k_33 : Int → Int → Option (Int)} (ao : AO b0 n [a_t, (a_t + 24)]) (ok_t_cur : okA t_cur) (hk_33 : ∀ (v1_ : Int) (v2_ : Int), inI v1_ → inI v2_ → k_33 v1_ v2_ = some r → G l E b0 M_X11_flaws (fun _ => True) (ZM E b0 (some (vI r)) (ov [a_t, (a_t + 24)] [.inr (11, fsX11 a_t t_thrown t_taped t_p t_fault t_baseLow t_baseHigh t_newBaseLow t_newBaseHigh t_from t_knots t_lines t_chosen t_undos t_redos t_aimedMany t_fits t_fitOf t_sights t_systems t_own t_cross t_curveLong t_wallFirst), IA E 100 t_cur] h) n (inI r) 0 0) 0 0 n (ov [a_t, (a_t + 24)] [.inr (11, fsX11 a_t t_thrown t_taped t_p t_fault t_baseLow t_baseHigh t_newBaseLow t_newBaseHigh t_from t_knots t_lines t_chosen t_undos t_redos t_aimedMany t_fits t_fitOf t_sights t_systems t_own t_cross t_curveLong t_wallFirst), IA E 100 t_cur] h) 33 [none, some (vI v1_), none] []) :
    ∀ (F : Nat) (v1 : Int) (v2 : Int), inI v1 → inI v2 → m_X11_flaws_4 t_cur k_33 F v1 v2 = some r → G l E b0 M_X11_flaws (fun _ => True) (ZM E b0 (some (vI r)) (ov [a_t, (a_t + 24)] [.inr (11, fsX11 a_t t_thrown t_taped t_p t_fault t_baseLow t_baseHigh t_newBaseLow t_newBaseHigh t_from t_knots t_lines t_chosen t_undos t_redos t_aimedMany t_fits t_fitOf t_sights t_systems t_own t_cross t_curveLong t_wallFirst), IA E 100 t_cur] h) n (inI r) 0 0) 0 0 n (ov [a_t, (a_t + 24)] [.inr (11, fsX11 a_t t_thrown t_taped t_p t_fault t_baseLow t_baseHigh t_newBaseLow t_newBaseHigh t_from t_knots t_lines t_chosen t_undos t_redos t_aimedMany t_fits t_fitOf t_sights t_systems t_own t_cross t_curveLong t_wallFirst), IA E 100 t_cur] h) 4 [some (.ref a_t), some (vI v1), some (vI v2)] [] := by
  intro F
  induction F with
  | zero =>
    intro v1 v2 ok_v1 ok_v2 hs
    rw [m_X11_flaws_4] at hs
    cases hs
  | succ F ih =>
    intro v1 v2 ok_v1 ok_v2 hs
    rw [m_X11_flaws_4] at hs
    refine g_iload_n e_X11_flaws_4 rfl ?_
    refine g_bipush e_X11_flaws_5 bp_100 ?_
    refine g_icmp_ge e_X11_flaws_7 ok_v2 (by decide : inI 100) hs (fun c7 hs => ?_) (fun c7 hs => ?_)
    · refine g_iload_n e_X11_flaws_33 rfl ?_
      obtain rfl := Option.some.inj hs
      exact g_iret rfl ok_v1 e_X11_flaws_34
    · refine g_iload_n e_X11_flaws_10 rfl ?_
      refine g_aload_n e_X11_flaws_11 rfl ?_
      refine g_get 0 35 ao rfl rfl fsX11_g35 fl_X11_81 e_X11_flaws_12 ?_
      refine g_iload_n e_X11_flaws_15 rfl ?_
      refine g_iald 1 ao rfl rfl (Nat.le_of_ble_eq_true rfl) e_X11_flaws_16 hs (fun hi1 hs => ?_)
      refine g_if_ne e_X11_flaws_17 (ok_t_cur _) hs (fun c17 hs => ?_) (fun c17 hs => ?_)
      · refine g_iconst e_X11_flaws_20 ?_
        refine g_goto e_X11_flaws_21 ?_
        exact g_mask [true, false, true] (g_X11_flaws_25 ao ok_t_cur ok_v2 ok_v1 (by decide : inZ 0) ih hk_33 hs)
      · refine g_iconst e_X11_flaws_24 ?_
        exact g_mask [true, false, true] (g_X11_flaws_25 ao ok_t_cur ok_v2 ok_v1 (by decide : inZ 1) ih hk_33 hs)

noncomputable def m_X11_flaws_33 (v1 : Int) : Option (Int) :=
  some (v1)

set_option maxRecDepth 10000 in
set_option maxHeartbeats 8000000 in
theorem g_X11_flaws_33 {l : Launch} {E : EE} {b0 n : Nat} {h : AH} {a_t : Nat} {t_thrown t_taped t_p t_fault t_baseLow t_baseHigh t_newBaseLow t_newBaseHigh t_from t_knots t_lines t_chosen t_undos t_redos t_aimedMany t_fits t_fitOf t_sights t_systems t_own t_cross t_curveLong t_wallFirst v1 : Int} {t_cur : Nat → Int} {r : Int} (ao : AO b0 n [a_t, (a_t + 24)]) (ok_t_cur : okA t_cur) (ok_v1 : inI v1) (hs : m_X11_flaws_33 v1 = some r) : G l E b0 M_X11_flaws (fun _ => True) (ZM E b0 (some (vI r)) (ov [a_t, (a_t + 24)] [.inr (11, fsX11 a_t t_thrown t_taped t_p t_fault t_baseLow t_baseHigh t_newBaseLow t_newBaseHigh t_from t_knots t_lines t_chosen t_undos t_redos t_aimedMany t_fits t_fitOf t_sights t_systems t_own t_cross t_curveLong t_wallFirst), IA E 100 t_cur] h) n (inI r) 0 0) 0 0 n (ov [a_t, (a_t + 24)] [.inr (11, fsX11 a_t t_thrown t_taped t_p t_fault t_baseLow t_baseHigh t_newBaseLow t_newBaseHigh t_from t_knots t_lines t_chosen t_undos t_redos t_aimedMany t_fits t_fitOf t_sights t_systems t_own t_cross t_curveLong t_wallFirst), IA E 100 t_cur] h) 33 [none, some (vI v1), none] [] := by
  rw [m_X11_flaws_33] at hs
  refine g_iload_n e_X11_flaws_33 rfl ?_
  obtain rfl := Option.some.inj hs
  exact g_iret rfl ok_v1 e_X11_flaws_34

noncomputable def m_X11_flaws_0 (t_cur : Nat → Int) : Option (Int) :=
  m_X11_flaws_4 t_cur (fun v1' v2' => m_X11_flaws_33 v1') FU 0 0

set_option maxRecDepth 10000 in
set_option maxHeartbeats 8000000 in
theorem g_X11_flaws_0 {l : Launch} {E : EE} {b0 n : Nat} {h : AH} {a_t : Nat} {t_thrown t_taped t_p t_fault t_baseLow t_baseHigh t_newBaseLow t_newBaseHigh t_from t_knots t_lines t_chosen t_undos t_redos t_aimedMany t_fits t_fitOf t_sights t_systems t_own t_cross t_curveLong t_wallFirst : Int} {t_cur : Nat → Int} {r : Int} (ao : AO b0 n [a_t, (a_t + 24)]) (ok_t_cur : okA t_cur) (hs : m_X11_flaws_0 t_cur = some r) : G l E b0 M_X11_flaws (fun _ => True) (ZM E b0 (some (vI r)) (ov [a_t, (a_t + 24)] [.inr (11, fsX11 a_t t_thrown t_taped t_p t_fault t_baseLow t_baseHigh t_newBaseLow t_newBaseHigh t_from t_knots t_lines t_chosen t_undos t_redos t_aimedMany t_fits t_fitOf t_sights t_systems t_own t_cross t_curveLong t_wallFirst), IA E 100 t_cur] h) n (inI r) 0 0) 0 0 n (ov [a_t, (a_t + 24)] [.inr (11, fsX11 a_t t_thrown t_taped t_p t_fault t_baseLow t_baseHigh t_newBaseLow t_newBaseHigh t_from t_knots t_lines t_chosen t_undos t_redos t_aimedMany t_fits t_fitOf t_sights t_systems t_own t_cross t_curveLong t_wallFirst), IA E 100 t_cur] h) 0 [some (.ref a_t), none, none] [] := by
  rw [m_X11_flaws_0] at hs
  refine g_iconst e_X11_flaws_0 ?_
  refine g_istore_n e_X11_flaws_1 st1_1 rfl ?_
  refine g_iconst e_X11_flaws_2 ?_
  refine g_istore_n e_X11_flaws_3 st1_2 rfl ?_
  exact g_X11_flaws_4 ao ok_t_cur (hk_33 := by
      intro v1' v2' ok_v1' ok_v2' hs
      exact g_X11_flaws_33 ao ok_t_cur ok_v1' hs) FU _ _ (by decide : inI 0) (by decide : inI 0) hs

noncomputable def m_X11_flaws (t_cur : Nat → Int) : Option (Int) := m_X11_flaws_0 t_cur

set_option maxRecDepth 10000 in
set_option maxHeartbeats 8000000 in
theorem ct_X11_flaws {l : Launch} {E : EE} {b0 n : Nat} {h : AH} {a_t : Nat} {t_thrown t_taped t_p t_fault t_baseLow t_baseHigh t_newBaseLow t_newBaseHigh t_from t_knots t_lines t_chosen t_undos t_redos t_aimedMany t_fits t_fitOf t_sights t_systems t_own t_cross t_curveLong t_wallFirst : Int} {t_cur : Nat → Int} (ao : AO b0 n [a_t, (a_t + 24)]) (hf : FA h [a_t, (a_t + 24)] [.inr (11, fsX11 a_t t_thrown t_taped t_p t_fault t_baseLow t_baseHigh t_newBaseLow t_newBaseHigh t_from t_knots t_lines t_chosen t_undos t_redos t_aimedMany t_fits t_fitOf t_sights t_systems t_own t_cross t_curveLong t_wallFirst), IA E 100 t_cur]) (ok_t_cur : okA t_cur) {r : Int} (hm : m_X11_flaws t_cur = some r) : Ct l E b0 M_X11_flaws 0 0 [.ref a_t] h n (some (vI r)) h n (inI r) := by
  rw [m_X11_flaws] at hm
  have hg : G l E b0 M_X11_flaws (fun _ => True) (ZM E b0 (some (vI r)) (ov [a_t, (a_t + 24)] [.inr (11, fsX11 a_t t_thrown t_taped t_p t_fault t_baseLow t_baseHigh t_newBaseLow t_newBaseHigh t_from t_knots t_lines t_chosen t_undos t_redos t_aimedMany t_fits t_fitOf t_sights t_systems t_own t_cross t_curveLong t_wallFirst), IA E 100 t_cur] h) n (inI r) 0 0) 0 0 n (ov [a_t, (a_t + 24)] [.inr (11, fsX11 a_t t_thrown t_taped t_p t_fault t_baseLow t_baseHigh t_newBaseLow t_newBaseHigh t_from t_knots t_lines t_chosen t_undos t_redos t_aimedMany t_fits t_fitOf t_sights t_systems t_own t_cross t_curveLong t_wallFirst), IA E 100 t_cur] h) 0 [some (.ref a_t), none, none] [] := by
    have hs := hm
    exact g_X11_flaws_0 ao ok_t_cur hs
  rw [FA_id hf] at hg
  exact Ct_of [some (.ref a_t), none, none] ⟨by decide +kernel, rfl⟩ rfl (Nat.le_of_ble_eq_true rfl) hg

/-! ===== X11_feels ===== -/
theorem e_X11_feels_0 : DC cX11_feels 0 (.iload_n 2) 1 1 := ⟨by decide +kernel, rfl⟩
theorem e_X11_feels_1 : DC cX11_feels 1 (.iload_n 3) 1 2 := ⟨by decide +kernel, rfl⟩
theorem e_X11_feels_2 : DC cX11_feels 2 (.imul) 1 3 := ⟨by decide +kernel, rfl⟩
theorem e_X11_feels_3 : DC cX11_feels 3 (.istore 4) 2 5 := ⟨by decide +kernel, rfl⟩
theorem e_X11_feels_5 : DC cX11_feels 5 (.iconst 1) 1 6 := ⟨by decide +kernel, rfl⟩
theorem e_X11_feels_6 : DC cX11_feels 6 (.istore 5) 2 8 := ⟨by decide +kernel, rfl⟩
theorem e_X11_feels_8 : DC cX11_feels 8 (.iload 5) 2 10 := ⟨by decide +kernel, rfl⟩
theorem e_X11_feels_10 : DC cX11_feels 10 (.bipush 21) 2 12 := ⟨by decide +kernel, rfl⟩
theorem e_X11_feels_12 : DB cX11_feels 12 (.if_icmp .ge 81) (81) 3 15 93 := ⟨by decide +kernel, rfl, rfl⟩
theorem e_X11_feels_15 : DC cX11_feels 15 (.iload 4) 2 17 := ⟨by decide +kernel, rfl⟩
theorem e_X11_feels_17 : DC cX11_feels 17 (.iload_n 1) 1 18 := ⟨by decide +kernel, rfl⟩
theorem e_X11_feels_18 : DC cX11_feels 18 (.iload 5) 2 20 := ⟨by decide +kernel, rfl⟩
theorem e_X11_feels_20 : DC cX11_feels 20 (.isub) 1 21 := ⟨by decide +kernel, rfl⟩
theorem e_X11_feels_21 : DB cX11_feels 21 (.ifCond .lt 25) (25) 3 24 46 := ⟨by decide +kernel, rfl, rfl⟩
theorem e_X11_feels_24 : DC cX11_feels 24 (.iload_n 2) 1 25 := ⟨by decide +kernel, rfl⟩
theorem e_X11_feels_25 : DC cX11_feels 25 (.aload_n 0) 1 26 := ⟨by decide +kernel, rfl⟩
theorem e_X11_feels_26 : DC cX11_feels 26 (.getfield 81) 3 29 := ⟨by decide +kernel, rfl⟩
theorem e_X11_feels_29 : DC cX11_feels 29 (.iload_n 1) 1 30 := ⟨by decide +kernel, rfl⟩
theorem e_X11_feels_30 : DC cX11_feels 30 (.iload 5) 2 32 := ⟨by decide +kernel, rfl⟩
theorem e_X11_feels_32 : DC cX11_feels 32 (.isub) 1 33 := ⟨by decide +kernel, rfl⟩
theorem e_X11_feels_33 : DC cX11_feels 33 (.iaload) 1 34 := ⟨by decide +kernel, rfl⟩
theorem e_X11_feels_34 : DC cX11_feels 34 (.imul) 1 35 := ⟨by decide +kernel, rfl⟩
theorem e_X11_feels_35 : DC cX11_feels 35 (.aload_n 0) 1 36 := ⟨by decide +kernel, rfl⟩
theorem e_X11_feels_36 : DC cX11_feels 36 (.getfield 90) 3 39 := ⟨by decide +kernel, rfl⟩
theorem e_X11_feels_39 : DC cX11_feels 39 (.iload 5) 2 41 := ⟨by decide +kernel, rfl⟩
theorem e_X11_feels_41 : DC cX11_feels 41 (.iaload) 1 42 := ⟨by decide +kernel, rfl⟩
theorem e_X11_feels_42 : DC cX11_feels 42 (.imul) 1 43 := ⟨by decide +kernel, rfl⟩
theorem e_X11_feels_43 : DB cX11_feels 43 (.goto 4) (4) 3 46 47 := ⟨by decide +kernel, rfl, rfl⟩
theorem e_X11_feels_46 : DC cX11_feels 46 (.iconst 0) 1 47 := ⟨by decide +kernel, rfl⟩
theorem e_X11_feels_47 : DC cX11_feels 47 (.iadd) 1 48 := ⟨by decide +kernel, rfl⟩
theorem e_X11_feels_48 : DC cX11_feels 48 (.istore 4) 2 50 := ⟨by decide +kernel, rfl⟩
theorem e_X11_feels_50 : DC cX11_feels 50 (.iload 4) 2 52 := ⟨by decide +kernel, rfl⟩
theorem e_X11_feels_52 : DC cX11_feels 52 (.iload_n 1) 1 53 := ⟨by decide +kernel, rfl⟩
theorem e_X11_feels_53 : DC cX11_feels 53 (.iload 5) 2 55 := ⟨by decide +kernel, rfl⟩
theorem e_X11_feels_55 : DC cX11_feels 55 (.iadd) 1 56 := ⟨by decide +kernel, rfl⟩
theorem e_X11_feels_56 : DC cX11_feels 56 (.bipush 100) 2 58 := ⟨by decide +kernel, rfl⟩
theorem e_X11_feels_58 : DB cX11_feels 58 (.if_icmp .ge 25) (25) 3 61 83 := ⟨by decide +kernel, rfl, rfl⟩
theorem e_X11_feels_61 : DC cX11_feels 61 (.iload_n 2) 1 62 := ⟨by decide +kernel, rfl⟩
theorem e_X11_feels_62 : DC cX11_feels 62 (.aload_n 0) 1 63 := ⟨by decide +kernel, rfl⟩
theorem e_X11_feels_63 : DC cX11_feels 63 (.getfield 81) 3 66 := ⟨by decide +kernel, rfl⟩
theorem e_X11_feels_66 : DC cX11_feels 66 (.iload_n 1) 1 67 := ⟨by decide +kernel, rfl⟩
theorem e_X11_feels_67 : DC cX11_feels 67 (.iload 5) 2 69 := ⟨by decide +kernel, rfl⟩
theorem e_X11_feels_69 : DC cX11_feels 69 (.iadd) 1 70 := ⟨by decide +kernel, rfl⟩
theorem e_X11_feels_70 : DC cX11_feels 70 (.iaload) 1 71 := ⟨by decide +kernel, rfl⟩
theorem e_X11_feels_71 : DC cX11_feels 71 (.imul) 1 72 := ⟨by decide +kernel, rfl⟩
theorem e_X11_feels_72 : DC cX11_feels 72 (.aload_n 0) 1 73 := ⟨by decide +kernel, rfl⟩
theorem e_X11_feels_73 : DC cX11_feels 73 (.getfield 90) 3 76 := ⟨by decide +kernel, rfl⟩
theorem e_X11_feels_76 : DC cX11_feels 76 (.iload 5) 2 78 := ⟨by decide +kernel, rfl⟩
theorem e_X11_feels_78 : DC cX11_feels 78 (.iaload) 1 79 := ⟨by decide +kernel, rfl⟩
theorem e_X11_feels_79 : DC cX11_feels 79 (.imul) 1 80 := ⟨by decide +kernel, rfl⟩
theorem e_X11_feels_80 : DB cX11_feels 80 (.goto 4) (4) 3 83 84 := ⟨by decide +kernel, rfl, rfl⟩
theorem e_X11_feels_83 : DC cX11_feels 83 (.iconst 0) 1 84 := ⟨by decide +kernel, rfl⟩
theorem e_X11_feels_84 : DC cX11_feels 84 (.isub) 1 85 := ⟨by decide +kernel, rfl⟩
theorem e_X11_feels_85 : DC cX11_feels 85 (.istore 4) 2 87 := ⟨by decide +kernel, rfl⟩
theorem e_X11_feels_87 : DC cX11_feels 87 (.iinc 5 1) 3 90 := ⟨by decide +kernel, rfl⟩
theorem e_X11_feels_90 : DB cX11_feels 90 (.goto (-82)) (-82) 3 93 8 := ⟨by decide +kernel, rfl, rfl⟩
theorem e_X11_feels_93 : DC cX11_feels 93 (.iload 4) 2 95 := ⟨by decide +kernel, rfl⟩
theorem e_X11_feels_95 : DC cX11_feels 95 (.ireturn) 1 96 := ⟨by decide +kernel, rfl⟩
noncomputable def m_X11_feels_84 (t_cur : Nat → Int) (t_pushAt : Nat → Int) (v1 : Int) (v2 : Int) (v5 : Int) (s0 : Int) (s1 : Int) (ag : Int → Int → Option (Int)) (k_93 : Int → Int → Option (Int)) : Option (Int) :=
  chk (inI (s0 - s1)) (chk (inI (v5 + 1)) (ag (s0 - s1) (v5 + 1)))

set_option maxRecDepth 10000 in
set_option maxHeartbeats 8000000 in
theorem g_X11_feels_84 {l : Launch} {E : EE} {b0 n : Nat} {h : AH} {a_t : Nat} {t_thrown t_taped t_p t_fault t_baseLow t_baseHigh t_newBaseLow t_newBaseHigh t_from t_knots t_lines t_chosen t_undos t_redos t_aimedMany t_fits t_fitOf t_sights t_systems t_own t_cross t_curveLong t_wallFirst v1 v2 v5 s0 s1 : Int} {t_cur t_pushAt : Nat → Int} {r : Int} {ag : Int → Int → Option (Int)} {k_93 : Int → Int → Option (Int)} (ao : AO b0 n [a_t, (a_t + 24), (a_t + 27)]) (ok_t_cur : okA t_cur) (ok_t_pushAt : okA t_pushAt) (ok_v1 : inI v1) (ok_v2 : inI v2) (ok_v5 : inI v5) (ok_s0 : inI s0) (ok_s1 : inI s1) (hag : ∀ (v4_ : Int) (v5_ : Int), inI v4_ → inI v5_ → ag v4_ v5_ = some r → G l E b0 M_X11_feels (fun _ => True) (ZM E b0 (some (vI r)) (ov [a_t, (a_t + 24), (a_t + 27)] [.inr (11, fsX11 a_t t_thrown t_taped t_p t_fault t_baseLow t_baseHigh t_newBaseLow t_newBaseHigh t_from t_knots t_lines t_chosen t_undos t_redos t_aimedMany t_fits t_fitOf t_sights t_systems t_own t_cross t_curveLong t_wallFirst), IA E 100 t_cur, IA E 21 t_pushAt] h) n (inI r) 0 0) 0 0 n (ov [a_t, (a_t + 24), (a_t + 27)] [.inr (11, fsX11 a_t t_thrown t_taped t_p t_fault t_baseLow t_baseHigh t_newBaseLow t_newBaseHigh t_from t_knots t_lines t_chosen t_undos t_redos t_aimedMany t_fits t_fitOf t_sights t_systems t_own t_cross t_curveLong t_wallFirst), IA E 100 t_cur, IA E 21 t_pushAt] h) 8 [some (.ref a_t), some (vI v1), some (vI v2), none, some (vI v4_), some (vI v5_)] []) (hk_93 : ∀ (v4_ : Int) (v5_ : Int), inI v4_ → inI v5_ → k_93 v4_ v5_ = some r → G l E b0 M_X11_feels (fun _ => True) (ZM E b0 (some (vI r)) (ov [a_t, (a_t + 24), (a_t + 27)] [.inr (11, fsX11 a_t t_thrown t_taped t_p t_fault t_baseLow t_baseHigh t_newBaseLow t_newBaseHigh t_from t_knots t_lines t_chosen t_undos t_redos t_aimedMany t_fits t_fitOf t_sights t_systems t_own t_cross t_curveLong t_wallFirst), IA E 100 t_cur, IA E 21 t_pushAt] h) n (inI r) 0 0) 0 0 n (ov [a_t, (a_t + 24), (a_t + 27)] [.inr (11, fsX11 a_t t_thrown t_taped t_p t_fault t_baseLow t_baseHigh t_newBaseLow t_newBaseHigh t_from t_knots t_lines t_chosen t_undos t_redos t_aimedMany t_fits t_fitOf t_sights t_systems t_own t_cross t_curveLong t_wallFirst), IA E 100 t_cur, IA E 21 t_pushAt] h) 93 [none, none, none, none, some (vI v4_), none] []) (hs : m_X11_feels_84 t_cur t_pushAt v1 v2 v5 s0 s1 ag k_93 = some r) : G l E b0 M_X11_feels (fun _ => True) (ZM E b0 (some (vI r)) (ov [a_t, (a_t + 24), (a_t + 27)] [.inr (11, fsX11 a_t t_thrown t_taped t_p t_fault t_baseLow t_baseHigh t_newBaseLow t_newBaseHigh t_from t_knots t_lines t_chosen t_undos t_redos t_aimedMany t_fits t_fitOf t_sights t_systems t_own t_cross t_curveLong t_wallFirst), IA E 100 t_cur, IA E 21 t_pushAt] h) n (inI r) 0 0) 0 0 n (ov [a_t, (a_t + 24), (a_t + 27)] [.inr (11, fsX11 a_t t_thrown t_taped t_p t_fault t_baseLow t_baseHigh t_newBaseLow t_newBaseHigh t_from t_knots t_lines t_chosen t_undos t_redos t_aimedMany t_fits t_fitOf t_sights t_systems t_own t_cross t_curveLong t_wallFirst), IA E 100 t_cur, IA E 21 t_pushAt] h) 84 [some (.ref a_t), some (vI v1), some (vI v2), none, none, some (vI v5)] [vI s1, vI s0] := by
  rw [m_X11_feels_84] at hs
  refine g_isub e_X11_feels_84 ?_
  refine g_istore e_X11_feels_85 st1_4 rfl ?_
  refine g_iinc e_X11_feels_87 rfl st1_5 rfl ?_
  refine g_goto e_X11_feels_90 ?_
  obtain ⟨hc3, hs⟩ := chk_elim hs
  obtain ⟨hc4, hs⟩ := chk_elim hs
  exact hag _ _ hc3 hc4 hs

noncomputable def m_X11_feels_47 (t_cur : Nat → Int) (t_pushAt : Nat → Int) (v1 : Int) (v2 : Int) (v5 : Int) (s0 : Int) (s1 : Int) (ag : Int → Int → Option (Int)) (k_93 : Int → Int → Option (Int)) : Option (Int) :=
  chk (inI (v1 + v5)) (if 100 ≤ (v1 + v5) then (chk (inI (s0 + s1)) (m_X11_feels_84 t_cur t_pushAt v1 v2 v5 (s0 + s1) 0 ag k_93)) else (chk (inB (v1 + v5) 100) (chk (inB v5 21) (chk (inI (s0 + s1)) (chk (inI ((v2 * (t_cur (Int.toNat (v1 + v5)))) * (t_pushAt (Int.toNat v5)))) (m_X11_feels_84 t_cur t_pushAt v1 v2 v5 (s0 + s1) ((v2 * (t_cur (Int.toNat (v1 + v5)))) * (t_pushAt (Int.toNat v5))) ag k_93))))))

set_option maxRecDepth 10000 in
set_option maxHeartbeats 8000000 in
theorem g_X11_feels_47 {l : Launch} {E : EE} {b0 n : Nat} {h : AH} {a_t : Nat} {t_thrown t_taped t_p t_fault t_baseLow t_baseHigh t_newBaseLow t_newBaseHigh t_from t_knots t_lines t_chosen t_undos t_redos t_aimedMany t_fits t_fitOf t_sights t_systems t_own t_cross t_curveLong t_wallFirst v1 v2 v5 s0 s1 : Int} {t_cur t_pushAt : Nat → Int} {r : Int} {ag : Int → Int → Option (Int)} {k_93 : Int → Int → Option (Int)} (ao : AO b0 n [a_t, (a_t + 24), (a_t + 27)]) (ok_t_cur : okA t_cur) (ok_t_pushAt : okA t_pushAt) (ok_v1 : inI v1) (ok_v2 : inI v2) (ok_v5 : inI v5) (ok_s0 : inI s0) (ok_s1 : inI s1) (hag : ∀ (v4_ : Int) (v5_ : Int), inI v4_ → inI v5_ → ag v4_ v5_ = some r → G l E b0 M_X11_feels (fun _ => True) (ZM E b0 (some (vI r)) (ov [a_t, (a_t + 24), (a_t + 27)] [.inr (11, fsX11 a_t t_thrown t_taped t_p t_fault t_baseLow t_baseHigh t_newBaseLow t_newBaseHigh t_from t_knots t_lines t_chosen t_undos t_redos t_aimedMany t_fits t_fitOf t_sights t_systems t_own t_cross t_curveLong t_wallFirst), IA E 100 t_cur, IA E 21 t_pushAt] h) n (inI r) 0 0) 0 0 n (ov [a_t, (a_t + 24), (a_t + 27)] [.inr (11, fsX11 a_t t_thrown t_taped t_p t_fault t_baseLow t_baseHigh t_newBaseLow t_newBaseHigh t_from t_knots t_lines t_chosen t_undos t_redos t_aimedMany t_fits t_fitOf t_sights t_systems t_own t_cross t_curveLong t_wallFirst), IA E 100 t_cur, IA E 21 t_pushAt] h) 8 [some (.ref a_t), some (vI v1), some (vI v2), none, some (vI v4_), some (vI v5_)] []) (hk_93 : ∀ (v4_ : Int) (v5_ : Int), inI v4_ → inI v5_ → k_93 v4_ v5_ = some r → G l E b0 M_X11_feels (fun _ => True) (ZM E b0 (some (vI r)) (ov [a_t, (a_t + 24), (a_t + 27)] [.inr (11, fsX11 a_t t_thrown t_taped t_p t_fault t_baseLow t_baseHigh t_newBaseLow t_newBaseHigh t_from t_knots t_lines t_chosen t_undos t_redos t_aimedMany t_fits t_fitOf t_sights t_systems t_own t_cross t_curveLong t_wallFirst), IA E 100 t_cur, IA E 21 t_pushAt] h) n (inI r) 0 0) 0 0 n (ov [a_t, (a_t + 24), (a_t + 27)] [.inr (11, fsX11 a_t t_thrown t_taped t_p t_fault t_baseLow t_baseHigh t_newBaseLow t_newBaseHigh t_from t_knots t_lines t_chosen t_undos t_redos t_aimedMany t_fits t_fitOf t_sights t_systems t_own t_cross t_curveLong t_wallFirst), IA E 100 t_cur, IA E 21 t_pushAt] h) 93 [none, none, none, none, some (vI v4_), none] []) (hs : m_X11_feels_47 t_cur t_pushAt v1 v2 v5 s0 s1 ag k_93 = some r) : G l E b0 M_X11_feels (fun _ => True) (ZM E b0 (some (vI r)) (ov [a_t, (a_t + 24), (a_t + 27)] [.inr (11, fsX11 a_t t_thrown t_taped t_p t_fault t_baseLow t_baseHigh t_newBaseLow t_newBaseHigh t_from t_knots t_lines t_chosen t_undos t_redos t_aimedMany t_fits t_fitOf t_sights t_systems t_own t_cross t_curveLong t_wallFirst), IA E 100 t_cur, IA E 21 t_pushAt] h) n (inI r) 0 0) 0 0 n (ov [a_t, (a_t + 24), (a_t + 27)] [.inr (11, fsX11 a_t t_thrown t_taped t_p t_fault t_baseLow t_baseHigh t_newBaseLow t_newBaseHigh t_from t_knots t_lines t_chosen t_undos t_redos t_aimedMany t_fits t_fitOf t_sights t_systems t_own t_cross t_curveLong t_wallFirst), IA E 100 t_cur, IA E 21 t_pushAt] h) 47 [some (.ref a_t), some (vI v1), some (vI v2), none, none, some (vI v5)] [vI s1, vI s0] := by
  rw [m_X11_feels_47] at hs
  refine g_iadd e_X11_feels_47 ?_
  refine g_istore e_X11_feels_48 st1_4 rfl ?_
  refine g_iload e_X11_feels_50 rfl ?_
  refine g_iload_n e_X11_feels_52 rfl ?_
  refine g_iload e_X11_feels_53 rfl ?_
  refine g_iadd e_X11_feels_55 ?_
  refine g_bipush e_X11_feels_56 bp_100 ?_
  obtain ⟨hc2, hs⟩ := chk_elim hs
  refine g_icmp_ge e_X11_feels_58 hc2 (by decide : inI 100) hs (fun c58 hs => ?_) (fun c58 hs => ?_)
  · refine g_iconst e_X11_feels_83 ?_
    obtain ⟨hc5, hs⟩ := chk_elim hs
    exact g_mask [true, true, true, true, false, true] (g_X11_feels_84 ao ok_t_cur ok_t_pushAt ok_v1 ok_v2 ok_v5 hc5 (by decide : inI 0) hag hk_93 hs)
  · refine g_iload_n e_X11_feels_61 rfl ?_
    refine g_aload_n e_X11_feels_62 rfl ?_
    refine g_get 0 35 ao rfl rfl fsX11_g35 fl_X11_81 e_X11_feels_63 ?_
    refine g_iload_n e_X11_feels_66 rfl ?_
    refine g_iload e_X11_feels_67 rfl ?_
    refine g_iadd e_X11_feels_69 ?_
    refine g_iald 1 ao rfl rfl (Nat.le_of_ble_eq_true rfl) e_X11_feels_70 hs (fun hi6 hs => ?_)
    refine g_imul e_X11_feels_71 ?_
    refine g_aload_n e_X11_feels_72 rfl ?_
    refine g_get 0 38 ao rfl rfl fsX11_g38 fl_X11_90 e_X11_feels_73 ?_
    refine g_iload e_X11_feels_76 rfl ?_
    refine g_iald 2 ao rfl rfl (Nat.le_of_ble_eq_true rfl) e_X11_feels_78 hs (fun hi7 hs => ?_)
    refine g_imul e_X11_feels_79 ?_
    refine g_goto e_X11_feels_80 ?_
    obtain ⟨hc8, hs⟩ := chk_elim hs
    obtain ⟨hc9, hs⟩ := chk_elim hs
    exact g_mask [true, true, true, true, false, true] (g_X11_feels_84 ao ok_t_cur ok_t_pushAt ok_v1 ok_v2 ok_v5 hc8 hc9 hag hk_93 hs)

noncomputable def m_X11_feels_8 (t_cur : Nat → Int) (t_pushAt : Nat → Int) (v1 : Int) (v2 : Int) (k_93 : Int → Int → Option (Int)) : Nat → Int → Int → Option (Int)
  | 0, _, _ => none
  | F + 1, v4, v5 => if 21 ≤ v5 then (some (v4)) else (chk (inI (v1 - v5)) (if (v1 - v5) < 0 then (m_X11_feels_47 t_cur t_pushAt v1 v2 v5 v4 0 (m_X11_feels_8 t_cur t_pushAt v1 v2 k_93 F) k_93) else (chk (inB (v1 - v5) 100) (chk (inB v5 21) (chk (inI ((v2 * (t_cur (Int.toNat (v1 - v5)))) * (t_pushAt (Int.toNat v5)))) (m_X11_feels_47 t_cur t_pushAt v1 v2 v5 v4 ((v2 * (t_cur (Int.toNat (v1 - v5)))) * (t_pushAt (Int.toNat v5))) (m_X11_feels_8 t_cur t_pushAt v1 v2 k_93 F) k_93))))))

set_option maxRecDepth 10000 in
set_option maxHeartbeats 8000000 in
theorem g_X11_feels_8 {l : Launch} {E : EE} {b0 n : Nat} {h : AH} {a_t : Nat} {t_thrown t_taped t_p t_fault t_baseLow t_baseHigh t_newBaseLow t_newBaseHigh t_from t_knots t_lines t_chosen t_undos t_redos t_aimedMany t_fits t_fitOf t_sights t_systems t_own t_cross t_curveLong t_wallFirst v1 v2 : Int} {t_cur t_pushAt : Nat → Int} {r : Int} {k_93 : Int → Int → Option (Int)} (ao : AO b0 n [a_t, (a_t + 24), (a_t + 27)]) (ok_t_cur : okA t_cur) (ok_t_pushAt : okA t_pushAt) (ok_v1 : inI v1) (ok_v2 : inI v2) (hk_93 : ∀ (v4_ : Int) (v5_ : Int), inI v4_ → inI v5_ → k_93 v4_ v5_ = some r → G l E b0 M_X11_feels (fun _ => True) (ZM E b0 (some (vI r)) (ov [a_t, (a_t + 24), (a_t + 27)] [.inr (11, fsX11 a_t t_thrown t_taped t_p t_fault t_baseLow t_baseHigh t_newBaseLow t_newBaseHigh t_from t_knots t_lines t_chosen t_undos t_redos t_aimedMany t_fits t_fitOf t_sights t_systems t_own t_cross t_curveLong t_wallFirst), IA E 100 t_cur, IA E 21 t_pushAt] h) n (inI r) 0 0) 0 0 n (ov [a_t, (a_t + 24), (a_t + 27)] [.inr (11, fsX11 a_t t_thrown t_taped t_p t_fault t_baseLow t_baseHigh t_newBaseLow t_newBaseHigh t_from t_knots t_lines t_chosen t_undos t_redos t_aimedMany t_fits t_fitOf t_sights t_systems t_own t_cross t_curveLong t_wallFirst), IA E 100 t_cur, IA E 21 t_pushAt] h) 93 [none, none, none, none, some (vI v4_), none] []) :
    ∀ (F : Nat) (v4 : Int) (v5 : Int), inI v4 → inI v5 → m_X11_feels_8 t_cur t_pushAt v1 v2 k_93 F v4 v5 = some r → G l E b0 M_X11_feels (fun _ => True) (ZM E b0 (some (vI r)) (ov [a_t, (a_t + 24), (a_t + 27)] [.inr (11, fsX11 a_t t_thrown t_taped t_p t_fault t_baseLow t_baseHigh t_newBaseLow t_newBaseHigh t_from t_knots t_lines t_chosen t_undos t_redos t_aimedMany t_fits t_fitOf t_sights t_systems t_own t_cross t_curveLong t_wallFirst), IA E 100 t_cur, IA E 21 t_pushAt] h) n (inI r) 0 0) 0 0 n (ov [a_t, (a_t + 24), (a_t + 27)] [.inr (11, fsX11 a_t t_thrown t_taped t_p t_fault t_baseLow t_baseHigh t_newBaseLow t_newBaseHigh t_from t_knots t_lines t_chosen t_undos t_redos t_aimedMany t_fits t_fitOf t_sights t_systems t_own t_cross t_curveLong t_wallFirst), IA E 100 t_cur, IA E 21 t_pushAt] h) 8 [some (.ref a_t), some (vI v1), some (vI v2), none, some (vI v4), some (vI v5)] [] := by
  intro F
  induction F with
  | zero =>
    intro v4 v5 ok_v4 ok_v5 hs
    rw [m_X11_feels_8] at hs
    cases hs
  | succ F ih =>
    intro v4 v5 ok_v4 ok_v5 hs
    rw [m_X11_feels_8] at hs
    refine g_iload e_X11_feels_8 rfl ?_
    refine g_bipush e_X11_feels_10 bp_21 ?_
    refine g_icmp_ge e_X11_feels_12 ok_v5 (by decide : inI 21) hs (fun c12 hs => ?_) (fun c12 hs => ?_)
    · refine g_iload e_X11_feels_93 rfl ?_
      obtain rfl := Option.some.inj hs
      exact g_iret rfl ok_v4 e_X11_feels_95
    · refine g_iload e_X11_feels_15 rfl ?_
      refine g_iload_n e_X11_feels_17 rfl ?_
      refine g_iload e_X11_feels_18 rfl ?_
      refine g_isub e_X11_feels_20 ?_
      obtain ⟨hc1, hs⟩ := chk_elim hs
      refine g_if_lt e_X11_feels_21 hc1 hs (fun c21 hs => ?_) (fun c21 hs => ?_)
      · refine g_iconst e_X11_feels_46 ?_
        exact g_mask [true, true, true, true, false, true] (g_X11_feels_47 ao ok_t_cur ok_t_pushAt ok_v1 ok_v2 ok_v5 ok_v4 (by decide : inI 0) ih hk_93 hs)
      · refine g_iload_n e_X11_feels_24 rfl ?_
        refine g_aload_n e_X11_feels_25 rfl ?_
        refine g_get 0 35 ao rfl rfl fsX11_g35 fl_X11_81 e_X11_feels_26 ?_
        refine g_iload_n e_X11_feels_29 rfl ?_
        refine g_iload e_X11_feels_30 rfl ?_
        refine g_isub e_X11_feels_32 ?_
        refine g_iald 1 ao rfl rfl (Nat.le_of_ble_eq_true rfl) e_X11_feels_33 hs (fun hi10 hs => ?_)
        refine g_imul e_X11_feels_34 ?_
        refine g_aload_n e_X11_feels_35 rfl ?_
        refine g_get 0 38 ao rfl rfl fsX11_g38 fl_X11_90 e_X11_feels_36 ?_
        refine g_iload e_X11_feels_39 rfl ?_
        refine g_iald 2 ao rfl rfl (Nat.le_of_ble_eq_true rfl) e_X11_feels_41 hs (fun hi11 hs => ?_)
        refine g_imul e_X11_feels_42 ?_
        refine g_goto e_X11_feels_43 ?_
        obtain ⟨hc12, hs⟩ := chk_elim hs
        exact g_mask [true, true, true, true, false, true] (g_X11_feels_47 ao ok_t_cur ok_t_pushAt ok_v1 ok_v2 ok_v5 ok_v4 hc12 ih hk_93 hs)

noncomputable def m_X11_feels_93 (v4 : Int) : Option (Int) :=
  some (v4)

set_option maxRecDepth 10000 in
set_option maxHeartbeats 8000000 in
theorem g_X11_feels_93 {l : Launch} {E : EE} {b0 n : Nat} {h : AH} {a_t : Nat} {t_thrown t_taped t_p t_fault t_baseLow t_baseHigh t_newBaseLow t_newBaseHigh t_from t_knots t_lines t_chosen t_undos t_redos t_aimedMany t_fits t_fitOf t_sights t_systems t_own t_cross t_curveLong t_wallFirst v4 : Int} {t_cur t_pushAt : Nat → Int} {r : Int} (ao : AO b0 n [a_t, (a_t + 24), (a_t + 27)]) (ok_t_cur : okA t_cur) (ok_t_pushAt : okA t_pushAt) (ok_v4 : inI v4) (hs : m_X11_feels_93 v4 = some r) : G l E b0 M_X11_feels (fun _ => True) (ZM E b0 (some (vI r)) (ov [a_t, (a_t + 24), (a_t + 27)] [.inr (11, fsX11 a_t t_thrown t_taped t_p t_fault t_baseLow t_baseHigh t_newBaseLow t_newBaseHigh t_from t_knots t_lines t_chosen t_undos t_redos t_aimedMany t_fits t_fitOf t_sights t_systems t_own t_cross t_curveLong t_wallFirst), IA E 100 t_cur, IA E 21 t_pushAt] h) n (inI r) 0 0) 0 0 n (ov [a_t, (a_t + 24), (a_t + 27)] [.inr (11, fsX11 a_t t_thrown t_taped t_p t_fault t_baseLow t_baseHigh t_newBaseLow t_newBaseHigh t_from t_knots t_lines t_chosen t_undos t_redos t_aimedMany t_fits t_fitOf t_sights t_systems t_own t_cross t_curveLong t_wallFirst), IA E 100 t_cur, IA E 21 t_pushAt] h) 93 [none, none, none, none, some (vI v4), none] [] := by
  rw [m_X11_feels_93] at hs
  refine g_iload e_X11_feels_93 rfl ?_
  obtain rfl := Option.some.inj hs
  exact g_iret rfl ok_v4 e_X11_feels_95

noncomputable def m_X11_feels_0 (t_cur : Nat → Int) (t_pushAt : Nat → Int) (v1 : Int) (v2 : Int) (v3 : Int) : Option (Int) :=
  chk (inI (v2 * v3)) (m_X11_feels_8 t_cur t_pushAt v1 v2 (fun v4' v5' => m_X11_feels_93 v4') FU (v2 * v3) 1)

set_option maxRecDepth 10000 in
set_option maxHeartbeats 8000000 in
theorem g_X11_feels_0 {l : Launch} {E : EE} {b0 n : Nat} {h : AH} {a_t : Nat} {t_thrown t_taped t_p t_fault t_baseLow t_baseHigh t_newBaseLow t_newBaseHigh t_from t_knots t_lines t_chosen t_undos t_redos t_aimedMany t_fits t_fitOf t_sights t_systems t_own t_cross t_curveLong t_wallFirst v1 v2 v3 : Int} {t_cur t_pushAt : Nat → Int} {r : Int} (ao : AO b0 n [a_t, (a_t + 24), (a_t + 27)]) (ok_t_cur : okA t_cur) (ok_t_pushAt : okA t_pushAt) (ok_v1 : inI v1) (ok_v2 : inI v2) (ok_v3 : inI v3) (hs : m_X11_feels_0 t_cur t_pushAt v1 v2 v3 = some r) : G l E b0 M_X11_feels (fun _ => True) (ZM E b0 (some (vI r)) (ov [a_t, (a_t + 24), (a_t + 27)] [.inr (11, fsX11 a_t t_thrown t_taped t_p t_fault t_baseLow t_baseHigh t_newBaseLow t_newBaseHigh t_from t_knots t_lines t_chosen t_undos t_redos t_aimedMany t_fits t_fitOf t_sights t_systems t_own t_cross t_curveLong t_wallFirst), IA E 100 t_cur, IA E 21 t_pushAt] h) n (inI r) 0 0) 0 0 n (ov [a_t, (a_t + 24), (a_t + 27)] [.inr (11, fsX11 a_t t_thrown t_taped t_p t_fault t_baseLow t_baseHigh t_newBaseLow t_newBaseHigh t_from t_knots t_lines t_chosen t_undos t_redos t_aimedMany t_fits t_fitOf t_sights t_systems t_own t_cross t_curveLong t_wallFirst), IA E 100 t_cur, IA E 21 t_pushAt] h) 0 [some (.ref a_t), some (vI v1), some (vI v2), some (vI v3), none, none] [] := by
  rw [m_X11_feels_0] at hs
  refine g_iload_n e_X11_feels_0 rfl ?_
  refine g_iload_n e_X11_feels_1 rfl ?_
  refine g_imul e_X11_feels_2 ?_
  refine g_istore e_X11_feels_3 st1_4 rfl ?_
  refine g_iconst e_X11_feels_5 ?_
  refine g_istore e_X11_feels_6 st1_5 rfl ?_
  obtain ⟨hc13, hs⟩ := chk_elim hs
  exact g_mask [true, true, true, false, true, true] (g_X11_feels_8 ao ok_t_cur ok_t_pushAt ok_v1 ok_v2 (hk_93 := by
      intro v4' v5' ok_v4' ok_v5' hs
      exact g_X11_feels_93 ao ok_t_cur ok_t_pushAt ok_v4' hs) FU _ _ hc13 (by decide : inI 1) hs)

noncomputable def m_X11_feels (t_cur : Nat → Int) (t_pushAt : Nat → Int) (v1 : Int) (v2 : Int) (v3 : Int) : Option (Int) := m_X11_feels_0 t_cur t_pushAt v1 v2 v3

set_option maxRecDepth 10000 in
set_option maxHeartbeats 8000000 in
theorem ct_X11_feels {l : Launch} {E : EE} {b0 n : Nat} {h : AH} {a_t : Nat} {t_thrown t_taped t_p t_fault t_baseLow t_baseHigh t_newBaseLow t_newBaseHigh t_from t_knots t_lines t_chosen t_undos t_redos t_aimedMany t_fits t_fitOf t_sights t_systems t_own t_cross t_curveLong t_wallFirst : Int} {t_cur t_pushAt : Nat → Int} {v1 v2 v3 : Int} (ao : AO b0 n [a_t, (a_t + 24), (a_t + 27)]) (hf : FA h [a_t, (a_t + 24), (a_t + 27)] [.inr (11, fsX11 a_t t_thrown t_taped t_p t_fault t_baseLow t_baseHigh t_newBaseLow t_newBaseHigh t_from t_knots t_lines t_chosen t_undos t_redos t_aimedMany t_fits t_fitOf t_sights t_systems t_own t_cross t_curveLong t_wallFirst), IA E 100 t_cur, IA E 21 t_pushAt]) (ok_t_cur : okA t_cur) (ok_t_pushAt : okA t_pushAt) (ok_v1 : inI v1) (ok_v2 : inI v2) (ok_v3 : inI v3) {r : Int} (hm : m_X11_feels t_cur t_pushAt v1 v2 v3 = some r) : Ct l E b0 M_X11_feels 0 0 [.ref a_t, vI v1, vI v2, vI v3] h n (some (vI r)) h n (inI r) := by
  rw [m_X11_feels] at hm
  have hg : G l E b0 M_X11_feels (fun _ => True) (ZM E b0 (some (vI r)) (ov [a_t, (a_t + 24), (a_t + 27)] [.inr (11, fsX11 a_t t_thrown t_taped t_p t_fault t_baseLow t_baseHigh t_newBaseLow t_newBaseHigh t_from t_knots t_lines t_chosen t_undos t_redos t_aimedMany t_fits t_fitOf t_sights t_systems t_own t_cross t_curveLong t_wallFirst), IA E 100 t_cur, IA E 21 t_pushAt] h) n (inI r) 0 0) 0 0 n (ov [a_t, (a_t + 24), (a_t + 27)] [.inr (11, fsX11 a_t t_thrown t_taped t_p t_fault t_baseLow t_baseHigh t_newBaseLow t_newBaseHigh t_from t_knots t_lines t_chosen t_undos t_redos t_aimedMany t_fits t_fitOf t_sights t_systems t_own t_cross t_curveLong t_wallFirst), IA E 100 t_cur, IA E 21 t_pushAt] h) 0 [some (.ref a_t), some (vI v1), some (vI v2), some (vI v3), none, none] [] := by
    have hs := hm
    exact g_X11_feels_0 ao ok_t_cur ok_t_pushAt ok_v1 ok_v2 ok_v3 hs
  rw [FA_id hf] at hg
  exact Ct_of [some (.ref a_t), some (vI v1), some (vI v2), some (vI v3), none, none] ⟨by decide +kernel, rfl⟩ rfl (Nat.le_of_ble_eq_true rfl) hg

/-! ===== X11_goes ===== -/
theorem e_X11_goes_0 : DC cX11_goes 0 (.iload_n 1) 1 1 := ⟨by decide +kernel, rfl⟩
theorem e_X11_goes_1 : DC cX11_goes 1 (.iload_n 2) 1 2 := ⟨by decide +kernel, rfl⟩
theorem e_X11_goes_2 : DC cX11_goes 2 (.iadd) 1 3 := ⟨by decide +kernel, rfl⟩
theorem e_X11_goes_3 : DC cX11_goes 3 (.istore_n 3) 1 4 := ⟨by decide +kernel, rfl⟩
theorem e_X11_goes_4 : DC cX11_goes 4 (.aload_n 0) 1 5 := ⟨by decide +kernel, rfl⟩
theorem e_X11_goes_5 : DC cX11_goes 5 (.getfield 81) 3 8 := ⟨by decide +kernel, rfl⟩
theorem e_X11_goes_8 : DC cX11_goes 8 (.iload_n 1) 1 9 := ⟨by decide +kernel, rfl⟩
theorem e_X11_goes_9 : DC cX11_goes 9 (.iaload) 1 10 := ⟨by decide +kernel, rfl⟩
theorem e_X11_goes_10 : DC cX11_goes 10 (.istore 4) 2 12 := ⟨by decide +kernel, rfl⟩
theorem e_X11_goes_12 : DC cX11_goes 12 (.iload_n 3) 1 13 := ⟨by decide +kernel, rfl⟩
theorem e_X11_goes_13 : DB cX11_goes 13 (.ifCond .lt 9) (9) 3 16 22 := ⟨by decide +kernel, rfl, rfl⟩
theorem e_X11_goes_16 : DC cX11_goes 16 (.iload_n 3) 1 17 := ⟨by decide +kernel, rfl⟩
theorem e_X11_goes_17 : DC cX11_goes 17 (.bipush 100) 2 19 := ⟨by decide +kernel, rfl⟩
theorem e_X11_goes_19 : DB cX11_goes 19 (.if_icmp .lt 7) (7) 3 22 26 := ⟨by decide +kernel, rfl, rfl⟩
theorem e_X11_goes_22 : DC cX11_goes 22 (.iconst 1) 1 23 := ⟨by decide +kernel, rfl⟩
theorem e_X11_goes_23 : DB cX11_goes 23 (.goto 4) (4) 3 26 27 := ⟨by decide +kernel, rfl, rfl⟩
theorem e_X11_goes_26 : DC cX11_goes 26 (.iconst 0) 1 27 := ⟨by decide +kernel, rfl⟩
theorem e_X11_goes_27 : DC cX11_goes 27 (.istore 5) 2 29 := ⟨by decide +kernel, rfl⟩
theorem e_X11_goes_29 : DC cX11_goes 29 (.iload 5) 2 31 := ⟨by decide +kernel, rfl⟩
theorem e_X11_goes_31 : DB cX11_goes 31 (.ifCond .ne 16) (16) 3 34 47 := ⟨by decide +kernel, rfl, rfl⟩
theorem e_X11_goes_34 : DC cX11_goes 34 (.aload_n 0) 1 35 := ⟨by decide +kernel, rfl⟩
theorem e_X11_goes_35 : DC cX11_goes 35 (.getfield 81) 3 38 := ⟨by decide +kernel, rfl⟩
theorem e_X11_goes_38 : DC cX11_goes 38 (.iload_n 3) 1 39 := ⟨by decide +kernel, rfl⟩
theorem e_X11_goes_39 : DC cX11_goes 39 (.iaload) 1 40 := ⟨by decide +kernel, rfl⟩
theorem e_X11_goes_40 : DC cX11_goes 40 (.iload 4) 2 42 := ⟨by decide +kernel, rfl⟩
theorem e_X11_goes_42 : DB cX11_goes 42 (.if_icmp .ne 5) (5) 3 45 47 := ⟨by decide +kernel, rfl, rfl⟩
theorem e_X11_goes_45 : DC cX11_goes 45 (.iconst 0) 1 46 := ⟨by decide +kernel, rfl⟩
theorem e_X11_goes_46 : DC cX11_goes 46 (.ireturn) 1 47 := ⟨by decide +kernel, rfl⟩
theorem e_X11_goes_47 : DC cX11_goes 47 (.aload_n 0) 1 48 := ⟨by decide +kernel, rfl⟩
theorem e_X11_goes_48 : DC cX11_goes 48 (.getfield 81) 3 51 := ⟨by decide +kernel, rfl⟩
theorem e_X11_goes_51 : DC cX11_goes 51 (.iload_n 1) 1 52 := ⟨by decide +kernel, rfl⟩
theorem e_X11_goes_52 : DC cX11_goes 52 (.iconst 0) 1 53 := ⟨by decide +kernel, rfl⟩
theorem e_X11_goes_53 : DC cX11_goes 53 (.iastore) 1 54 := ⟨by decide +kernel, rfl⟩
theorem e_X11_goes_54 : DC cX11_goes 54 (.aload_n 0) 1 55 := ⟨by decide +kernel, rfl⟩
theorem e_X11_goes_55 : DC cX11_goes 55 (.getfield 93) 3 58 := ⟨by decide +kernel, rfl⟩
theorem e_X11_goes_58 : DC cX11_goes 58 (.iconst 0) 1 59 := ⟨by decide +kernel, rfl⟩
theorem e_X11_goes_59 : DC cX11_goes 59 (.dup2) 1 60 := ⟨by decide +kernel, rfl⟩
theorem e_X11_goes_60 : DC cX11_goes 60 (.laload) 1 61 := ⟨by decide +kernel, rfl⟩
theorem e_X11_goes_61 : DC cX11_goes 61 (.iload_n 2) 1 62 := ⟨by decide +kernel, rfl⟩
theorem e_X11_goes_62 : DC cX11_goes 62 (.iload 4) 2 64 := ⟨by decide +kernel, rfl⟩
theorem e_X11_goes_64 : DC cX11_goes 64 (.imul) 1 65 := ⟨by decide +kernel, rfl⟩
theorem e_X11_goes_65 : DC cX11_goes 65 (.i2l) 1 66 := ⟨by decide +kernel, rfl⟩
theorem e_X11_goes_66 : DC cX11_goes 66 (.ladd) 1 67 := ⟨by decide +kernel, rfl⟩
theorem e_X11_goes_67 : DC cX11_goes 67 (.lastore) 1 68 := ⟨by decide +kernel, rfl⟩
theorem e_X11_goes_68 : DC cX11_goes 68 (.aload_n 0) 1 69 := ⟨by decide +kernel, rfl⟩
theorem e_X11_goes_69 : DC cX11_goes 69 (.getfield 93) 3 72 := ⟨by decide +kernel, rfl⟩
theorem e_X11_goes_72 : DC cX11_goes 72 (.iconst 5) 1 73 := ⟨by decide +kernel, rfl⟩
theorem e_X11_goes_73 : DC cX11_goes 73 (.dup2) 1 74 := ⟨by decide +kernel, rfl⟩
theorem e_X11_goes_74 : DC cX11_goes 74 (.laload) 1 75 := ⟨by decide +kernel, rfl⟩
theorem e_X11_goes_75 : DC cX11_goes 75 (.lconst 1) 1 76 := ⟨by decide +kernel, rfl⟩
theorem e_X11_goes_76 : DC cX11_goes 76 (.ladd) 1 77 := ⟨by decide +kernel, rfl⟩
theorem e_X11_goes_77 : DC cX11_goes 77 (.lastore) 1 78 := ⟨by decide +kernel, rfl⟩
theorem e_X11_goes_78 : DC cX11_goes 78 (.iload 5) 2 80 := ⟨by decide +kernel, rfl⟩
theorem e_X11_goes_80 : DB cX11_goes 80 (.ifCond .eq 16) (16) 3 83 96 := ⟨by decide +kernel, rfl, rfl⟩
theorem e_X11_goes_83 : DC cX11_goes 83 (.aload_n 0) 1 84 := ⟨by decide +kernel, rfl⟩
theorem e_X11_goes_84 : DC cX11_goes 84 (.getfield 93) 3 87 := ⟨by decide +kernel, rfl⟩
theorem e_X11_goes_87 : DC cX11_goes 87 (.iconst 2) 1 88 := ⟨by decide +kernel, rfl⟩
theorem e_X11_goes_88 : DC cX11_goes 88 (.dup2) 1 89 := ⟨by decide +kernel, rfl⟩
theorem e_X11_goes_89 : DC cX11_goes 89 (.laload) 1 90 := ⟨by decide +kernel, rfl⟩
theorem e_X11_goes_90 : DC cX11_goes 90 (.lconst 1) 1 91 := ⟨by decide +kernel, rfl⟩
theorem e_X11_goes_91 : DC cX11_goes 91 (.ladd) 1 92 := ⟨by decide +kernel, rfl⟩
theorem e_X11_goes_92 : DC cX11_goes 92 (.lastore) 1 93 := ⟨by decide +kernel, rfl⟩
theorem e_X11_goes_93 : DB cX11_goes 93 (.goto 49) (49) 3 96 142 := ⟨by decide +kernel, rfl, rfl⟩
theorem e_X11_goes_96 : DC cX11_goes 96 (.aload_n 0) 1 97 := ⟨by decide +kernel, rfl⟩
theorem e_X11_goes_97 : DC cX11_goes 97 (.getfield 81) 3 100 := ⟨by decide +kernel, rfl⟩
theorem e_X11_goes_100 : DC cX11_goes 100 (.iload_n 3) 1 101 := ⟨by decide +kernel, rfl⟩
theorem e_X11_goes_101 : DC cX11_goes 101 (.iaload) 1 102 := ⟨by decide +kernel, rfl⟩
theorem e_X11_goes_102 : DB cX11_goes 102 (.ifCond .eq 32) (32) 3 105 134 := ⟨by decide +kernel, rfl, rfl⟩
theorem e_X11_goes_105 : DC cX11_goes 105 (.aload_n 0) 1 106 := ⟨by decide +kernel, rfl⟩
theorem e_X11_goes_106 : DC cX11_goes 106 (.getfield 81) 3 109 := ⟨by decide +kernel, rfl⟩
theorem e_X11_goes_109 : DC cX11_goes 109 (.iload_n 3) 1 110 := ⟨by decide +kernel, rfl⟩
theorem e_X11_goes_110 : DC cX11_goes 110 (.iconst 0) 1 111 := ⟨by decide +kernel, rfl⟩
theorem e_X11_goes_111 : DC cX11_goes 111 (.iastore) 1 112 := ⟨by decide +kernel, rfl⟩
theorem e_X11_goes_112 : DC cX11_goes 112 (.aload_n 0) 1 113 := ⟨by decide +kernel, rfl⟩
theorem e_X11_goes_113 : DC cX11_goes 113 (.getfield 93) 3 116 := ⟨by decide +kernel, rfl⟩
theorem e_X11_goes_116 : DC cX11_goes 116 (.iconst 3) 1 117 := ⟨by decide +kernel, rfl⟩
theorem e_X11_goes_117 : DC cX11_goes 117 (.dup2) 1 118 := ⟨by decide +kernel, rfl⟩
theorem e_X11_goes_118 : DC cX11_goes 118 (.laload) 1 119 := ⟨by decide +kernel, rfl⟩
theorem e_X11_goes_119 : DC cX11_goes 119 (.ldc2_w 329) 3 122 := ⟨by decide +kernel, rfl⟩
theorem e_X11_goes_122 : DC cX11_goes 122 (.ladd) 1 123 := ⟨by decide +kernel, rfl⟩
theorem e_X11_goes_123 : DC cX11_goes 123 (.lastore) 1 124 := ⟨by decide +kernel, rfl⟩
theorem e_X11_goes_124 : DC cX11_goes 124 (.aload_n 0) 1 125 := ⟨by decide +kernel, rfl⟩
theorem e_X11_goes_125 : DC cX11_goes 125 (.getfield 84) 3 128 := ⟨by decide +kernel, rfl⟩
theorem e_X11_goes_128 : DC cX11_goes 128 (.iload_n 3) 1 129 := ⟨by decide +kernel, rfl⟩
theorem e_X11_goes_129 : DC cX11_goes 129 (.iconst 0) 1 130 := ⟨by decide +kernel, rfl⟩
theorem e_X11_goes_130 : DC cX11_goes 130 (.iastore) 1 131 := ⟨by decide +kernel, rfl⟩
theorem e_X11_goes_131 : DB cX11_goes 131 (.goto 11) (11) 3 134 142 := ⟨by decide +kernel, rfl, rfl⟩
theorem e_X11_goes_134 : DC cX11_goes 134 (.aload_n 0) 1 135 := ⟨by decide +kernel, rfl⟩
theorem e_X11_goes_135 : DC cX11_goes 135 (.getfield 81) 3 138 := ⟨by decide +kernel, rfl⟩
theorem e_X11_goes_138 : DC cX11_goes 138 (.iload_n 3) 1 139 := ⟨by decide +kernel, rfl⟩
theorem e_X11_goes_139 : DC cX11_goes 139 (.iload 4) 2 141 := ⟨by decide +kernel, rfl⟩
theorem e_X11_goes_141 : DC cX11_goes 141 (.iastore) 1 142 := ⟨by decide +kernel, rfl⟩
theorem e_X11_goes_142 : DC cX11_goes 142 (.iconst 1) 1 143 := ⟨by decide +kernel, rfl⟩
theorem e_X11_goes_143 : DC cX11_goes 143 (.ireturn) 1 144 := ⟨by decide +kernel, rfl⟩
noncomputable def m_X11_goes_47 (t_cur : Nat → Int) (t_was : Nat → Int) (t_curSum : Nat → Int) (v1 : Int) (v2 : Int) (v3 : Int) (v4 : Int) (v5 : Int) : Option (Int × (Nat → Int) × (Nat → Int) × (Nat → Int)) :=
  chk (inB v1 100) (chk (inB 0 6) (chk (inI (v2 * v4)) (chk (inJ ((t_curSum (Int.toNat 0)) + (v2 * v4))) (chk (inB 0 6) (chk (inB 5 6) (chk (inJ (((up t_curSum (Int.toNat 0) ((t_curSum (Int.toNat 0)) + (v2 * v4))) (Int.toNat 5)) + 1)) (chk (inB 5 6) (if v5 = 0 then (chk (inB v3 100) (if ((up t_cur (Int.toNat v1) 0) (Int.toNat v3)) = 0 then (chk (inB v3 100) (some (1, up (up t_cur (Int.toNat v1) 0) (Int.toNat v3) v4, t_was, up (up t_curSum (Int.toNat 0) ((t_curSum (Int.toNat 0)) + (v2 * v4))) (Int.toNat 5) (((up t_curSum (Int.toNat 0) ((t_curSum (Int.toNat 0)) + (v2 * v4))) (Int.toNat 5)) + 1)))) else (chk (inB v3 100) (chk (inB 3 6) (chk (inJ (((up (up t_curSum (Int.toNat 0) ((t_curSum (Int.toNat 0)) + (v2 * v4))) (Int.toNat 5) (((up t_curSum (Int.toNat 0) ((t_curSum (Int.toNat 0)) + (v2 * v4))) (Int.toNat 5)) + 1)) (Int.toNat 3)) + 2)) (chk (inB 3 6) (chk (inB v3 100) (some (1, up (up t_cur (Int.toNat v1) 0) (Int.toNat v3) 0, up t_was (Int.toNat v3) 0, up (up (up t_curSum (Int.toNat 0) ((t_curSum (Int.toNat 0)) + (v2 * v4))) (Int.toNat 5) (((up t_curSum (Int.toNat 0) ((t_curSum (Int.toNat 0)) + (v2 * v4))) (Int.toNat 5)) + 1)) (Int.toNat 3) (((up (up t_curSum (Int.toNat 0) ((t_curSum (Int.toNat 0)) + (v2 * v4))) (Int.toNat 5) (((up t_curSum (Int.toNat 0) ((t_curSum (Int.toNat 0)) + (v2 * v4))) (Int.toNat 5)) + 1)) (Int.toNat 3)) + 2)))))))))) else (chk (inB 2 6) (chk (inJ (((up (up t_curSum (Int.toNat 0) ((t_curSum (Int.toNat 0)) + (v2 * v4))) (Int.toNat 5) (((up t_curSum (Int.toNat 0) ((t_curSum (Int.toNat 0)) + (v2 * v4))) (Int.toNat 5)) + 1)) (Int.toNat 2)) + 1)) (chk (inB 2 6) (some (1, up t_cur (Int.toNat v1) 0, t_was, up (up (up t_curSum (Int.toNat 0) ((t_curSum (Int.toNat 0)) + (v2 * v4))) (Int.toNat 5) (((up t_curSum (Int.toNat 0) ((t_curSum (Int.toNat 0)) + (v2 * v4))) (Int.toNat 5)) + 1)) (Int.toNat 2) (((up (up t_curSum (Int.toNat 0) ((t_curSum (Int.toNat 0)) + (v2 * v4))) (Int.toNat 5) (((up t_curSum (Int.toNat 0) ((t_curSum (Int.toNat 0)) + (v2 * v4))) (Int.toNat 5)) + 1)) (Int.toNat 2)) + 1))))))))))))))

set_option maxRecDepth 10000 in
set_option maxHeartbeats 8000000 in
theorem g_X11_goes_47 {l : Launch} {E : EE} {b0 n : Nat} {h : AH} {a_t : Nat} {t_thrown t_taped t_p t_fault t_baseLow t_baseHigh t_newBaseLow t_newBaseHigh t_from t_knots t_lines t_chosen t_undos t_redos t_aimedMany t_fits t_fitOf t_sights t_systems t_own t_cross t_curveLong t_wallFirst v1 v2 v3 v4 v5 : Int} {t_cur t_was t_curSum : Nat → Int} {r : Int × (Nat → Int) × (Nat → Int) × (Nat → Int)} (ao : AO b0 n [a_t, (a_t + 24), (a_t + 25), (a_t + 28)]) (ok_t_cur : okA t_cur) (ok_t_was : okA t_was) (ok_t_curSum : okJ t_curSum) (ok_v1 : inI v1) (ok_v2 : inI v2) (ok_v3 : inI v3) (ok_v4 : inI v4) (ok_v5 : inZ v5) (hs : m_X11_goes_47 t_cur t_was t_curSum v1 v2 v3 v4 v5 = some r) : G l E b0 M_X11_goes (fun _ => True) (ZM E b0 (some (vI r.1)) (ov [a_t, (a_t + 24), (a_t + 25), (a_t + 28)] [.inr (11, fsX11 a_t t_thrown t_taped t_p t_fault t_baseLow t_baseHigh t_newBaseLow t_newBaseHigh t_from t_knots t_lines t_chosen t_undos t_redos t_aimedMany t_fits t_fitOf t_sights t_systems t_own t_cross t_curveLong t_wallFirst), IA E 100 r.2.1, IA E 100 r.2.2.1, JA E 6 r.2.2.2] h) n (inZ r.1 ∧ okA r.2.1 ∧ okA r.2.2.1 ∧ okJ r.2.2.2) 0 0) 0 0 n (ov [a_t, (a_t + 24), (a_t + 25), (a_t + 28)] [.inr (11, fsX11 a_t t_thrown t_taped t_p t_fault t_baseLow t_baseHigh t_newBaseLow t_newBaseHigh t_from t_knots t_lines t_chosen t_undos t_redos t_aimedMany t_fits t_fitOf t_sights t_systems t_own t_cross t_curveLong t_wallFirst), IA E 100 t_cur, IA E 100 t_was, JA E 6 t_curSum] h) 47 [some (.ref a_t), some (vI v1), some (vI v2), some (vI v3), some (vI v4), some (vI v5)] [] := by
  rw [m_X11_goes_47] at hs
  refine g_aload_n e_X11_goes_47 rfl ?_
  refine g_get 0 35 ao rfl rfl fsX11_g35 fl_X11_81 e_X11_goes_48 ?_
  refine g_iload_n e_X11_goes_51 rfl ?_
  refine g_iconst e_X11_goes_52 ?_
  refine g_iast 1 ao rfl rfl ls_1 (Nat.le_of_ble_eq_true rfl) e_X11_goes_53 hs (fun hi4 hs => ?_)
  refine g_aload_n e_X11_goes_54 rfl ?_
  refine g_get 0 39 ao rfl rfl fsX11_g39 fl_X11_93 e_X11_goes_55 ?_
  refine g_iconst e_X11_goes_58 ?_
  refine g_dup2 e_X11_goes_59 rfl rfl ?_
  refine g_lald 3 ao rfl rfl (Nat.le_of_ble_eq_true rfl) e_X11_goes_60 hs (fun hi5 hs => ?_)
  refine g_iload_n e_X11_goes_61 rfl ?_
  refine g_iload e_X11_goes_62 rfl ?_
  refine g_imul e_X11_goes_64 ?_
  obtain ⟨hc6, hs⟩ := chk_elim hs
  refine g_i2l e_X11_goes_65 hc6 ?_
  refine g_ladd e_X11_goes_66 ?_
  obtain ⟨hc7, hs⟩ := chk_elim hs
  refine g_last 3 ao rfl rfl ls_3 (Nat.le_of_ble_eq_true rfl) e_X11_goes_67 hs (fun hi8 hs => ?_)
  refine g_aload_n e_X11_goes_68 rfl ?_
  refine g_get 0 39 ao rfl rfl fsX11_g39 fl_X11_93 e_X11_goes_69 ?_
  refine g_iconst e_X11_goes_72 ?_
  refine g_dup2 e_X11_goes_73 rfl rfl ?_
  refine g_lald 3 ao rfl rfl (Nat.le_of_ble_eq_true rfl) e_X11_goes_74 hs (fun hi9 hs => ?_)
  refine g_lconst (a := 1) e_X11_goes_75 rfl ?_
  refine g_ladd e_X11_goes_76 ?_
  obtain ⟨hc10, hs⟩ := chk_elim hs
  refine g_last 3 ao rfl rfl ls_3 (Nat.le_of_ble_eq_true rfl) e_X11_goes_77 hs (fun hi11 hs => ?_)
  refine g_iload e_X11_goes_78 rfl ?_
  refine g_if_eq e_X11_goes_80 (inZ_I ok_v5) hs (fun c80 hs => ?_) (fun c80 hs => ?_)
  · refine g_aload_n e_X11_goes_96 rfl ?_
    refine g_get 0 35 ao rfl rfl fsX11_g35 fl_X11_81 e_X11_goes_97 ?_
    refine g_iload_n e_X11_goes_100 rfl ?_
    refine g_iald 1 ao rfl rfl (Nat.le_of_ble_eq_true rfl) e_X11_goes_101 hs (fun hi12 hs => ?_)
    refine g_if_eq e_X11_goes_102 ((okA_up ok_t_cur (by decide : inI 0)) _) hs (fun c102 hs => ?_) (fun c102 hs => ?_)
    · refine g_aload_n e_X11_goes_134 rfl ?_
      refine g_get 0 35 ao rfl rfl fsX11_g35 fl_X11_81 e_X11_goes_135 ?_
      refine g_iload_n e_X11_goes_138 rfl ?_
      refine g_iload e_X11_goes_139 rfl ?_
      refine g_iast 1 ao rfl rfl ls_1 (Nat.le_of_ble_eq_true rfl) e_X11_goes_141 hs (fun hi13 hs => ?_)
      refine g_iconst e_X11_goes_142 ?_
      obtain rfl := Option.some.inj hs
      exact g_zret rfl (by decide : inZ 1) ⟨(by decide : inZ 1), (okA_up (okA_up ok_t_cur (by decide : inI 0)) ok_v4), ok_t_was, (okJ_up (okJ_up ok_t_curSum hc7) hc10)⟩ e_X11_goes_143
    · refine g_aload_n e_X11_goes_105 rfl ?_
      refine g_get 0 35 ao rfl rfl fsX11_g35 fl_X11_81 e_X11_goes_106 ?_
      refine g_iload_n e_X11_goes_109 rfl ?_
      refine g_iconst e_X11_goes_110 ?_
      refine g_iast 1 ao rfl rfl ls_1 (Nat.le_of_ble_eq_true rfl) e_X11_goes_111 hs (fun hi14 hs => ?_)
      refine g_aload_n e_X11_goes_112 rfl ?_
      refine g_get 0 39 ao rfl rfl fsX11_g39 fl_X11_93 e_X11_goes_113 ?_
      refine g_iconst e_X11_goes_116 ?_
      refine g_dup2 e_X11_goes_117 rfl rfl ?_
      refine g_lald 3 ao rfl rfl (Nat.le_of_ble_eq_true rfl) e_X11_goes_118 hs (fun hi15 hs => ?_)
      refine g_ldc2 (a := 2) e_X11_goes_119 k_X11_329 ?_
      refine g_ladd e_X11_goes_122 ?_
      obtain ⟨hc16, hs⟩ := chk_elim hs
      refine g_last 3 ao rfl rfl ls_3 (Nat.le_of_ble_eq_true rfl) e_X11_goes_123 hs (fun hi17 hs => ?_)
      refine g_aload_n e_X11_goes_124 rfl ?_
      refine g_get 0 36 ao rfl rfl fsX11_g36 fl_X11_84 e_X11_goes_125 ?_
      refine g_iload_n e_X11_goes_128 rfl ?_
      refine g_iconst e_X11_goes_129 ?_
      refine g_iast 2 ao rfl rfl ls_2 (Nat.le_of_ble_eq_true rfl) e_X11_goes_130 hs (fun hi18 hs => ?_)
      refine g_goto e_X11_goes_131 ?_
      refine g_iconst e_X11_goes_142 ?_
      obtain rfl := Option.some.inj hs
      exact g_zret rfl (by decide : inZ 1) ⟨(by decide : inZ 1), (okA_up (okA_up ok_t_cur (by decide : inI 0)) (by decide : inI 0)), (okA_up ok_t_was (by decide : inI 0)), (okJ_up (okJ_up (okJ_up ok_t_curSum hc7) hc10) hc16)⟩ e_X11_goes_143
  · refine g_aload_n e_X11_goes_83 rfl ?_
    refine g_get 0 39 ao rfl rfl fsX11_g39 fl_X11_93 e_X11_goes_84 ?_
    refine g_iconst e_X11_goes_87 ?_
    refine g_dup2 e_X11_goes_88 rfl rfl ?_
    refine g_lald 3 ao rfl rfl (Nat.le_of_ble_eq_true rfl) e_X11_goes_89 hs (fun hi19 hs => ?_)
    refine g_lconst (a := 1) e_X11_goes_90 rfl ?_
    refine g_ladd e_X11_goes_91 ?_
    obtain ⟨hc20, hs⟩ := chk_elim hs
    refine g_last 3 ao rfl rfl ls_3 (Nat.le_of_ble_eq_true rfl) e_X11_goes_92 hs (fun hi21 hs => ?_)
    refine g_goto e_X11_goes_93 ?_
    refine g_iconst e_X11_goes_142 ?_
    obtain rfl := Option.some.inj hs
    exact g_zret rfl (by decide : inZ 1) ⟨(by decide : inZ 1), (okA_up ok_t_cur (by decide : inI 0)), ok_t_was, (okJ_up (okJ_up (okJ_up ok_t_curSum hc7) hc10) hc20)⟩ e_X11_goes_143

noncomputable def m_X11_goes_27 (t_cur : Nat → Int) (t_was : Nat → Int) (t_curSum : Nat → Int) (v1 : Int) (v2 : Int) (v3 : Int) (v4 : Int) (s0 : Int) : Option (Int × (Nat → Int) × (Nat → Int) × (Nat → Int)) :=
  if s0 = 0 then (chk (inB v3 100) (if (t_cur (Int.toNat v3)) = v4 then (some (0, t_cur, t_was, t_curSum)) else (m_X11_goes_47 t_cur t_was t_curSum v1 v2 v3 v4 s0))) else (m_X11_goes_47 t_cur t_was t_curSum v1 v2 v3 v4 s0)

set_option maxRecDepth 10000 in
set_option maxHeartbeats 8000000 in
theorem g_X11_goes_27 {l : Launch} {E : EE} {b0 n : Nat} {h : AH} {a_t : Nat} {t_thrown t_taped t_p t_fault t_baseLow t_baseHigh t_newBaseLow t_newBaseHigh t_from t_knots t_lines t_chosen t_undos t_redos t_aimedMany t_fits t_fitOf t_sights t_systems t_own t_cross t_curveLong t_wallFirst v1 v2 v3 v4 s0 : Int} {t_cur t_was t_curSum : Nat → Int} {r : Int × (Nat → Int) × (Nat → Int) × (Nat → Int)} (ao : AO b0 n [a_t, (a_t + 24), (a_t + 25), (a_t + 28)]) (ok_t_cur : okA t_cur) (ok_t_was : okA t_was) (ok_t_curSum : okJ t_curSum) (ok_v1 : inI v1) (ok_v2 : inI v2) (ok_v3 : inI v3) (ok_v4 : inI v4) (ok_s0 : inZ s0) (hs : m_X11_goes_27 t_cur t_was t_curSum v1 v2 v3 v4 s0 = some r) : G l E b0 M_X11_goes (fun _ => True) (ZM E b0 (some (vI r.1)) (ov [a_t, (a_t + 24), (a_t + 25), (a_t + 28)] [.inr (11, fsX11 a_t t_thrown t_taped t_p t_fault t_baseLow t_baseHigh t_newBaseLow t_newBaseHigh t_from t_knots t_lines t_chosen t_undos t_redos t_aimedMany t_fits t_fitOf t_sights t_systems t_own t_cross t_curveLong t_wallFirst), IA E 100 r.2.1, IA E 100 r.2.2.1, JA E 6 r.2.2.2] h) n (inZ r.1 ∧ okA r.2.1 ∧ okA r.2.2.1 ∧ okJ r.2.2.2) 0 0) 0 0 n (ov [a_t, (a_t + 24), (a_t + 25), (a_t + 28)] [.inr (11, fsX11 a_t t_thrown t_taped t_p t_fault t_baseLow t_baseHigh t_newBaseLow t_newBaseHigh t_from t_knots t_lines t_chosen t_undos t_redos t_aimedMany t_fits t_fitOf t_sights t_systems t_own t_cross t_curveLong t_wallFirst), IA E 100 t_cur, IA E 100 t_was, JA E 6 t_curSum] h) 27 [some (.ref a_t), some (vI v1), some (vI v2), some (vI v3), some (vI v4), none] [vI s0] := by
  rw [m_X11_goes_27] at hs
  refine g_istore e_X11_goes_27 st1_5 rfl ?_
  refine g_iload e_X11_goes_29 rfl ?_
  refine g_if_ne e_X11_goes_31 (inZ_I ok_s0) hs (fun c31 hs => ?_) (fun c31 hs => ?_)
  · refine g_aload_n e_X11_goes_34 rfl ?_
    refine g_get 0 35 ao rfl rfl fsX11_g35 fl_X11_81 e_X11_goes_35 ?_
    refine g_iload_n e_X11_goes_38 rfl ?_
    refine g_iald 1 ao rfl rfl (Nat.le_of_ble_eq_true rfl) e_X11_goes_39 hs (fun hi3 hs => ?_)
    refine g_iload e_X11_goes_40 rfl ?_
    refine g_icmp_ne e_X11_goes_42 (ok_t_cur _) ok_v4 hs (fun c42 hs => ?_) (fun c42 hs => ?_)
    · refine g_iconst e_X11_goes_45 ?_
      obtain rfl := Option.some.inj hs
      exact g_zret rfl (by decide : inZ 0) ⟨(by decide : inZ 0), ok_t_cur, ok_t_was, ok_t_curSum⟩ e_X11_goes_46
    · exact g_X11_goes_47 ao ok_t_cur ok_t_was ok_t_curSum ok_v1 ok_v2 ok_v3 ok_v4 ok_s0 hs
  · exact g_X11_goes_47 ao ok_t_cur ok_t_was ok_t_curSum ok_v1 ok_v2 ok_v3 ok_v4 ok_s0 hs

noncomputable def m_X11_goes_22 (t_cur : Nat → Int) (t_was : Nat → Int) (t_curSum : Nat → Int) (v1 : Int) (v2 : Int) (v3 : Int) (v4 : Int) : Option (Int × (Nat → Int) × (Nat → Int) × (Nat → Int)) :=
  m_X11_goes_27 t_cur t_was t_curSum v1 v2 v3 v4 1

set_option maxRecDepth 10000 in
set_option maxHeartbeats 8000000 in
theorem g_X11_goes_22 {l : Launch} {E : EE} {b0 n : Nat} {h : AH} {a_t : Nat} {t_thrown t_taped t_p t_fault t_baseLow t_baseHigh t_newBaseLow t_newBaseHigh t_from t_knots t_lines t_chosen t_undos t_redos t_aimedMany t_fits t_fitOf t_sights t_systems t_own t_cross t_curveLong t_wallFirst v1 v2 v3 v4 : Int} {t_cur t_was t_curSum : Nat → Int} {r : Int × (Nat → Int) × (Nat → Int) × (Nat → Int)} (ao : AO b0 n [a_t, (a_t + 24), (a_t + 25), (a_t + 28)]) (ok_t_cur : okA t_cur) (ok_t_was : okA t_was) (ok_t_curSum : okJ t_curSum) (ok_v1 : inI v1) (ok_v2 : inI v2) (ok_v3 : inI v3) (ok_v4 : inI v4) (hs : m_X11_goes_22 t_cur t_was t_curSum v1 v2 v3 v4 = some r) : G l E b0 M_X11_goes (fun _ => True) (ZM E b0 (some (vI r.1)) (ov [a_t, (a_t + 24), (a_t + 25), (a_t + 28)] [.inr (11, fsX11 a_t t_thrown t_taped t_p t_fault t_baseLow t_baseHigh t_newBaseLow t_newBaseHigh t_from t_knots t_lines t_chosen t_undos t_redos t_aimedMany t_fits t_fitOf t_sights t_systems t_own t_cross t_curveLong t_wallFirst), IA E 100 r.2.1, IA E 100 r.2.2.1, JA E 6 r.2.2.2] h) n (inZ r.1 ∧ okA r.2.1 ∧ okA r.2.2.1 ∧ okJ r.2.2.2) 0 0) 0 0 n (ov [a_t, (a_t + 24), (a_t + 25), (a_t + 28)] [.inr (11, fsX11 a_t t_thrown t_taped t_p t_fault t_baseLow t_baseHigh t_newBaseLow t_newBaseHigh t_from t_knots t_lines t_chosen t_undos t_redos t_aimedMany t_fits t_fitOf t_sights t_systems t_own t_cross t_curveLong t_wallFirst), IA E 100 t_cur, IA E 100 t_was, JA E 6 t_curSum] h) 22 [some (.ref a_t), some (vI v1), some (vI v2), some (vI v3), some (vI v4), none] [] := by
  rw [m_X11_goes_22] at hs
  refine g_iconst e_X11_goes_22 ?_
  refine g_goto e_X11_goes_23 ?_
  exact g_X11_goes_27 ao ok_t_cur ok_t_was ok_t_curSum ok_v1 ok_v2 ok_v3 ok_v4 (by decide : inZ 1) hs

noncomputable def m_X11_goes_0 (t_cur : Nat → Int) (t_was : Nat → Int) (t_curSum : Nat → Int) (v1 : Int) (v2 : Int) : Option (Int × (Nat → Int) × (Nat → Int) × (Nat → Int)) :=
  chk (inB v1 100) (chk (inI (v1 + v2)) (if (v1 + v2) < 0 then (m_X11_goes_22 t_cur t_was t_curSum v1 v2 (v1 + v2) (t_cur (Int.toNat v1))) else (if (v1 + v2) < 100 then (m_X11_goes_27 t_cur t_was t_curSum v1 v2 (v1 + v2) (t_cur (Int.toNat v1)) 0) else (m_X11_goes_22 t_cur t_was t_curSum v1 v2 (v1 + v2) (t_cur (Int.toNat v1))))))

set_option maxRecDepth 10000 in
set_option maxHeartbeats 8000000 in
theorem g_X11_goes_0 {l : Launch} {E : EE} {b0 n : Nat} {h : AH} {a_t : Nat} {t_thrown t_taped t_p t_fault t_baseLow t_baseHigh t_newBaseLow t_newBaseHigh t_from t_knots t_lines t_chosen t_undos t_redos t_aimedMany t_fits t_fitOf t_sights t_systems t_own t_cross t_curveLong t_wallFirst v1 v2 : Int} {t_cur t_was t_curSum : Nat → Int} {r : Int × (Nat → Int) × (Nat → Int) × (Nat → Int)} (ao : AO b0 n [a_t, (a_t + 24), (a_t + 25), (a_t + 28)]) (ok_t_cur : okA t_cur) (ok_t_was : okA t_was) (ok_t_curSum : okJ t_curSum) (ok_v1 : inI v1) (ok_v2 : inI v2) (hs : m_X11_goes_0 t_cur t_was t_curSum v1 v2 = some r) : G l E b0 M_X11_goes (fun _ => True) (ZM E b0 (some (vI r.1)) (ov [a_t, (a_t + 24), (a_t + 25), (a_t + 28)] [.inr (11, fsX11 a_t t_thrown t_taped t_p t_fault t_baseLow t_baseHigh t_newBaseLow t_newBaseHigh t_from t_knots t_lines t_chosen t_undos t_redos t_aimedMany t_fits t_fitOf t_sights t_systems t_own t_cross t_curveLong t_wallFirst), IA E 100 r.2.1, IA E 100 r.2.2.1, JA E 6 r.2.2.2] h) n (inZ r.1 ∧ okA r.2.1 ∧ okA r.2.2.1 ∧ okJ r.2.2.2) 0 0) 0 0 n (ov [a_t, (a_t + 24), (a_t + 25), (a_t + 28)] [.inr (11, fsX11 a_t t_thrown t_taped t_p t_fault t_baseLow t_baseHigh t_newBaseLow t_newBaseHigh t_from t_knots t_lines t_chosen t_undos t_redos t_aimedMany t_fits t_fitOf t_sights t_systems t_own t_cross t_curveLong t_wallFirst), IA E 100 t_cur, IA E 100 t_was, JA E 6 t_curSum] h) 0 [some (.ref a_t), some (vI v1), some (vI v2), none, none, none] [] := by
  rw [m_X11_goes_0] at hs
  refine g_iload_n e_X11_goes_0 rfl ?_
  refine g_iload_n e_X11_goes_1 rfl ?_
  refine g_iadd e_X11_goes_2 ?_
  refine g_istore_n e_X11_goes_3 st1_3 rfl ?_
  refine g_aload_n e_X11_goes_4 rfl ?_
  refine g_get 0 35 ao rfl rfl fsX11_g35 fl_X11_81 e_X11_goes_5 ?_
  refine g_iload_n e_X11_goes_8 rfl ?_
  refine g_iald 1 ao rfl rfl (Nat.le_of_ble_eq_true rfl) e_X11_goes_9 hs (fun hi1 hs => ?_)
  refine g_istore e_X11_goes_10 st1_4 rfl ?_
  refine g_iload_n e_X11_goes_12 rfl ?_
  obtain ⟨hc2, hs⟩ := chk_elim hs
  refine g_if_lt e_X11_goes_13 hc2 hs (fun c13 hs => ?_) (fun c13 hs => ?_)
  · exact g_X11_goes_22 ao ok_t_cur ok_t_was ok_t_curSum ok_v1 ok_v2 hc2 (ok_t_cur _) hs
  · refine g_iload_n e_X11_goes_16 rfl ?_
    refine g_bipush e_X11_goes_17 bp_100 ?_
    refine g_icmp_lt e_X11_goes_19 hc2 (by decide : inI 100) hs (fun c19 hs => ?_) (fun c19 hs => ?_)
    · refine g_iconst e_X11_goes_26 ?_
      exact g_X11_goes_27 ao ok_t_cur ok_t_was ok_t_curSum ok_v1 ok_v2 hc2 (ok_t_cur _) (by decide : inZ 0) hs
    · exact g_X11_goes_22 ao ok_t_cur ok_t_was ok_t_curSum ok_v1 ok_v2 hc2 (ok_t_cur _) hs

noncomputable def m_X11_goes (t_cur : Nat → Int) (t_was : Nat → Int) (t_curSum : Nat → Int) (v1 : Int) (v2 : Int) : Option (Int × (Nat → Int) × (Nat → Int) × (Nat → Int)) := m_X11_goes_0 t_cur t_was t_curSum v1 v2

set_option maxRecDepth 10000 in
set_option maxHeartbeats 8000000 in
theorem ct_X11_goes {l : Launch} {E : EE} {b0 n : Nat} {h : AH} {a_t : Nat} {t_thrown t_taped t_p t_fault t_baseLow t_baseHigh t_newBaseLow t_newBaseHigh t_from t_knots t_lines t_chosen t_undos t_redos t_aimedMany t_fits t_fitOf t_sights t_systems t_own t_cross t_curveLong t_wallFirst : Int} {t_cur t_was t_curSum : Nat → Int} {v1 v2 : Int} (ao : AO b0 n [a_t, (a_t + 24), (a_t + 25), (a_t + 28)]) (hf : FA h [a_t, (a_t + 24), (a_t + 25), (a_t + 28)] [.inr (11, fsX11 a_t t_thrown t_taped t_p t_fault t_baseLow t_baseHigh t_newBaseLow t_newBaseHigh t_from t_knots t_lines t_chosen t_undos t_redos t_aimedMany t_fits t_fitOf t_sights t_systems t_own t_cross t_curveLong t_wallFirst), IA E 100 t_cur, IA E 100 t_was, JA E 6 t_curSum]) (ok_t_cur : okA t_cur) (ok_t_was : okA t_was) (ok_t_curSum : okJ t_curSum) (ok_v1 : inI v1) (ok_v2 : inI v2) {r : Int × (Nat → Int) × (Nat → Int) × (Nat → Int)} (hm : m_X11_goes t_cur t_was t_curSum v1 v2 = some r) : Ct l E b0 M_X11_goes 0 0 [.ref a_t, vI v1, vI v2] h n (some (vI r.1)) (ov [a_t, (a_t + 24), (a_t + 25), (a_t + 28)] [.inr (11, fsX11 a_t t_thrown t_taped t_p t_fault t_baseLow t_baseHigh t_newBaseLow t_newBaseHigh t_from t_knots t_lines t_chosen t_undos t_redos t_aimedMany t_fits t_fitOf t_sights t_systems t_own t_cross t_curveLong t_wallFirst), IA E 100 r.2.1, IA E 100 r.2.2.1, JA E 6 r.2.2.2] h) n (inZ r.1 ∧ okA r.2.1 ∧ okA r.2.2.1 ∧ okJ r.2.2.2) := by
  rw [m_X11_goes] at hm
  have hg : G l E b0 M_X11_goes (fun _ => True) (ZM E b0 (some (vI r.1)) (ov [a_t, (a_t + 24), (a_t + 25), (a_t + 28)] [.inr (11, fsX11 a_t t_thrown t_taped t_p t_fault t_baseLow t_baseHigh t_newBaseLow t_newBaseHigh t_from t_knots t_lines t_chosen t_undos t_redos t_aimedMany t_fits t_fitOf t_sights t_systems t_own t_cross t_curveLong t_wallFirst), IA E 100 r.2.1, IA E 100 r.2.2.1, JA E 6 r.2.2.2] h) n (inZ r.1 ∧ okA r.2.1 ∧ okA r.2.2.1 ∧ okJ r.2.2.2) 0 0) 0 0 n (ov [a_t, (a_t + 24), (a_t + 25), (a_t + 28)] [.inr (11, fsX11 a_t t_thrown t_taped t_p t_fault t_baseLow t_baseHigh t_newBaseLow t_newBaseHigh t_from t_knots t_lines t_chosen t_undos t_redos t_aimedMany t_fits t_fitOf t_sights t_systems t_own t_cross t_curveLong t_wallFirst), IA E 100 t_cur, IA E 100 t_was, JA E 6 t_curSum] h) 0 [some (.ref a_t), some (vI v1), some (vI v2), none, none, none] [] := by
    have hs := hm
    exact g_X11_goes_0 ao ok_t_cur ok_t_was ok_t_curSum ok_v1 ok_v2 hs
  rw [FA_id hf] at hg
  exact Ct_of [some (.ref a_t), some (vI v1), some (vI v2), none, none, none] ⟨by decide +kernel, rfl⟩ rfl (Nat.le_of_ble_eq_true rfl) hg

/-! ===== X11_tick ===== -/
theorem e_X11_tick_0 : DC cX11_tick 0 (.iconst 0) 1 1 := ⟨by decide +kernel, rfl⟩
theorem e_X11_tick_1 : DC cX11_tick 1 (.istore 4) 2 3 := ⟨by decide +kernel, rfl⟩
theorem e_X11_tick_3 : DC cX11_tick 3 (.aload_n 0) 1 4 := ⟨by decide +kernel, rfl⟩
theorem e_X11_tick_4 : DC cX11_tick 4 (.getfield 93) 3 7 := ⟨by decide +kernel, rfl⟩
theorem e_X11_tick_7 : DC cX11_tick 7 (.iconst 0) 1 8 := ⟨by decide +kernel, rfl⟩
theorem e_X11_tick_8 : DC cX11_tick 8 (.laload) 1 9 := ⟨by decide +kernel, rfl⟩
theorem e_X11_tick_9 : DC cX11_tick 9 (.lstore 5) 2 11 := ⟨by decide +kernel, rfl⟩
theorem e_X11_tick_11 : DC cX11_tick 11 (.iconst 0) 1 12 := ⟨by decide +kernel, rfl⟩
theorem e_X11_tick_12 : DC cX11_tick 12 (.istore 7) 2 14 := ⟨by decide +kernel, rfl⟩
theorem e_X11_tick_14 : DC cX11_tick 14 (.iload 7) 2 16 := ⟨by decide +kernel, rfl⟩
theorem e_X11_tick_16 : DC cX11_tick 16 (.bipush 100) 2 18 := ⟨by decide +kernel, rfl⟩
theorem e_X11_tick_18 : DB cX11_tick 18 (.if_icmp .ge 58) (58) 3 21 76 := ⟨by decide +kernel, rfl, rfl⟩
theorem e_X11_tick_21 : DC cX11_tick 21 (.aload_n 0) 1 22 := ⟨by decide +kernel, rfl⟩
theorem e_X11_tick_22 : DC cX11_tick 22 (.getfield 84) 3 25 := ⟨by decide +kernel, rfl⟩
theorem e_X11_tick_25 : DC cX11_tick 25 (.iload 7) 2 27 := ⟨by decide +kernel, rfl⟩
theorem e_X11_tick_27 : DC cX11_tick 27 (.aload_n 0) 1 28 := ⟨by decide +kernel, rfl⟩
theorem e_X11_tick_28 : DC cX11_tick 28 (.getfield 81) 3 31 := ⟨by decide +kernel, rfl⟩
theorem e_X11_tick_31 : DC cX11_tick 31 (.iload 7) 2 33 := ⟨by decide +kernel, rfl⟩
theorem e_X11_tick_33 : DC cX11_tick 33 (.iaload) 1 34 := ⟨by decide +kernel, rfl⟩
theorem e_X11_tick_34 : DC cX11_tick 34 (.iastore) 1 35 := ⟨by decide +kernel, rfl⟩
theorem e_X11_tick_35 : DC cX11_tick 35 (.aload_n 0) 1 36 := ⟨by decide +kernel, rfl⟩
theorem e_X11_tick_36 : DC cX11_tick 36 (.getfield 87) 3 39 := ⟨by decide +kernel, rfl⟩
theorem e_X11_tick_39 : DC cX11_tick 39 (.iload 7) 2 41 := ⟨by decide +kernel, rfl⟩
theorem e_X11_tick_41 : DC cX11_tick 41 (.aload_n 0) 1 42 := ⟨by decide +kernel, rfl⟩
theorem e_X11_tick_42 : DC cX11_tick 42 (.getfield 81) 3 45 := ⟨by decide +kernel, rfl⟩
theorem e_X11_tick_45 : DC cX11_tick 45 (.iload 7) 2 47 := ⟨by decide +kernel, rfl⟩
theorem e_X11_tick_47 : DC cX11_tick 47 (.iaload) 1 48 := ⟨by decide +kernel, rfl⟩
theorem e_X11_tick_48 : DB cX11_tick 48 (.ifCond .ne 7) (7) 3 51 55 := ⟨by decide +kernel, rfl, rfl⟩
theorem e_X11_tick_51 : DC cX11_tick 51 (.iconst 0) 1 52 := ⟨by decide +kernel, rfl⟩
theorem e_X11_tick_52 : DB cX11_tick 52 (.goto 17) (17) 3 55 69 := ⟨by decide +kernel, rfl, rfl⟩
theorem e_X11_tick_55 : DC cX11_tick 55 (.aload_n 0) 1 56 := ⟨by decide +kernel, rfl⟩
theorem e_X11_tick_56 : DC cX11_tick 56 (.iload 7) 2 58 := ⟨by decide +kernel, rfl⟩
theorem e_X11_tick_58 : DC cX11_tick 58 (.aload_n 0) 1 59 := ⟨by decide +kernel, rfl⟩
theorem e_X11_tick_59 : DC cX11_tick 59 (.getfield 81) 3 62 := ⟨by decide +kernel, rfl⟩
theorem e_X11_tick_62 : DC cX11_tick 62 (.iload 7) 2 64 := ⟨by decide +kernel, rfl⟩
theorem e_X11_tick_64 : DC cX11_tick 64 (.iaload) 1 65 := ⟨by decide +kernel, rfl⟩
theorem e_X11_tick_65 : DC cX11_tick 65 (.iload_n 1) 1 66 := ⟨by decide +kernel, rfl⟩
theorem e_X11_tick_66 : DC cX11_tick 66 (.invokevirtual 331) 3 69 := ⟨by decide +kernel, rfl⟩
theorem e_X11_tick_69 : DC cX11_tick 69 (.iastore) 1 70 := ⟨by decide +kernel, rfl⟩
theorem e_X11_tick_70 : DC cX11_tick 70 (.iinc 7 1) 3 73 := ⟨by decide +kernel, rfl⟩
theorem e_X11_tick_73 : DB cX11_tick 73 (.goto (-59)) (-59) 3 76 14 := ⟨by decide +kernel, rfl, rfl⟩
theorem e_X11_tick_76 : DC cX11_tick 76 (.iconst 0) 1 77 := ⟨by decide +kernel, rfl⟩
theorem e_X11_tick_77 : DC cX11_tick 77 (.istore 7) 2 79 := ⟨by decide +kernel, rfl⟩
theorem e_X11_tick_79 : DC cX11_tick 79 (.iload 7) 2 81 := ⟨by decide +kernel, rfl⟩
theorem e_X11_tick_81 : DC cX11_tick 81 (.bipush 100) 2 83 := ⟨by decide +kernel, rfl⟩
theorem e_X11_tick_83 : DB cX11_tick 83 (.if_icmp .ge 94) (94) 3 86 177 := ⟨by decide +kernel, rfl, rfl⟩
theorem e_X11_tick_86 : DC cX11_tick 86 (.aload_n 0) 1 87 := ⟨by decide +kernel, rfl⟩
theorem e_X11_tick_87 : DC cX11_tick 87 (.getfield 84) 3 90 := ⟨by decide +kernel, rfl⟩
theorem e_X11_tick_90 : DC cX11_tick 90 (.iload 7) 2 92 := ⟨by decide +kernel, rfl⟩
theorem e_X11_tick_92 : DC cX11_tick 92 (.iaload) 1 93 := ⟨by decide +kernel, rfl⟩
theorem e_X11_tick_93 : DB cX11_tick 93 (.ifCond .eq 78) (78) 3 96 171 := ⟨by decide +kernel, rfl, rfl⟩
theorem e_X11_tick_96 : DC cX11_tick 96 (.aload_n 0) 1 97 := ⟨by decide +kernel, rfl⟩
theorem e_X11_tick_97 : DC cX11_tick 97 (.iload 7) 2 99 := ⟨by decide +kernel, rfl⟩
theorem e_X11_tick_99 : DC cX11_tick 99 (.iload_n 2) 1 100 := ⟨by decide +kernel, rfl⟩
theorem e_X11_tick_100 : DC cX11_tick 100 (.invokevirtual 265) 3 103 := ⟨by decide +kernel, rfl⟩
theorem e_X11_tick_103 : DC cX11_tick 103 (.iload_n 3) 1 104 := ⟨by decide +kernel, rfl⟩
theorem e_X11_tick_104 : DC cX11_tick 104 (.iadd) 1 105 := ⟨by decide +kernel, rfl⟩
theorem e_X11_tick_105 : DC cX11_tick 105 (.istore 8) 2 107 := ⟨by decide +kernel, rfl⟩
theorem e_X11_tick_107 : DC cX11_tick 107 (.aload_n 0) 1 108 := ⟨by decide +kernel, rfl⟩
theorem e_X11_tick_108 : DC cX11_tick 108 (.getfield 87) 3 111 := ⟨by decide +kernel, rfl⟩
theorem e_X11_tick_111 : DC cX11_tick 111 (.iload 7) 2 113 := ⟨by decide +kernel, rfl⟩
theorem e_X11_tick_113 : DC cX11_tick 113 (.iaload) 1 114 := ⟨by decide +kernel, rfl⟩
theorem e_X11_tick_114 : DC cX11_tick 114 (.iload 8) 2 116 := ⟨by decide +kernel, rfl⟩
theorem e_X11_tick_116 : DB cX11_tick 116 (.if_icmp .le 7) (7) 3 119 123 := ⟨by decide +kernel, rfl, rfl⟩
theorem e_X11_tick_119 : DC cX11_tick 119 (.iconst 1) 1 120 := ⟨by decide +kernel, rfl⟩
theorem e_X11_tick_120 : DB cX11_tick 120 (.goto 21) (21) 3 123 141 := ⟨by decide +kernel, rfl, rfl⟩
theorem e_X11_tick_123 : DC cX11_tick 123 (.aload_n 0) 1 124 := ⟨by decide +kernel, rfl⟩
theorem e_X11_tick_124 : DC cX11_tick 124 (.getfield 87) 3 127 := ⟨by decide +kernel, rfl⟩
theorem e_X11_tick_127 : DC cX11_tick 127 (.iload 7) 2 129 := ⟨by decide +kernel, rfl⟩
theorem e_X11_tick_129 : DC cX11_tick 129 (.iaload) 1 130 := ⟨by decide +kernel, rfl⟩
theorem e_X11_tick_130 : DC cX11_tick 130 (.ineg) 1 131 := ⟨by decide +kernel, rfl⟩
theorem e_X11_tick_131 : DC cX11_tick 131 (.iload 8) 2 133 := ⟨by decide +kernel, rfl⟩
theorem e_X11_tick_133 : DB cX11_tick 133 (.if_icmp .le 7) (7) 3 136 140 := ⟨by decide +kernel, rfl, rfl⟩
theorem e_X11_tick_136 : DC cX11_tick 136 (.iconst (-1)) 1 137 := ⟨by decide +kernel, rfl⟩
theorem e_X11_tick_137 : DB cX11_tick 137 (.goto 4) (4) 3 140 141 := ⟨by decide +kernel, rfl, rfl⟩
theorem e_X11_tick_140 : DC cX11_tick 140 (.iconst 0) 1 141 := ⟨by decide +kernel, rfl⟩
theorem e_X11_tick_141 : DC cX11_tick 141 (.istore 9) 2 143 := ⟨by decide +kernel, rfl⟩
theorem e_X11_tick_143 : DC cX11_tick 143 (.iload 9) 2 145 := ⟨by decide +kernel, rfl⟩
theorem e_X11_tick_145 : DB cX11_tick 145 (.ifCond .eq 14) (14) 3 148 159 := ⟨by decide +kernel, rfl, rfl⟩
theorem e_X11_tick_148 : DC cX11_tick 148 (.aload_n 0) 1 149 := ⟨by decide +kernel, rfl⟩
theorem e_X11_tick_149 : DC cX11_tick 149 (.iload 7) 2 151 := ⟨by decide +kernel, rfl⟩
theorem e_X11_tick_151 : DC cX11_tick 151 (.iload 9) 2 153 := ⟨by decide +kernel, rfl⟩
theorem e_X11_tick_153 : DC cX11_tick 153 (.invokevirtual 334) 3 156 := ⟨by decide +kernel, rfl⟩
theorem e_X11_tick_156 : DB cX11_tick 156 (.ifCond .ne 8) (8) 3 159 164 := ⟨by decide +kernel, rfl, rfl⟩
theorem e_X11_tick_159 : DC cX11_tick 159 (.iload 4) 2 161 := ⟨by decide +kernel, rfl⟩
theorem e_X11_tick_161 : DB cX11_tick 161 (.ifCond .eq 7) (7) 3 164 168 := ⟨by decide +kernel, rfl, rfl⟩
theorem e_X11_tick_164 : DC cX11_tick 164 (.iconst 1) 1 165 := ⟨by decide +kernel, rfl⟩
theorem e_X11_tick_165 : DB cX11_tick 165 (.goto 4) (4) 3 168 169 := ⟨by decide +kernel, rfl, rfl⟩
theorem e_X11_tick_168 : DC cX11_tick 168 (.iconst 0) 1 169 := ⟨by decide +kernel, rfl⟩
theorem e_X11_tick_169 : DC cX11_tick 169 (.istore 4) 2 171 := ⟨by decide +kernel, rfl⟩
theorem e_X11_tick_171 : DC cX11_tick 171 (.iinc 7 1) 3 174 := ⟨by decide +kernel, rfl⟩
theorem e_X11_tick_174 : DB cX11_tick 174 (.goto (-95)) (-95) 3 177 79 := ⟨by decide +kernel, rfl, rfl⟩
theorem e_X11_tick_177 : DC cX11_tick 177 (.iconst 1) 1 178 := ⟨by decide +kernel, rfl⟩
theorem e_X11_tick_178 : DC cX11_tick 178 (.istore 7) 2 180 := ⟨by decide +kernel, rfl⟩
theorem e_X11_tick_180 : DC cX11_tick 180 (.iload 7) 2 182 := ⟨by decide +kernel, rfl⟩
theorem e_X11_tick_182 : DC cX11_tick 182 (.bipush 99) 2 184 := ⟨by decide +kernel, rfl⟩
theorem e_X11_tick_184 : DB cX11_tick 184 (.if_icmp .ge 151) (151) 3 187 335 := ⟨by decide +kernel, rfl, rfl⟩
theorem e_X11_tick_187 : DC cX11_tick 187 (.aload_n 0) 1 188 := ⟨by decide +kernel, rfl⟩
theorem e_X11_tick_188 : DC cX11_tick 188 (.getfield 38) 3 191 := ⟨by decide +kernel, rfl⟩
theorem e_X11_tick_191 : DC cX11_tick 191 (.iload 7) 2 193 := ⟨by decide +kernel, rfl⟩
theorem e_X11_tick_193 : DC cX11_tick 193 (.iaload) 1 194 := ⟨by decide +kernel, rfl⟩
theorem e_X11_tick_194 : DC cX11_tick 194 (.iconst (-1)) 1 195 := ⟨by decide +kernel, rfl⟩
theorem e_X11_tick_195 : DB cX11_tick 195 (.if_icmp .eq 134) (134) 3 198 329 := ⟨by decide +kernel, rfl, rfl⟩
theorem e_X11_tick_198 : DC cX11_tick 198 (.aload_n 0) 1 199 := ⟨by decide +kernel, rfl⟩
theorem e_X11_tick_199 : DC cX11_tick 199 (.getfield 81) 3 202 := ⟨by decide +kernel, rfl⟩
theorem e_X11_tick_202 : DC cX11_tick 202 (.iload 7) 2 204 := ⟨by decide +kernel, rfl⟩
theorem e_X11_tick_204 : DC cX11_tick 204 (.iaload) 1 205 := ⟨by decide +kernel, rfl⟩
theorem e_X11_tick_205 : DB cX11_tick 205 (.ifCond .ne 124) (124) 3 208 329 := ⟨by decide +kernel, rfl, rfl⟩
theorem e_X11_tick_208 : DC cX11_tick 208 (.aload_n 0) 1 209 := ⟨by decide +kernel, rfl⟩
theorem e_X11_tick_209 : DC cX11_tick 209 (.getfield 81) 3 212 := ⟨by decide +kernel, rfl⟩
theorem e_X11_tick_212 : DC cX11_tick 212 (.iload 7) 2 214 := ⟨by decide +kernel, rfl⟩
theorem e_X11_tick_214 : DC cX11_tick 214 (.iconst 1) 1 215 := ⟨by decide +kernel, rfl⟩
theorem e_X11_tick_215 : DC cX11_tick 215 (.isub) 1 216 := ⟨by decide +kernel, rfl⟩
theorem e_X11_tick_216 : DC cX11_tick 216 (.iaload) 1 217 := ⟨by decide +kernel, rfl⟩
theorem e_X11_tick_217 : DB cX11_tick 217 (.ifCond .ne 112) (112) 3 220 329 := ⟨by decide +kernel, rfl, rfl⟩
theorem e_X11_tick_220 : DC cX11_tick 220 (.aload_n 0) 1 221 := ⟨by decide +kernel, rfl⟩
theorem e_X11_tick_221 : DC cX11_tick 221 (.getfield 81) 3 224 := ⟨by decide +kernel, rfl⟩
theorem e_X11_tick_224 : DC cX11_tick 224 (.iload 7) 2 226 := ⟨by decide +kernel, rfl⟩
theorem e_X11_tick_226 : DC cX11_tick 226 (.iconst 1) 1 227 := ⟨by decide +kernel, rfl⟩
theorem e_X11_tick_227 : DC cX11_tick 227 (.iadd) 1 228 := ⟨by decide +kernel, rfl⟩
theorem e_X11_tick_228 : DC cX11_tick 228 (.iaload) 1 229 := ⟨by decide +kernel, rfl⟩
theorem e_X11_tick_229 : DB cX11_tick 229 (.ifCond .ne 100) (100) 3 232 329 := ⟨by decide +kernel, rfl, rfl⟩
theorem e_X11_tick_232 : DC cX11_tick 232 (.aload_n 0) 1 233 := ⟨by decide +kernel, rfl⟩
theorem e_X11_tick_233 : DC cX11_tick 233 (.invokevirtual 337) 3 236 := ⟨by decide +kernel, rfl⟩
theorem e_X11_tick_236 : DC cX11_tick 236 (.bipush 28) 2 238 := ⟨by decide +kernel, rfl⟩
theorem e_X11_tick_238 : DB cX11_tick 238 (.if_icmp .gt 91) (91) 3 241 329 := ⟨by decide +kernel, rfl, rfl⟩
theorem e_X11_tick_241 : DC cX11_tick 241 (.aload_n 0) 1 242 := ⟨by decide +kernel, rfl⟩
theorem e_X11_tick_242 : DC cX11_tick 242 (.iload 7) 2 244 := ⟨by decide +kernel, rfl⟩
theorem e_X11_tick_244 : DC cX11_tick 244 (.iconst 1) 1 245 := ⟨by decide +kernel, rfl⟩
theorem e_X11_tick_245 : DC cX11_tick 245 (.iload_n 1) 1 246 := ⟨by decide +kernel, rfl⟩
theorem e_X11_tick_246 : DC cX11_tick 246 (.invokevirtual 331) 3 249 := ⟨by decide +kernel, rfl⟩
theorem e_X11_tick_249 : DC cX11_tick 249 (.istore 8) 2 251 := ⟨by decide +kernel, rfl⟩
theorem e_X11_tick_251 : DC cX11_tick 251 (.iload 8) 2 253 := ⟨by decide +kernel, rfl⟩
theorem e_X11_tick_253 : DC cX11_tick 253 (.aload_n 0) 1 254 := ⟨by decide +kernel, rfl⟩
theorem e_X11_tick_254 : DC cX11_tick 254 (.getfield 38) 3 257 := ⟨by decide +kernel, rfl⟩
theorem e_X11_tick_257 : DC cX11_tick 257 (.iload 7) 2 259 := ⟨by decide +kernel, rfl⟩
theorem e_X11_tick_259 : DC cX11_tick 259 (.iaload) 1 260 := ⟨by decide +kernel, rfl⟩
theorem e_X11_tick_260 : DB cX11_tick 260 (.if_icmp .le 7) (7) 3 263 267 := ⟨by decide +kernel, rfl, rfl⟩
theorem e_X11_tick_263 : DC cX11_tick 263 (.iconst 1) 1 264 := ⟨by decide +kernel, rfl⟩
theorem e_X11_tick_264 : DB cX11_tick 264 (.goto 21) (21) 3 267 285 := ⟨by decide +kernel, rfl, rfl⟩
theorem e_X11_tick_267 : DC cX11_tick 267 (.iload 8) 2 269 := ⟨by decide +kernel, rfl⟩
theorem e_X11_tick_269 : DC cX11_tick 269 (.aload_n 0) 1 270 := ⟨by decide +kernel, rfl⟩
theorem e_X11_tick_270 : DC cX11_tick 270 (.getfield 38) 3 273 := ⟨by decide +kernel, rfl⟩
theorem e_X11_tick_273 : DC cX11_tick 273 (.iload 7) 2 275 := ⟨by decide +kernel, rfl⟩
theorem e_X11_tick_275 : DC cX11_tick 275 (.iaload) 1 276 := ⟨by decide +kernel, rfl⟩
theorem e_X11_tick_276 : DC cX11_tick 276 (.ineg) 1 277 := ⟨by decide +kernel, rfl⟩
theorem e_X11_tick_277 : DB cX11_tick 277 (.if_icmp .ge 7) (7) 3 280 284 := ⟨by decide +kernel, rfl, rfl⟩
theorem e_X11_tick_280 : DC cX11_tick 280 (.iconst (-1)) 1 281 := ⟨by decide +kernel, rfl⟩
theorem e_X11_tick_281 : DB cX11_tick 281 (.goto 4) (4) 3 284 285 := ⟨by decide +kernel, rfl, rfl⟩
theorem e_X11_tick_284 : DC cX11_tick 284 (.iconst 0) 1 285 := ⟨by decide +kernel, rfl⟩
theorem e_X11_tick_285 : DC cX11_tick 285 (.istore 9) 2 287 := ⟨by decide +kernel, rfl⟩
theorem e_X11_tick_287 : DC cX11_tick 287 (.iload 9) 2 289 := ⟨by decide +kernel, rfl⟩
theorem e_X11_tick_289 : DB cX11_tick 289 (.ifCond .eq 40) (40) 3 292 329 := ⟨by decide +kernel, rfl, rfl⟩
theorem e_X11_tick_292 : DC cX11_tick 292 (.aload_n 0) 1 293 := ⟨by decide +kernel, rfl⟩
theorem e_X11_tick_293 : DC cX11_tick 293 (.getfield 81) 3 296 := ⟨by decide +kernel, rfl⟩
theorem e_X11_tick_296 : DC cX11_tick 296 (.iload 7) 2 298 := ⟨by decide +kernel, rfl⟩
theorem e_X11_tick_298 : DC cX11_tick 298 (.iload 9) 2 300 := ⟨by decide +kernel, rfl⟩
theorem e_X11_tick_300 : DC cX11_tick 300 (.iadd) 1 301 := ⟨by decide +kernel, rfl⟩
theorem e_X11_tick_301 : DC cX11_tick 301 (.iconst 1) 1 302 := ⟨by decide +kernel, rfl⟩
theorem e_X11_tick_302 : DC cX11_tick 302 (.iastore) 1 303 := ⟨by decide +kernel, rfl⟩
theorem e_X11_tick_303 : DC cX11_tick 303 (.aload_n 0) 1 304 := ⟨by decide +kernel, rfl⟩
theorem e_X11_tick_304 : DC cX11_tick 304 (.getfield 81) 3 307 := ⟨by decide +kernel, rfl⟩
theorem e_X11_tick_307 : DC cX11_tick 307 (.iload 7) 2 309 := ⟨by decide +kernel, rfl⟩
theorem e_X11_tick_309 : DC cX11_tick 309 (.iload 9) 2 311 := ⟨by decide +kernel, rfl⟩
theorem e_X11_tick_311 : DC cX11_tick 311 (.isub) 1 312 := ⟨by decide +kernel, rfl⟩
theorem e_X11_tick_312 : DC cX11_tick 312 (.iconst (-1)) 1 313 := ⟨by decide +kernel, rfl⟩
theorem e_X11_tick_313 : DC cX11_tick 313 (.iastore) 1 314 := ⟨by decide +kernel, rfl⟩
theorem e_X11_tick_314 : DC cX11_tick 314 (.aload_n 0) 1 315 := ⟨by decide +kernel, rfl⟩
theorem e_X11_tick_315 : DC cX11_tick 315 (.getfield 93) 3 318 := ⟨by decide +kernel, rfl⟩
theorem e_X11_tick_318 : DC cX11_tick 318 (.iconst 4) 1 319 := ⟨by decide +kernel, rfl⟩
theorem e_X11_tick_319 : DC cX11_tick 319 (.dup2) 1 320 := ⟨by decide +kernel, rfl⟩
theorem e_X11_tick_320 : DC cX11_tick 320 (.laload) 1 321 := ⟨by decide +kernel, rfl⟩
theorem e_X11_tick_321 : DC cX11_tick 321 (.ldc2_w 329) 3 324 := ⟨by decide +kernel, rfl⟩
theorem e_X11_tick_324 : DC cX11_tick 324 (.ladd) 1 325 := ⟨by decide +kernel, rfl⟩
theorem e_X11_tick_325 : DC cX11_tick 325 (.lastore) 1 326 := ⟨by decide +kernel, rfl⟩
theorem e_X11_tick_326 : DC cX11_tick 326 (.iconst 1) 1 327 := ⟨by decide +kernel, rfl⟩
theorem e_X11_tick_327 : DC cX11_tick 327 (.istore 4) 2 329 := ⟨by decide +kernel, rfl⟩
theorem e_X11_tick_329 : DC cX11_tick 329 (.iinc 7 1) 3 332 := ⟨by decide +kernel, rfl⟩
theorem e_X11_tick_332 : DB cX11_tick 332 (.goto (-152)) (-152) 3 335 180 := ⟨by decide +kernel, rfl, rfl⟩
theorem e_X11_tick_335 : DC cX11_tick 335 (.aload_n 0) 1 336 := ⟨by decide +kernel, rfl⟩
theorem e_X11_tick_336 : DC cX11_tick 336 (.getfield 93) 3 339 := ⟨by decide +kernel, rfl⟩
theorem e_X11_tick_339 : DC cX11_tick 339 (.iconst 1) 1 340 := ⟨by decide +kernel, rfl⟩
theorem e_X11_tick_340 : DC cX11_tick 340 (.dup2) 1 341 := ⟨by decide +kernel, rfl⟩
theorem e_X11_tick_341 : DC cX11_tick 341 (.laload) 1 342 := ⟨by decide +kernel, rfl⟩
theorem e_X11_tick_342 : DC cX11_tick 342 (.iload_n 1) 1 343 := ⟨by decide +kernel, rfl⟩
theorem e_X11_tick_343 : DC cX11_tick 343 (.i2l) 1 344 := ⟨by decide +kernel, rfl⟩
theorem e_X11_tick_344 : DC cX11_tick 344 (.aload_n 0) 1 345 := ⟨by decide +kernel, rfl⟩
theorem e_X11_tick_345 : DC cX11_tick 345 (.getfield 93) 3 348 := ⟨by decide +kernel, rfl⟩
theorem e_X11_tick_348 : DC cX11_tick 348 (.iconst 0) 1 349 := ⟨by decide +kernel, rfl⟩
theorem e_X11_tick_349 : DC cX11_tick 349 (.laload) 1 350 := ⟨by decide +kernel, rfl⟩
theorem e_X11_tick_350 : DC cX11_tick 350 (.lload 5) 2 352 := ⟨by decide +kernel, rfl⟩
theorem e_X11_tick_352 : DC cX11_tick 352 (.lsub) 1 353 := ⟨by decide +kernel, rfl⟩
theorem e_X11_tick_353 : DC cX11_tick 353 (.lmul) 1 354 := ⟨by decide +kernel, rfl⟩
theorem e_X11_tick_354 : DC cX11_tick 354 (.ladd) 1 355 := ⟨by decide +kernel, rfl⟩
theorem e_X11_tick_355 : DC cX11_tick 355 (.lastore) 1 356 := ⟨by decide +kernel, rfl⟩
theorem e_X11_tick_356 : DC cX11_tick 356 (.iload 4) 2 358 := ⟨by decide +kernel, rfl⟩
theorem e_X11_tick_358 : DC cX11_tick 358 (.ireturn) 1 359 := ⟨by decide +kernel, rfl⟩
noncomputable def m_X11_tick_69 (t_cur : Nat → Int) (t_was : Nat → Int) (t_feel : Nat → Int) (t_pushAt : Nat → Int) (v1 : Int) (v7 : Int) (s1 : Int) (s2 : Int) (ag : (Nat → Int) → (Nat → Int) → Int → Option (Int × (Nat → Int) × (Nat → Int) × (Nat → Int) × (Nat → Int))) (k_76 : (Nat → Int) → (Nat → Int) → Int → Option (Int × (Nat → Int) × (Nat → Int) × (Nat → Int) × (Nat → Int))) : Option (Int × (Nat → Int) × (Nat → Int) × (Nat → Int) × (Nat → Int)) :=
  chk (inB s1 100) (chk (inI (v7 + 1)) (ag t_was (up t_feel (Int.toNat s1) s2) (v7 + 1)))

set_option maxRecDepth 10000 in
set_option maxHeartbeats 8000000 in
theorem g_X11_tick_69 {l : Launch} {E : EE} {b0 n : Nat} {h : AH} {a_t : Nat} {t_thrown t_taped t_p t_fault t_baseLow t_baseHigh t_newBaseLow t_newBaseHigh t_from t_knots t_lines t_chosen t_undos t_redos t_aimedMany t_fits t_fitOf t_sights t_systems t_own t_cross t_curveLong t_wallFirst v1 v2 v3 v4 v5 v7 s1 s2 : Int} {t_speckLow t_speckHigh t_sourceHold t_cur t_was t_feel t_pushAt t_curSum : Nat → Int} {r : Int × (Nat → Int) × (Nat → Int) × (Nat → Int) × (Nat → Int)} {ag : (Nat → Int) → (Nat → Int) → Int → Option (Int × (Nat → Int) × (Nat → Int) × (Nat → Int) × (Nat → Int))} {k_76 : (Nat → Int) → (Nat → Int) → Int → Option (Int × (Nat → Int) × (Nat → Int) × (Nat → Int) × (Nat → Int))} (ao : AO b0 n [a_t, (a_t + 8), (a_t + 9), (a_t + 10), (a_t + 24), (a_t + 25), (a_t + 26), (a_t + 27), (a_t + 28)]) (ok_t_baseLow : inI t_baseLow) (ok_t_baseHigh : inI t_baseHigh) (ok_t_speckLow : okA t_speckLow) (ok_t_speckHigh : okA t_speckHigh) (ok_t_sourceHold : okA t_sourceHold) (ok_t_cur : okA t_cur) (ok_t_was : okA t_was) (ok_t_feel : okA t_feel) (ok_t_pushAt : okA t_pushAt) (ok_t_curSum : okJ t_curSum) (ok_v1 : inI v1) (ok_v2 : inI v2) (ok_v3 : inI v3) (ok_v4 : inZ v4) (ok_v5 : inJ v5) (ok_v7 : inI v7) (ok_s1 : inI s1) (ok_s2 : inI s2) (hag : ∀ (t_was_ : Nat → Int) (t_feel_ : Nat → Int) (v7_ : Int), okA t_was_ → okA t_feel_ → inI v7_ → ag t_was_ t_feel_ v7_ = some r → G l E b0 M_X11_tick (fun _ => True) (ZM E b0 (some (vI r.1)) (ov [a_t, (a_t + 8), (a_t + 9), (a_t + 10), (a_t + 24), (a_t + 25), (a_t + 26), (a_t + 27), (a_t + 28)] [.inr (11, fsX11 a_t t_thrown t_taped t_p t_fault t_baseLow t_baseHigh t_newBaseLow t_newBaseHigh t_from t_knots t_lines t_chosen t_undos t_redos t_aimedMany t_fits t_fitOf t_sights t_systems t_own t_cross t_curveLong t_wallFirst), IA E 100 t_speckLow, IA E 100 t_speckHigh, IA E 100 t_sourceHold, IA E 100 r.2.1, IA E 100 r.2.2.1, IA E 100 r.2.2.2.1, IA E 21 t_pushAt, JA E 6 r.2.2.2.2] h) n (inZ r.1 ∧ okA r.2.1 ∧ okA r.2.2.1 ∧ okA r.2.2.2.1 ∧ okJ r.2.2.2.2) 0 0) 0 0 n (ov [a_t, (a_t + 8), (a_t + 9), (a_t + 10), (a_t + 24), (a_t + 25), (a_t + 26), (a_t + 27), (a_t + 28)] [.inr (11, fsX11 a_t t_thrown t_taped t_p t_fault t_baseLow t_baseHigh t_newBaseLow t_newBaseHigh t_from t_knots t_lines t_chosen t_undos t_redos t_aimedMany t_fits t_fitOf t_sights t_systems t_own t_cross t_curveLong t_wallFirst), IA E 100 t_speckLow, IA E 100 t_speckHigh, IA E 100 t_sourceHold, IA E 100 t_cur, IA E 100 t_was_, IA E 100 t_feel_, IA E 21 t_pushAt, JA E 6 t_curSum] h) 14 [some (.ref a_t), some (vI v1), some (vI v2), some (vI v3), some (vI v4), some (vJ v5), none, some (vI v7_), none, none] []) (hk_76 : ∀ (t_was_ : Nat → Int) (t_feel_ : Nat → Int) (v7_ : Int), okA t_was_ → okA t_feel_ → inI v7_ → k_76 t_was_ t_feel_ v7_ = some r → G l E b0 M_X11_tick (fun _ => True) (ZM E b0 (some (vI r.1)) (ov [a_t, (a_t + 8), (a_t + 9), (a_t + 10), (a_t + 24), (a_t + 25), (a_t + 26), (a_t + 27), (a_t + 28)] [.inr (11, fsX11 a_t t_thrown t_taped t_p t_fault t_baseLow t_baseHigh t_newBaseLow t_newBaseHigh t_from t_knots t_lines t_chosen t_undos t_redos t_aimedMany t_fits t_fitOf t_sights t_systems t_own t_cross t_curveLong t_wallFirst), IA E 100 t_speckLow, IA E 100 t_speckHigh, IA E 100 t_sourceHold, IA E 100 r.2.1, IA E 100 r.2.2.1, IA E 100 r.2.2.2.1, IA E 21 t_pushAt, JA E 6 r.2.2.2.2] h) n (inZ r.1 ∧ okA r.2.1 ∧ okA r.2.2.1 ∧ okA r.2.2.2.1 ∧ okJ r.2.2.2.2) 0 0) 0 0 n (ov [a_t, (a_t + 8), (a_t + 9), (a_t + 10), (a_t + 24), (a_t + 25), (a_t + 26), (a_t + 27), (a_t + 28)] [.inr (11, fsX11 a_t t_thrown t_taped t_p t_fault t_baseLow t_baseHigh t_newBaseLow t_newBaseHigh t_from t_knots t_lines t_chosen t_undos t_redos t_aimedMany t_fits t_fitOf t_sights t_systems t_own t_cross t_curveLong t_wallFirst), IA E 100 t_speckLow, IA E 100 t_speckHigh, IA E 100 t_sourceHold, IA E 100 t_cur, IA E 100 t_was_, IA E 100 t_feel_, IA E 21 t_pushAt, JA E 6 t_curSum] h) 76 [some (.ref a_t), some (vI v1), some (vI v2), some (vI v3), some (vI v4), some (vJ v5), none, none, none, none] []) (hs : m_X11_tick_69 t_cur t_was t_feel t_pushAt v1 v7 s1 s2 ag k_76 = some r) : G l E b0 M_X11_tick (fun _ => True) (ZM E b0 (some (vI r.1)) (ov [a_t, (a_t + 8), (a_t + 9), (a_t + 10), (a_t + 24), (a_t + 25), (a_t + 26), (a_t + 27), (a_t + 28)] [.inr (11, fsX11 a_t t_thrown t_taped t_p t_fault t_baseLow t_baseHigh t_newBaseLow t_newBaseHigh t_from t_knots t_lines t_chosen t_undos t_redos t_aimedMany t_fits t_fitOf t_sights t_systems t_own t_cross t_curveLong t_wallFirst), IA E 100 t_speckLow, IA E 100 t_speckHigh, IA E 100 t_sourceHold, IA E 100 r.2.1, IA E 100 r.2.2.1, IA E 100 r.2.2.2.1, IA E 21 t_pushAt, JA E 6 r.2.2.2.2] h) n (inZ r.1 ∧ okA r.2.1 ∧ okA r.2.2.1 ∧ okA r.2.2.2.1 ∧ okJ r.2.2.2.2) 0 0) 0 0 n (ov [a_t, (a_t + 8), (a_t + 9), (a_t + 10), (a_t + 24), (a_t + 25), (a_t + 26), (a_t + 27), (a_t + 28)] [.inr (11, fsX11 a_t t_thrown t_taped t_p t_fault t_baseLow t_baseHigh t_newBaseLow t_newBaseHigh t_from t_knots t_lines t_chosen t_undos t_redos t_aimedMany t_fits t_fitOf t_sights t_systems t_own t_cross t_curveLong t_wallFirst), IA E 100 t_speckLow, IA E 100 t_speckHigh, IA E 100 t_sourceHold, IA E 100 t_cur, IA E 100 t_was, IA E 100 t_feel, IA E 21 t_pushAt, JA E 6 t_curSum] h) 69 [some (.ref a_t), some (vI v1), some (vI v2), some (vI v3), some (vI v4), some (vJ v5), none, some (vI v7), none, none] [vI s2, vI s1, .ref (a_t + 26)] := by
  rw [m_X11_tick_69] at hs
  refine g_iast 6 ao rfl rfl ls_6 (Nat.le_of_ble_eq_true rfl) e_X11_tick_69 hs (fun hi5 hs => ?_)
  refine g_iinc e_X11_tick_70 rfl st1_7 rfl ?_
  refine g_goto e_X11_tick_73 ?_
  obtain ⟨hc6, hs⟩ := chk_elim hs
  exact hag _ _ _ ok_t_was (okA_up ok_t_feel ok_s2) hc6 hs

noncomputable def m_X11_tick_14 (t_cur : Nat → Int) (t_pushAt : Nat → Int) (v1 : Int) (k_76 : (Nat → Int) → (Nat → Int) → Int → Option (Int × (Nat → Int) × (Nat → Int) × (Nat → Int) × (Nat → Int))) : Nat → (Nat → Int) → (Nat → Int) → Int → Option (Int × (Nat → Int) × (Nat → Int) × (Nat → Int) × (Nat → Int))
  | 0, _, _, _ => none
  | F + 1, t_was, t_feel, v7 => if 100 ≤ v7 then (k_76 t_was t_feel v7) else (chk (inB v7 100) (chk (inB v7 100) (chk (inB v7 100) (if (t_cur (Int.toNat v7)) = 0 then (m_X11_tick_69 t_cur (up t_was (Int.toNat v7) (t_cur (Int.toNat v7))) t_feel t_pushAt v1 v7 v7 0 (m_X11_tick_14 t_cur t_pushAt v1 k_76 F) k_76) else (chk (inB v7 100) ((m_X11_feels t_cur t_pushAt v7 (t_cur (Int.toNat v7)) v1).bind (fun y8 => m_X11_tick_69 t_cur (up t_was (Int.toNat v7) (t_cur (Int.toNat v7))) t_feel t_pushAt v1 v7 v7 y8 (m_X11_tick_14 t_cur t_pushAt v1 k_76 F) k_76)))))))

set_option maxRecDepth 10000 in
set_option maxHeartbeats 8000000 in
theorem g_X11_tick_14 {l : Launch} {E : EE} {b0 n : Nat} {h : AH} {a_t : Nat} {t_thrown t_taped t_p t_fault t_baseLow t_baseHigh t_newBaseLow t_newBaseHigh t_from t_knots t_lines t_chosen t_undos t_redos t_aimedMany t_fits t_fitOf t_sights t_systems t_own t_cross t_curveLong t_wallFirst v1 v2 v3 v4 v5 : Int} {t_speckLow t_speckHigh t_sourceHold t_cur t_pushAt t_curSum : Nat → Int} {r : Int × (Nat → Int) × (Nat → Int) × (Nat → Int) × (Nat → Int)} {k_76 : (Nat → Int) → (Nat → Int) → Int → Option (Int × (Nat → Int) × (Nat → Int) × (Nat → Int) × (Nat → Int))} (ao : AO b0 n [a_t, (a_t + 8), (a_t + 9), (a_t + 10), (a_t + 24), (a_t + 25), (a_t + 26), (a_t + 27), (a_t + 28)]) (ok_t_baseLow : inI t_baseLow) (ok_t_baseHigh : inI t_baseHigh) (ok_t_speckLow : okA t_speckLow) (ok_t_speckHigh : okA t_speckHigh) (ok_t_sourceHold : okA t_sourceHold) (ok_t_cur : okA t_cur) (ok_t_pushAt : okA t_pushAt) (ok_t_curSum : okJ t_curSum) (ok_v1 : inI v1) (ok_v2 : inI v2) (ok_v3 : inI v3) (ok_v4 : inZ v4) (ok_v5 : inJ v5) (hk_76 : ∀ (t_was_ : Nat → Int) (t_feel_ : Nat → Int) (v7_ : Int), okA t_was_ → okA t_feel_ → inI v7_ → k_76 t_was_ t_feel_ v7_ = some r → G l E b0 M_X11_tick (fun _ => True) (ZM E b0 (some (vI r.1)) (ov [a_t, (a_t + 8), (a_t + 9), (a_t + 10), (a_t + 24), (a_t + 25), (a_t + 26), (a_t + 27), (a_t + 28)] [.inr (11, fsX11 a_t t_thrown t_taped t_p t_fault t_baseLow t_baseHigh t_newBaseLow t_newBaseHigh t_from t_knots t_lines t_chosen t_undos t_redos t_aimedMany t_fits t_fitOf t_sights t_systems t_own t_cross t_curveLong t_wallFirst), IA E 100 t_speckLow, IA E 100 t_speckHigh, IA E 100 t_sourceHold, IA E 100 r.2.1, IA E 100 r.2.2.1, IA E 100 r.2.2.2.1, IA E 21 t_pushAt, JA E 6 r.2.2.2.2] h) n (inZ r.1 ∧ okA r.2.1 ∧ okA r.2.2.1 ∧ okA r.2.2.2.1 ∧ okJ r.2.2.2.2) 0 0) 0 0 n (ov [a_t, (a_t + 8), (a_t + 9), (a_t + 10), (a_t + 24), (a_t + 25), (a_t + 26), (a_t + 27), (a_t + 28)] [.inr (11, fsX11 a_t t_thrown t_taped t_p t_fault t_baseLow t_baseHigh t_newBaseLow t_newBaseHigh t_from t_knots t_lines t_chosen t_undos t_redos t_aimedMany t_fits t_fitOf t_sights t_systems t_own t_cross t_curveLong t_wallFirst), IA E 100 t_speckLow, IA E 100 t_speckHigh, IA E 100 t_sourceHold, IA E 100 t_cur, IA E 100 t_was_, IA E 100 t_feel_, IA E 21 t_pushAt, JA E 6 t_curSum] h) 76 [some (.ref a_t), some (vI v1), some (vI v2), some (vI v3), some (vI v4), some (vJ v5), none, none, none, none] []) :
    ∀ (F : Nat) (t_was : Nat → Int) (t_feel : Nat → Int) (v7 : Int), okA t_was → okA t_feel → inI v7 → m_X11_tick_14 t_cur t_pushAt v1 k_76 F t_was t_feel v7 = some r → G l E b0 M_X11_tick (fun _ => True) (ZM E b0 (some (vI r.1)) (ov [a_t, (a_t + 8), (a_t + 9), (a_t + 10), (a_t + 24), (a_t + 25), (a_t + 26), (a_t + 27), (a_t + 28)] [.inr (11, fsX11 a_t t_thrown t_taped t_p t_fault t_baseLow t_baseHigh t_newBaseLow t_newBaseHigh t_from t_knots t_lines t_chosen t_undos t_redos t_aimedMany t_fits t_fitOf t_sights t_systems t_own t_cross t_curveLong t_wallFirst), IA E 100 t_speckLow, IA E 100 t_speckHigh, IA E 100 t_sourceHold, IA E 100 r.2.1, IA E 100 r.2.2.1, IA E 100 r.2.2.2.1, IA E 21 t_pushAt, JA E 6 r.2.2.2.2] h) n (inZ r.1 ∧ okA r.2.1 ∧ okA r.2.2.1 ∧ okA r.2.2.2.1 ∧ okJ r.2.2.2.2) 0 0) 0 0 n (ov [a_t, (a_t + 8), (a_t + 9), (a_t + 10), (a_t + 24), (a_t + 25), (a_t + 26), (a_t + 27), (a_t + 28)] [.inr (11, fsX11 a_t t_thrown t_taped t_p t_fault t_baseLow t_baseHigh t_newBaseLow t_newBaseHigh t_from t_knots t_lines t_chosen t_undos t_redos t_aimedMany t_fits t_fitOf t_sights t_systems t_own t_cross t_curveLong t_wallFirst), IA E 100 t_speckLow, IA E 100 t_speckHigh, IA E 100 t_sourceHold, IA E 100 t_cur, IA E 100 t_was, IA E 100 t_feel, IA E 21 t_pushAt, JA E 6 t_curSum] h) 14 [some (.ref a_t), some (vI v1), some (vI v2), some (vI v3), some (vI v4), some (vJ v5), none, some (vI v7), none, none] [] := by
  intro F
  induction F with
  | zero =>
    intro t_was t_feel v7 ok_t_was ok_t_feel ok_v7 hs
    rw [m_X11_tick_14] at hs
    cases hs
  | succ F ih =>
    intro t_was t_feel v7 ok_t_was ok_t_feel ok_v7 hs
    rw [m_X11_tick_14] at hs
    refine g_iload e_X11_tick_14 rfl ?_
    refine g_bipush e_X11_tick_16 bp_100 ?_
    refine g_icmp_ge e_X11_tick_18 ok_v7 (by decide : inI 100) hs (fun c18 hs => ?_) (fun c18 hs => ?_)
    · exact g_mask [true, true, true, true, true, true, true, false, true, true] (hk_76 _ _ _ ok_t_was ok_t_feel ok_v7 hs)
    · refine g_aload_n e_X11_tick_21 rfl ?_
      refine g_get 0 36 ao rfl rfl fsX11_g36 fl_X11_84 e_X11_tick_22 ?_
      refine g_iload e_X11_tick_25 rfl ?_
      refine g_aload_n e_X11_tick_27 rfl ?_
      refine g_get 0 35 ao rfl rfl fsX11_g35 fl_X11_81 e_X11_tick_28 ?_
      refine g_iload e_X11_tick_31 rfl ?_
      refine g_iald 4 ao rfl rfl (Nat.le_of_ble_eq_true rfl) e_X11_tick_33 hs (fun hi2 hs => ?_)
      refine g_iast 5 ao rfl rfl ls_5 (Nat.le_of_ble_eq_true rfl) e_X11_tick_34 hs (fun hi3 hs => ?_)
      refine g_aload_n e_X11_tick_35 rfl ?_
      refine g_get 0 37 ao rfl rfl fsX11_g37 fl_X11_87 e_X11_tick_36 ?_
      refine g_iload e_X11_tick_39 rfl ?_
      refine g_aload_n e_X11_tick_41 rfl ?_
      refine g_get 0 35 ao rfl rfl fsX11_g35 fl_X11_81 e_X11_tick_42 ?_
      refine g_iload e_X11_tick_45 rfl ?_
      refine g_iald 4 ao rfl rfl (Nat.le_of_ble_eq_true rfl) e_X11_tick_47 hs (fun hi4 hs => ?_)
      refine g_if_ne e_X11_tick_48 (ok_t_cur _) hs (fun c48 hs => ?_) (fun c48 hs => ?_)
      · refine g_iconst e_X11_tick_51 ?_
        refine g_goto e_X11_tick_52 ?_
        exact g_X11_tick_69 ao ok_t_baseLow ok_t_baseHigh ok_t_speckLow ok_t_speckHigh ok_t_sourceHold ok_t_cur (okA_up ok_t_was (ok_t_cur _)) ok_t_feel ok_t_pushAt ok_t_curSum ok_v1 ok_v2 ok_v3 ok_v4 ok_v5 ok_v7 ok_v7 (by decide : inI 0) ih hk_76 hs
      · refine g_aload_n e_X11_tick_55 rfl ?_
        refine g_iload e_X11_tick_56 rfl ?_
        refine g_aload_n e_X11_tick_58 rfl ?_
        refine g_get 0 35 ao rfl rfl fsX11_g35 fl_X11_81 e_X11_tick_59 ?_
        refine g_iload e_X11_tick_62 rfl ?_
        refine g_iald 4 ao rfl rfl (Nat.le_of_ble_eq_true rfl) e_X11_tick_64 hs (fun hi7 hs => ?_)
        refine g_iload_n e_X11_tick_65 rfl ?_
        obtain ⟨y8, hy8, hs⟩ := bind_elim hs
        refine g_callVr [vI v7, vI (t_cur (Int.toNat v7)), vI v1] cv_X11_331 ⟨rfl, rfl, Nat.le_of_ble_eq_true rfl, Nat.le_of_ble_eq_true rfl⟩ (ct_X11_feels (a_t := a_t) (AO_call [0, 4, 7] ao (by decide) rfl) (FA_call [0, 4, 7] ao.1 rfl rfl) ok_t_cur ok_t_pushAt ok_v7 (ok_t_cur _) ok_v1 hy8) e_X11_tick_66 (ao.2 0 _ rfl) (ov_get 0 ao.1 rfl rfl) rfl rfl rfl (Nat.le_of_ble_eq_true rfl) ⟨Nat.le_refl _, Nat.le_refl _⟩ (fun Py8 => ?_)
        exact g_X11_tick_69 ao ok_t_baseLow ok_t_baseHigh ok_t_speckLow ok_t_speckHigh ok_t_sourceHold ok_t_cur (okA_up ok_t_was (ok_t_cur _)) ok_t_feel ok_t_pushAt ok_t_curSum ok_v1 ok_v2 ok_v3 ok_v4 ok_v5 ok_v7 ok_v7 Py8 ih hk_76 hs

noncomputable def m_X11_tick_171 (t_baseLow : Int) (t_baseHigh : Int) (t_speckLow : Nat → Int) (t_speckHigh : Nat → Int) (t_cur : Nat → Int) (t_was : Nat → Int) (t_feel : Nat → Int) (t_curSum : Nat → Int) (v2 : Int) (v3 : Int) (v4 : Int) (v7 : Int) (ag : (Nat → Int) → (Nat → Int) → (Nat → Int) → Int → Int → Option (Int × (Nat → Int) × (Nat → Int) × (Nat → Int) × (Nat → Int))) (k_177 : (Nat → Int) → (Nat → Int) → (Nat → Int) → Int → Int → Option (Int × (Nat → Int) × (Nat → Int) × (Nat → Int) × (Nat → Int))) : Option (Int × (Nat → Int) × (Nat → Int) × (Nat → Int) × (Nat → Int)) :=
  chk (inI (v7 + 1)) (ag t_cur t_was t_curSum v4 (v7 + 1))

set_option maxRecDepth 10000 in
set_option maxHeartbeats 8000000 in
theorem g_X11_tick_171 {l : Launch} {E : EE} {b0 n : Nat} {h : AH} {a_t : Nat} {t_thrown t_taped t_p t_fault t_baseLow t_baseHigh t_newBaseLow t_newBaseHigh t_from t_knots t_lines t_chosen t_undos t_redos t_aimedMany t_fits t_fitOf t_sights t_systems t_own t_cross t_curveLong t_wallFirst v1 v2 v3 v4 v5 v7 : Int} {t_speckLow t_speckHigh t_sourceHold t_cur t_was t_feel t_pushAt t_curSum : Nat → Int} {r : Int × (Nat → Int) × (Nat → Int) × (Nat → Int) × (Nat → Int)} {ag : (Nat → Int) → (Nat → Int) → (Nat → Int) → Int → Int → Option (Int × (Nat → Int) × (Nat → Int) × (Nat → Int) × (Nat → Int))} {k_177 : (Nat → Int) → (Nat → Int) → (Nat → Int) → Int → Int → Option (Int × (Nat → Int) × (Nat → Int) × (Nat → Int) × (Nat → Int))} (ao : AO b0 n [a_t, (a_t + 8), (a_t + 9), (a_t + 10), (a_t + 24), (a_t + 25), (a_t + 26), (a_t + 27), (a_t + 28)]) (ok_t_baseLow : inI t_baseLow) (ok_t_baseHigh : inI t_baseHigh) (ok_t_speckLow : okA t_speckLow) (ok_t_speckHigh : okA t_speckHigh) (ok_t_sourceHold : okA t_sourceHold) (ok_t_cur : okA t_cur) (ok_t_was : okA t_was) (ok_t_feel : okA t_feel) (ok_t_pushAt : okA t_pushAt) (ok_t_curSum : okJ t_curSum) (ok_v1 : inI v1) (ok_v2 : inI v2) (ok_v3 : inI v3) (ok_v4 : inZ v4) (ok_v5 : inJ v5) (ok_v7 : inI v7) (hag : ∀ (t_cur_ : Nat → Int) (t_was_ : Nat → Int) (t_curSum_ : Nat → Int) (v4_ : Int) (v7_ : Int), okA t_cur_ → okA t_was_ → okJ t_curSum_ → inZ v4_ → inI v7_ → ag t_cur_ t_was_ t_curSum_ v4_ v7_ = some r → G l E b0 M_X11_tick (fun _ => True) (ZM E b0 (some (vI r.1)) (ov [a_t, (a_t + 8), (a_t + 9), (a_t + 10), (a_t + 24), (a_t + 25), (a_t + 26), (a_t + 27), (a_t + 28)] [.inr (11, fsX11 a_t t_thrown t_taped t_p t_fault t_baseLow t_baseHigh t_newBaseLow t_newBaseHigh t_from t_knots t_lines t_chosen t_undos t_redos t_aimedMany t_fits t_fitOf t_sights t_systems t_own t_cross t_curveLong t_wallFirst), IA E 100 t_speckLow, IA E 100 t_speckHigh, IA E 100 t_sourceHold, IA E 100 r.2.1, IA E 100 r.2.2.1, IA E 100 r.2.2.2.1, IA E 21 t_pushAt, JA E 6 r.2.2.2.2] h) n (inZ r.1 ∧ okA r.2.1 ∧ okA r.2.2.1 ∧ okA r.2.2.2.1 ∧ okJ r.2.2.2.2) 0 0) 0 0 n (ov [a_t, (a_t + 8), (a_t + 9), (a_t + 10), (a_t + 24), (a_t + 25), (a_t + 26), (a_t + 27), (a_t + 28)] [.inr (11, fsX11 a_t t_thrown t_taped t_p t_fault t_baseLow t_baseHigh t_newBaseLow t_newBaseHigh t_from t_knots t_lines t_chosen t_undos t_redos t_aimedMany t_fits t_fitOf t_sights t_systems t_own t_cross t_curveLong t_wallFirst), IA E 100 t_speckLow, IA E 100 t_speckHigh, IA E 100 t_sourceHold, IA E 100 t_cur_, IA E 100 t_was_, IA E 100 t_feel, IA E 21 t_pushAt, JA E 6 t_curSum_] h) 79 [some (.ref a_t), some (vI v1), some (vI v2), some (vI v3), some (vI v4_), some (vJ v5), none, some (vI v7_), none, none] []) (hk_177 : ∀ (t_cur_ : Nat → Int) (t_was_ : Nat → Int) (t_curSum_ : Nat → Int) (v4_ : Int) (v7_ : Int), okA t_cur_ → okA t_was_ → okJ t_curSum_ → inZ v4_ → inI v7_ → k_177 t_cur_ t_was_ t_curSum_ v4_ v7_ = some r → G l E b0 M_X11_tick (fun _ => True) (ZM E b0 (some (vI r.1)) (ov [a_t, (a_t + 8), (a_t + 9), (a_t + 10), (a_t + 24), (a_t + 25), (a_t + 26), (a_t + 27), (a_t + 28)] [.inr (11, fsX11 a_t t_thrown t_taped t_p t_fault t_baseLow t_baseHigh t_newBaseLow t_newBaseHigh t_from t_knots t_lines t_chosen t_undos t_redos t_aimedMany t_fits t_fitOf t_sights t_systems t_own t_cross t_curveLong t_wallFirst), IA E 100 t_speckLow, IA E 100 t_speckHigh, IA E 100 t_sourceHold, IA E 100 r.2.1, IA E 100 r.2.2.1, IA E 100 r.2.2.2.1, IA E 21 t_pushAt, JA E 6 r.2.2.2.2] h) n (inZ r.1 ∧ okA r.2.1 ∧ okA r.2.2.1 ∧ okA r.2.2.2.1 ∧ okJ r.2.2.2.2) 0 0) 0 0 n (ov [a_t, (a_t + 8), (a_t + 9), (a_t + 10), (a_t + 24), (a_t + 25), (a_t + 26), (a_t + 27), (a_t + 28)] [.inr (11, fsX11 a_t t_thrown t_taped t_p t_fault t_baseLow t_baseHigh t_newBaseLow t_newBaseHigh t_from t_knots t_lines t_chosen t_undos t_redos t_aimedMany t_fits t_fitOf t_sights t_systems t_own t_cross t_curveLong t_wallFirst), IA E 100 t_speckLow, IA E 100 t_speckHigh, IA E 100 t_sourceHold, IA E 100 t_cur_, IA E 100 t_was_, IA E 100 t_feel, IA E 21 t_pushAt, JA E 6 t_curSum_] h) 177 [some (.ref a_t), some (vI v1), none, none, some (vI v4_), some (vJ v5), none, none, none, none] []) (hs : m_X11_tick_171 t_baseLow t_baseHigh t_speckLow t_speckHigh t_cur t_was t_feel t_curSum v2 v3 v4 v7 ag k_177 = some r) : G l E b0 M_X11_tick (fun _ => True) (ZM E b0 (some (vI r.1)) (ov [a_t, (a_t + 8), (a_t + 9), (a_t + 10), (a_t + 24), (a_t + 25), (a_t + 26), (a_t + 27), (a_t + 28)] [.inr (11, fsX11 a_t t_thrown t_taped t_p t_fault t_baseLow t_baseHigh t_newBaseLow t_newBaseHigh t_from t_knots t_lines t_chosen t_undos t_redos t_aimedMany t_fits t_fitOf t_sights t_systems t_own t_cross t_curveLong t_wallFirst), IA E 100 t_speckLow, IA E 100 t_speckHigh, IA E 100 t_sourceHold, IA E 100 r.2.1, IA E 100 r.2.2.1, IA E 100 r.2.2.2.1, IA E 21 t_pushAt, JA E 6 r.2.2.2.2] h) n (inZ r.1 ∧ okA r.2.1 ∧ okA r.2.2.1 ∧ okA r.2.2.2.1 ∧ okJ r.2.2.2.2) 0 0) 0 0 n (ov [a_t, (a_t + 8), (a_t + 9), (a_t + 10), (a_t + 24), (a_t + 25), (a_t + 26), (a_t + 27), (a_t + 28)] [.inr (11, fsX11 a_t t_thrown t_taped t_p t_fault t_baseLow t_baseHigh t_newBaseLow t_newBaseHigh t_from t_knots t_lines t_chosen t_undos t_redos t_aimedMany t_fits t_fitOf t_sights t_systems t_own t_cross t_curveLong t_wallFirst), IA E 100 t_speckLow, IA E 100 t_speckHigh, IA E 100 t_sourceHold, IA E 100 t_cur, IA E 100 t_was, IA E 100 t_feel, IA E 21 t_pushAt, JA E 6 t_curSum] h) 171 [some (.ref a_t), some (vI v1), some (vI v2), some (vI v3), some (vI v4), some (vJ v5), none, some (vI v7), none, none] [] := by
  rw [m_X11_tick_171] at hs
  refine g_iinc e_X11_tick_171 rfl st1_7 rfl ?_
  refine g_goto e_X11_tick_174 ?_
  obtain ⟨hc10, hs⟩ := chk_elim hs
  exact hag _ _ _ _ _ ok_t_cur ok_t_was ok_t_curSum ok_v4 hc10 hs

noncomputable def m_X11_tick_169 (t_baseLow : Int) (t_baseHigh : Int) (t_speckLow : Nat → Int) (t_speckHigh : Nat → Int) (t_cur : Nat → Int) (t_was : Nat → Int) (t_feel : Nat → Int) (t_curSum : Nat → Int) (v2 : Int) (v3 : Int) (v7 : Int) (s0 : Int) (ag : (Nat → Int) → (Nat → Int) → (Nat → Int) → Int → Int → Option (Int × (Nat → Int) × (Nat → Int) × (Nat → Int) × (Nat → Int))) (k_177 : (Nat → Int) → (Nat → Int) → (Nat → Int) → Int → Int → Option (Int × (Nat → Int) × (Nat → Int) × (Nat → Int) × (Nat → Int))) : Option (Int × (Nat → Int) × (Nat → Int) × (Nat → Int) × (Nat → Int)) :=
  m_X11_tick_171 t_baseLow t_baseHigh t_speckLow t_speckHigh t_cur t_was t_feel t_curSum v2 v3 s0 v7 ag k_177

set_option maxRecDepth 10000 in
set_option maxHeartbeats 8000000 in
theorem g_X11_tick_169 {l : Launch} {E : EE} {b0 n : Nat} {h : AH} {a_t : Nat} {t_thrown t_taped t_p t_fault t_baseLow t_baseHigh t_newBaseLow t_newBaseHigh t_from t_knots t_lines t_chosen t_undos t_redos t_aimedMany t_fits t_fitOf t_sights t_systems t_own t_cross t_curveLong t_wallFirst v1 v2 v3 v5 v7 s0 : Int} {t_speckLow t_speckHigh t_sourceHold t_cur t_was t_feel t_pushAt t_curSum : Nat → Int} {r : Int × (Nat → Int) × (Nat → Int) × (Nat → Int) × (Nat → Int)} {ag : (Nat → Int) → (Nat → Int) → (Nat → Int) → Int → Int → Option (Int × (Nat → Int) × (Nat → Int) × (Nat → Int) × (Nat → Int))} {k_177 : (Nat → Int) → (Nat → Int) → (Nat → Int) → Int → Int → Option (Int × (Nat → Int) × (Nat → Int) × (Nat → Int) × (Nat → Int))} (ao : AO b0 n [a_t, (a_t + 8), (a_t + 9), (a_t + 10), (a_t + 24), (a_t + 25), (a_t + 26), (a_t + 27), (a_t + 28)]) (ok_t_baseLow : inI t_baseLow) (ok_t_baseHigh : inI t_baseHigh) (ok_t_speckLow : okA t_speckLow) (ok_t_speckHigh : okA t_speckHigh) (ok_t_sourceHold : okA t_sourceHold) (ok_t_cur : okA t_cur) (ok_t_was : okA t_was) (ok_t_feel : okA t_feel) (ok_t_pushAt : okA t_pushAt) (ok_t_curSum : okJ t_curSum) (ok_v1 : inI v1) (ok_v2 : inI v2) (ok_v3 : inI v3) (ok_v5 : inJ v5) (ok_v7 : inI v7) (ok_s0 : inZ s0) (hag : ∀ (t_cur_ : Nat → Int) (t_was_ : Nat → Int) (t_curSum_ : Nat → Int) (v4_ : Int) (v7_ : Int), okA t_cur_ → okA t_was_ → okJ t_curSum_ → inZ v4_ → inI v7_ → ag t_cur_ t_was_ t_curSum_ v4_ v7_ = some r → G l E b0 M_X11_tick (fun _ => True) (ZM E b0 (some (vI r.1)) (ov [a_t, (a_t + 8), (a_t + 9), (a_t + 10), (a_t + 24), (a_t + 25), (a_t + 26), (a_t + 27), (a_t + 28)] [.inr (11, fsX11 a_t t_thrown t_taped t_p t_fault t_baseLow t_baseHigh t_newBaseLow t_newBaseHigh t_from t_knots t_lines t_chosen t_undos t_redos t_aimedMany t_fits t_fitOf t_sights t_systems t_own t_cross t_curveLong t_wallFirst), IA E 100 t_speckLow, IA E 100 t_speckHigh, IA E 100 t_sourceHold, IA E 100 r.2.1, IA E 100 r.2.2.1, IA E 100 r.2.2.2.1, IA E 21 t_pushAt, JA E 6 r.2.2.2.2] h) n (inZ r.1 ∧ okA r.2.1 ∧ okA r.2.2.1 ∧ okA r.2.2.2.1 ∧ okJ r.2.2.2.2) 0 0) 0 0 n (ov [a_t, (a_t + 8), (a_t + 9), (a_t + 10), (a_t + 24), (a_t + 25), (a_t + 26), (a_t + 27), (a_t + 28)] [.inr (11, fsX11 a_t t_thrown t_taped t_p t_fault t_baseLow t_baseHigh t_newBaseLow t_newBaseHigh t_from t_knots t_lines t_chosen t_undos t_redos t_aimedMany t_fits t_fitOf t_sights t_systems t_own t_cross t_curveLong t_wallFirst), IA E 100 t_speckLow, IA E 100 t_speckHigh, IA E 100 t_sourceHold, IA E 100 t_cur_, IA E 100 t_was_, IA E 100 t_feel, IA E 21 t_pushAt, JA E 6 t_curSum_] h) 79 [some (.ref a_t), some (vI v1), some (vI v2), some (vI v3), some (vI v4_), some (vJ v5), none, some (vI v7_), none, none] []) (hk_177 : ∀ (t_cur_ : Nat → Int) (t_was_ : Nat → Int) (t_curSum_ : Nat → Int) (v4_ : Int) (v7_ : Int), okA t_cur_ → okA t_was_ → okJ t_curSum_ → inZ v4_ → inI v7_ → k_177 t_cur_ t_was_ t_curSum_ v4_ v7_ = some r → G l E b0 M_X11_tick (fun _ => True) (ZM E b0 (some (vI r.1)) (ov [a_t, (a_t + 8), (a_t + 9), (a_t + 10), (a_t + 24), (a_t + 25), (a_t + 26), (a_t + 27), (a_t + 28)] [.inr (11, fsX11 a_t t_thrown t_taped t_p t_fault t_baseLow t_baseHigh t_newBaseLow t_newBaseHigh t_from t_knots t_lines t_chosen t_undos t_redos t_aimedMany t_fits t_fitOf t_sights t_systems t_own t_cross t_curveLong t_wallFirst), IA E 100 t_speckLow, IA E 100 t_speckHigh, IA E 100 t_sourceHold, IA E 100 r.2.1, IA E 100 r.2.2.1, IA E 100 r.2.2.2.1, IA E 21 t_pushAt, JA E 6 r.2.2.2.2] h) n (inZ r.1 ∧ okA r.2.1 ∧ okA r.2.2.1 ∧ okA r.2.2.2.1 ∧ okJ r.2.2.2.2) 0 0) 0 0 n (ov [a_t, (a_t + 8), (a_t + 9), (a_t + 10), (a_t + 24), (a_t + 25), (a_t + 26), (a_t + 27), (a_t + 28)] [.inr (11, fsX11 a_t t_thrown t_taped t_p t_fault t_baseLow t_baseHigh t_newBaseLow t_newBaseHigh t_from t_knots t_lines t_chosen t_undos t_redos t_aimedMany t_fits t_fitOf t_sights t_systems t_own t_cross t_curveLong t_wallFirst), IA E 100 t_speckLow, IA E 100 t_speckHigh, IA E 100 t_sourceHold, IA E 100 t_cur_, IA E 100 t_was_, IA E 100 t_feel, IA E 21 t_pushAt, JA E 6 t_curSum_] h) 177 [some (.ref a_t), some (vI v1), none, none, some (vI v4_), some (vJ v5), none, none, none, none] []) (hs : m_X11_tick_169 t_baseLow t_baseHigh t_speckLow t_speckHigh t_cur t_was t_feel t_curSum v2 v3 v7 s0 ag k_177 = some r) : G l E b0 M_X11_tick (fun _ => True) (ZM E b0 (some (vI r.1)) (ov [a_t, (a_t + 8), (a_t + 9), (a_t + 10), (a_t + 24), (a_t + 25), (a_t + 26), (a_t + 27), (a_t + 28)] [.inr (11, fsX11 a_t t_thrown t_taped t_p t_fault t_baseLow t_baseHigh t_newBaseLow t_newBaseHigh t_from t_knots t_lines t_chosen t_undos t_redos t_aimedMany t_fits t_fitOf t_sights t_systems t_own t_cross t_curveLong t_wallFirst), IA E 100 t_speckLow, IA E 100 t_speckHigh, IA E 100 t_sourceHold, IA E 100 r.2.1, IA E 100 r.2.2.1, IA E 100 r.2.2.2.1, IA E 21 t_pushAt, JA E 6 r.2.2.2.2] h) n (inZ r.1 ∧ okA r.2.1 ∧ okA r.2.2.1 ∧ okA r.2.2.2.1 ∧ okJ r.2.2.2.2) 0 0) 0 0 n (ov [a_t, (a_t + 8), (a_t + 9), (a_t + 10), (a_t + 24), (a_t + 25), (a_t + 26), (a_t + 27), (a_t + 28)] [.inr (11, fsX11 a_t t_thrown t_taped t_p t_fault t_baseLow t_baseHigh t_newBaseLow t_newBaseHigh t_from t_knots t_lines t_chosen t_undos t_redos t_aimedMany t_fits t_fitOf t_sights t_systems t_own t_cross t_curveLong t_wallFirst), IA E 100 t_speckLow, IA E 100 t_speckHigh, IA E 100 t_sourceHold, IA E 100 t_cur, IA E 100 t_was, IA E 100 t_feel, IA E 21 t_pushAt, JA E 6 t_curSum] h) 169 [some (.ref a_t), some (vI v1), some (vI v2), some (vI v3), none, some (vJ v5), none, some (vI v7), none, none] [vI s0] := by
  rw [m_X11_tick_169] at hs
  refine g_istore e_X11_tick_169 st1_4 rfl ?_
  exact g_X11_tick_171 ao ok_t_baseLow ok_t_baseHigh ok_t_speckLow ok_t_speckHigh ok_t_sourceHold ok_t_cur ok_t_was ok_t_feel ok_t_pushAt ok_t_curSum ok_v1 ok_v2 ok_v3 ok_s0 ok_v5 ok_v7 hag hk_177 hs

noncomputable def m_X11_tick_164 (t_baseLow : Int) (t_baseHigh : Int) (t_speckLow : Nat → Int) (t_speckHigh : Nat → Int) (t_cur : Nat → Int) (t_was : Nat → Int) (t_feel : Nat → Int) (t_curSum : Nat → Int) (v2 : Int) (v3 : Int) (v7 : Int) (ag : (Nat → Int) → (Nat → Int) → (Nat → Int) → Int → Int → Option (Int × (Nat → Int) × (Nat → Int) × (Nat → Int) × (Nat → Int))) (k_177 : (Nat → Int) → (Nat → Int) → (Nat → Int) → Int → Int → Option (Int × (Nat → Int) × (Nat → Int) × (Nat → Int) × (Nat → Int))) : Option (Int × (Nat → Int) × (Nat → Int) × (Nat → Int) × (Nat → Int)) :=
  m_X11_tick_169 t_baseLow t_baseHigh t_speckLow t_speckHigh t_cur t_was t_feel t_curSum v2 v3 v7 1 ag k_177

set_option maxRecDepth 10000 in
set_option maxHeartbeats 8000000 in
theorem g_X11_tick_164 {l : Launch} {E : EE} {b0 n : Nat} {h : AH} {a_t : Nat} {t_thrown t_taped t_p t_fault t_baseLow t_baseHigh t_newBaseLow t_newBaseHigh t_from t_knots t_lines t_chosen t_undos t_redos t_aimedMany t_fits t_fitOf t_sights t_systems t_own t_cross t_curveLong t_wallFirst v1 v2 v3 v5 v7 : Int} {t_speckLow t_speckHigh t_sourceHold t_cur t_was t_feel t_pushAt t_curSum : Nat → Int} {r : Int × (Nat → Int) × (Nat → Int) × (Nat → Int) × (Nat → Int)} {ag : (Nat → Int) → (Nat → Int) → (Nat → Int) → Int → Int → Option (Int × (Nat → Int) × (Nat → Int) × (Nat → Int) × (Nat → Int))} {k_177 : (Nat → Int) → (Nat → Int) → (Nat → Int) → Int → Int → Option (Int × (Nat → Int) × (Nat → Int) × (Nat → Int) × (Nat → Int))} (ao : AO b0 n [a_t, (a_t + 8), (a_t + 9), (a_t + 10), (a_t + 24), (a_t + 25), (a_t + 26), (a_t + 27), (a_t + 28)]) (ok_t_baseLow : inI t_baseLow) (ok_t_baseHigh : inI t_baseHigh) (ok_t_speckLow : okA t_speckLow) (ok_t_speckHigh : okA t_speckHigh) (ok_t_sourceHold : okA t_sourceHold) (ok_t_cur : okA t_cur) (ok_t_was : okA t_was) (ok_t_feel : okA t_feel) (ok_t_pushAt : okA t_pushAt) (ok_t_curSum : okJ t_curSum) (ok_v1 : inI v1) (ok_v2 : inI v2) (ok_v3 : inI v3) (ok_v5 : inJ v5) (ok_v7 : inI v7) (hag : ∀ (t_cur_ : Nat → Int) (t_was_ : Nat → Int) (t_curSum_ : Nat → Int) (v4_ : Int) (v7_ : Int), okA t_cur_ → okA t_was_ → okJ t_curSum_ → inZ v4_ → inI v7_ → ag t_cur_ t_was_ t_curSum_ v4_ v7_ = some r → G l E b0 M_X11_tick (fun _ => True) (ZM E b0 (some (vI r.1)) (ov [a_t, (a_t + 8), (a_t + 9), (a_t + 10), (a_t + 24), (a_t + 25), (a_t + 26), (a_t + 27), (a_t + 28)] [.inr (11, fsX11 a_t t_thrown t_taped t_p t_fault t_baseLow t_baseHigh t_newBaseLow t_newBaseHigh t_from t_knots t_lines t_chosen t_undos t_redos t_aimedMany t_fits t_fitOf t_sights t_systems t_own t_cross t_curveLong t_wallFirst), IA E 100 t_speckLow, IA E 100 t_speckHigh, IA E 100 t_sourceHold, IA E 100 r.2.1, IA E 100 r.2.2.1, IA E 100 r.2.2.2.1, IA E 21 t_pushAt, JA E 6 r.2.2.2.2] h) n (inZ r.1 ∧ okA r.2.1 ∧ okA r.2.2.1 ∧ okA r.2.2.2.1 ∧ okJ r.2.2.2.2) 0 0) 0 0 n (ov [a_t, (a_t + 8), (a_t + 9), (a_t + 10), (a_t + 24), (a_t + 25), (a_t + 26), (a_t + 27), (a_t + 28)] [.inr (11, fsX11 a_t t_thrown t_taped t_p t_fault t_baseLow t_baseHigh t_newBaseLow t_newBaseHigh t_from t_knots t_lines t_chosen t_undos t_redos t_aimedMany t_fits t_fitOf t_sights t_systems t_own t_cross t_curveLong t_wallFirst), IA E 100 t_speckLow, IA E 100 t_speckHigh, IA E 100 t_sourceHold, IA E 100 t_cur_, IA E 100 t_was_, IA E 100 t_feel, IA E 21 t_pushAt, JA E 6 t_curSum_] h) 79 [some (.ref a_t), some (vI v1), some (vI v2), some (vI v3), some (vI v4_), some (vJ v5), none, some (vI v7_), none, none] []) (hk_177 : ∀ (t_cur_ : Nat → Int) (t_was_ : Nat → Int) (t_curSum_ : Nat → Int) (v4_ : Int) (v7_ : Int), okA t_cur_ → okA t_was_ → okJ t_curSum_ → inZ v4_ → inI v7_ → k_177 t_cur_ t_was_ t_curSum_ v4_ v7_ = some r → G l E b0 M_X11_tick (fun _ => True) (ZM E b0 (some (vI r.1)) (ov [a_t, (a_t + 8), (a_t + 9), (a_t + 10), (a_t + 24), (a_t + 25), (a_t + 26), (a_t + 27), (a_t + 28)] [.inr (11, fsX11 a_t t_thrown t_taped t_p t_fault t_baseLow t_baseHigh t_newBaseLow t_newBaseHigh t_from t_knots t_lines t_chosen t_undos t_redos t_aimedMany t_fits t_fitOf t_sights t_systems t_own t_cross t_curveLong t_wallFirst), IA E 100 t_speckLow, IA E 100 t_speckHigh, IA E 100 t_sourceHold, IA E 100 r.2.1, IA E 100 r.2.2.1, IA E 100 r.2.2.2.1, IA E 21 t_pushAt, JA E 6 r.2.2.2.2] h) n (inZ r.1 ∧ okA r.2.1 ∧ okA r.2.2.1 ∧ okA r.2.2.2.1 ∧ okJ r.2.2.2.2) 0 0) 0 0 n (ov [a_t, (a_t + 8), (a_t + 9), (a_t + 10), (a_t + 24), (a_t + 25), (a_t + 26), (a_t + 27), (a_t + 28)] [.inr (11, fsX11 a_t t_thrown t_taped t_p t_fault t_baseLow t_baseHigh t_newBaseLow t_newBaseHigh t_from t_knots t_lines t_chosen t_undos t_redos t_aimedMany t_fits t_fitOf t_sights t_systems t_own t_cross t_curveLong t_wallFirst), IA E 100 t_speckLow, IA E 100 t_speckHigh, IA E 100 t_sourceHold, IA E 100 t_cur_, IA E 100 t_was_, IA E 100 t_feel, IA E 21 t_pushAt, JA E 6 t_curSum_] h) 177 [some (.ref a_t), some (vI v1), none, none, some (vI v4_), some (vJ v5), none, none, none, none] []) (hs : m_X11_tick_164 t_baseLow t_baseHigh t_speckLow t_speckHigh t_cur t_was t_feel t_curSum v2 v3 v7 ag k_177 = some r) : G l E b0 M_X11_tick (fun _ => True) (ZM E b0 (some (vI r.1)) (ov [a_t, (a_t + 8), (a_t + 9), (a_t + 10), (a_t + 24), (a_t + 25), (a_t + 26), (a_t + 27), (a_t + 28)] [.inr (11, fsX11 a_t t_thrown t_taped t_p t_fault t_baseLow t_baseHigh t_newBaseLow t_newBaseHigh t_from t_knots t_lines t_chosen t_undos t_redos t_aimedMany t_fits t_fitOf t_sights t_systems t_own t_cross t_curveLong t_wallFirst), IA E 100 t_speckLow, IA E 100 t_speckHigh, IA E 100 t_sourceHold, IA E 100 r.2.1, IA E 100 r.2.2.1, IA E 100 r.2.2.2.1, IA E 21 t_pushAt, JA E 6 r.2.2.2.2] h) n (inZ r.1 ∧ okA r.2.1 ∧ okA r.2.2.1 ∧ okA r.2.2.2.1 ∧ okJ r.2.2.2.2) 0 0) 0 0 n (ov [a_t, (a_t + 8), (a_t + 9), (a_t + 10), (a_t + 24), (a_t + 25), (a_t + 26), (a_t + 27), (a_t + 28)] [.inr (11, fsX11 a_t t_thrown t_taped t_p t_fault t_baseLow t_baseHigh t_newBaseLow t_newBaseHigh t_from t_knots t_lines t_chosen t_undos t_redos t_aimedMany t_fits t_fitOf t_sights t_systems t_own t_cross t_curveLong t_wallFirst), IA E 100 t_speckLow, IA E 100 t_speckHigh, IA E 100 t_sourceHold, IA E 100 t_cur, IA E 100 t_was, IA E 100 t_feel, IA E 21 t_pushAt, JA E 6 t_curSum] h) 164 [some (.ref a_t), some (vI v1), some (vI v2), some (vI v3), none, some (vJ v5), none, some (vI v7), none, none] [] := by
  rw [m_X11_tick_164] at hs
  refine g_iconst e_X11_tick_164 ?_
  refine g_goto e_X11_tick_165 ?_
  exact g_X11_tick_169 ao ok_t_baseLow ok_t_baseHigh ok_t_speckLow ok_t_speckHigh ok_t_sourceHold ok_t_cur ok_t_was ok_t_feel ok_t_pushAt ok_t_curSum ok_v1 ok_v2 ok_v3 ok_v5 ok_v7 (by decide : inZ 1) hag hk_177 hs

noncomputable def m_X11_tick_159 (t_baseLow : Int) (t_baseHigh : Int) (t_speckLow : Nat → Int) (t_speckHigh : Nat → Int) (t_cur : Nat → Int) (t_was : Nat → Int) (t_feel : Nat → Int) (t_curSum : Nat → Int) (v2 : Int) (v3 : Int) (v4 : Int) (v7 : Int) (ag : (Nat → Int) → (Nat → Int) → (Nat → Int) → Int → Int → Option (Int × (Nat → Int) × (Nat → Int) × (Nat → Int) × (Nat → Int))) (k_177 : (Nat → Int) → (Nat → Int) → (Nat → Int) → Int → Int → Option (Int × (Nat → Int) × (Nat → Int) × (Nat → Int) × (Nat → Int))) : Option (Int × (Nat → Int) × (Nat → Int) × (Nat → Int) × (Nat → Int)) :=
  if v4 = 0 then (m_X11_tick_169 t_baseLow t_baseHigh t_speckLow t_speckHigh t_cur t_was t_feel t_curSum v2 v3 v7 0 ag k_177) else (m_X11_tick_164 t_baseLow t_baseHigh t_speckLow t_speckHigh t_cur t_was t_feel t_curSum v2 v3 v7 ag k_177)

set_option maxRecDepth 10000 in
set_option maxHeartbeats 8000000 in
theorem g_X11_tick_159 {l : Launch} {E : EE} {b0 n : Nat} {h : AH} {a_t : Nat} {t_thrown t_taped t_p t_fault t_baseLow t_baseHigh t_newBaseLow t_newBaseHigh t_from t_knots t_lines t_chosen t_undos t_redos t_aimedMany t_fits t_fitOf t_sights t_systems t_own t_cross t_curveLong t_wallFirst v1 v2 v3 v4 v5 v7 : Int} {t_speckLow t_speckHigh t_sourceHold t_cur t_was t_feel t_pushAt t_curSum : Nat → Int} {r : Int × (Nat → Int) × (Nat → Int) × (Nat → Int) × (Nat → Int)} {ag : (Nat → Int) → (Nat → Int) → (Nat → Int) → Int → Int → Option (Int × (Nat → Int) × (Nat → Int) × (Nat → Int) × (Nat → Int))} {k_177 : (Nat → Int) → (Nat → Int) → (Nat → Int) → Int → Int → Option (Int × (Nat → Int) × (Nat → Int) × (Nat → Int) × (Nat → Int))} (ao : AO b0 n [a_t, (a_t + 8), (a_t + 9), (a_t + 10), (a_t + 24), (a_t + 25), (a_t + 26), (a_t + 27), (a_t + 28)]) (ok_t_baseLow : inI t_baseLow) (ok_t_baseHigh : inI t_baseHigh) (ok_t_speckLow : okA t_speckLow) (ok_t_speckHigh : okA t_speckHigh) (ok_t_sourceHold : okA t_sourceHold) (ok_t_cur : okA t_cur) (ok_t_was : okA t_was) (ok_t_feel : okA t_feel) (ok_t_pushAt : okA t_pushAt) (ok_t_curSum : okJ t_curSum) (ok_v1 : inI v1) (ok_v2 : inI v2) (ok_v3 : inI v3) (ok_v4 : inZ v4) (ok_v5 : inJ v5) (ok_v7 : inI v7) (hag : ∀ (t_cur_ : Nat → Int) (t_was_ : Nat → Int) (t_curSum_ : Nat → Int) (v4_ : Int) (v7_ : Int), okA t_cur_ → okA t_was_ → okJ t_curSum_ → inZ v4_ → inI v7_ → ag t_cur_ t_was_ t_curSum_ v4_ v7_ = some r → G l E b0 M_X11_tick (fun _ => True) (ZM E b0 (some (vI r.1)) (ov [a_t, (a_t + 8), (a_t + 9), (a_t + 10), (a_t + 24), (a_t + 25), (a_t + 26), (a_t + 27), (a_t + 28)] [.inr (11, fsX11 a_t t_thrown t_taped t_p t_fault t_baseLow t_baseHigh t_newBaseLow t_newBaseHigh t_from t_knots t_lines t_chosen t_undos t_redos t_aimedMany t_fits t_fitOf t_sights t_systems t_own t_cross t_curveLong t_wallFirst), IA E 100 t_speckLow, IA E 100 t_speckHigh, IA E 100 t_sourceHold, IA E 100 r.2.1, IA E 100 r.2.2.1, IA E 100 r.2.2.2.1, IA E 21 t_pushAt, JA E 6 r.2.2.2.2] h) n (inZ r.1 ∧ okA r.2.1 ∧ okA r.2.2.1 ∧ okA r.2.2.2.1 ∧ okJ r.2.2.2.2) 0 0) 0 0 n (ov [a_t, (a_t + 8), (a_t + 9), (a_t + 10), (a_t + 24), (a_t + 25), (a_t + 26), (a_t + 27), (a_t + 28)] [.inr (11, fsX11 a_t t_thrown t_taped t_p t_fault t_baseLow t_baseHigh t_newBaseLow t_newBaseHigh t_from t_knots t_lines t_chosen t_undos t_redos t_aimedMany t_fits t_fitOf t_sights t_systems t_own t_cross t_curveLong t_wallFirst), IA E 100 t_speckLow, IA E 100 t_speckHigh, IA E 100 t_sourceHold, IA E 100 t_cur_, IA E 100 t_was_, IA E 100 t_feel, IA E 21 t_pushAt, JA E 6 t_curSum_] h) 79 [some (.ref a_t), some (vI v1), some (vI v2), some (vI v3), some (vI v4_), some (vJ v5), none, some (vI v7_), none, none] []) (hk_177 : ∀ (t_cur_ : Nat → Int) (t_was_ : Nat → Int) (t_curSum_ : Nat → Int) (v4_ : Int) (v7_ : Int), okA t_cur_ → okA t_was_ → okJ t_curSum_ → inZ v4_ → inI v7_ → k_177 t_cur_ t_was_ t_curSum_ v4_ v7_ = some r → G l E b0 M_X11_tick (fun _ => True) (ZM E b0 (some (vI r.1)) (ov [a_t, (a_t + 8), (a_t + 9), (a_t + 10), (a_t + 24), (a_t + 25), (a_t + 26), (a_t + 27), (a_t + 28)] [.inr (11, fsX11 a_t t_thrown t_taped t_p t_fault t_baseLow t_baseHigh t_newBaseLow t_newBaseHigh t_from t_knots t_lines t_chosen t_undos t_redos t_aimedMany t_fits t_fitOf t_sights t_systems t_own t_cross t_curveLong t_wallFirst), IA E 100 t_speckLow, IA E 100 t_speckHigh, IA E 100 t_sourceHold, IA E 100 r.2.1, IA E 100 r.2.2.1, IA E 100 r.2.2.2.1, IA E 21 t_pushAt, JA E 6 r.2.2.2.2] h) n (inZ r.1 ∧ okA r.2.1 ∧ okA r.2.2.1 ∧ okA r.2.2.2.1 ∧ okJ r.2.2.2.2) 0 0) 0 0 n (ov [a_t, (a_t + 8), (a_t + 9), (a_t + 10), (a_t + 24), (a_t + 25), (a_t + 26), (a_t + 27), (a_t + 28)] [.inr (11, fsX11 a_t t_thrown t_taped t_p t_fault t_baseLow t_baseHigh t_newBaseLow t_newBaseHigh t_from t_knots t_lines t_chosen t_undos t_redos t_aimedMany t_fits t_fitOf t_sights t_systems t_own t_cross t_curveLong t_wallFirst), IA E 100 t_speckLow, IA E 100 t_speckHigh, IA E 100 t_sourceHold, IA E 100 t_cur_, IA E 100 t_was_, IA E 100 t_feel, IA E 21 t_pushAt, JA E 6 t_curSum_] h) 177 [some (.ref a_t), some (vI v1), none, none, some (vI v4_), some (vJ v5), none, none, none, none] []) (hs : m_X11_tick_159 t_baseLow t_baseHigh t_speckLow t_speckHigh t_cur t_was t_feel t_curSum v2 v3 v4 v7 ag k_177 = some r) : G l E b0 M_X11_tick (fun _ => True) (ZM E b0 (some (vI r.1)) (ov [a_t, (a_t + 8), (a_t + 9), (a_t + 10), (a_t + 24), (a_t + 25), (a_t + 26), (a_t + 27), (a_t + 28)] [.inr (11, fsX11 a_t t_thrown t_taped t_p t_fault t_baseLow t_baseHigh t_newBaseLow t_newBaseHigh t_from t_knots t_lines t_chosen t_undos t_redos t_aimedMany t_fits t_fitOf t_sights t_systems t_own t_cross t_curveLong t_wallFirst), IA E 100 t_speckLow, IA E 100 t_speckHigh, IA E 100 t_sourceHold, IA E 100 r.2.1, IA E 100 r.2.2.1, IA E 100 r.2.2.2.1, IA E 21 t_pushAt, JA E 6 r.2.2.2.2] h) n (inZ r.1 ∧ okA r.2.1 ∧ okA r.2.2.1 ∧ okA r.2.2.2.1 ∧ okJ r.2.2.2.2) 0 0) 0 0 n (ov [a_t, (a_t + 8), (a_t + 9), (a_t + 10), (a_t + 24), (a_t + 25), (a_t + 26), (a_t + 27), (a_t + 28)] [.inr (11, fsX11 a_t t_thrown t_taped t_p t_fault t_baseLow t_baseHigh t_newBaseLow t_newBaseHigh t_from t_knots t_lines t_chosen t_undos t_redos t_aimedMany t_fits t_fitOf t_sights t_systems t_own t_cross t_curveLong t_wallFirst), IA E 100 t_speckLow, IA E 100 t_speckHigh, IA E 100 t_sourceHold, IA E 100 t_cur, IA E 100 t_was, IA E 100 t_feel, IA E 21 t_pushAt, JA E 6 t_curSum] h) 159 [some (.ref a_t), some (vI v1), some (vI v2), some (vI v3), some (vI v4), some (vJ v5), none, some (vI v7), none, none] [] := by
  rw [m_X11_tick_159] at hs
  refine g_iload e_X11_tick_159 rfl ?_
  refine g_if_eq e_X11_tick_161 (inZ_I ok_v4) hs (fun c161 hs => ?_) (fun c161 hs => ?_)
  · refine g_iconst e_X11_tick_168 ?_
    exact g_mask [true, true, true, true, false, true, true, true, true, true] (g_X11_tick_169 ao ok_t_baseLow ok_t_baseHigh ok_t_speckLow ok_t_speckHigh ok_t_sourceHold ok_t_cur ok_t_was ok_t_feel ok_t_pushAt ok_t_curSum ok_v1 ok_v2 ok_v3 ok_v5 ok_v7 (by decide : inZ 0) hag hk_177 hs)
  · exact g_mask [true, true, true, true, false, true, true, true, true, true] (g_X11_tick_164 ao ok_t_baseLow ok_t_baseHigh ok_t_speckLow ok_t_speckHigh ok_t_sourceHold ok_t_cur ok_t_was ok_t_feel ok_t_pushAt ok_t_curSum ok_v1 ok_v2 ok_v3 ok_v5 ok_v7 hag hk_177 hs)

noncomputable def m_X11_tick_141 (t_baseLow : Int) (t_baseHigh : Int) (t_speckLow : Nat → Int) (t_speckHigh : Nat → Int) (t_cur : Nat → Int) (t_was : Nat → Int) (t_feel : Nat → Int) (t_curSum : Nat → Int) (v2 : Int) (v3 : Int) (v4 : Int) (v7 : Int) (s0 : Int) (ag : (Nat → Int) → (Nat → Int) → (Nat → Int) → Int → Int → Option (Int × (Nat → Int) × (Nat → Int) × (Nat → Int) × (Nat → Int))) (k_177 : (Nat → Int) → (Nat → Int) → (Nat → Int) → Int → Int → Option (Int × (Nat → Int) × (Nat → Int) × (Nat → Int) × (Nat → Int))) : Option (Int × (Nat → Int) × (Nat → Int) × (Nat → Int) × (Nat → Int)) :=
  if s0 = 0 then (m_X11_tick_159 t_baseLow t_baseHigh t_speckLow t_speckHigh t_cur t_was t_feel t_curSum v2 v3 v4 v7 ag k_177) else ((m_X11_goes t_cur t_was t_curSum v7 s0).bind (fun y16 => if y16.1 = 0 then (m_X11_tick_159 t_baseLow t_baseHigh t_speckLow t_speckHigh y16.2.1 y16.2.2.1 t_feel y16.2.2.2 v2 v3 v4 v7 ag k_177) else (m_X11_tick_164 t_baseLow t_baseHigh t_speckLow t_speckHigh y16.2.1 y16.2.2.1 t_feel y16.2.2.2 v2 v3 v7 ag k_177)))

set_option maxRecDepth 10000 in
set_option maxHeartbeats 8000000 in
theorem g_X11_tick_141 {l : Launch} {E : EE} {b0 n : Nat} {h : AH} {a_t : Nat} {t_thrown t_taped t_p t_fault t_baseLow t_baseHigh t_newBaseLow t_newBaseHigh t_from t_knots t_lines t_chosen t_undos t_redos t_aimedMany t_fits t_fitOf t_sights t_systems t_own t_cross t_curveLong t_wallFirst v1 v2 v3 v4 v5 v7 s0 : Int} {t_speckLow t_speckHigh t_sourceHold t_cur t_was t_feel t_pushAt t_curSum : Nat → Int} {r : Int × (Nat → Int) × (Nat → Int) × (Nat → Int) × (Nat → Int)} {ag : (Nat → Int) → (Nat → Int) → (Nat → Int) → Int → Int → Option (Int × (Nat → Int) × (Nat → Int) × (Nat → Int) × (Nat → Int))} {k_177 : (Nat → Int) → (Nat → Int) → (Nat → Int) → Int → Int → Option (Int × (Nat → Int) × (Nat → Int) × (Nat → Int) × (Nat → Int))} (ao : AO b0 n [a_t, (a_t + 8), (a_t + 9), (a_t + 10), (a_t + 24), (a_t + 25), (a_t + 26), (a_t + 27), (a_t + 28)]) (ok_t_baseLow : inI t_baseLow) (ok_t_baseHigh : inI t_baseHigh) (ok_t_speckLow : okA t_speckLow) (ok_t_speckHigh : okA t_speckHigh) (ok_t_sourceHold : okA t_sourceHold) (ok_t_cur : okA t_cur) (ok_t_was : okA t_was) (ok_t_feel : okA t_feel) (ok_t_pushAt : okA t_pushAt) (ok_t_curSum : okJ t_curSum) (ok_v1 : inI v1) (ok_v2 : inI v2) (ok_v3 : inI v3) (ok_v4 : inZ v4) (ok_v5 : inJ v5) (ok_v7 : inI v7) (ok_s0 : inI s0) (hag : ∀ (t_cur_ : Nat → Int) (t_was_ : Nat → Int) (t_curSum_ : Nat → Int) (v4_ : Int) (v7_ : Int), okA t_cur_ → okA t_was_ → okJ t_curSum_ → inZ v4_ → inI v7_ → ag t_cur_ t_was_ t_curSum_ v4_ v7_ = some r → G l E b0 M_X11_tick (fun _ => True) (ZM E b0 (some (vI r.1)) (ov [a_t, (a_t + 8), (a_t + 9), (a_t + 10), (a_t + 24), (a_t + 25), (a_t + 26), (a_t + 27), (a_t + 28)] [.inr (11, fsX11 a_t t_thrown t_taped t_p t_fault t_baseLow t_baseHigh t_newBaseLow t_newBaseHigh t_from t_knots t_lines t_chosen t_undos t_redos t_aimedMany t_fits t_fitOf t_sights t_systems t_own t_cross t_curveLong t_wallFirst), IA E 100 t_speckLow, IA E 100 t_speckHigh, IA E 100 t_sourceHold, IA E 100 r.2.1, IA E 100 r.2.2.1, IA E 100 r.2.2.2.1, IA E 21 t_pushAt, JA E 6 r.2.2.2.2] h) n (inZ r.1 ∧ okA r.2.1 ∧ okA r.2.2.1 ∧ okA r.2.2.2.1 ∧ okJ r.2.2.2.2) 0 0) 0 0 n (ov [a_t, (a_t + 8), (a_t + 9), (a_t + 10), (a_t + 24), (a_t + 25), (a_t + 26), (a_t + 27), (a_t + 28)] [.inr (11, fsX11 a_t t_thrown t_taped t_p t_fault t_baseLow t_baseHigh t_newBaseLow t_newBaseHigh t_from t_knots t_lines t_chosen t_undos t_redos t_aimedMany t_fits t_fitOf t_sights t_systems t_own t_cross t_curveLong t_wallFirst), IA E 100 t_speckLow, IA E 100 t_speckHigh, IA E 100 t_sourceHold, IA E 100 t_cur_, IA E 100 t_was_, IA E 100 t_feel, IA E 21 t_pushAt, JA E 6 t_curSum_] h) 79 [some (.ref a_t), some (vI v1), some (vI v2), some (vI v3), some (vI v4_), some (vJ v5), none, some (vI v7_), none, none] []) (hk_177 : ∀ (t_cur_ : Nat → Int) (t_was_ : Nat → Int) (t_curSum_ : Nat → Int) (v4_ : Int) (v7_ : Int), okA t_cur_ → okA t_was_ → okJ t_curSum_ → inZ v4_ → inI v7_ → k_177 t_cur_ t_was_ t_curSum_ v4_ v7_ = some r → G l E b0 M_X11_tick (fun _ => True) (ZM E b0 (some (vI r.1)) (ov [a_t, (a_t + 8), (a_t + 9), (a_t + 10), (a_t + 24), (a_t + 25), (a_t + 26), (a_t + 27), (a_t + 28)] [.inr (11, fsX11 a_t t_thrown t_taped t_p t_fault t_baseLow t_baseHigh t_newBaseLow t_newBaseHigh t_from t_knots t_lines t_chosen t_undos t_redos t_aimedMany t_fits t_fitOf t_sights t_systems t_own t_cross t_curveLong t_wallFirst), IA E 100 t_speckLow, IA E 100 t_speckHigh, IA E 100 t_sourceHold, IA E 100 r.2.1, IA E 100 r.2.2.1, IA E 100 r.2.2.2.1, IA E 21 t_pushAt, JA E 6 r.2.2.2.2] h) n (inZ r.1 ∧ okA r.2.1 ∧ okA r.2.2.1 ∧ okA r.2.2.2.1 ∧ okJ r.2.2.2.2) 0 0) 0 0 n (ov [a_t, (a_t + 8), (a_t + 9), (a_t + 10), (a_t + 24), (a_t + 25), (a_t + 26), (a_t + 27), (a_t + 28)] [.inr (11, fsX11 a_t t_thrown t_taped t_p t_fault t_baseLow t_baseHigh t_newBaseLow t_newBaseHigh t_from t_knots t_lines t_chosen t_undos t_redos t_aimedMany t_fits t_fitOf t_sights t_systems t_own t_cross t_curveLong t_wallFirst), IA E 100 t_speckLow, IA E 100 t_speckHigh, IA E 100 t_sourceHold, IA E 100 t_cur_, IA E 100 t_was_, IA E 100 t_feel, IA E 21 t_pushAt, JA E 6 t_curSum_] h) 177 [some (.ref a_t), some (vI v1), none, none, some (vI v4_), some (vJ v5), none, none, none, none] []) (hs : m_X11_tick_141 t_baseLow t_baseHigh t_speckLow t_speckHigh t_cur t_was t_feel t_curSum v2 v3 v4 v7 s0 ag k_177 = some r) : G l E b0 M_X11_tick (fun _ => True) (ZM E b0 (some (vI r.1)) (ov [a_t, (a_t + 8), (a_t + 9), (a_t + 10), (a_t + 24), (a_t + 25), (a_t + 26), (a_t + 27), (a_t + 28)] [.inr (11, fsX11 a_t t_thrown t_taped t_p t_fault t_baseLow t_baseHigh t_newBaseLow t_newBaseHigh t_from t_knots t_lines t_chosen t_undos t_redos t_aimedMany t_fits t_fitOf t_sights t_systems t_own t_cross t_curveLong t_wallFirst), IA E 100 t_speckLow, IA E 100 t_speckHigh, IA E 100 t_sourceHold, IA E 100 r.2.1, IA E 100 r.2.2.1, IA E 100 r.2.2.2.1, IA E 21 t_pushAt, JA E 6 r.2.2.2.2] h) n (inZ r.1 ∧ okA r.2.1 ∧ okA r.2.2.1 ∧ okA r.2.2.2.1 ∧ okJ r.2.2.2.2) 0 0) 0 0 n (ov [a_t, (a_t + 8), (a_t + 9), (a_t + 10), (a_t + 24), (a_t + 25), (a_t + 26), (a_t + 27), (a_t + 28)] [.inr (11, fsX11 a_t t_thrown t_taped t_p t_fault t_baseLow t_baseHigh t_newBaseLow t_newBaseHigh t_from t_knots t_lines t_chosen t_undos t_redos t_aimedMany t_fits t_fitOf t_sights t_systems t_own t_cross t_curveLong t_wallFirst), IA E 100 t_speckLow, IA E 100 t_speckHigh, IA E 100 t_sourceHold, IA E 100 t_cur, IA E 100 t_was, IA E 100 t_feel, IA E 21 t_pushAt, JA E 6 t_curSum] h) 141 [some (.ref a_t), some (vI v1), some (vI v2), some (vI v3), some (vI v4), some (vJ v5), none, some (vI v7), none, none] [vI s0] := by
  rw [m_X11_tick_141] at hs
  refine g_istore e_X11_tick_141 st1_9 rfl ?_
  refine g_iload e_X11_tick_143 rfl ?_
  refine g_if_eq e_X11_tick_145 ok_s0 hs (fun c145 hs => ?_) (fun c145 hs => ?_)
  · exact g_mask [true, true, true, true, true, true, true, true, true, false] (g_X11_tick_159 ao ok_t_baseLow ok_t_baseHigh ok_t_speckLow ok_t_speckHigh ok_t_sourceHold ok_t_cur ok_t_was ok_t_feel ok_t_pushAt ok_t_curSum ok_v1 ok_v2 ok_v3 ok_v4 ok_v5 ok_v7 hag hk_177 hs)
  · refine g_aload_n e_X11_tick_148 rfl ?_
    refine g_iload e_X11_tick_149 rfl ?_
    refine g_iload e_X11_tick_151 rfl ?_
    obtain ⟨y16, hy16, hs⟩ := bind_elim hs
    refine g_callVr [vI v7, vI s0] cv_X11_334 ⟨rfl, rfl, Nat.le_of_ble_eq_true rfl, Nat.le_of_ble_eq_true rfl⟩ (Ct_heap (ct_X11_goes (a_t := a_t) (AO_call [0, 4, 5, 8] ao (by decide) rfl) (FA_call [0, 4, 5, 8] ao.1 rfl rfl) ok_t_cur ok_t_was ok_t_curSum ok_v7 ok_s0 hy16) (ov_call (esn := [.inr (11, fsX11 a_t t_thrown t_taped t_p t_fault t_baseLow t_baseHigh t_newBaseLow t_newBaseHigh t_from t_knots t_lines t_chosen t_undos t_redos t_aimedMany t_fits t_fitOf t_sights t_systems t_own t_cross t_curveLong t_wallFirst), IA E 100 t_speckLow, IA E 100 t_speckHigh, IA E 100 t_sourceHold, IA E 100 y16.2.1, IA E 100 y16.2.2.1, IA E 100 t_feel, IA E 21 t_pushAt, JA E 6 y16.2.2.2]) [0, 4, 5, 8] ao.1 rfl rfl rfl rfl)) e_X11_tick_153 (ao.2 0 _ rfl) (ov_get 0 ao.1 rfl rfl) rfl rfl rfl (Nat.le_of_ble_eq_true rfl) ⟨Nat.le_refl _, Nat.le_refl _⟩ (fun Py16 => ?_)
    refine g_if_ne e_X11_tick_156 (inZ_I Py16.1) hs (fun c156 hs => ?_) (fun c156 hs => ?_)
    · exact g_mask [true, true, true, true, true, true, true, true, true, false] (g_X11_tick_159 ao ok_t_baseLow ok_t_baseHigh ok_t_speckLow ok_t_speckHigh ok_t_sourceHold Py16.2.1 Py16.2.2.1 ok_t_feel ok_t_pushAt Py16.2.2.2 ok_v1 ok_v2 ok_v3 ok_v4 ok_v5 ok_v7 hag hk_177 hs)
    · exact g_mask [true, true, true, true, false, true, true, true, true, false] (g_X11_tick_164 ao ok_t_baseLow ok_t_baseHigh ok_t_speckLow ok_t_speckHigh ok_t_sourceHold Py16.2.1 Py16.2.2.1 ok_t_feel ok_t_pushAt Py16.2.2.2 ok_v1 ok_v2 ok_v3 ok_v5 ok_v7 hag hk_177 hs)

noncomputable def m_X11_tick_79 (t_baseLow : Int) (t_baseHigh : Int) (t_speckLow : Nat → Int) (t_speckHigh : Nat → Int) (t_feel : Nat → Int) (v2 : Int) (v3 : Int) (k_177 : (Nat → Int) → (Nat → Int) → (Nat → Int) → Int → Int → Option (Int × (Nat → Int) × (Nat → Int) × (Nat → Int) × (Nat → Int))) : Nat → (Nat → Int) → (Nat → Int) → (Nat → Int) → Int → Int → Option (Int × (Nat → Int) × (Nat → Int) × (Nat → Int) × (Nat → Int))
  | 0, _, _, _, _, _ => none
  | F + 1, t_cur, t_was, t_curSum, v4, v7 => if 100 ≤ v7 then (k_177 t_cur t_was t_curSum v4 v7) else (chk (inB v7 100) (if (t_was (Int.toNat v7)) = 0 then (m_X11_tick_171 t_baseLow t_baseHigh t_speckLow t_speckHigh t_cur t_was t_feel t_curSum v2 v3 v4 v7 (m_X11_tick_79 t_baseLow t_baseHigh t_speckLow t_speckHigh t_feel v2 v3 k_177 F) k_177) else ((m_X11_holdAt t_baseLow t_baseHigh t_speckLow t_speckHigh v7 v2).bind (fun y11 => chk (inB v7 100) (chk (inI (y11 + v3)) (if (t_feel (Int.toNat v7)) ≤ (y11 + v3) then (chk (inB v7 100) (chk (inI (-(t_feel (Int.toNat v7)))) (if (-(t_feel (Int.toNat v7))) ≤ (y11 + v3) then (m_X11_tick_141 t_baseLow t_baseHigh t_speckLow t_speckHigh t_cur t_was t_feel t_curSum v2 v3 v4 v7 0 (m_X11_tick_79 t_baseLow t_baseHigh t_speckLow t_speckHigh t_feel v2 v3 k_177 F) k_177) else (m_X11_tick_141 t_baseLow t_baseHigh t_speckLow t_speckHigh t_cur t_was t_feel t_curSum v2 v3 v4 v7 (-1) (m_X11_tick_79 t_baseLow t_baseHigh t_speckLow t_speckHigh t_feel v2 v3 k_177 F) k_177)))) else (m_X11_tick_141 t_baseLow t_baseHigh t_speckLow t_speckHigh t_cur t_was t_feel t_curSum v2 v3 v4 v7 1 (m_X11_tick_79 t_baseLow t_baseHigh t_speckLow t_speckHigh t_feel v2 v3 k_177 F) k_177)))))))

set_option maxRecDepth 10000 in
set_option maxHeartbeats 8000000 in
theorem g_X11_tick_79 {l : Launch} {E : EE} {b0 n : Nat} {h : AH} {a_t : Nat} {t_thrown t_taped t_p t_fault t_baseLow t_baseHigh t_newBaseLow t_newBaseHigh t_from t_knots t_lines t_chosen t_undos t_redos t_aimedMany t_fits t_fitOf t_sights t_systems t_own t_cross t_curveLong t_wallFirst v1 v2 v3 v5 : Int} {t_speckLow t_speckHigh t_sourceHold t_feel t_pushAt : Nat → Int} {r : Int × (Nat → Int) × (Nat → Int) × (Nat → Int) × (Nat → Int)} {k_177 : (Nat → Int) → (Nat → Int) → (Nat → Int) → Int → Int → Option (Int × (Nat → Int) × (Nat → Int) × (Nat → Int) × (Nat → Int))} (ao : AO b0 n [a_t, (a_t + 8), (a_t + 9), (a_t + 10), (a_t + 24), (a_t + 25), (a_t + 26), (a_t + 27), (a_t + 28)]) (ok_t_baseLow : inI t_baseLow) (ok_t_baseHigh : inI t_baseHigh) (ok_t_speckLow : okA t_speckLow) (ok_t_speckHigh : okA t_speckHigh) (ok_t_sourceHold : okA t_sourceHold) (ok_t_feel : okA t_feel) (ok_t_pushAt : okA t_pushAt) (ok_v1 : inI v1) (ok_v2 : inI v2) (ok_v3 : inI v3) (ok_v5 : inJ v5) (hk_177 : ∀ (t_cur_ : Nat → Int) (t_was_ : Nat → Int) (t_curSum_ : Nat → Int) (v4_ : Int) (v7_ : Int), okA t_cur_ → okA t_was_ → okJ t_curSum_ → inZ v4_ → inI v7_ → k_177 t_cur_ t_was_ t_curSum_ v4_ v7_ = some r → G l E b0 M_X11_tick (fun _ => True) (ZM E b0 (some (vI r.1)) (ov [a_t, (a_t + 8), (a_t + 9), (a_t + 10), (a_t + 24), (a_t + 25), (a_t + 26), (a_t + 27), (a_t + 28)] [.inr (11, fsX11 a_t t_thrown t_taped t_p t_fault t_baseLow t_baseHigh t_newBaseLow t_newBaseHigh t_from t_knots t_lines t_chosen t_undos t_redos t_aimedMany t_fits t_fitOf t_sights t_systems t_own t_cross t_curveLong t_wallFirst), IA E 100 t_speckLow, IA E 100 t_speckHigh, IA E 100 t_sourceHold, IA E 100 r.2.1, IA E 100 r.2.2.1, IA E 100 r.2.2.2.1, IA E 21 t_pushAt, JA E 6 r.2.2.2.2] h) n (inZ r.1 ∧ okA r.2.1 ∧ okA r.2.2.1 ∧ okA r.2.2.2.1 ∧ okJ r.2.2.2.2) 0 0) 0 0 n (ov [a_t, (a_t + 8), (a_t + 9), (a_t + 10), (a_t + 24), (a_t + 25), (a_t + 26), (a_t + 27), (a_t + 28)] [.inr (11, fsX11 a_t t_thrown t_taped t_p t_fault t_baseLow t_baseHigh t_newBaseLow t_newBaseHigh t_from t_knots t_lines t_chosen t_undos t_redos t_aimedMany t_fits t_fitOf t_sights t_systems t_own t_cross t_curveLong t_wallFirst), IA E 100 t_speckLow, IA E 100 t_speckHigh, IA E 100 t_sourceHold, IA E 100 t_cur_, IA E 100 t_was_, IA E 100 t_feel, IA E 21 t_pushAt, JA E 6 t_curSum_] h) 177 [some (.ref a_t), some (vI v1), none, none, some (vI v4_), some (vJ v5), none, none, none, none] []) :
    ∀ (F : Nat) (t_cur : Nat → Int) (t_was : Nat → Int) (t_curSum : Nat → Int) (v4 : Int) (v7 : Int), okA t_cur → okA t_was → okJ t_curSum → inZ v4 → inI v7 → m_X11_tick_79 t_baseLow t_baseHigh t_speckLow t_speckHigh t_feel v2 v3 k_177 F t_cur t_was t_curSum v4 v7 = some r → G l E b0 M_X11_tick (fun _ => True) (ZM E b0 (some (vI r.1)) (ov [a_t, (a_t + 8), (a_t + 9), (a_t + 10), (a_t + 24), (a_t + 25), (a_t + 26), (a_t + 27), (a_t + 28)] [.inr (11, fsX11 a_t t_thrown t_taped t_p t_fault t_baseLow t_baseHigh t_newBaseLow t_newBaseHigh t_from t_knots t_lines t_chosen t_undos t_redos t_aimedMany t_fits t_fitOf t_sights t_systems t_own t_cross t_curveLong t_wallFirst), IA E 100 t_speckLow, IA E 100 t_speckHigh, IA E 100 t_sourceHold, IA E 100 r.2.1, IA E 100 r.2.2.1, IA E 100 r.2.2.2.1, IA E 21 t_pushAt, JA E 6 r.2.2.2.2] h) n (inZ r.1 ∧ okA r.2.1 ∧ okA r.2.2.1 ∧ okA r.2.2.2.1 ∧ okJ r.2.2.2.2) 0 0) 0 0 n (ov [a_t, (a_t + 8), (a_t + 9), (a_t + 10), (a_t + 24), (a_t + 25), (a_t + 26), (a_t + 27), (a_t + 28)] [.inr (11, fsX11 a_t t_thrown t_taped t_p t_fault t_baseLow t_baseHigh t_newBaseLow t_newBaseHigh t_from t_knots t_lines t_chosen t_undos t_redos t_aimedMany t_fits t_fitOf t_sights t_systems t_own t_cross t_curveLong t_wallFirst), IA E 100 t_speckLow, IA E 100 t_speckHigh, IA E 100 t_sourceHold, IA E 100 t_cur, IA E 100 t_was, IA E 100 t_feel, IA E 21 t_pushAt, JA E 6 t_curSum] h) 79 [some (.ref a_t), some (vI v1), some (vI v2), some (vI v3), some (vI v4), some (vJ v5), none, some (vI v7), none, none] [] := by
  intro F
  induction F with
  | zero =>
    intro t_cur t_was t_curSum v4 v7 ok_t_cur ok_t_was ok_t_curSum ok_v4 ok_v7 hs
    rw [m_X11_tick_79] at hs
    cases hs
  | succ F ih =>
    intro t_cur t_was t_curSum v4 v7 ok_t_cur ok_t_was ok_t_curSum ok_v4 ok_v7 hs
    rw [m_X11_tick_79] at hs
    refine g_iload e_X11_tick_79 rfl ?_
    refine g_bipush e_X11_tick_81 bp_100 ?_
    refine g_icmp_ge e_X11_tick_83 ok_v7 (by decide : inI 100) hs (fun c83 hs => ?_) (fun c83 hs => ?_)
    · exact g_mask [true, true, false, false, true, true, true, false, true, true] (hk_177 _ _ _ _ _ ok_t_cur ok_t_was ok_t_curSum ok_v4 ok_v7 hs)
    · refine g_aload_n e_X11_tick_86 rfl ?_
      refine g_get 0 36 ao rfl rfl fsX11_g36 fl_X11_84 e_X11_tick_87 ?_
      refine g_iload e_X11_tick_90 rfl ?_
      refine g_iald 5 ao rfl rfl (Nat.le_of_ble_eq_true rfl) e_X11_tick_92 hs (fun hi9 hs => ?_)
      refine g_if_eq e_X11_tick_93 (ok_t_was _) hs (fun c93 hs => ?_) (fun c93 hs => ?_)
      · exact g_X11_tick_171 ao ok_t_baseLow ok_t_baseHigh ok_t_speckLow ok_t_speckHigh ok_t_sourceHold ok_t_cur ok_t_was ok_t_feel ok_t_pushAt ok_t_curSum ok_v1 ok_v2 ok_v3 ok_v4 ok_v5 ok_v7 ih hk_177 hs
      · refine g_aload_n e_X11_tick_96 rfl ?_
        refine g_iload e_X11_tick_97 rfl ?_
        refine g_iload_n e_X11_tick_99 rfl ?_
        obtain ⟨y11, hy11, hs⟩ := bind_elim hs
        refine g_callVr [vI v7, vI v2] cv_X11_265 ⟨rfl, rfl, Nat.le_of_ble_eq_true rfl, Nat.le_of_ble_eq_true rfl⟩ (ct_X11_holdAt (a_t := a_t) (AO_call [0, 1, 2] ao (by decide) rfl) (FA_call [0, 1, 2] ao.1 rfl rfl) ok_t_baseLow ok_t_baseHigh ok_t_speckLow ok_t_speckHigh ok_v7 ok_v2 hy11) e_X11_tick_100 (ao.2 0 _ rfl) (ov_get 0 ao.1 rfl rfl) rfl rfl rfl (Nat.le_of_ble_eq_true rfl) ⟨Nat.le_refl _, Nat.le_refl _⟩ (fun Py11 => ?_)
        refine g_iload_n e_X11_tick_103 rfl ?_
        refine g_iadd e_X11_tick_104 ?_
        refine g_istore e_X11_tick_105 st1_8 rfl ?_
        refine g_aload_n e_X11_tick_107 rfl ?_
        refine g_get 0 37 ao rfl rfl fsX11_g37 fl_X11_87 e_X11_tick_108 ?_
        refine g_iload e_X11_tick_111 rfl ?_
        refine g_iald 6 ao rfl rfl (Nat.le_of_ble_eq_true rfl) e_X11_tick_113 hs (fun hi12 hs => ?_)
        refine g_iload e_X11_tick_114 rfl ?_
        obtain ⟨hc13, hs⟩ := chk_elim hs
        refine g_icmp_le e_X11_tick_116 (ok_t_feel _) hc13 hs (fun c116 hs => ?_) (fun c116 hs => ?_)
        · refine g_aload_n e_X11_tick_123 rfl ?_
          refine g_get 0 37 ao rfl rfl fsX11_g37 fl_X11_87 e_X11_tick_124 ?_
          refine g_iload e_X11_tick_127 rfl ?_
          refine g_iald 6 ao rfl rfl (Nat.le_of_ble_eq_true rfl) e_X11_tick_129 hs (fun hi14 hs => ?_)
          refine g_ineg e_X11_tick_130 ?_
          refine g_iload e_X11_tick_131 rfl ?_
          obtain ⟨hc15, hs⟩ := chk_elim hs
          refine g_icmp_le e_X11_tick_133 hc15 hc13 hs (fun c133 hs => ?_) (fun c133 hs => ?_)
          · refine g_iconst e_X11_tick_140 ?_
            exact g_mask [true, true, true, true, true, true, true, true, false, true] (g_X11_tick_141 ao ok_t_baseLow ok_t_baseHigh ok_t_speckLow ok_t_speckHigh ok_t_sourceHold ok_t_cur ok_t_was ok_t_feel ok_t_pushAt ok_t_curSum ok_v1 ok_v2 ok_v3 ok_v4 ok_v5 ok_v7 (by decide : inI 0) ih hk_177 hs)
          · refine g_iconst e_X11_tick_136 ?_
            refine g_goto e_X11_tick_137 ?_
            exact g_mask [true, true, true, true, true, true, true, true, false, true] (g_X11_tick_141 ao ok_t_baseLow ok_t_baseHigh ok_t_speckLow ok_t_speckHigh ok_t_sourceHold ok_t_cur ok_t_was ok_t_feel ok_t_pushAt ok_t_curSum ok_v1 ok_v2 ok_v3 ok_v4 ok_v5 ok_v7 (by decide : inI (-1)) ih hk_177 hs)
        · refine g_iconst e_X11_tick_119 ?_
          refine g_goto e_X11_tick_120 ?_
          exact g_mask [true, true, true, true, true, true, true, true, false, true] (g_X11_tick_141 ao ok_t_baseLow ok_t_baseHigh ok_t_speckLow ok_t_speckHigh ok_t_sourceHold ok_t_cur ok_t_was ok_t_feel ok_t_pushAt ok_t_curSum ok_v1 ok_v2 ok_v3 ok_v4 ok_v5 ok_v7 (by decide : inI 1) ih hk_177 hs)

noncomputable def m_X11_tick_329 (t_sourceHold : Nat → Int) (t_cur : Nat → Int) (t_pushAt : Nat → Int) (t_curSum : Nat → Int) (v1 : Int) (v4 : Int) (v7 : Int) (ag : (Nat → Int) → (Nat → Int) → Int → Int → Option (Int × (Nat → Int) × (Nat → Int) × (Nat → Int) × (Nat → Int))) (k_335 : (Nat → Int) → (Nat → Int) → Int → Int → Option (Int × (Nat → Int) × (Nat → Int) × (Nat → Int) × (Nat → Int))) : Option (Int × (Nat → Int) × (Nat → Int) × (Nat → Int) × (Nat → Int)) :=
  chk (inI (v7 + 1)) (ag t_cur t_curSum v4 (v7 + 1))

set_option maxRecDepth 10000 in
set_option maxHeartbeats 8000000 in
theorem g_X11_tick_329 {l : Launch} {E : EE} {b0 n : Nat} {h : AH} {a_t : Nat} {t_thrown t_taped t_p t_fault t_baseLow t_baseHigh t_newBaseLow t_newBaseHigh t_from t_knots t_lines t_chosen t_undos t_redos t_aimedMany t_fits t_fitOf t_sights t_systems t_own t_cross t_curveLong t_wallFirst v1 v4 v5 v7 : Int} {t_speckLow t_speckHigh t_sourceHold t_cur t_was t_feel t_pushAt t_curSum : Nat → Int} {r : Int × (Nat → Int) × (Nat → Int) × (Nat → Int) × (Nat → Int)} {ag : (Nat → Int) → (Nat → Int) → Int → Int → Option (Int × (Nat → Int) × (Nat → Int) × (Nat → Int) × (Nat → Int))} {k_335 : (Nat → Int) → (Nat → Int) → Int → Int → Option (Int × (Nat → Int) × (Nat → Int) × (Nat → Int) × (Nat → Int))} (ao : AO b0 n [a_t, (a_t + 8), (a_t + 9), (a_t + 10), (a_t + 24), (a_t + 25), (a_t + 26), (a_t + 27), (a_t + 28)]) (ok_t_baseLow : inI t_baseLow) (ok_t_baseHigh : inI t_baseHigh) (ok_t_speckLow : okA t_speckLow) (ok_t_speckHigh : okA t_speckHigh) (ok_t_sourceHold : okA t_sourceHold) (ok_t_cur : okA t_cur) (ok_t_was : okA t_was) (ok_t_feel : okA t_feel) (ok_t_pushAt : okA t_pushAt) (ok_t_curSum : okJ t_curSum) (ok_v1 : inI v1) (ok_v4 : inZ v4) (ok_v5 : inJ v5) (ok_v7 : inI v7) (hag : ∀ (t_cur_ : Nat → Int) (t_curSum_ : Nat → Int) (v4_ : Int) (v7_ : Int), okA t_cur_ → okJ t_curSum_ → inZ v4_ → inI v7_ → ag t_cur_ t_curSum_ v4_ v7_ = some r → G l E b0 M_X11_tick (fun _ => True) (ZM E b0 (some (vI r.1)) (ov [a_t, (a_t + 8), (a_t + 9), (a_t + 10), (a_t + 24), (a_t + 25), (a_t + 26), (a_t + 27), (a_t + 28)] [.inr (11, fsX11 a_t t_thrown t_taped t_p t_fault t_baseLow t_baseHigh t_newBaseLow t_newBaseHigh t_from t_knots t_lines t_chosen t_undos t_redos t_aimedMany t_fits t_fitOf t_sights t_systems t_own t_cross t_curveLong t_wallFirst), IA E 100 t_speckLow, IA E 100 t_speckHigh, IA E 100 t_sourceHold, IA E 100 r.2.1, IA E 100 r.2.2.1, IA E 100 r.2.2.2.1, IA E 21 t_pushAt, JA E 6 r.2.2.2.2] h) n (inZ r.1 ∧ okA r.2.1 ∧ okA r.2.2.1 ∧ okA r.2.2.2.1 ∧ okJ r.2.2.2.2) 0 0) 0 0 n (ov [a_t, (a_t + 8), (a_t + 9), (a_t + 10), (a_t + 24), (a_t + 25), (a_t + 26), (a_t + 27), (a_t + 28)] [.inr (11, fsX11 a_t t_thrown t_taped t_p t_fault t_baseLow t_baseHigh t_newBaseLow t_newBaseHigh t_from t_knots t_lines t_chosen t_undos t_redos t_aimedMany t_fits t_fitOf t_sights t_systems t_own t_cross t_curveLong t_wallFirst), IA E 100 t_speckLow, IA E 100 t_speckHigh, IA E 100 t_sourceHold, IA E 100 t_cur_, IA E 100 t_was, IA E 100 t_feel, IA E 21 t_pushAt, JA E 6 t_curSum_] h) 180 [some (.ref a_t), some (vI v1), none, none, some (vI v4_), some (vJ v5), none, some (vI v7_), none, none] []) (hk_335 : ∀ (t_cur_ : Nat → Int) (t_curSum_ : Nat → Int) (v4_ : Int) (v7_ : Int), okA t_cur_ → okJ t_curSum_ → inZ v4_ → inI v7_ → k_335 t_cur_ t_curSum_ v4_ v7_ = some r → G l E b0 M_X11_tick (fun _ => True) (ZM E b0 (some (vI r.1)) (ov [a_t, (a_t + 8), (a_t + 9), (a_t + 10), (a_t + 24), (a_t + 25), (a_t + 26), (a_t + 27), (a_t + 28)] [.inr (11, fsX11 a_t t_thrown t_taped t_p t_fault t_baseLow t_baseHigh t_newBaseLow t_newBaseHigh t_from t_knots t_lines t_chosen t_undos t_redos t_aimedMany t_fits t_fitOf t_sights t_systems t_own t_cross t_curveLong t_wallFirst), IA E 100 t_speckLow, IA E 100 t_speckHigh, IA E 100 t_sourceHold, IA E 100 r.2.1, IA E 100 r.2.2.1, IA E 100 r.2.2.2.1, IA E 21 t_pushAt, JA E 6 r.2.2.2.2] h) n (inZ r.1 ∧ okA r.2.1 ∧ okA r.2.2.1 ∧ okA r.2.2.2.1 ∧ okJ r.2.2.2.2) 0 0) 0 0 n (ov [a_t, (a_t + 8), (a_t + 9), (a_t + 10), (a_t + 24), (a_t + 25), (a_t + 26), (a_t + 27), (a_t + 28)] [.inr (11, fsX11 a_t t_thrown t_taped t_p t_fault t_baseLow t_baseHigh t_newBaseLow t_newBaseHigh t_from t_knots t_lines t_chosen t_undos t_redos t_aimedMany t_fits t_fitOf t_sights t_systems t_own t_cross t_curveLong t_wallFirst), IA E 100 t_speckLow, IA E 100 t_speckHigh, IA E 100 t_sourceHold, IA E 100 t_cur_, IA E 100 t_was, IA E 100 t_feel, IA E 21 t_pushAt, JA E 6 t_curSum_] h) 335 [some (.ref a_t), some (vI v1), none, none, some (vI v4_), some (vJ v5), none, none, none, none] []) (hs : m_X11_tick_329 t_sourceHold t_cur t_pushAt t_curSum v1 v4 v7 ag k_335 = some r) : G l E b0 M_X11_tick (fun _ => True) (ZM E b0 (some (vI r.1)) (ov [a_t, (a_t + 8), (a_t + 9), (a_t + 10), (a_t + 24), (a_t + 25), (a_t + 26), (a_t + 27), (a_t + 28)] [.inr (11, fsX11 a_t t_thrown t_taped t_p t_fault t_baseLow t_baseHigh t_newBaseLow t_newBaseHigh t_from t_knots t_lines t_chosen t_undos t_redos t_aimedMany t_fits t_fitOf t_sights t_systems t_own t_cross t_curveLong t_wallFirst), IA E 100 t_speckLow, IA E 100 t_speckHigh, IA E 100 t_sourceHold, IA E 100 r.2.1, IA E 100 r.2.2.1, IA E 100 r.2.2.2.1, IA E 21 t_pushAt, JA E 6 r.2.2.2.2] h) n (inZ r.1 ∧ okA r.2.1 ∧ okA r.2.2.1 ∧ okA r.2.2.2.1 ∧ okJ r.2.2.2.2) 0 0) 0 0 n (ov [a_t, (a_t + 8), (a_t + 9), (a_t + 10), (a_t + 24), (a_t + 25), (a_t + 26), (a_t + 27), (a_t + 28)] [.inr (11, fsX11 a_t t_thrown t_taped t_p t_fault t_baseLow t_baseHigh t_newBaseLow t_newBaseHigh t_from t_knots t_lines t_chosen t_undos t_redos t_aimedMany t_fits t_fitOf t_sights t_systems t_own t_cross t_curveLong t_wallFirst), IA E 100 t_speckLow, IA E 100 t_speckHigh, IA E 100 t_sourceHold, IA E 100 t_cur, IA E 100 t_was, IA E 100 t_feel, IA E 21 t_pushAt, JA E 6 t_curSum] h) 329 [some (.ref a_t), some (vI v1), none, none, some (vI v4), some (vJ v5), none, some (vI v7), none, none] [] := by
  rw [m_X11_tick_329] at hs
  refine g_iinc e_X11_tick_329 rfl st1_7 rfl ?_
  refine g_goto e_X11_tick_332 ?_
  obtain ⟨hc18, hs⟩ := chk_elim hs
  exact hag _ _ _ _ ok_t_cur ok_t_curSum ok_v4 hc18 hs

noncomputable def m_X11_tick_285 (t_sourceHold : Nat → Int) (t_cur : Nat → Int) (t_pushAt : Nat → Int) (t_curSum : Nat → Int) (v1 : Int) (v4 : Int) (v7 : Int) (s0 : Int) (ag : (Nat → Int) → (Nat → Int) → Int → Int → Option (Int × (Nat → Int) × (Nat → Int) × (Nat → Int) × (Nat → Int))) (k_335 : (Nat → Int) → (Nat → Int) → Int → Int → Option (Int × (Nat → Int) × (Nat → Int) × (Nat → Int) × (Nat → Int))) : Option (Int × (Nat → Int) × (Nat → Int) × (Nat → Int) × (Nat → Int)) :=
  if s0 = 0 then (m_X11_tick_329 t_sourceHold t_cur t_pushAt t_curSum v1 v4 v7 ag k_335) else (chk (inB (v7 + s0) 100) (chk (inB (v7 - s0) 100) (chk (inB 4 6) (chk (inJ ((t_curSum (Int.toNat 4)) + 2)) (chk (inB 4 6) (m_X11_tick_329 t_sourceHold (up (up t_cur (Int.toNat (v7 + s0)) 1) (Int.toNat (v7 - s0)) (-1)) t_pushAt (up t_curSum (Int.toNat 4) ((t_curSum (Int.toNat 4)) + 2)) v1 1 v7 ag k_335))))))

set_option maxRecDepth 10000 in
set_option maxHeartbeats 8000000 in
theorem g_X11_tick_285 {l : Launch} {E : EE} {b0 n : Nat} {h : AH} {a_t : Nat} {t_thrown t_taped t_p t_fault t_baseLow t_baseHigh t_newBaseLow t_newBaseHigh t_from t_knots t_lines t_chosen t_undos t_redos t_aimedMany t_fits t_fitOf t_sights t_systems t_own t_cross t_curveLong t_wallFirst v1 v4 v5 v7 s0 : Int} {t_speckLow t_speckHigh t_sourceHold t_cur t_was t_feel t_pushAt t_curSum : Nat → Int} {r : Int × (Nat → Int) × (Nat → Int) × (Nat → Int) × (Nat → Int)} {ag : (Nat → Int) → (Nat → Int) → Int → Int → Option (Int × (Nat → Int) × (Nat → Int) × (Nat → Int) × (Nat → Int))} {k_335 : (Nat → Int) → (Nat → Int) → Int → Int → Option (Int × (Nat → Int) × (Nat → Int) × (Nat → Int) × (Nat → Int))} (ao : AO b0 n [a_t, (a_t + 8), (a_t + 9), (a_t + 10), (a_t + 24), (a_t + 25), (a_t + 26), (a_t + 27), (a_t + 28)]) (ok_t_baseLow : inI t_baseLow) (ok_t_baseHigh : inI t_baseHigh) (ok_t_speckLow : okA t_speckLow) (ok_t_speckHigh : okA t_speckHigh) (ok_t_sourceHold : okA t_sourceHold) (ok_t_cur : okA t_cur) (ok_t_was : okA t_was) (ok_t_feel : okA t_feel) (ok_t_pushAt : okA t_pushAt) (ok_t_curSum : okJ t_curSum) (ok_v1 : inI v1) (ok_v4 : inZ v4) (ok_v5 : inJ v5) (ok_v7 : inI v7) (ok_s0 : inI s0) (hag : ∀ (t_cur_ : Nat → Int) (t_curSum_ : Nat → Int) (v4_ : Int) (v7_ : Int), okA t_cur_ → okJ t_curSum_ → inZ v4_ → inI v7_ → ag t_cur_ t_curSum_ v4_ v7_ = some r → G l E b0 M_X11_tick (fun _ => True) (ZM E b0 (some (vI r.1)) (ov [a_t, (a_t + 8), (a_t + 9), (a_t + 10), (a_t + 24), (a_t + 25), (a_t + 26), (a_t + 27), (a_t + 28)] [.inr (11, fsX11 a_t t_thrown t_taped t_p t_fault t_baseLow t_baseHigh t_newBaseLow t_newBaseHigh t_from t_knots t_lines t_chosen t_undos t_redos t_aimedMany t_fits t_fitOf t_sights t_systems t_own t_cross t_curveLong t_wallFirst), IA E 100 t_speckLow, IA E 100 t_speckHigh, IA E 100 t_sourceHold, IA E 100 r.2.1, IA E 100 r.2.2.1, IA E 100 r.2.2.2.1, IA E 21 t_pushAt, JA E 6 r.2.2.2.2] h) n (inZ r.1 ∧ okA r.2.1 ∧ okA r.2.2.1 ∧ okA r.2.2.2.1 ∧ okJ r.2.2.2.2) 0 0) 0 0 n (ov [a_t, (a_t + 8), (a_t + 9), (a_t + 10), (a_t + 24), (a_t + 25), (a_t + 26), (a_t + 27), (a_t + 28)] [.inr (11, fsX11 a_t t_thrown t_taped t_p t_fault t_baseLow t_baseHigh t_newBaseLow t_newBaseHigh t_from t_knots t_lines t_chosen t_undos t_redos t_aimedMany t_fits t_fitOf t_sights t_systems t_own t_cross t_curveLong t_wallFirst), IA E 100 t_speckLow, IA E 100 t_speckHigh, IA E 100 t_sourceHold, IA E 100 t_cur_, IA E 100 t_was, IA E 100 t_feel, IA E 21 t_pushAt, JA E 6 t_curSum_] h) 180 [some (.ref a_t), some (vI v1), none, none, some (vI v4_), some (vJ v5), none, some (vI v7_), none, none] []) (hk_335 : ∀ (t_cur_ : Nat → Int) (t_curSum_ : Nat → Int) (v4_ : Int) (v7_ : Int), okA t_cur_ → okJ t_curSum_ → inZ v4_ → inI v7_ → k_335 t_cur_ t_curSum_ v4_ v7_ = some r → G l E b0 M_X11_tick (fun _ => True) (ZM E b0 (some (vI r.1)) (ov [a_t, (a_t + 8), (a_t + 9), (a_t + 10), (a_t + 24), (a_t + 25), (a_t + 26), (a_t + 27), (a_t + 28)] [.inr (11, fsX11 a_t t_thrown t_taped t_p t_fault t_baseLow t_baseHigh t_newBaseLow t_newBaseHigh t_from t_knots t_lines t_chosen t_undos t_redos t_aimedMany t_fits t_fitOf t_sights t_systems t_own t_cross t_curveLong t_wallFirst), IA E 100 t_speckLow, IA E 100 t_speckHigh, IA E 100 t_sourceHold, IA E 100 r.2.1, IA E 100 r.2.2.1, IA E 100 r.2.2.2.1, IA E 21 t_pushAt, JA E 6 r.2.2.2.2] h) n (inZ r.1 ∧ okA r.2.1 ∧ okA r.2.2.1 ∧ okA r.2.2.2.1 ∧ okJ r.2.2.2.2) 0 0) 0 0 n (ov [a_t, (a_t + 8), (a_t + 9), (a_t + 10), (a_t + 24), (a_t + 25), (a_t + 26), (a_t + 27), (a_t + 28)] [.inr (11, fsX11 a_t t_thrown t_taped t_p t_fault t_baseLow t_baseHigh t_newBaseLow t_newBaseHigh t_from t_knots t_lines t_chosen t_undos t_redos t_aimedMany t_fits t_fitOf t_sights t_systems t_own t_cross t_curveLong t_wallFirst), IA E 100 t_speckLow, IA E 100 t_speckHigh, IA E 100 t_sourceHold, IA E 100 t_cur_, IA E 100 t_was, IA E 100 t_feel, IA E 21 t_pushAt, JA E 6 t_curSum_] h) 335 [some (.ref a_t), some (vI v1), none, none, some (vI v4_), some (vJ v5), none, none, none, none] []) (hs : m_X11_tick_285 t_sourceHold t_cur t_pushAt t_curSum v1 v4 v7 s0 ag k_335 = some r) : G l E b0 M_X11_tick (fun _ => True) (ZM E b0 (some (vI r.1)) (ov [a_t, (a_t + 8), (a_t + 9), (a_t + 10), (a_t + 24), (a_t + 25), (a_t + 26), (a_t + 27), (a_t + 28)] [.inr (11, fsX11 a_t t_thrown t_taped t_p t_fault t_baseLow t_baseHigh t_newBaseLow t_newBaseHigh t_from t_knots t_lines t_chosen t_undos t_redos t_aimedMany t_fits t_fitOf t_sights t_systems t_own t_cross t_curveLong t_wallFirst), IA E 100 t_speckLow, IA E 100 t_speckHigh, IA E 100 t_sourceHold, IA E 100 r.2.1, IA E 100 r.2.2.1, IA E 100 r.2.2.2.1, IA E 21 t_pushAt, JA E 6 r.2.2.2.2] h) n (inZ r.1 ∧ okA r.2.1 ∧ okA r.2.2.1 ∧ okA r.2.2.2.1 ∧ okJ r.2.2.2.2) 0 0) 0 0 n (ov [a_t, (a_t + 8), (a_t + 9), (a_t + 10), (a_t + 24), (a_t + 25), (a_t + 26), (a_t + 27), (a_t + 28)] [.inr (11, fsX11 a_t t_thrown t_taped t_p t_fault t_baseLow t_baseHigh t_newBaseLow t_newBaseHigh t_from t_knots t_lines t_chosen t_undos t_redos t_aimedMany t_fits t_fitOf t_sights t_systems t_own t_cross t_curveLong t_wallFirst), IA E 100 t_speckLow, IA E 100 t_speckHigh, IA E 100 t_sourceHold, IA E 100 t_cur, IA E 100 t_was, IA E 100 t_feel, IA E 21 t_pushAt, JA E 6 t_curSum] h) 285 [some (.ref a_t), some (vI v1), none, none, some (vI v4), some (vJ v5), none, some (vI v7), none, none] [vI s0] := by
  rw [m_X11_tick_285] at hs
  refine g_istore e_X11_tick_285 st1_9 rfl ?_
  refine g_iload e_X11_tick_287 rfl ?_
  refine g_if_eq e_X11_tick_289 ok_s0 hs (fun c289 hs => ?_) (fun c289 hs => ?_)
  · exact g_mask [true, true, true, true, true, true, true, true, true, false] (g_X11_tick_329 ao ok_t_baseLow ok_t_baseHigh ok_t_speckLow ok_t_speckHigh ok_t_sourceHold ok_t_cur ok_t_was ok_t_feel ok_t_pushAt ok_t_curSum ok_v1 ok_v4 ok_v5 ok_v7 hag hk_335 hs)
  · refine g_aload_n e_X11_tick_292 rfl ?_
    refine g_get 0 35 ao rfl rfl fsX11_g35 fl_X11_81 e_X11_tick_293 ?_
    refine g_iload e_X11_tick_296 rfl ?_
    refine g_iload e_X11_tick_298 rfl ?_
    refine g_iadd e_X11_tick_300 ?_
    refine g_iconst e_X11_tick_301 ?_
    refine g_iast 4 ao rfl rfl ls_4 (Nat.le_of_ble_eq_true rfl) e_X11_tick_302 hs (fun hi27 hs => ?_)
    refine g_aload_n e_X11_tick_303 rfl ?_
    refine g_get 0 35 ao rfl rfl fsX11_g35 fl_X11_81 e_X11_tick_304 ?_
    refine g_iload e_X11_tick_307 rfl ?_
    refine g_iload e_X11_tick_309 rfl ?_
    refine g_isub e_X11_tick_311 ?_
    refine g_iconst e_X11_tick_312 ?_
    refine g_iast 4 ao rfl rfl ls_4 (Nat.le_of_ble_eq_true rfl) e_X11_tick_313 hs (fun hi28 hs => ?_)
    refine g_aload_n e_X11_tick_314 rfl ?_
    refine g_get 0 39 ao rfl rfl fsX11_g39 fl_X11_93 e_X11_tick_315 ?_
    refine g_iconst e_X11_tick_318 ?_
    refine g_dup2 e_X11_tick_319 rfl rfl ?_
    refine g_lald 8 ao rfl rfl (Nat.le_of_ble_eq_true rfl) e_X11_tick_320 hs (fun hi29 hs => ?_)
    refine g_ldc2 (a := 2) e_X11_tick_321 k_X11_329 ?_
    refine g_ladd e_X11_tick_324 ?_
    obtain ⟨hc30, hs⟩ := chk_elim hs
    refine g_last 8 ao rfl rfl ls_8 (Nat.le_of_ble_eq_true rfl) e_X11_tick_325 hs (fun hi31 hs => ?_)
    refine g_iconst e_X11_tick_326 ?_
    refine g_istore e_X11_tick_327 st1_4 rfl ?_
    exact g_mask [true, true, true, true, true, true, true, true, true, false] (g_X11_tick_329 ao ok_t_baseLow ok_t_baseHigh ok_t_speckLow ok_t_speckHigh ok_t_sourceHold (okA_up (okA_up ok_t_cur (by decide : inI 1)) (by decide : inI (-1))) ok_t_was ok_t_feel ok_t_pushAt (okJ_up ok_t_curSum hc30) ok_v1 (by decide : inZ 1) ok_v5 ok_v7 hag hk_335 hs)

noncomputable def m_X11_tick_180 (t_sourceHold : Nat → Int) (t_pushAt : Nat → Int) (v1 : Int) (k_335 : (Nat → Int) → (Nat → Int) → Int → Int → Option (Int × (Nat → Int) × (Nat → Int) × (Nat → Int) × (Nat → Int))) : Nat → (Nat → Int) → (Nat → Int) → Int → Int → Option (Int × (Nat → Int) × (Nat → Int) × (Nat → Int) × (Nat → Int))
  | 0, _, _, _, _ => none
  | F + 1, t_cur, t_curSum, v4, v7 => if 99 ≤ v7 then (k_335 t_cur t_curSum v4 v7) else (chk (inB v7 100) (if (t_sourceHold (Int.toNat v7)) = (-1) then (m_X11_tick_329 t_sourceHold t_cur t_pushAt t_curSum v1 v4 v7 (m_X11_tick_180 t_sourceHold t_pushAt v1 k_335 F) k_335) else (chk (inB v7 100) (if (t_cur (Int.toNat v7)) = 0 then (chk (inB (v7 - 1) 100) (if (t_cur (Int.toNat (v7 - 1))) = 0 then (chk (inB (v7 + 1) 100) (if (t_cur (Int.toNat (v7 + 1))) = 0 then ((m_X11_flaws t_cur).bind (fun y22 => if 28 < y22 then (m_X11_tick_329 t_sourceHold t_cur t_pushAt t_curSum v1 v4 v7 (m_X11_tick_180 t_sourceHold t_pushAt v1 k_335 F) k_335) else ((m_X11_feels t_cur t_pushAt v7 1 v1).bind (fun y23 => chk (inB v7 100) (if y23 ≤ (t_sourceHold (Int.toNat v7)) then (chk (inB v7 100) (chk (inI (-(t_sourceHold (Int.toNat v7)))) (if (-(t_sourceHold (Int.toNat v7))) ≤ y23 then (m_X11_tick_285 t_sourceHold t_cur t_pushAt t_curSum v1 v4 v7 0 (m_X11_tick_180 t_sourceHold t_pushAt v1 k_335 F) k_335) else (m_X11_tick_285 t_sourceHold t_cur t_pushAt t_curSum v1 v4 v7 (-1) (m_X11_tick_180 t_sourceHold t_pushAt v1 k_335 F) k_335)))) else (m_X11_tick_285 t_sourceHold t_cur t_pushAt t_curSum v1 v4 v7 1 (m_X11_tick_180 t_sourceHold t_pushAt v1 k_335 F) k_335)))))) else (m_X11_tick_329 t_sourceHold t_cur t_pushAt t_curSum v1 v4 v7 (m_X11_tick_180 t_sourceHold t_pushAt v1 k_335 F) k_335))) else (m_X11_tick_329 t_sourceHold t_cur t_pushAt t_curSum v1 v4 v7 (m_X11_tick_180 t_sourceHold t_pushAt v1 k_335 F) k_335))) else (m_X11_tick_329 t_sourceHold t_cur t_pushAt t_curSum v1 v4 v7 (m_X11_tick_180 t_sourceHold t_pushAt v1 k_335 F) k_335)))))

set_option maxRecDepth 10000 in
set_option maxHeartbeats 8000000 in
theorem g_X11_tick_180 {l : Launch} {E : EE} {b0 n : Nat} {h : AH} {a_t : Nat} {t_thrown t_taped t_p t_fault t_baseLow t_baseHigh t_newBaseLow t_newBaseHigh t_from t_knots t_lines t_chosen t_undos t_redos t_aimedMany t_fits t_fitOf t_sights t_systems t_own t_cross t_curveLong t_wallFirst v1 v5 : Int} {t_speckLow t_speckHigh t_sourceHold t_was t_feel t_pushAt : Nat → Int} {r : Int × (Nat → Int) × (Nat → Int) × (Nat → Int) × (Nat → Int)} {k_335 : (Nat → Int) → (Nat → Int) → Int → Int → Option (Int × (Nat → Int) × (Nat → Int) × (Nat → Int) × (Nat → Int))} (ao : AO b0 n [a_t, (a_t + 8), (a_t + 9), (a_t + 10), (a_t + 24), (a_t + 25), (a_t + 26), (a_t + 27), (a_t + 28)]) (ok_t_baseLow : inI t_baseLow) (ok_t_baseHigh : inI t_baseHigh) (ok_t_speckLow : okA t_speckLow) (ok_t_speckHigh : okA t_speckHigh) (ok_t_sourceHold : okA t_sourceHold) (ok_t_was : okA t_was) (ok_t_feel : okA t_feel) (ok_t_pushAt : okA t_pushAt) (ok_v1 : inI v1) (ok_v5 : inJ v5) (hk_335 : ∀ (t_cur_ : Nat → Int) (t_curSum_ : Nat → Int) (v4_ : Int) (v7_ : Int), okA t_cur_ → okJ t_curSum_ → inZ v4_ → inI v7_ → k_335 t_cur_ t_curSum_ v4_ v7_ = some r → G l E b0 M_X11_tick (fun _ => True) (ZM E b0 (some (vI r.1)) (ov [a_t, (a_t + 8), (a_t + 9), (a_t + 10), (a_t + 24), (a_t + 25), (a_t + 26), (a_t + 27), (a_t + 28)] [.inr (11, fsX11 a_t t_thrown t_taped t_p t_fault t_baseLow t_baseHigh t_newBaseLow t_newBaseHigh t_from t_knots t_lines t_chosen t_undos t_redos t_aimedMany t_fits t_fitOf t_sights t_systems t_own t_cross t_curveLong t_wallFirst), IA E 100 t_speckLow, IA E 100 t_speckHigh, IA E 100 t_sourceHold, IA E 100 r.2.1, IA E 100 r.2.2.1, IA E 100 r.2.2.2.1, IA E 21 t_pushAt, JA E 6 r.2.2.2.2] h) n (inZ r.1 ∧ okA r.2.1 ∧ okA r.2.2.1 ∧ okA r.2.2.2.1 ∧ okJ r.2.2.2.2) 0 0) 0 0 n (ov [a_t, (a_t + 8), (a_t + 9), (a_t + 10), (a_t + 24), (a_t + 25), (a_t + 26), (a_t + 27), (a_t + 28)] [.inr (11, fsX11 a_t t_thrown t_taped t_p t_fault t_baseLow t_baseHigh t_newBaseLow t_newBaseHigh t_from t_knots t_lines t_chosen t_undos t_redos t_aimedMany t_fits t_fitOf t_sights t_systems t_own t_cross t_curveLong t_wallFirst), IA E 100 t_speckLow, IA E 100 t_speckHigh, IA E 100 t_sourceHold, IA E 100 t_cur_, IA E 100 t_was, IA E 100 t_feel, IA E 21 t_pushAt, JA E 6 t_curSum_] h) 335 [some (.ref a_t), some (vI v1), none, none, some (vI v4_), some (vJ v5), none, none, none, none] []) :
    ∀ (F : Nat) (t_cur : Nat → Int) (t_curSum : Nat → Int) (v4 : Int) (v7 : Int), okA t_cur → okJ t_curSum → inZ v4 → inI v7 → m_X11_tick_180 t_sourceHold t_pushAt v1 k_335 F t_cur t_curSum v4 v7 = some r → G l E b0 M_X11_tick (fun _ => True) (ZM E b0 (some (vI r.1)) (ov [a_t, (a_t + 8), (a_t + 9), (a_t + 10), (a_t + 24), (a_t + 25), (a_t + 26), (a_t + 27), (a_t + 28)] [.inr (11, fsX11 a_t t_thrown t_taped t_p t_fault t_baseLow t_baseHigh t_newBaseLow t_newBaseHigh t_from t_knots t_lines t_chosen t_undos t_redos t_aimedMany t_fits t_fitOf t_sights t_systems t_own t_cross t_curveLong t_wallFirst), IA E 100 t_speckLow, IA E 100 t_speckHigh, IA E 100 t_sourceHold, IA E 100 r.2.1, IA E 100 r.2.2.1, IA E 100 r.2.2.2.1, IA E 21 t_pushAt, JA E 6 r.2.2.2.2] h) n (inZ r.1 ∧ okA r.2.1 ∧ okA r.2.2.1 ∧ okA r.2.2.2.1 ∧ okJ r.2.2.2.2) 0 0) 0 0 n (ov [a_t, (a_t + 8), (a_t + 9), (a_t + 10), (a_t + 24), (a_t + 25), (a_t + 26), (a_t + 27), (a_t + 28)] [.inr (11, fsX11 a_t t_thrown t_taped t_p t_fault t_baseLow t_baseHigh t_newBaseLow t_newBaseHigh t_from t_knots t_lines t_chosen t_undos t_redos t_aimedMany t_fits t_fitOf t_sights t_systems t_own t_cross t_curveLong t_wallFirst), IA E 100 t_speckLow, IA E 100 t_speckHigh, IA E 100 t_sourceHold, IA E 100 t_cur, IA E 100 t_was, IA E 100 t_feel, IA E 21 t_pushAt, JA E 6 t_curSum] h) 180 [some (.ref a_t), some (vI v1), none, none, some (vI v4), some (vJ v5), none, some (vI v7), none, none] [] := by
  intro F
  induction F with
  | zero =>
    intro t_cur t_curSum v4 v7 ok_t_cur ok_t_curSum ok_v4 ok_v7 hs
    rw [m_X11_tick_180] at hs
    cases hs
  | succ F ih =>
    intro t_cur t_curSum v4 v7 ok_t_cur ok_t_curSum ok_v4 ok_v7 hs
    rw [m_X11_tick_180] at hs
    refine g_iload e_X11_tick_180 rfl ?_
    refine g_bipush e_X11_tick_182 bp_99 ?_
    refine g_icmp_ge e_X11_tick_184 ok_v7 (by decide : inI 99) hs (fun c184 hs => ?_) (fun c184 hs => ?_)
    · exact g_mask [true, true, true, true, true, true, true, false, true, true] (hk_335 _ _ _ _ ok_t_cur ok_t_curSum ok_v4 ok_v7 hs)
    · refine g_aload_n e_X11_tick_187 rfl ?_
      refine g_get 0 13 ao rfl rfl fsX11_g13 fl_X11_38 e_X11_tick_188 ?_
      refine g_iload e_X11_tick_191 rfl ?_
      refine g_iald 3 ao rfl rfl (Nat.le_of_ble_eq_true rfl) e_X11_tick_193 hs (fun hi17 hs => ?_)
      refine g_iconst e_X11_tick_194 ?_
      refine g_icmp_eq e_X11_tick_195 (ok_t_sourceHold _) (by decide : inI (-1)) hs (fun c195 hs => ?_) (fun c195 hs => ?_)
      · exact g_X11_tick_329 ao ok_t_baseLow ok_t_baseHigh ok_t_speckLow ok_t_speckHigh ok_t_sourceHold ok_t_cur ok_t_was ok_t_feel ok_t_pushAt ok_t_curSum ok_v1 ok_v4 ok_v5 ok_v7 ih hk_335 hs
      · refine g_aload_n e_X11_tick_198 rfl ?_
        refine g_get 0 35 ao rfl rfl fsX11_g35 fl_X11_81 e_X11_tick_199 ?_
        refine g_iload e_X11_tick_202 rfl ?_
        refine g_iald 4 ao rfl rfl (Nat.le_of_ble_eq_true rfl) e_X11_tick_204 hs (fun hi19 hs => ?_)
        refine g_if_ne e_X11_tick_205 (ok_t_cur _) hs (fun c205 hs => ?_) (fun c205 hs => ?_)
        · refine g_aload_n e_X11_tick_208 rfl ?_
          refine g_get 0 35 ao rfl rfl fsX11_g35 fl_X11_81 e_X11_tick_209 ?_
          refine g_iload e_X11_tick_212 rfl ?_
          refine g_iconst e_X11_tick_214 ?_
          refine g_isub e_X11_tick_215 ?_
          refine g_iald 4 ao rfl rfl (Nat.le_of_ble_eq_true rfl) e_X11_tick_216 hs (fun hi20 hs => ?_)
          refine g_if_ne e_X11_tick_217 (ok_t_cur _) hs (fun c217 hs => ?_) (fun c217 hs => ?_)
          · refine g_aload_n e_X11_tick_220 rfl ?_
            refine g_get 0 35 ao rfl rfl fsX11_g35 fl_X11_81 e_X11_tick_221 ?_
            refine g_iload e_X11_tick_224 rfl ?_
            refine g_iconst e_X11_tick_226 ?_
            refine g_iadd e_X11_tick_227 ?_
            refine g_iald 4 ao rfl rfl (Nat.le_of_ble_eq_true rfl) e_X11_tick_228 hs (fun hi21 hs => ?_)
            refine g_if_ne e_X11_tick_229 (ok_t_cur _) hs (fun c229 hs => ?_) (fun c229 hs => ?_)
            · refine g_aload_n e_X11_tick_232 rfl ?_
              obtain ⟨y22, hy22, hs⟩ := bind_elim hs
              refine g_callVr [] cv_X11_337 ⟨rfl, rfl, Nat.le_of_ble_eq_true rfl, Nat.le_of_ble_eq_true rfl⟩ (ct_X11_flaws (a_t := a_t) (AO_call [0, 4] ao (by decide) rfl) (FA_call [0, 4] ao.1 rfl rfl) ok_t_cur hy22) e_X11_tick_233 (ao.2 0 _ rfl) (ov_get 0 ao.1 rfl rfl) rfl rfl rfl (Nat.le_of_ble_eq_true rfl) ⟨Nat.le_refl _, Nat.le_refl _⟩ (fun Py22 => ?_)
              refine g_bipush e_X11_tick_236 bp_28 ?_
              refine g_icmp_gt e_X11_tick_238 Py22 (by decide : inI 28) hs (fun c238 hs => ?_) (fun c238 hs => ?_)
              · exact g_X11_tick_329 ao ok_t_baseLow ok_t_baseHigh ok_t_speckLow ok_t_speckHigh ok_t_sourceHold ok_t_cur ok_t_was ok_t_feel ok_t_pushAt ok_t_curSum ok_v1 ok_v4 ok_v5 ok_v7 ih hk_335 hs
              · refine g_aload_n e_X11_tick_241 rfl ?_
                refine g_iload e_X11_tick_242 rfl ?_
                refine g_iconst e_X11_tick_244 ?_
                refine g_iload_n e_X11_tick_245 rfl ?_
                obtain ⟨y23, hy23, hs⟩ := bind_elim hs
                refine g_callVr [vI v7, vI 1, vI v1] cv_X11_331 ⟨rfl, rfl, Nat.le_of_ble_eq_true rfl, Nat.le_of_ble_eq_true rfl⟩ (ct_X11_feels (a_t := a_t) (AO_call [0, 4, 7] ao (by decide) rfl) (FA_call [0, 4, 7] ao.1 rfl rfl) ok_t_cur ok_t_pushAt ok_v7 (by decide : inI 1) ok_v1 hy23) e_X11_tick_246 (ao.2 0 _ rfl) (ov_get 0 ao.1 rfl rfl) rfl rfl rfl (Nat.le_of_ble_eq_true rfl) ⟨Nat.le_refl _, Nat.le_refl _⟩ (fun Py23 => ?_)
                refine g_istore e_X11_tick_249 st1_8 rfl ?_
                refine g_iload e_X11_tick_251 rfl ?_
                refine g_aload_n e_X11_tick_253 rfl ?_
                refine g_get 0 13 ao rfl rfl fsX11_g13 fl_X11_38 e_X11_tick_254 ?_
                refine g_iload e_X11_tick_257 rfl ?_
                refine g_iald 3 ao rfl rfl (Nat.le_of_ble_eq_true rfl) e_X11_tick_259 hs (fun hi24 hs => ?_)
                refine g_icmp_le e_X11_tick_260 Py23 (ok_t_sourceHold _) hs (fun c260 hs => ?_) (fun c260 hs => ?_)
                · refine g_iload e_X11_tick_267 rfl ?_
                  refine g_aload_n e_X11_tick_269 rfl ?_
                  refine g_get 0 13 ao rfl rfl fsX11_g13 fl_X11_38 e_X11_tick_270 ?_
                  refine g_iload e_X11_tick_273 rfl ?_
                  refine g_iald 3 ao rfl rfl (Nat.le_of_ble_eq_true rfl) e_X11_tick_275 hs (fun hi25 hs => ?_)
                  refine g_ineg e_X11_tick_276 ?_
                  obtain ⟨hc26, hs⟩ := chk_elim hs
                  refine g_icmp_ge e_X11_tick_277 Py23 hc26 hs (fun c277 hs => ?_) (fun c277 hs => ?_)
                  · refine g_iconst e_X11_tick_284 ?_
                    exact g_mask [true, true, true, true, true, true, true, true, false, true] (g_X11_tick_285 ao ok_t_baseLow ok_t_baseHigh ok_t_speckLow ok_t_speckHigh ok_t_sourceHold ok_t_cur ok_t_was ok_t_feel ok_t_pushAt ok_t_curSum ok_v1 ok_v4 ok_v5 ok_v7 (by decide : inI 0) ih hk_335 hs)
                  · refine g_iconst e_X11_tick_280 ?_
                    refine g_goto e_X11_tick_281 ?_
                    exact g_mask [true, true, true, true, true, true, true, true, false, true] (g_X11_tick_285 ao ok_t_baseLow ok_t_baseHigh ok_t_speckLow ok_t_speckHigh ok_t_sourceHold ok_t_cur ok_t_was ok_t_feel ok_t_pushAt ok_t_curSum ok_v1 ok_v4 ok_v5 ok_v7 (by decide : inI (-1)) ih hk_335 hs)
                · refine g_iconst e_X11_tick_263 ?_
                  refine g_goto e_X11_tick_264 ?_
                  exact g_mask [true, true, true, true, true, true, true, true, false, true] (g_X11_tick_285 ao ok_t_baseLow ok_t_baseHigh ok_t_speckLow ok_t_speckHigh ok_t_sourceHold ok_t_cur ok_t_was ok_t_feel ok_t_pushAt ok_t_curSum ok_v1 ok_v4 ok_v5 ok_v7 (by decide : inI 1) ih hk_335 hs)
            · exact g_X11_tick_329 ao ok_t_baseLow ok_t_baseHigh ok_t_speckLow ok_t_speckHigh ok_t_sourceHold ok_t_cur ok_t_was ok_t_feel ok_t_pushAt ok_t_curSum ok_v1 ok_v4 ok_v5 ok_v7 ih hk_335 hs
          · exact g_X11_tick_329 ao ok_t_baseLow ok_t_baseHigh ok_t_speckLow ok_t_speckHigh ok_t_sourceHold ok_t_cur ok_t_was ok_t_feel ok_t_pushAt ok_t_curSum ok_v1 ok_v4 ok_v5 ok_v7 ih hk_335 hs
        · exact g_X11_tick_329 ao ok_t_baseLow ok_t_baseHigh ok_t_speckLow ok_t_speckHigh ok_t_sourceHold ok_t_cur ok_t_was ok_t_feel ok_t_pushAt ok_t_curSum ok_v1 ok_v4 ok_v5 ok_v7 ih hk_335 hs

noncomputable def m_X11_tick_335 (t_cur : Nat → Int) (t_was : Nat → Int) (t_feel : Nat → Int) (t_curSum : Nat → Int) (v1 : Int) (v4 : Int) (v5 : Int) : Option (Int × (Nat → Int) × (Nat → Int) × (Nat → Int) × (Nat → Int)) :=
  chk (inB 1 6) (chk (inB 0 6) (chk (inJ ((t_curSum (Int.toNat 1)) + (v1 * ((t_curSum (Int.toNat 0)) - v5)))) (chk (inB 1 6) (some (v4, t_cur, t_was, t_feel, up t_curSum (Int.toNat 1) ((t_curSum (Int.toNat 1)) + (v1 * ((t_curSum (Int.toNat 0)) - v5))))))))

set_option maxRecDepth 10000 in
set_option maxHeartbeats 8000000 in
theorem g_X11_tick_335 {l : Launch} {E : EE} {b0 n : Nat} {h : AH} {a_t : Nat} {t_thrown t_taped t_p t_fault t_baseLow t_baseHigh t_newBaseLow t_newBaseHigh t_from t_knots t_lines t_chosen t_undos t_redos t_aimedMany t_fits t_fitOf t_sights t_systems t_own t_cross t_curveLong t_wallFirst v1 v4 v5 : Int} {t_speckLow t_speckHigh t_sourceHold t_cur t_was t_feel t_pushAt t_curSum : Nat → Int} {r : Int × (Nat → Int) × (Nat → Int) × (Nat → Int) × (Nat → Int)} (ao : AO b0 n [a_t, (a_t + 8), (a_t + 9), (a_t + 10), (a_t + 24), (a_t + 25), (a_t + 26), (a_t + 27), (a_t + 28)]) (ok_t_baseLow : inI t_baseLow) (ok_t_baseHigh : inI t_baseHigh) (ok_t_speckLow : okA t_speckLow) (ok_t_speckHigh : okA t_speckHigh) (ok_t_sourceHold : okA t_sourceHold) (ok_t_cur : okA t_cur) (ok_t_was : okA t_was) (ok_t_feel : okA t_feel) (ok_t_pushAt : okA t_pushAt) (ok_t_curSum : okJ t_curSum) (ok_v1 : inI v1) (ok_v4 : inZ v4) (ok_v5 : inJ v5) (hs : m_X11_tick_335 t_cur t_was t_feel t_curSum v1 v4 v5 = some r) : G l E b0 M_X11_tick (fun _ => True) (ZM E b0 (some (vI r.1)) (ov [a_t, (a_t + 8), (a_t + 9), (a_t + 10), (a_t + 24), (a_t + 25), (a_t + 26), (a_t + 27), (a_t + 28)] [.inr (11, fsX11 a_t t_thrown t_taped t_p t_fault t_baseLow t_baseHigh t_newBaseLow t_newBaseHigh t_from t_knots t_lines t_chosen t_undos t_redos t_aimedMany t_fits t_fitOf t_sights t_systems t_own t_cross t_curveLong t_wallFirst), IA E 100 t_speckLow, IA E 100 t_speckHigh, IA E 100 t_sourceHold, IA E 100 r.2.1, IA E 100 r.2.2.1, IA E 100 r.2.2.2.1, IA E 21 t_pushAt, JA E 6 r.2.2.2.2] h) n (inZ r.1 ∧ okA r.2.1 ∧ okA r.2.2.1 ∧ okA r.2.2.2.1 ∧ okJ r.2.2.2.2) 0 0) 0 0 n (ov [a_t, (a_t + 8), (a_t + 9), (a_t + 10), (a_t + 24), (a_t + 25), (a_t + 26), (a_t + 27), (a_t + 28)] [.inr (11, fsX11 a_t t_thrown t_taped t_p t_fault t_baseLow t_baseHigh t_newBaseLow t_newBaseHigh t_from t_knots t_lines t_chosen t_undos t_redos t_aimedMany t_fits t_fitOf t_sights t_systems t_own t_cross t_curveLong t_wallFirst), IA E 100 t_speckLow, IA E 100 t_speckHigh, IA E 100 t_sourceHold, IA E 100 t_cur, IA E 100 t_was, IA E 100 t_feel, IA E 21 t_pushAt, JA E 6 t_curSum] h) 335 [some (.ref a_t), some (vI v1), none, none, some (vI v4), some (vJ v5), none, none, none, none] [] := by
  rw [m_X11_tick_335] at hs
  refine g_aload_n e_X11_tick_335 rfl ?_
  refine g_get 0 39 ao rfl rfl fsX11_g39 fl_X11_93 e_X11_tick_336 ?_
  refine g_iconst e_X11_tick_339 ?_
  refine g_dup2 e_X11_tick_340 rfl rfl ?_
  refine g_lald 8 ao rfl rfl (Nat.le_of_ble_eq_true rfl) e_X11_tick_341 hs (fun hi32 hs => ?_)
  refine g_iload_n e_X11_tick_342 rfl ?_
  refine g_i2l e_X11_tick_343 ok_v1 ?_
  refine g_aload_n e_X11_tick_344 rfl ?_
  refine g_get 0 39 ao rfl rfl fsX11_g39 fl_X11_93 e_X11_tick_345 ?_
  refine g_iconst e_X11_tick_348 ?_
  refine g_lald 8 ao rfl rfl (Nat.le_of_ble_eq_true rfl) e_X11_tick_349 hs (fun hi33 hs => ?_)
  refine g_lload e_X11_tick_350 rfl ?_
  refine g_lsub e_X11_tick_352 ?_
  refine g_lmul e_X11_tick_353 ?_
  refine g_ladd e_X11_tick_354 ?_
  obtain ⟨hc34, hs⟩ := chk_elim hs
  refine g_last 8 ao rfl rfl ls_8 (Nat.le_of_ble_eq_true rfl) e_X11_tick_355 hs (fun hi35 hs => ?_)
  refine g_iload e_X11_tick_356 rfl ?_
  obtain rfl := Option.some.inj hs
  exact g_zret rfl ok_v4 ⟨ok_v4, ok_t_cur, ok_t_was, ok_t_feel, (okJ_up ok_t_curSum hc34)⟩ e_X11_tick_358

noncomputable def m_X11_tick_177 (t_sourceHold : Nat → Int) (t_cur : Nat → Int) (t_was : Nat → Int) (t_feel : Nat → Int) (t_pushAt : Nat → Int) (t_curSum : Nat → Int) (v1 : Int) (v4 : Int) (v5 : Int) : Option (Int × (Nat → Int) × (Nat → Int) × (Nat → Int) × (Nat → Int)) :=
  m_X11_tick_180 t_sourceHold t_pushAt v1 (fun t_cur' t_curSum' v4' v7' => m_X11_tick_335 t_cur' t_was t_feel t_curSum' v1 v4' v5) FU t_cur t_curSum v4 1

set_option maxRecDepth 10000 in
set_option maxHeartbeats 8000000 in
theorem g_X11_tick_177 {l : Launch} {E : EE} {b0 n : Nat} {h : AH} {a_t : Nat} {t_thrown t_taped t_p t_fault t_baseLow t_baseHigh t_newBaseLow t_newBaseHigh t_from t_knots t_lines t_chosen t_undos t_redos t_aimedMany t_fits t_fitOf t_sights t_systems t_own t_cross t_curveLong t_wallFirst v1 v4 v5 : Int} {t_speckLow t_speckHigh t_sourceHold t_cur t_was t_feel t_pushAt t_curSum : Nat → Int} {r : Int × (Nat → Int) × (Nat → Int) × (Nat → Int) × (Nat → Int)} (ao : AO b0 n [a_t, (a_t + 8), (a_t + 9), (a_t + 10), (a_t + 24), (a_t + 25), (a_t + 26), (a_t + 27), (a_t + 28)]) (ok_t_baseLow : inI t_baseLow) (ok_t_baseHigh : inI t_baseHigh) (ok_t_speckLow : okA t_speckLow) (ok_t_speckHigh : okA t_speckHigh) (ok_t_sourceHold : okA t_sourceHold) (ok_t_cur : okA t_cur) (ok_t_was : okA t_was) (ok_t_feel : okA t_feel) (ok_t_pushAt : okA t_pushAt) (ok_t_curSum : okJ t_curSum) (ok_v1 : inI v1) (ok_v4 : inZ v4) (ok_v5 : inJ v5) (hs : m_X11_tick_177 t_sourceHold t_cur t_was t_feel t_pushAt t_curSum v1 v4 v5 = some r) : G l E b0 M_X11_tick (fun _ => True) (ZM E b0 (some (vI r.1)) (ov [a_t, (a_t + 8), (a_t + 9), (a_t + 10), (a_t + 24), (a_t + 25), (a_t + 26), (a_t + 27), (a_t + 28)] [.inr (11, fsX11 a_t t_thrown t_taped t_p t_fault t_baseLow t_baseHigh t_newBaseLow t_newBaseHigh t_from t_knots t_lines t_chosen t_undos t_redos t_aimedMany t_fits t_fitOf t_sights t_systems t_own t_cross t_curveLong t_wallFirst), IA E 100 t_speckLow, IA E 100 t_speckHigh, IA E 100 t_sourceHold, IA E 100 r.2.1, IA E 100 r.2.2.1, IA E 100 r.2.2.2.1, IA E 21 t_pushAt, JA E 6 r.2.2.2.2] h) n (inZ r.1 ∧ okA r.2.1 ∧ okA r.2.2.1 ∧ okA r.2.2.2.1 ∧ okJ r.2.2.2.2) 0 0) 0 0 n (ov [a_t, (a_t + 8), (a_t + 9), (a_t + 10), (a_t + 24), (a_t + 25), (a_t + 26), (a_t + 27), (a_t + 28)] [.inr (11, fsX11 a_t t_thrown t_taped t_p t_fault t_baseLow t_baseHigh t_newBaseLow t_newBaseHigh t_from t_knots t_lines t_chosen t_undos t_redos t_aimedMany t_fits t_fitOf t_sights t_systems t_own t_cross t_curveLong t_wallFirst), IA E 100 t_speckLow, IA E 100 t_speckHigh, IA E 100 t_sourceHold, IA E 100 t_cur, IA E 100 t_was, IA E 100 t_feel, IA E 21 t_pushAt, JA E 6 t_curSum] h) 177 [some (.ref a_t), some (vI v1), none, none, some (vI v4), some (vJ v5), none, none, none, none] [] := by
  rw [m_X11_tick_177] at hs
  refine g_iconst e_X11_tick_177 ?_
  refine g_istore e_X11_tick_178 st1_7 rfl ?_
  exact g_X11_tick_180 ao ok_t_baseLow ok_t_baseHigh ok_t_speckLow ok_t_speckHigh ok_t_sourceHold ok_t_was ok_t_feel ok_t_pushAt ok_v1 ok_v5 (hk_335 := by
      intro t_cur' t_curSum' v4' v7' ok_t_cur' ok_t_curSum' ok_v4' ok_v7' hs
      exact g_X11_tick_335 ao ok_t_baseLow ok_t_baseHigh ok_t_speckLow ok_t_speckHigh ok_t_sourceHold ok_t_cur' ok_t_was ok_t_feel ok_t_pushAt ok_t_curSum' ok_v1 ok_v4' ok_v5 hs) FU _ _ _ _ ok_t_cur ok_t_curSum ok_v4 (by decide : inI 1) hs

noncomputable def m_X11_tick_76 (t_baseLow : Int) (t_baseHigh : Int) (t_speckLow : Nat → Int) (t_speckHigh : Nat → Int) (t_sourceHold : Nat → Int) (t_cur : Nat → Int) (t_was : Nat → Int) (t_feel : Nat → Int) (t_pushAt : Nat → Int) (t_curSum : Nat → Int) (v1 : Int) (v2 : Int) (v3 : Int) (v4 : Int) (v5 : Int) : Option (Int × (Nat → Int) × (Nat → Int) × (Nat → Int) × (Nat → Int)) :=
  m_X11_tick_79 t_baseLow t_baseHigh t_speckLow t_speckHigh t_feel v2 v3 (fun t_cur' t_was' t_curSum' v4' v7' => m_X11_tick_177 t_sourceHold t_cur' t_was' t_feel t_pushAt t_curSum' v1 v4' v5) FU t_cur t_was t_curSum v4 0

set_option maxRecDepth 10000 in
set_option maxHeartbeats 8000000 in
theorem g_X11_tick_76 {l : Launch} {E : EE} {b0 n : Nat} {h : AH} {a_t : Nat} {t_thrown t_taped t_p t_fault t_baseLow t_baseHigh t_newBaseLow t_newBaseHigh t_from t_knots t_lines t_chosen t_undos t_redos t_aimedMany t_fits t_fitOf t_sights t_systems t_own t_cross t_curveLong t_wallFirst v1 v2 v3 v4 v5 : Int} {t_speckLow t_speckHigh t_sourceHold t_cur t_was t_feel t_pushAt t_curSum : Nat → Int} {r : Int × (Nat → Int) × (Nat → Int) × (Nat → Int) × (Nat → Int)} (ao : AO b0 n [a_t, (a_t + 8), (a_t + 9), (a_t + 10), (a_t + 24), (a_t + 25), (a_t + 26), (a_t + 27), (a_t + 28)]) (ok_t_baseLow : inI t_baseLow) (ok_t_baseHigh : inI t_baseHigh) (ok_t_speckLow : okA t_speckLow) (ok_t_speckHigh : okA t_speckHigh) (ok_t_sourceHold : okA t_sourceHold) (ok_t_cur : okA t_cur) (ok_t_was : okA t_was) (ok_t_feel : okA t_feel) (ok_t_pushAt : okA t_pushAt) (ok_t_curSum : okJ t_curSum) (ok_v1 : inI v1) (ok_v2 : inI v2) (ok_v3 : inI v3) (ok_v4 : inZ v4) (ok_v5 : inJ v5) (hs : m_X11_tick_76 t_baseLow t_baseHigh t_speckLow t_speckHigh t_sourceHold t_cur t_was t_feel t_pushAt t_curSum v1 v2 v3 v4 v5 = some r) : G l E b0 M_X11_tick (fun _ => True) (ZM E b0 (some (vI r.1)) (ov [a_t, (a_t + 8), (a_t + 9), (a_t + 10), (a_t + 24), (a_t + 25), (a_t + 26), (a_t + 27), (a_t + 28)] [.inr (11, fsX11 a_t t_thrown t_taped t_p t_fault t_baseLow t_baseHigh t_newBaseLow t_newBaseHigh t_from t_knots t_lines t_chosen t_undos t_redos t_aimedMany t_fits t_fitOf t_sights t_systems t_own t_cross t_curveLong t_wallFirst), IA E 100 t_speckLow, IA E 100 t_speckHigh, IA E 100 t_sourceHold, IA E 100 r.2.1, IA E 100 r.2.2.1, IA E 100 r.2.2.2.1, IA E 21 t_pushAt, JA E 6 r.2.2.2.2] h) n (inZ r.1 ∧ okA r.2.1 ∧ okA r.2.2.1 ∧ okA r.2.2.2.1 ∧ okJ r.2.2.2.2) 0 0) 0 0 n (ov [a_t, (a_t + 8), (a_t + 9), (a_t + 10), (a_t + 24), (a_t + 25), (a_t + 26), (a_t + 27), (a_t + 28)] [.inr (11, fsX11 a_t t_thrown t_taped t_p t_fault t_baseLow t_baseHigh t_newBaseLow t_newBaseHigh t_from t_knots t_lines t_chosen t_undos t_redos t_aimedMany t_fits t_fitOf t_sights t_systems t_own t_cross t_curveLong t_wallFirst), IA E 100 t_speckLow, IA E 100 t_speckHigh, IA E 100 t_sourceHold, IA E 100 t_cur, IA E 100 t_was, IA E 100 t_feel, IA E 21 t_pushAt, JA E 6 t_curSum] h) 76 [some (.ref a_t), some (vI v1), some (vI v2), some (vI v3), some (vI v4), some (vJ v5), none, none, none, none] [] := by
  rw [m_X11_tick_76] at hs
  refine g_iconst e_X11_tick_76 ?_
  refine g_istore e_X11_tick_77 st1_7 rfl ?_
  exact g_X11_tick_79 ao ok_t_baseLow ok_t_baseHigh ok_t_speckLow ok_t_speckHigh ok_t_sourceHold ok_t_feel ok_t_pushAt ok_v1 ok_v2 ok_v3 ok_v5 (hk_177 := by
      intro t_cur' t_was' t_curSum' v4' v7' ok_t_cur' ok_t_was' ok_t_curSum' ok_v4' ok_v7' hs
      exact g_X11_tick_177 ao ok_t_baseLow ok_t_baseHigh ok_t_speckLow ok_t_speckHigh ok_t_sourceHold ok_t_cur' ok_t_was' ok_t_feel ok_t_pushAt ok_t_curSum' ok_v1 ok_v4' ok_v5 hs) FU _ _ _ _ _ ok_t_cur ok_t_was ok_t_curSum ok_v4 (by decide : inI 0) hs

noncomputable def m_X11_tick_0 (t_baseLow : Int) (t_baseHigh : Int) (t_speckLow : Nat → Int) (t_speckHigh : Nat → Int) (t_sourceHold : Nat → Int) (t_cur : Nat → Int) (t_was : Nat → Int) (t_feel : Nat → Int) (t_pushAt : Nat → Int) (t_curSum : Nat → Int) (v1 : Int) (v2 : Int) (v3 : Int) : Option (Int × (Nat → Int) × (Nat → Int) × (Nat → Int) × (Nat → Int)) :=
  chk (inB 0 6) (m_X11_tick_14 t_cur t_pushAt v1 (fun t_was' t_feel' v7' => m_X11_tick_76 t_baseLow t_baseHigh t_speckLow t_speckHigh t_sourceHold t_cur t_was' t_feel' t_pushAt t_curSum v1 v2 v3 0 (t_curSum (Int.toNat 0))) FU t_was t_feel 0)

set_option maxRecDepth 10000 in
set_option maxHeartbeats 8000000 in
theorem g_X11_tick_0 {l : Launch} {E : EE} {b0 n : Nat} {h : AH} {a_t : Nat} {t_thrown t_taped t_p t_fault t_baseLow t_baseHigh t_newBaseLow t_newBaseHigh t_from t_knots t_lines t_chosen t_undos t_redos t_aimedMany t_fits t_fitOf t_sights t_systems t_own t_cross t_curveLong t_wallFirst v1 v2 v3 : Int} {t_speckLow t_speckHigh t_sourceHold t_cur t_was t_feel t_pushAt t_curSum : Nat → Int} {r : Int × (Nat → Int) × (Nat → Int) × (Nat → Int) × (Nat → Int)} (ao : AO b0 n [a_t, (a_t + 8), (a_t + 9), (a_t + 10), (a_t + 24), (a_t + 25), (a_t + 26), (a_t + 27), (a_t + 28)]) (ok_t_baseLow : inI t_baseLow) (ok_t_baseHigh : inI t_baseHigh) (ok_t_speckLow : okA t_speckLow) (ok_t_speckHigh : okA t_speckHigh) (ok_t_sourceHold : okA t_sourceHold) (ok_t_cur : okA t_cur) (ok_t_was : okA t_was) (ok_t_feel : okA t_feel) (ok_t_pushAt : okA t_pushAt) (ok_t_curSum : okJ t_curSum) (ok_v1 : inI v1) (ok_v2 : inI v2) (ok_v3 : inI v3) (hs : m_X11_tick_0 t_baseLow t_baseHigh t_speckLow t_speckHigh t_sourceHold t_cur t_was t_feel t_pushAt t_curSum v1 v2 v3 = some r) : G l E b0 M_X11_tick (fun _ => True) (ZM E b0 (some (vI r.1)) (ov [a_t, (a_t + 8), (a_t + 9), (a_t + 10), (a_t + 24), (a_t + 25), (a_t + 26), (a_t + 27), (a_t + 28)] [.inr (11, fsX11 a_t t_thrown t_taped t_p t_fault t_baseLow t_baseHigh t_newBaseLow t_newBaseHigh t_from t_knots t_lines t_chosen t_undos t_redos t_aimedMany t_fits t_fitOf t_sights t_systems t_own t_cross t_curveLong t_wallFirst), IA E 100 t_speckLow, IA E 100 t_speckHigh, IA E 100 t_sourceHold, IA E 100 r.2.1, IA E 100 r.2.2.1, IA E 100 r.2.2.2.1, IA E 21 t_pushAt, JA E 6 r.2.2.2.2] h) n (inZ r.1 ∧ okA r.2.1 ∧ okA r.2.2.1 ∧ okA r.2.2.2.1 ∧ okJ r.2.2.2.2) 0 0) 0 0 n (ov [a_t, (a_t + 8), (a_t + 9), (a_t + 10), (a_t + 24), (a_t + 25), (a_t + 26), (a_t + 27), (a_t + 28)] [.inr (11, fsX11 a_t t_thrown t_taped t_p t_fault t_baseLow t_baseHigh t_newBaseLow t_newBaseHigh t_from t_knots t_lines t_chosen t_undos t_redos t_aimedMany t_fits t_fitOf t_sights t_systems t_own t_cross t_curveLong t_wallFirst), IA E 100 t_speckLow, IA E 100 t_speckHigh, IA E 100 t_sourceHold, IA E 100 t_cur, IA E 100 t_was, IA E 100 t_feel, IA E 21 t_pushAt, JA E 6 t_curSum] h) 0 [some (.ref a_t), some (vI v1), some (vI v2), some (vI v3), none, none, none, none, none, none] [] := by
  rw [m_X11_tick_0] at hs
  refine g_iconst e_X11_tick_0 ?_
  refine g_istore e_X11_tick_1 st1_4 rfl ?_
  refine g_aload_n e_X11_tick_3 rfl ?_
  refine g_get 0 39 ao rfl rfl fsX11_g39 fl_X11_93 e_X11_tick_4 ?_
  refine g_iconst e_X11_tick_7 ?_
  refine g_lald 8 ao rfl rfl (Nat.le_of_ble_eq_true rfl) e_X11_tick_8 hs (fun hi1 hs => ?_)
  refine g_lstore e_X11_tick_9 st2_5 rfl ?_
  refine g_iconst e_X11_tick_11 ?_
  refine g_istore e_X11_tick_12 st1_7 rfl ?_
  exact g_X11_tick_14 ao ok_t_baseLow ok_t_baseHigh ok_t_speckLow ok_t_speckHigh ok_t_sourceHold ok_t_cur ok_t_pushAt ok_t_curSum ok_v1 ok_v2 ok_v3 (by decide : inZ 0) (ok_t_curSum _) (hk_76 := by
      intro t_was' t_feel' v7' ok_t_was' ok_t_feel' ok_v7' hs
      exact g_X11_tick_76 ao ok_t_baseLow ok_t_baseHigh ok_t_speckLow ok_t_speckHigh ok_t_sourceHold ok_t_cur ok_t_was' ok_t_feel' ok_t_pushAt ok_t_curSum ok_v1 ok_v2 ok_v3 (by decide : inZ 0) (ok_t_curSum _) hs) FU _ _ _ ok_t_was ok_t_feel (by decide : inI 0) hs

noncomputable def m_X11_tick (t_baseLow : Int) (t_baseHigh : Int) (t_speckLow : Nat → Int) (t_speckHigh : Nat → Int) (t_sourceHold : Nat → Int) (t_cur : Nat → Int) (t_was : Nat → Int) (t_feel : Nat → Int) (t_pushAt : Nat → Int) (t_curSum : Nat → Int) (v1 : Int) (v2 : Int) (v3 : Int) : Option (Int × (Nat → Int) × (Nat → Int) × (Nat → Int) × (Nat → Int)) := m_X11_tick_0 t_baseLow t_baseHigh t_speckLow t_speckHigh t_sourceHold t_cur t_was t_feel t_pushAt t_curSum v1 v2 v3

set_option maxRecDepth 10000 in
set_option maxHeartbeats 8000000 in
theorem ct_X11_tick {l : Launch} {E : EE} {b0 n : Nat} {h : AH} {a_t : Nat} {t_thrown t_taped t_p t_fault t_baseLow t_baseHigh t_newBaseLow t_newBaseHigh t_from t_knots t_lines t_chosen t_undos t_redos t_aimedMany t_fits t_fitOf t_sights t_systems t_own t_cross t_curveLong t_wallFirst : Int} {t_speckLow t_speckHigh t_sourceHold t_cur t_was t_feel t_pushAt t_curSum : Nat → Int} {v1 v2 v3 : Int} (ao : AO b0 n [a_t, (a_t + 8), (a_t + 9), (a_t + 10), (a_t + 24), (a_t + 25), (a_t + 26), (a_t + 27), (a_t + 28)]) (hf : FA h [a_t, (a_t + 8), (a_t + 9), (a_t + 10), (a_t + 24), (a_t + 25), (a_t + 26), (a_t + 27), (a_t + 28)] [.inr (11, fsX11 a_t t_thrown t_taped t_p t_fault t_baseLow t_baseHigh t_newBaseLow t_newBaseHigh t_from t_knots t_lines t_chosen t_undos t_redos t_aimedMany t_fits t_fitOf t_sights t_systems t_own t_cross t_curveLong t_wallFirst), IA E 100 t_speckLow, IA E 100 t_speckHigh, IA E 100 t_sourceHold, IA E 100 t_cur, IA E 100 t_was, IA E 100 t_feel, IA E 21 t_pushAt, JA E 6 t_curSum]) (ok_t_baseLow : inI t_baseLow) (ok_t_baseHigh : inI t_baseHigh) (ok_t_speckLow : okA t_speckLow) (ok_t_speckHigh : okA t_speckHigh) (ok_t_sourceHold : okA t_sourceHold) (ok_t_cur : okA t_cur) (ok_t_was : okA t_was) (ok_t_feel : okA t_feel) (ok_t_pushAt : okA t_pushAt) (ok_t_curSum : okJ t_curSum) (ok_v1 : inI v1) (ok_v2 : inI v2) (ok_v3 : inI v3) {r : Int × (Nat → Int) × (Nat → Int) × (Nat → Int) × (Nat → Int)} (hm : m_X11_tick t_baseLow t_baseHigh t_speckLow t_speckHigh t_sourceHold t_cur t_was t_feel t_pushAt t_curSum v1 v2 v3 = some r) : Ct l E b0 M_X11_tick 0 0 [.ref a_t, vI v1, vI v2, vI v3] h n (some (vI r.1)) (ov [a_t, (a_t + 8), (a_t + 9), (a_t + 10), (a_t + 24), (a_t + 25), (a_t + 26), (a_t + 27), (a_t + 28)] [.inr (11, fsX11 a_t t_thrown t_taped t_p t_fault t_baseLow t_baseHigh t_newBaseLow t_newBaseHigh t_from t_knots t_lines t_chosen t_undos t_redos t_aimedMany t_fits t_fitOf t_sights t_systems t_own t_cross t_curveLong t_wallFirst), IA E 100 t_speckLow, IA E 100 t_speckHigh, IA E 100 t_sourceHold, IA E 100 r.2.1, IA E 100 r.2.2.1, IA E 100 r.2.2.2.1, IA E 21 t_pushAt, JA E 6 r.2.2.2.2] h) n (inZ r.1 ∧ okA r.2.1 ∧ okA r.2.2.1 ∧ okA r.2.2.2.1 ∧ okJ r.2.2.2.2) := by
  rw [m_X11_tick] at hm
  have hg : G l E b0 M_X11_tick (fun _ => True) (ZM E b0 (some (vI r.1)) (ov [a_t, (a_t + 8), (a_t + 9), (a_t + 10), (a_t + 24), (a_t + 25), (a_t + 26), (a_t + 27), (a_t + 28)] [.inr (11, fsX11 a_t t_thrown t_taped t_p t_fault t_baseLow t_baseHigh t_newBaseLow t_newBaseHigh t_from t_knots t_lines t_chosen t_undos t_redos t_aimedMany t_fits t_fitOf t_sights t_systems t_own t_cross t_curveLong t_wallFirst), IA E 100 t_speckLow, IA E 100 t_speckHigh, IA E 100 t_sourceHold, IA E 100 r.2.1, IA E 100 r.2.2.1, IA E 100 r.2.2.2.1, IA E 21 t_pushAt, JA E 6 r.2.2.2.2] h) n (inZ r.1 ∧ okA r.2.1 ∧ okA r.2.2.1 ∧ okA r.2.2.2.1 ∧ okJ r.2.2.2.2) 0 0) 0 0 n (ov [a_t, (a_t + 8), (a_t + 9), (a_t + 10), (a_t + 24), (a_t + 25), (a_t + 26), (a_t + 27), (a_t + 28)] [.inr (11, fsX11 a_t t_thrown t_taped t_p t_fault t_baseLow t_baseHigh t_newBaseLow t_newBaseHigh t_from t_knots t_lines t_chosen t_undos t_redos t_aimedMany t_fits t_fitOf t_sights t_systems t_own t_cross t_curveLong t_wallFirst), IA E 100 t_speckLow, IA E 100 t_speckHigh, IA E 100 t_sourceHold, IA E 100 t_cur, IA E 100 t_was, IA E 100 t_feel, IA E 21 t_pushAt, JA E 6 t_curSum] h) 0 [some (.ref a_t), some (vI v1), some (vI v2), some (vI v3), none, none, none, none, none, none] [] := by
    have hs := hm
    exact g_X11_tick_0 ao ok_t_baseLow ok_t_baseHigh ok_t_speckLow ok_t_speckHigh ok_t_sourceHold ok_t_cur ok_t_was ok_t_feel ok_t_pushAt ok_t_curSum ok_v1 ok_v2 ok_v3 hs
  rw [FA_id hf] at hg
  exact Ct_of [some (.ref a_t), some (vI v1), some (vI v2), some (vI v3), none, none, none, none, none, none] ⟨by decide +kernel, rfl⟩ rfl (Nat.le_of_ble_eq_true rfl) hg


def M_X9_isThere : MB := (yX9_isThere, cX9_isThere, 2, (some .boolean), ({ frames := 2, cells := 0, slots := 0, locals := 61 } : Room), RX9)
def M_X9_newKnot : MB := (yX9_newKnot, cX9_newKnot, 2, (some .int), ({ frames := 1, cells := 0, slots := 0, locals := 40 } : Room), RX9)
def M_X9_tellLine : MB := (yX9_tellLine, cX9_tellLine, 3, (some .int), ({ frames := 3, cells := 0, slots := 0, locals := 83 } : Room), RX9)
def M_X9_sumAt : MB := (yX9_sumAt, cX9_sumAt, 5, (some .int), ({ frames := 3, cells := 0, slots := 0, locals := 83 } : Room), RX9)
def M_X9_firstUnsound : MB := (yX9_firstUnsound, cX9_firstUnsound, 3, (some .int), ({ frames := 4, cells := 0, slots := 0, locals := 107 } : Room), RX9)
def M_X9_remove : MB := (yX9_remove, cX9_remove, 2, none, ({ frames := 3, cells := 0, slots := 0, locals := 82 } : Room), RX9)
def M_X9_choose : MB := (yX9_choose, cX9_choose, 7, (some .int), ({ frames := 3, cells := 0, slots := 0, locals := 82 } : Room), RX9)
def M_X9_lowestOf : MB := (yX9_lowestOf, cX9_lowestOf, 3, (some .int), ({ frames := 1, cells := 0, slots := 0, locals := 40 } : Room), RX9)
def M_X9_worthAsOne : MB := (yX9_worthAsOne, cX9_worthAsOne, 6, (some .int), ({ frames := 3, cells := 0, slots := 0, locals := 83 } : Room), RX9)
def M_X9_findLeast : MB := (yX9_findLeast, cX9_findLeast, 7, none, ({ frames := 1, cells := 0, slots := 0, locals := 40 } : Room), RX9)
def M_X9_nameGroups : MB := (yX9_nameGroups, cX9_nameGroups, 7, none, ({ frames := 1, cells := 0, slots := 0, locals := 40 } : Room), RX9)
def M_X9_isKnot : MB := (yX9_isKnot, cX9_isKnot, 2, (some .boolean), ({ frames := 2, cells := 0, slots := 0, locals := 62 } : Room), RX9)
def M_X9_addUp : MB := (yX9_addUp, cX9_addUp, 12, none, ({ frames := 3, cells := 0, slots := 0, locals := 83 } : Room), RX9)
def M_X9_groupOf : MB := (yX9_groupOf, cX9_groupOf, 2, (some .int), ({ frames := 2, cells := 0, slots := 0, locals := 62 } : Room), RX9)
def M_X9_isStepPart : MB := (yX9_isStepPart, cX9_isStepPart, 1, (some .boolean), ({ frames := 2, cells := 0, slots := 0, locals := 62 } : Room), RX9)
def M_X9_newLine : MB := (yX9_newLine, cX9_newLine, 7, (some .int), ({ frames := 3, cells := 0, slots := 0, locals := 83 } : Room), RX9)
def M_X9_joinLines : MB := (yX9_joinLines, cX9_joinLines, 10, (some .int), ({ frames := 4, cells := 0, slots := 0, locals := 103 } : Room), RX9)
def M_X9_splitLine : MB := (yX9_splitLine, cX9_splitLine, 12, (some .int), ({ frames := 4, cells := 0, slots := 0, locals := 109 } : Room), RX9)
def M_X9_leastWorth : MB := (yX9_leastWorth, cX9_leastWorth, 8, (some .int), ({ frames := 4, cells := 0, slots := 0, locals := 114 } : Room), RX9)
theorem cb_X8_change : CB M_X8_change 4 := ⟨GW_of 875 (by decide +kernel) (by decide +kernel), GW_of 87 (by decide +kernel) (by decide +kernel), by decide +kernel, by decide +kernel, by decide +kernel⟩
theorem cb_X8_haveEitherWay : CB M_X8_haveEitherWay 3 := ⟨GW_of 891 (by decide +kernel) (by decide +kernel), GW_of 87 (by decide +kernel) (by decide +kernel), by decide +kernel, by decide +kernel, by decide +kernel⟩
theorem cb_X8_partOf : CB M_X8_partOf 2 := ⟨GW_of 779 (by decide +kernel) (by decide +kernel), GW_of 87 (by decide +kernel) (by decide +kernel), by decide +kernel, by decide +kernel, by decide +kernel⟩
theorem cb_X8_worthOf : CB M_X8_worthOf 1 := ⟨GW_of 844 (by decide +kernel) (by decide +kernel), GW_of 87 (by decide +kernel) (by decide +kernel), by decide +kernel, by decide +kernel, by decide +kernel⟩
theorem cb_X9_addUp : CB M_X9_addUp 3 := ⟨GW_of 908 (by decide +kernel) (by decide +kernel), GW_of 86 (by decide +kernel) (by decide +kernel), by decide +kernel, by decide +kernel, by decide +kernel⟩
theorem cb_X9_choose : CB M_X9_choose 2 := ⟨GW_of 904 (by decide +kernel) (by decide +kernel), GW_of 86 (by decide +kernel) (by decide +kernel), by decide +kernel, by decide +kernel, by decide +kernel⟩
theorem cb_X9_findLeast : CB M_X9_findLeast 1 := ⟨GW_of 920 (by decide +kernel) (by decide +kernel), GW_of 86 (by decide +kernel) (by decide +kernel), by decide +kernel, by decide +kernel, by decide +kernel⟩
theorem cb_X9_isKnot : CB M_X9_isKnot 1 := ⟨GW_of 821 (by decide +kernel) (by decide +kernel), GW_of 86 (by decide +kernel) (by decide +kernel), by decide +kernel, by decide +kernel, by decide +kernel⟩
theorem cb_X9_isStepPart : CB M_X9_isStepPart 1 := ⟨GW_of 825 (by decide +kernel) (by decide +kernel), GW_of 86 (by decide +kernel) (by decide +kernel), by decide +kernel, by decide +kernel, by decide +kernel⟩
theorem cb_X9_isThere : CB M_X9_isThere 1 := ⟨GW_of 838 (by decide +kernel) (by decide +kernel), GW_of 86 (by decide +kernel) (by decide +kernel), by decide +kernel, by decide +kernel, by decide +kernel⟩
theorem cb_X9_lowestOf : CB M_X9_lowestOf 2 := ⟨GW_of 912 (by decide +kernel) (by decide +kernel), GW_of 86 (by decide +kernel) (by decide +kernel), by decide +kernel, by decide +kernel, by decide +kernel⟩
theorem cb_X9_nameGroups : CB M_X9_nameGroups 2 := ⟨GW_of 925 (by decide +kernel) (by decide +kernel), GW_of 86 (by decide +kernel) (by decide +kernel), by decide +kernel, by decide +kernel, by decide +kernel⟩
theorem cb_X9_newLine : CB M_X9_newLine 5 := ⟨GW_of 816 (by decide +kernel) (by decide +kernel), GW_of 86 (by decide +kernel) (by decide +kernel), by decide +kernel, by decide +kernel, by decide +kernel⟩
theorem cb_X9_remove : CB M_X9_remove 1 := ⟨GW_of 879 (by decide +kernel) (by decide +kernel), GW_of 86 (by decide +kernel) (by decide +kernel), by decide +kernel, by decide +kernel, by decide +kernel⟩
theorem cb_X9_sumAt : CB M_X9_sumAt 2 := ⟨GW_of 853 (by decide +kernel) (by decide +kernel), GW_of 86 (by decide +kernel) (by decide +kernel), by decide +kernel, by decide +kernel, by decide +kernel⟩
theorem cb_X9_worthAsOne : CB M_X9_worthAsOne 2 := ⟨GW_of 916 (by decide +kernel) (by decide +kernel), GW_of 86 (by decide +kernel) (by decide +kernel), by decide +kernel, by decide +kernel, by decide +kernel⟩
theorem k_X9_136 : Cond.constant RX9 136 (Int32.ofInt (1073741824)) ∈ GW := GW_of 921 (by decide +kernel) (by decide +kernel)
theorem fl_X9_27 : FL RX9 27 9 3 := ⟨RX9, TX9, 14, rfl, by decide, rfl, Or.inl (GW_of 170 (by decide +kernel) (by decide +kernel))⟩
theorem fl_X9_31 : FL RX9 31 9 4 := ⟨RX9, TX9, 14, rfl, by decide, rfl, Or.inl (GW_of 172 (by decide +kernel) (by decide +kernel))⟩
theorem fl_X9_52 : FL RX9 52 9 5 := ⟨RX9, TX9, 14, rfl, by decide, rfl, Or.inl (GW_of 173 (by decide +kernel) (by decide +kernel))⟩
theorem fl_X9_9 : FL RX9 9 9 0 := ⟨RX9, TX9, 14, rfl, by decide, rfl, Or.inl (GW_of 167 (by decide +kernel) (by decide +kernel))⟩
theorem fw_X9_52 : FW RX9 52 9 5 false .int := ⟨RX9, TX9, 14, rfl, by decide, rfl, rfl, by decide +kernel, Or.inl (GW_of 173 (by decide +kernel) (by decide +kernel)), fun h => by cases h⟩
theorem fl_X9_15 : FL RX9 15 9 1 := ⟨RX9, TX9, 14, rfl, by decide, rfl, Or.inl (GW_of 168 (by decide +kernel) (by decide +kernel))⟩
theorem fl_X9_19 : FL RX9 19 9 2 := ⟨RX9, TX9, 14, rfl, by decide, rfl, Or.inl (GW_of 169 (by decide +kernel) (by decide +kernel))⟩
theorem fl_X9_74 : FL RX9 74 8 3 := ⟨RX8, TX8, 4, rfl, by decide, rfl, Or.inr (List.mem_of_getElem? (i := 0) (by decide +kernel))⟩
theorem fl_X9_81 : FL RX9 81 9 6 := ⟨RX9, TX9, 14, rfl, by decide, rfl, Or.inl (GW_of 175 (by decide +kernel) (by decide +kernel))⟩
theorem fw_X9_81 : FW RX9 81 9 6 false .int := ⟨RX9, TX9, 14, rfl, by decide, rfl, rfl, by decide +kernel, Or.inl (GW_of 175 (by decide +kernel) (by decide +kernel)), fun h => by cases h⟩
theorem fl_X9_34 : FL RX9 34 9 7 := ⟨RX9, TX9, 14, rfl, by decide, rfl, Or.inl (GW_of 177 (by decide +kernel) (by decide +kernel))⟩
theorem fl_X9_40 : FL RX9 40 9 9 := ⟨RX9, TX9, 14, rfl, by decide, rfl, Or.inl (GW_of 179 (by decide +kernel) (by decide +kernel))⟩
theorem fl_X9_46 : FL RX9 46 9 11 := ⟨RX9, TX9, 14, rfl, by decide, rfl, Or.inl (GW_of 181 (by decide +kernel) (by decide +kernel))⟩
theorem fl_X9_43 : FL RX9 43 9 10 := ⟨RX9, TX9, 14, rfl, by decide, rfl, Or.inl (GW_of 180 (by decide +kernel) (by decide +kernel))⟩
theorem fl_X9_49 : FL RX9 49 9 12 := ⟨RX9, TX9, 14, rfl, by decide, rfl, Or.inl (GW_of 182 (by decide +kernel) (by decide +kernel))⟩
theorem fw_X9_137 : FW RX9 137 9 13 false .int := ⟨RX9, TX9, 14, rfl, by decide, rfl, rfl, by decide +kernel, Or.inl (GW_of 183 (by decide +kernel) (by decide +kernel)), fun h => by cases h⟩
theorem fl_X9_37 : FL RX9 37 9 8 := ⟨RX9, TX9, 14, rfl, by decide, rfl, Or.inl (GW_of 178 (by decide +kernel) (by decide +kernel))⟩
theorem fl_X9_137 : FL RX9 137 9 13 := ⟨RX9, TX9, 14, rfl, by decide, rfl, Or.inl (GW_of 183 (by decide +kernel) (by decide +kernel))⟩
theorem cv_X9_60 : CV RX9 60 M_X8_has 1 := ⟨cb_X8_has, Or.inl (GW_of 839 (by decide +kernel) (by decide +kernel)), GW_of 769 (by decide +kernel) (by decide +kernel), GW_of 770 (by decide +kernel) (by decide +kernel)⟩
theorem cv_X9_84 : CV RX9 84 M_X9_isThere 1 := ⟨cb_X9_isThere, Or.inl (GW_of 835 (by decide +kernel) (by decide +kernel)), GW_of 836 (by decide +kernel) (by decide +kernel), GW_of 837 (by decide +kernel) (by decide +kernel)⟩
theorem cv_X9_87 : CV RX9 87 M_X8_partOf 2 := ⟨cb_X8_partOf, Or.inl (GW_of 840 (by decide +kernel) (by decide +kernel)), GW_of 777 (by decide +kernel) (by decide +kernel), GW_of 778 (by decide +kernel) (by decide +kernel)⟩
theorem cv_X9_91 : CV RX9 91 M_X8_worthOf 1 := ⟨cb_X8_worthOf, Or.inl (GW_of 841 (by decide +kernel) (by decide +kernel)), GW_of 842 (by decide +kernel) (by decide +kernel), GW_of 843 (by decide +kernel) (by decide +kernel)⟩
theorem cv_X9_95 : CV RX9 95 M_X9_sumAt 2 := ⟨cb_X9_sumAt, Or.inl (GW_of 863 (by decide +kernel) (by decide +kernel)), GW_of 851 (by decide +kernel) (by decide +kernel), GW_of 852 (by decide +kernel) (by decide +kernel)⟩
theorem cv_X9_105 : CV RX9 105 M_X8_haveEitherWay 3 := ⟨cb_X8_haveEitherWay, Or.inl (GW_of 888 (by decide +kernel) (by decide +kernel)), GW_of 889 (by decide +kernel) (by decide +kernel), GW_of 890 (by decide +kernel) (by decide +kernel)⟩
theorem cs_X9_56 : CS RX9 56 M_X10_within 3 := ⟨cb_X10_within, Or.inr (List.mem_of_getElem? (i := 13) (by decide +kernel)), GW_of 563 (by decide +kernel) (by decide +kernel)⟩
theorem cv_X9_130 : CV RX9 130 M_X8_drop 0 := ⟨cb_X8_drop, Or.inl (GW_of 909 (by decide +kernel) (by decide +kernel)), GW_of 578 (by decide +kernel) (by decide +kernel), GW_of 579 (by decide +kernel) (by decide +kernel)⟩
theorem cv_X9_77 : CV RX9 77 M_X8_append 3 := ⟨cb_X8_append, Or.inl (GW_of 826 (by decide +kernel) (by decide +kernel)), GW_of 697 (by decide +kernel) (by decide +kernel), GW_of 698 (by decide +kernel) (by decide +kernel)⟩
theorem cs_X9_133 : CS RX9 133 M_X9_lowestOf 2 := ⟨cb_X9_lowestOf, Or.inl (GW_of 910 (by decide +kernel) (by decide +kernel)), GW_of 911 (by decide +kernel) (by decide +kernel)⟩
theorem cv_X9_64 : CV RX9 64 M_X8_isFull 0 := ⟨cb_X8_isFull, Or.inl (GW_of 817 (by decide +kernel) (by decide +kernel)), GW_of 678 (by decide +kernel) (by decide +kernel), GW_of 679 (by decide +kernel) (by decide +kernel)⟩
theorem cv_X9_68 : CV RX9 68 M_X9_isKnot 1 := ⟨cb_X9_isKnot, Or.inl (GW_of 818 (by decide +kernel) (by decide +kernel)), GW_of 819 (by decide +kernel) (by decide +kernel), GW_of 820 (by decide +kernel) (by decide +kernel)⟩
theorem cs_X9_71 : CS RX9 71 M_X9_isStepPart 1 := ⟨cb_X9_isStepPart, Or.inl (GW_of 823 (by decide +kernel) (by decide +kernel)), GW_of 824 (by decide +kernel) (by decide +kernel)⟩
theorem cv_X9_98 : CV RX9 98 M_X8_change 4 := ⟨cb_X8_change, Or.inl (GW_of 872 (by decide +kernel) (by decide +kernel)), GW_of 873 (by decide +kernel) (by decide +kernel), GW_of 874 (by decide +kernel) (by decide +kernel)⟩
theorem cv_X9_102 : CV RX9 102 M_X9_remove 1 := ⟨cb_X9_remove, Or.inl (GW_of 876 (by decide +kernel) (by decide +kernel)), GW_of 878 (by decide +kernel) (by decide +kernel), GW_of 15 (by decide +kernel) (by decide +kernel)⟩
theorem cv_X9_108 : CV RX9 108 M_X9_newLine 5 := ⟨cb_X9_newLine, Or.inl (GW_of 892 (by decide +kernel) (by decide +kernel)), GW_of 814 (by decide +kernel) (by decide +kernel), GW_of 815 (by decide +kernel) (by decide +kernel)⟩
theorem cv_X9_112 : CV RX9 112 M_X9_choose 2 := ⟨cb_X9_choose, Or.inl (GW_of 901 (by decide +kernel) (by decide +kernel)), GW_of 903 (by decide +kernel) (by decide +kernel), GW_of 16 (by decide +kernel) (by decide +kernel)⟩
theorem cv_X9_116 : CV RX9 116 M_X9_addUp 3 := ⟨cb_X9_addUp, Or.inl (GW_of 905 (by decide +kernel) (by decide +kernel)), GW_of 907 (by decide +kernel) (by decide +kernel), GW_of 17 (by decide +kernel) (by decide +kernel)⟩
theorem cv_X9_119 : CV RX9 119 M_X9_worthAsOne 2 := ⟨cb_X9_worthAsOne, Or.inl (GW_of 913 (by decide +kernel) (by decide +kernel)), GW_of 915 (by decide +kernel) (by decide +kernel), GW_of 18 (by decide +kernel) (by decide +kernel)⟩
theorem cv_X9_123 : CV RX9 123 M_X9_findLeast 1 := ⟨cb_X9_findLeast, Or.inl (GW_of 917 (by decide +kernel) (by decide +kernel)), GW_of 919 (by decide +kernel) (by decide +kernel), GW_of 19 (by decide +kernel) (by decide +kernel)⟩
theorem cv_X9_126 : CV RX9 126 M_X9_nameGroups 2 := ⟨cb_X9_nameGroups, Or.inl (GW_of 922 (by decide +kernel) (by decide +kernel)), GW_of 924 (by decide +kernel) (by decide +kernel), GW_of 20 (by decide +kernel) (by decide +kernel)⟩
/-! ===== X9_isThere ===== -/
theorem e_X9_isThere_0 : DC cX9_isThere 0 (.aload_n 0) 1 1 := ⟨by decide +kernel, rfl⟩
theorem e_X9_isThere_1 : DC cX9_isThere 1 (.getfield 27) 3 4 := ⟨by decide +kernel, rfl⟩
theorem e_X9_isThere_4 : DC cX9_isThere 4 (.iload_n 1) 1 5 := ⟨by decide +kernel, rfl⟩
theorem e_X9_isThere_5 : DC cX9_isThere 5 (.invokevirtual 60) 3 8 := ⟨by decide +kernel, rfl⟩
theorem e_X9_isThere_8 : DB cX9_isThere 8 (.ifCond .eq 16) (16) 3 11 24 := ⟨by decide +kernel, rfl, rfl⟩
theorem e_X9_isThere_11 : DC cX9_isThere 11 (.aload_n 0) 1 12 := ⟨by decide +kernel, rfl⟩
theorem e_X9_isThere_12 : DC cX9_isThere 12 (.getfield 31) 3 15 := ⟨by decide +kernel, rfl⟩
theorem e_X9_isThere_15 : DC cX9_isThere 15 (.iload_n 1) 1 16 := ⟨by decide +kernel, rfl⟩
theorem e_X9_isThere_16 : DC cX9_isThere 16 (.baload) 1 17 := ⟨by decide +kernel, rfl⟩
theorem e_X9_isThere_17 : DB cX9_isThere 17 (.ifCond .eq 7) (7) 3 20 24 := ⟨by decide +kernel, rfl, rfl⟩
theorem e_X9_isThere_20 : DC cX9_isThere 20 (.iconst 1) 1 21 := ⟨by decide +kernel, rfl⟩
theorem e_X9_isThere_21 : DB cX9_isThere 21 (.goto 4) (4) 3 24 25 := ⟨by decide +kernel, rfl, rfl⟩
theorem e_X9_isThere_24 : DC cX9_isThere 24 (.iconst 0) 1 25 := ⟨by decide +kernel, rfl⟩
theorem e_X9_isThere_25 : DC cX9_isThere 25 (.ireturn) 1 26 := ⟨by decide +kernel, rfl⟩
noncomputable def m_X9_isThere_0 (t_steps_many : Int) (t_there : Nat → Int) (v1 : Int) : Option (Int) :=
  (m_X8_has t_steps_many v1).bind (fun y1 => if y1 = 0 then (some (0)) else (chk (inB v1 120) (if (t_there (Int.toNat v1)) = 0 then (some (0)) else (some (1)))))

set_option maxRecDepth 10000 in
theorem g_X9_isThere_0 {l : Launch} {E : EE} {b0 n : Nat} {h : AH} {a_t : Nat} {t_knotMany t_thereMany t_groupMany t_steps_many v1 : Int} {t_there : Nat → Int} {r : Int} (ao : AO b0 n [a_t, (a_t + 4), (a_t + 8)]) (ok_t_steps_many : inI t_steps_many) (ok_t_there : okZ t_there) (ok_v1 : inI v1) (hs : m_X9_isThere_0 t_steps_many t_there v1 = some r) : G l E b0 M_X9_isThere (fun _ => True) (ZM E b0 (some (vI r)) (ov [a_t, (a_t + 4), (a_t + 8)] [.inr (9, fsX9 a_t t_knotMany t_thereMany t_groupMany), .inr (8, fsX8 (a_t + 4) t_steps_many), ZA E 120 t_there] h) n (inZ r) 0 0) 0 0 n (ov [a_t, (a_t + 4), (a_t + 8)] [.inr (9, fsX9 a_t t_knotMany t_thereMany t_groupMany), .inr (8, fsX8 (a_t + 4) t_steps_many), ZA E 120 t_there] h) 0 [some (.ref a_t), some (vI v1)] [] := by
  rw [m_X9_isThere_0] at hs
  refine g_aload_n e_X9_isThere_0 rfl ?_
  refine g_get 0 3 ao rfl rfl fsX9_g3 fl_X9_27 e_X9_isThere_1 ?_
  refine g_iload_n e_X9_isThere_4 rfl ?_
  obtain ⟨y1, hy1, hs⟩ := bind_elim hs
  refine g_callVr [vI v1] cv_X9_60 ⟨rfl, rfl, Nat.le_of_ble_eq_true rfl, Nat.le_of_ble_eq_true rfl⟩ (ct_X8_has (AO_call [1] ao (by decide) rfl) (FA_call [1] ao.1 rfl rfl) ok_t_steps_many ok_v1 hy1) e_X9_isThere_5 (ao.2 1 _ rfl) (ov_get 1 ao.1 rfl rfl) rfl rfl rfl (Nat.le_of_ble_eq_true rfl) ⟨Nat.le_refl _, Nat.le_refl _⟩ (fun Py1 => ?_)
  refine g_if_eq e_X9_isThere_8 (inZ_I Py1) hs (fun c8 hs => ?_) (fun c8 hs => ?_)
  · refine g_iconst e_X9_isThere_24 ?_
    obtain rfl := Option.some.inj hs
    exact g_zret rfl (by decide : inZ 0) (by decide : inZ 0) e_X9_isThere_25
  · refine g_aload_n e_X9_isThere_11 rfl ?_
    refine g_get 0 4 ao rfl rfl fsX9_g4 fl_X9_31 e_X9_isThere_12 ?_
    refine g_iload_n e_X9_isThere_15 rfl ?_
    refine g_zald 2 ao rfl rfl (Nat.le_of_ble_eq_true rfl) e_X9_isThere_16 hs (fun hi2 hs => ?_)
    refine g_if_eq e_X9_isThere_17 (inZ_I (ok_t_there _)) hs (fun c17 hs => ?_) (fun c17 hs => ?_)
    · refine g_iconst e_X9_isThere_24 ?_
      obtain rfl := Option.some.inj hs
      exact g_zret rfl (by decide : inZ 0) (by decide : inZ 0) e_X9_isThere_25
    · refine g_iconst e_X9_isThere_20 ?_
      refine g_goto e_X9_isThere_21 ?_
      obtain rfl := Option.some.inj hs
      exact g_zret rfl (by decide : inZ 1) (by decide : inZ 1) e_X9_isThere_25

noncomputable def m_X9_isThere (t_steps_many : Int) (t_there : Nat → Int) (v1 : Int) : Option (Int) := m_X9_isThere_0 t_steps_many t_there v1

set_option maxRecDepth 10000 in
theorem ct_X9_isThere {l : Launch} {E : EE} {b0 n : Nat} {h : AH} {a_t : Nat} {t_knotMany t_thereMany t_groupMany t_steps_many : Int} {t_there : Nat → Int} {v1 : Int} (ao : AO b0 n [a_t, (a_t + 4), (a_t + 8)]) (hf : FA h [a_t, (a_t + 4), (a_t + 8)] [.inr (9, fsX9 a_t t_knotMany t_thereMany t_groupMany), .inr (8, fsX8 (a_t + 4) t_steps_many), ZA E 120 t_there]) (ok_t_steps_many : inI t_steps_many) (ok_t_there : okZ t_there) (ok_v1 : inI v1) {r : Int} (hm : m_X9_isThere t_steps_many t_there v1 = some r) : Ct l E b0 M_X9_isThere 0 0 [.ref a_t, vI v1] h n (some (vI r)) h n (inZ r) := by
  rw [m_X9_isThere] at hm
  have hg : G l E b0 M_X9_isThere (fun _ => True) (ZM E b0 (some (vI r)) (ov [a_t, (a_t + 4), (a_t + 8)] [.inr (9, fsX9 a_t t_knotMany t_thereMany t_groupMany), .inr (8, fsX8 (a_t + 4) t_steps_many), ZA E 120 t_there] h) n (inZ r) 0 0) 0 0 n (ov [a_t, (a_t + 4), (a_t + 8)] [.inr (9, fsX9 a_t t_knotMany t_thereMany t_groupMany), .inr (8, fsX8 (a_t + 4) t_steps_many), ZA E 120 t_there] h) 0 [some (.ref a_t), some (vI v1)] [] := by
    have hs := hm
    exact g_X9_isThere_0 ao ok_t_steps_many ok_t_there ok_v1 hs
  rw [FA_id hf] at hg
  exact Ct_of [some (.ref a_t), some (vI v1)] ⟨by decide +kernel, rfl⟩ rfl (Nat.le_of_ble_eq_true rfl) hg

/-! ===== X9_newKnot ===== -/
theorem e_X9_newKnot_0 : DC cX9_newKnot 0 (.aload_n 0) 1 1 := ⟨by decide +kernel, rfl⟩
theorem e_X9_newKnot_1 : DC cX9_newKnot 1 (.getfield 52) 3 4 := ⟨by decide +kernel, rfl⟩
theorem e_X9_newKnot_4 : DC cX9_newKnot 4 (.bipush 60) 2 6 := ⟨by decide +kernel, rfl⟩
theorem e_X9_newKnot_6 : DB cX9_newKnot 6 (.if_icmp .lt 5) (5) 3 9 11 := ⟨by decide +kernel, rfl, rfl⟩
theorem e_X9_newKnot_9 : DC cX9_newKnot 9 (.iconst (-1)) 1 10 := ⟨by decide +kernel, rfl⟩
theorem e_X9_newKnot_10 : DC cX9_newKnot 10 (.ireturn) 1 11 := ⟨by decide +kernel, rfl⟩
theorem e_X9_newKnot_11 : DC cX9_newKnot 11 (.aload_n 0) 1 12 := ⟨by decide +kernel, rfl⟩
theorem e_X9_newKnot_12 : DC cX9_newKnot 12 (.getfield 9) 3 15 := ⟨by decide +kernel, rfl⟩
theorem e_X9_newKnot_15 : DC cX9_newKnot 15 (.aload_n 0) 1 16 := ⟨by decide +kernel, rfl⟩
theorem e_X9_newKnot_16 : DC cX9_newKnot 16 (.getfield 52) 3 19 := ⟨by decide +kernel, rfl⟩
theorem e_X9_newKnot_19 : DC cX9_newKnot 19 (.iload_n 1) 1 20 := ⟨by decide +kernel, rfl⟩
theorem e_X9_newKnot_20 : DC cX9_newKnot 20 (.bastore) 1 21 := ⟨by decide +kernel, rfl⟩
theorem e_X9_newKnot_21 : DC cX9_newKnot 21 (.aload_n 0) 1 22 := ⟨by decide +kernel, rfl⟩
theorem e_X9_newKnot_22 : DC cX9_newKnot 22 (.dup) 1 23 := ⟨by decide +kernel, rfl⟩
theorem e_X9_newKnot_23 : DC cX9_newKnot 23 (.getfield 52) 3 26 := ⟨by decide +kernel, rfl⟩
theorem e_X9_newKnot_26 : DC cX9_newKnot 26 (.iconst 1) 1 27 := ⟨by decide +kernel, rfl⟩
theorem e_X9_newKnot_27 : DC cX9_newKnot 27 (.iadd) 1 28 := ⟨by decide +kernel, rfl⟩
theorem e_X9_newKnot_28 : DC cX9_newKnot 28 (.putfield 52) 3 31 := ⟨by decide +kernel, rfl⟩
theorem e_X9_newKnot_31 : DC cX9_newKnot 31 (.aload_n 0) 1 32 := ⟨by decide +kernel, rfl⟩
theorem e_X9_newKnot_32 : DC cX9_newKnot 32 (.getfield 52) 3 35 := ⟨by decide +kernel, rfl⟩
theorem e_X9_newKnot_35 : DC cX9_newKnot 35 (.iconst 1) 1 36 := ⟨by decide +kernel, rfl⟩
theorem e_X9_newKnot_36 : DC cX9_newKnot 36 (.isub) 1 37 := ⟨by decide +kernel, rfl⟩
theorem e_X9_newKnot_37 : DC cX9_newKnot 37 (.ireturn) 1 38 := ⟨by decide +kernel, rfl⟩
noncomputable def m_X9_newKnot_0 (t_knotMany : Int) (t_rims : Nat → Int) (v1 : Int) : Option (Int × Int × (Nat → Int)) :=
  if t_knotMany < 60 then (chk (inB t_knotMany 60) (chk (inI (t_knotMany + 1)) (chk (inI ((t_knotMany + 1) - 1)) (some ((t_knotMany + 1) - 1, t_knotMany + 1, up t_rims (Int.toNat t_knotMany) v1))))) else (some ((-1), t_knotMany, t_rims))

set_option maxRecDepth 10000 in
theorem g_X9_newKnot_0 {l : Launch} {E : EE} {b0 n : Nat} {h : AH} {a_t : Nat} {t_knotMany t_thereMany t_groupMany v1 : Int} {t_rims : Nat → Int} {r : Int × Int × (Nat → Int)} (ao : AO b0 n [a_t, (a_t + 1)]) (ok_t_knotMany : inI t_knotMany) (ok_t_rims : okZ t_rims) (ok_v1 : inZ v1) (hs : m_X9_newKnot_0 t_knotMany t_rims v1 = some r) : G l E b0 M_X9_newKnot (fun _ => True) (ZM E b0 (some (vI r.1)) (ov [a_t, (a_t + 1)] [.inr (9, fsX9 a_t r.2.1 t_thereMany t_groupMany), ZA E 60 r.2.2] h) n (inI r.1 ∧ inI r.2.1 ∧ okZ r.2.2) 0 0) 0 0 n (ov [a_t, (a_t + 1)] [.inr (9, fsX9 a_t t_knotMany t_thereMany t_groupMany), ZA E 60 t_rims] h) 0 [some (.ref a_t), some (vI v1)] [] := by
  rw [m_X9_newKnot_0] at hs
  refine g_aload_n e_X9_newKnot_0 rfl ?_
  refine g_get 0 5 ao rfl rfl fsX9_g5 fl_X9_52 e_X9_newKnot_1 ?_
  refine g_bipush e_X9_newKnot_4 bp_60 ?_
  refine g_icmp_lt e_X9_newKnot_6 ok_t_knotMany (by decide : inI 60) hs (fun c6 hs => ?_) (fun c6 hs => ?_)
  · refine g_aload_n e_X9_newKnot_11 rfl ?_
    refine g_get 0 0 ao rfl rfl fsX9_g0 fl_X9_9 e_X9_newKnot_12 ?_
    refine g_aload_n e_X9_newKnot_15 rfl ?_
    refine g_get 0 5 ao rfl rfl fsX9_g5 fl_X9_52 e_X9_newKnot_16 ?_
    refine g_iload_n e_X9_newKnot_19 rfl ?_
    refine g_zast 1 ao rfl rfl ls_1 (Nat.le_of_ble_eq_true rfl) ok_v1 e_X9_newKnot_20 hs (fun hi1 hs => ?_)
    refine g_aload_n e_X9_newKnot_21 rfl ?_
    refine g_dup e_X9_newKnot_22 rfl ?_
    refine g_get 0 5 ao rfl rfl fsX9_g5 fl_X9_52 e_X9_newKnot_23 ?_
    refine g_iconst e_X9_newKnot_26 ?_
    refine g_iadd e_X9_newKnot_27 ?_
    obtain ⟨hc2, hs⟩ := chk_elim hs
    refine g_put 0 5 ao rfl rfl fsX9_k5 fsX9_s5 ls_0 fw_X9_52 (fun h => by cases h) ⟨rfl, rfl⟩ e_X9_newKnot_28 ?_
    refine g_aload_n e_X9_newKnot_31 rfl ?_
    refine g_get 0 5 ao rfl rfl fsX9_g5 fl_X9_52 e_X9_newKnot_32 ?_
    refine g_iconst e_X9_newKnot_35 ?_
    refine g_isub e_X9_newKnot_36 ?_
    obtain ⟨hc3, hs⟩ := chk_elim hs
    obtain rfl := Option.some.inj hs
    exact g_iret rfl ⟨hc3, hc2, (okZ_up ok_t_rims ok_v1)⟩ e_X9_newKnot_37
  · refine g_iconst e_X9_newKnot_9 ?_
    obtain rfl := Option.some.inj hs
    exact g_iret rfl ⟨(by decide : inI (-1)), ok_t_knotMany, ok_t_rims⟩ e_X9_newKnot_10

noncomputable def m_X9_newKnot (t_knotMany : Int) (t_rims : Nat → Int) (v1 : Int) : Option (Int × Int × (Nat → Int)) := m_X9_newKnot_0 t_knotMany t_rims v1

set_option maxRecDepth 10000 in
theorem ct_X9_newKnot {l : Launch} {E : EE} {b0 n : Nat} {h : AH} {a_t : Nat} {t_knotMany t_thereMany t_groupMany : Int} {t_rims : Nat → Int} {v1 : Int} (ao : AO b0 n [a_t, (a_t + 1)]) (hf : FA h [a_t, (a_t + 1)] [.inr (9, fsX9 a_t t_knotMany t_thereMany t_groupMany), ZA E 60 t_rims]) (ok_t_knotMany : inI t_knotMany) (ok_t_rims : okZ t_rims) (ok_v1 : inZ v1) {r : Int × Int × (Nat → Int)} (hm : m_X9_newKnot t_knotMany t_rims v1 = some r) : Ct l E b0 M_X9_newKnot 0 0 [.ref a_t, vI v1] h n (some (vI r.1)) (ov [a_t, (a_t + 1)] [.inr (9, fsX9 a_t r.2.1 t_thereMany t_groupMany), ZA E 60 r.2.2] h) n (inI r.1 ∧ inI r.2.1 ∧ okZ r.2.2) := by
  rw [m_X9_newKnot] at hm
  have hg : G l E b0 M_X9_newKnot (fun _ => True) (ZM E b0 (some (vI r.1)) (ov [a_t, (a_t + 1)] [.inr (9, fsX9 a_t r.2.1 t_thereMany t_groupMany), ZA E 60 r.2.2] h) n (inI r.1 ∧ inI r.2.1 ∧ okZ r.2.2) 0 0) 0 0 n (ov [a_t, (a_t + 1)] [.inr (9, fsX9 a_t t_knotMany t_thereMany t_groupMany), ZA E 60 t_rims] h) 0 [some (.ref a_t), some (vI v1)] [] := by
    have hs := hm
    exact g_X9_newKnot_0 ao ok_t_knotMany ok_t_rims ok_v1 hs
  rw [FA_id hf] at hg
  exact Ct_of [some (.ref a_t), some (vI v1)] ⟨by decide +kernel, rfl⟩ rfl (Nat.le_of_ble_eq_true rfl) hg

/-! ===== X9_tellLine ===== -/
theorem e_X9_tellLine_0 : DC cX9_tellLine 0 (.aload_n 0) 1 1 := ⟨by decide +kernel, rfl⟩
theorem e_X9_tellLine_1 : DC cX9_tellLine 1 (.iload_n 1) 1 2 := ⟨by decide +kernel, rfl⟩
theorem e_X9_tellLine_2 : DC cX9_tellLine 2 (.invokevirtual 84) 3 5 := ⟨by decide +kernel, rfl⟩
theorem e_X9_tellLine_5 : DB cX9_tellLine 5 (.ifCond .ne 7) (7) 3 8 12 := ⟨by decide +kernel, rfl, rfl⟩
theorem e_X9_tellLine_8 : DC cX9_tellLine 8 (.sipush (-1000)) 3 11 := ⟨by decide +kernel, rfl⟩
theorem e_X9_tellLine_11 : DC cX9_tellLine 11 (.ireturn) 1 12 := ⟨by decide +kernel, rfl⟩
theorem e_X9_tellLine_12 : DC cX9_tellLine 12 (.iload_n 2) 1 13 := ⟨by decide +kernel, rfl⟩
theorem e_X9_tellLine_13 : DC cX9_tellLine 13 (.tableswitch 72 0 5 #[39, 39, 39, 49, 56, 63]) 39 52 := ⟨by decide +kernel, rfl⟩
theorem e_X9_tellLine_52 : DC cX9_tellLine 52 (.aload_n 0) 1 53 := ⟨by decide +kernel, rfl⟩
theorem e_X9_tellLine_53 : DC cX9_tellLine 53 (.getfield 27) 3 56 := ⟨by decide +kernel, rfl⟩
theorem e_X9_tellLine_56 : DC cX9_tellLine 56 (.iload_n 1) 1 57 := ⟨by decide +kernel, rfl⟩
theorem e_X9_tellLine_57 : DC cX9_tellLine 57 (.iload_n 2) 1 58 := ⟨by decide +kernel, rfl⟩
theorem e_X9_tellLine_58 : DC cX9_tellLine 58 (.invokevirtual 87) 3 61 := ⟨by decide +kernel, rfl⟩
theorem e_X9_tellLine_61 : DC cX9_tellLine 61 (.ireturn) 1 62 := ⟨by decide +kernel, rfl⟩
theorem e_X9_tellLine_62 : DC cX9_tellLine 62 (.aload_n 0) 1 63 := ⟨by decide +kernel, rfl⟩
theorem e_X9_tellLine_63 : DC cX9_tellLine 63 (.getfield 15) 3 66 := ⟨by decide +kernel, rfl⟩
theorem e_X9_tellLine_66 : DC cX9_tellLine 66 (.iload_n 1) 1 67 := ⟨by decide +kernel, rfl⟩
theorem e_X9_tellLine_67 : DC cX9_tellLine 67 (.iaload) 1 68 := ⟨by decide +kernel, rfl⟩
theorem e_X9_tellLine_68 : DC cX9_tellLine 68 (.ireturn) 1 69 := ⟨by decide +kernel, rfl⟩
theorem e_X9_tellLine_69 : DC cX9_tellLine 69 (.aload_n 0) 1 70 := ⟨by decide +kernel, rfl⟩
theorem e_X9_tellLine_70 : DC cX9_tellLine 70 (.getfield 19) 3 73 := ⟨by decide +kernel, rfl⟩
theorem e_X9_tellLine_73 : DC cX9_tellLine 73 (.iload_n 1) 1 74 := ⟨by decide +kernel, rfl⟩
theorem e_X9_tellLine_74 : DC cX9_tellLine 74 (.iaload) 1 75 := ⟨by decide +kernel, rfl⟩
theorem e_X9_tellLine_75 : DC cX9_tellLine 75 (.ireturn) 1 76 := ⟨by decide +kernel, rfl⟩
theorem e_X9_tellLine_76 : DC cX9_tellLine 76 (.aload_n 0) 1 77 := ⟨by decide +kernel, rfl⟩
theorem e_X9_tellLine_77 : DC cX9_tellLine 77 (.getfield 27) 3 80 := ⟨by decide +kernel, rfl⟩
theorem e_X9_tellLine_80 : DC cX9_tellLine 80 (.iload_n 1) 1 81 := ⟨by decide +kernel, rfl⟩
theorem e_X9_tellLine_81 : DC cX9_tellLine 81 (.invokevirtual 91) 3 84 := ⟨by decide +kernel, rfl⟩
theorem e_X9_tellLine_84 : DC cX9_tellLine 84 (.ireturn) 1 85 := ⟨by decide +kernel, rfl⟩
theorem e_X9_tellLine_85 : DC cX9_tellLine 85 (.sipush (-1000)) 3 88 := ⟨by decide +kernel, rfl⟩
theorem e_X9_tellLine_88 : DC cX9_tellLine 88 (.ireturn) 1 89 := ⟨by decide +kernel, rfl⟩
noncomputable def m_X9_tellLine_0 (t_froms : Nat → Int) (t_tos : Nat → Int) (t_steps_many : Int) (t_steps_xs : Nat → Int) (t_steps_ys : Nat → Int) (t_steps_zs : Nat → Int) (t_there : Nat → Int) (v1 : Int) (v2 : Int) : Option (Int) :=
  (m_X9_isThere t_steps_many t_there v1).bind (fun y1 => if y1 = 0 then (some ((-1000))) else (if v2 = 0 then ((m_X8_partOf 120 t_steps_many t_steps_xs t_steps_ys t_steps_zs v1 v2).bind (fun y2 => some (y2))) else (if v2 = 1 then ((m_X8_partOf 120 t_steps_many t_steps_xs t_steps_ys t_steps_zs v1 v2).bind (fun y3 => some (y3))) else (if v2 = 2 then ((m_X8_partOf 120 t_steps_many t_steps_xs t_steps_ys t_steps_zs v1 v2).bind (fun y4 => some (y4))) else (if v2 = 3 then (chk (inB v1 120) (some (t_froms (Int.toNat v1)))) else (if v2 = 4 then (chk (inB v1 120) (some (t_tos (Int.toNat v1)))) else (if v2 = 5 then ((m_X8_worthOf 120 t_steps_many t_steps_xs t_steps_ys t_steps_zs v1).bind (fun y7 => some (y7))) else (some ((-1000))))))))))

set_option maxRecDepth 10000 in
theorem g_X9_tellLine_0 {l : Launch} {E : EE} {b0 n : Nat} {h : AH} {a_t : Nat} {t_knotMany t_thereMany t_groupMany t_steps_many v1 v2 : Int} {t_froms t_tos t_steps_xs t_steps_ys t_steps_zs t_there : Nat → Int} {r : Int} (ao : AO b0 n [a_t, (a_t + 2), (a_t + 3), (a_t + 4), (a_t + 5), (a_t + 6), (a_t + 7), (a_t + 8)]) (ok_t_froms : okA t_froms) (ok_t_tos : okA t_tos) (ok_t_steps_many : inI t_steps_many) (ok_t_steps_xs : okA t_steps_xs) (ok_t_steps_ys : okA t_steps_ys) (ok_t_steps_zs : okA t_steps_zs) (ok_t_there : okZ t_there) (ok_v1 : inI v1) (ok_v2 : inI v2) (hs : m_X9_tellLine_0 t_froms t_tos t_steps_many t_steps_xs t_steps_ys t_steps_zs t_there v1 v2 = some r) : G l E b0 M_X9_tellLine (fun _ => True) (ZM E b0 (some (vI r)) (ov [a_t, (a_t + 2), (a_t + 3), (a_t + 4), (a_t + 5), (a_t + 6), (a_t + 7), (a_t + 8)] [.inr (9, fsX9 a_t t_knotMany t_thereMany t_groupMany), IA E 120 t_froms, IA E 120 t_tos, .inr (8, fsX8 (a_t + 4) t_steps_many), IA E 120 t_steps_xs, IA E 120 t_steps_ys, IA E 120 t_steps_zs, ZA E 120 t_there] h) n (inI r) 0 0) 0 0 n (ov [a_t, (a_t + 2), (a_t + 3), (a_t + 4), (a_t + 5), (a_t + 6), (a_t + 7), (a_t + 8)] [.inr (9, fsX9 a_t t_knotMany t_thereMany t_groupMany), IA E 120 t_froms, IA E 120 t_tos, .inr (8, fsX8 (a_t + 4) t_steps_many), IA E 120 t_steps_xs, IA E 120 t_steps_ys, IA E 120 t_steps_zs, ZA E 120 t_there] h) 0 [some (.ref a_t), some (vI v1), some (vI v2)] [] := by
  rw [m_X9_tellLine_0] at hs
  refine g_aload_n e_X9_tellLine_0 rfl ?_
  refine g_iload_n e_X9_tellLine_1 rfl ?_
  obtain ⟨y1, hy1, hs⟩ := bind_elim hs
  refine g_callVr [vI v1] cv_X9_84 ⟨rfl, rfl, Nat.le_of_ble_eq_true rfl, Nat.le_of_ble_eq_true rfl⟩ (ct_X9_isThere (AO_call [0, 3, 7] ao (by decide) rfl) (FA_call [0, 3, 7] ao.1 rfl rfl) ok_t_steps_many ok_t_there ok_v1 hy1) e_X9_tellLine_2 (ao.2 0 _ rfl) (ov_get 0 ao.1 rfl rfl) rfl rfl rfl (Nat.le_of_ble_eq_true rfl) ⟨Nat.le_refl _, Nat.le_refl _⟩ (fun Py1 => ?_)
  refine g_if_ne e_X9_tellLine_5 (inZ_I Py1) hs (fun c5 hs => ?_) (fun c5 hs => ?_)
  · refine g_sipush e_X9_tellLine_8 sp_m1000 ?_
    obtain rfl := Option.some.inj hs
    exact g_iret rfl (by decide : inI (-1000)) e_X9_tellLine_11
  · refine g_iload_n e_X9_tellLine_12 rfl ?_
    by_cases c13_0 : v2 = 0
    · rw [if_pos c13_0] at hs
      refine g_tableIn (off := 39) (tgt := 52) e_X9_tellLine_13 ok_v2 (by rw [c13_0]; decide) (by rw [c13_0]; decide) (by rw [c13_0]; rfl) rfl ?_
      refine g_aload_n e_X9_tellLine_52 rfl ?_
      refine g_get 0 3 ao rfl rfl fsX9_g3 fl_X9_27 e_X9_tellLine_53 ?_
      refine g_iload_n e_X9_tellLine_56 rfl ?_
      refine g_iload_n e_X9_tellLine_57 rfl ?_
      obtain ⟨y2, hy2, hs⟩ := bind_elim hs
      refine g_callVr [vI v1, vI v2] cv_X9_87 ⟨rfl, rfl, Nat.le_of_ble_eq_true rfl, Nat.le_of_ble_eq_true rfl⟩ (ct_X8_partOf (AO_call [3, 4, 5, 6] ao (by decide) rfl) (by omega) (FA_call [3, 4, 5, 6] ao.1 rfl rfl) ok_t_steps_many ok_t_steps_xs ok_t_steps_ys ok_t_steps_zs ok_v1 ok_v2 hy2) e_X9_tellLine_58 (ao.2 3 _ rfl) (ov_get 3 ao.1 rfl rfl) rfl rfl rfl (Nat.le_of_ble_eq_true rfl) ⟨Nat.le_refl _, Nat.le_refl _⟩ (fun Py2 => ?_)
      obtain rfl := Option.some.inj hs
      exact g_iret rfl Py2 e_X9_tellLine_61
    · rw [if_neg c13_0] at hs
      by_cases c13_1 : v2 = 1
      · rw [if_pos c13_1] at hs
        refine g_tableIn (off := 39) (tgt := 52) e_X9_tellLine_13 ok_v2 (by rw [c13_1]; decide) (by rw [c13_1]; decide) (by rw [c13_1]; rfl) rfl ?_
        refine g_aload_n e_X9_tellLine_52 rfl ?_
        refine g_get 0 3 ao rfl rfl fsX9_g3 fl_X9_27 e_X9_tellLine_53 ?_
        refine g_iload_n e_X9_tellLine_56 rfl ?_
        refine g_iload_n e_X9_tellLine_57 rfl ?_
        obtain ⟨y3, hy3, hs⟩ := bind_elim hs
        refine g_callVr [vI v1, vI v2] cv_X9_87 ⟨rfl, rfl, Nat.le_of_ble_eq_true rfl, Nat.le_of_ble_eq_true rfl⟩ (ct_X8_partOf (AO_call [3, 4, 5, 6] ao (by decide) rfl) (by omega) (FA_call [3, 4, 5, 6] ao.1 rfl rfl) ok_t_steps_many ok_t_steps_xs ok_t_steps_ys ok_t_steps_zs ok_v1 ok_v2 hy3) e_X9_tellLine_58 (ao.2 3 _ rfl) (ov_get 3 ao.1 rfl rfl) rfl rfl rfl (Nat.le_of_ble_eq_true rfl) ⟨Nat.le_refl _, Nat.le_refl _⟩ (fun Py3 => ?_)
        obtain rfl := Option.some.inj hs
        exact g_iret rfl Py3 e_X9_tellLine_61
      · rw [if_neg c13_1] at hs
        by_cases c13_2 : v2 = 2
        · rw [if_pos c13_2] at hs
          refine g_tableIn (off := 39) (tgt := 52) e_X9_tellLine_13 ok_v2 (by rw [c13_2]; decide) (by rw [c13_2]; decide) (by rw [c13_2]; rfl) rfl ?_
          refine g_aload_n e_X9_tellLine_52 rfl ?_
          refine g_get 0 3 ao rfl rfl fsX9_g3 fl_X9_27 e_X9_tellLine_53 ?_
          refine g_iload_n e_X9_tellLine_56 rfl ?_
          refine g_iload_n e_X9_tellLine_57 rfl ?_
          obtain ⟨y4, hy4, hs⟩ := bind_elim hs
          refine g_callVr [vI v1, vI v2] cv_X9_87 ⟨rfl, rfl, Nat.le_of_ble_eq_true rfl, Nat.le_of_ble_eq_true rfl⟩ (ct_X8_partOf (AO_call [3, 4, 5, 6] ao (by decide) rfl) (by omega) (FA_call [3, 4, 5, 6] ao.1 rfl rfl) ok_t_steps_many ok_t_steps_xs ok_t_steps_ys ok_t_steps_zs ok_v1 ok_v2 hy4) e_X9_tellLine_58 (ao.2 3 _ rfl) (ov_get 3 ao.1 rfl rfl) rfl rfl rfl (Nat.le_of_ble_eq_true rfl) ⟨Nat.le_refl _, Nat.le_refl _⟩ (fun Py4 => ?_)
          obtain rfl := Option.some.inj hs
          exact g_iret rfl Py4 e_X9_tellLine_61
        · rw [if_neg c13_2] at hs
          by_cases c13_3 : v2 = 3
          · rw [if_pos c13_3] at hs
            refine g_tableIn (off := 49) (tgt := 62) e_X9_tellLine_13 ok_v2 (by rw [c13_3]; decide) (by rw [c13_3]; decide) (by rw [c13_3]; rfl) rfl ?_
            refine g_aload_n e_X9_tellLine_62 rfl ?_
            refine g_get 0 1 ao rfl rfl fsX9_g1 fl_X9_15 e_X9_tellLine_63 ?_
            refine g_iload_n e_X9_tellLine_66 rfl ?_
            refine g_iald 1 ao rfl rfl (Nat.le_of_ble_eq_true rfl) e_X9_tellLine_67 hs (fun hi5 hs => ?_)
            obtain rfl := Option.some.inj hs
            exact g_iret rfl (ok_t_froms _) e_X9_tellLine_68
          · rw [if_neg c13_3] at hs
            by_cases c13_4 : v2 = 4
            · rw [if_pos c13_4] at hs
              refine g_tableIn (off := 56) (tgt := 69) e_X9_tellLine_13 ok_v2 (by rw [c13_4]; decide) (by rw [c13_4]; decide) (by rw [c13_4]; rfl) rfl ?_
              refine g_aload_n e_X9_tellLine_69 rfl ?_
              refine g_get 0 2 ao rfl rfl fsX9_g2 fl_X9_19 e_X9_tellLine_70 ?_
              refine g_iload_n e_X9_tellLine_73 rfl ?_
              refine g_iald 2 ao rfl rfl (Nat.le_of_ble_eq_true rfl) e_X9_tellLine_74 hs (fun hi6 hs => ?_)
              obtain rfl := Option.some.inj hs
              exact g_iret rfl (ok_t_tos _) e_X9_tellLine_75
            · rw [if_neg c13_4] at hs
              by_cases c13_5 : v2 = 5
              · rw [if_pos c13_5] at hs
                refine g_tableIn (off := 63) (tgt := 76) e_X9_tellLine_13 ok_v2 (by rw [c13_5]; decide) (by rw [c13_5]; decide) (by rw [c13_5]; rfl) rfl ?_
                refine g_aload_n e_X9_tellLine_76 rfl ?_
                refine g_get 0 3 ao rfl rfl fsX9_g3 fl_X9_27 e_X9_tellLine_77 ?_
                refine g_iload_n e_X9_tellLine_80 rfl ?_
                obtain ⟨y7, hy7, hs⟩ := bind_elim hs
                refine g_callVr [vI v1] cv_X9_91 ⟨rfl, rfl, Nat.le_of_ble_eq_true rfl, Nat.le_of_ble_eq_true rfl⟩ (ct_X8_worthOf (AO_call [3, 4, 5, 6] ao (by decide) rfl) (by omega) (FA_call [3, 4, 5, 6] ao.1 rfl rfl) ok_t_steps_many ok_t_steps_xs ok_t_steps_ys ok_t_steps_zs ok_v1 hy7) e_X9_tellLine_81 (ao.2 3 _ rfl) (ov_get 3 ao.1 rfl rfl) rfl rfl rfl (Nat.le_of_ble_eq_true rfl) ⟨Nat.le_refl _, Nat.le_refl _⟩ (fun Py7 => ?_)
                obtain rfl := Option.some.inj hs
                exact g_iret rfl Py7 e_X9_tellLine_84
              · rw [if_neg c13_5] at hs
                refine g_tableOut (tgt := 85) e_X9_tellLine_13 ok_v2 (by omega) rfl ?_
                refine g_sipush e_X9_tellLine_85 sp_m1000 ?_
                obtain rfl := Option.some.inj hs
                exact g_iret rfl (by decide : inI (-1000)) e_X9_tellLine_88

noncomputable def m_X9_tellLine (t_froms : Nat → Int) (t_tos : Nat → Int) (t_steps_many : Int) (t_steps_xs : Nat → Int) (t_steps_ys : Nat → Int) (t_steps_zs : Nat → Int) (t_there : Nat → Int) (v1 : Int) (v2 : Int) : Option (Int) := m_X9_tellLine_0 t_froms t_tos t_steps_many t_steps_xs t_steps_ys t_steps_zs t_there v1 v2

set_option maxRecDepth 10000 in
theorem ct_X9_tellLine {l : Launch} {E : EE} {b0 n : Nat} {h : AH} {a_t : Nat} {t_knotMany t_thereMany t_groupMany t_steps_many : Int} {t_froms t_tos t_steps_xs t_steps_ys t_steps_zs t_there : Nat → Int} {v1 v2 : Int} (ao : AO b0 n [a_t, (a_t + 2), (a_t + 3), (a_t + 4), (a_t + 5), (a_t + 6), (a_t + 7), (a_t + 8)]) (hf : FA h [a_t, (a_t + 2), (a_t + 3), (a_t + 4), (a_t + 5), (a_t + 6), (a_t + 7), (a_t + 8)] [.inr (9, fsX9 a_t t_knotMany t_thereMany t_groupMany), IA E 120 t_froms, IA E 120 t_tos, .inr (8, fsX8 (a_t + 4) t_steps_many), IA E 120 t_steps_xs, IA E 120 t_steps_ys, IA E 120 t_steps_zs, ZA E 120 t_there]) (ok_t_froms : okA t_froms) (ok_t_tos : okA t_tos) (ok_t_steps_many : inI t_steps_many) (ok_t_steps_xs : okA t_steps_xs) (ok_t_steps_ys : okA t_steps_ys) (ok_t_steps_zs : okA t_steps_zs) (ok_t_there : okZ t_there) (ok_v1 : inI v1) (ok_v2 : inI v2) {r : Int} (hm : m_X9_tellLine t_froms t_tos t_steps_many t_steps_xs t_steps_ys t_steps_zs t_there v1 v2 = some r) : Ct l E b0 M_X9_tellLine 0 0 [.ref a_t, vI v1, vI v2] h n (some (vI r)) h n (inI r) := by
  rw [m_X9_tellLine] at hm
  have hg : G l E b0 M_X9_tellLine (fun _ => True) (ZM E b0 (some (vI r)) (ov [a_t, (a_t + 2), (a_t + 3), (a_t + 4), (a_t + 5), (a_t + 6), (a_t + 7), (a_t + 8)] [.inr (9, fsX9 a_t t_knotMany t_thereMany t_groupMany), IA E 120 t_froms, IA E 120 t_tos, .inr (8, fsX8 (a_t + 4) t_steps_many), IA E 120 t_steps_xs, IA E 120 t_steps_ys, IA E 120 t_steps_zs, ZA E 120 t_there] h) n (inI r) 0 0) 0 0 n (ov [a_t, (a_t + 2), (a_t + 3), (a_t + 4), (a_t + 5), (a_t + 6), (a_t + 7), (a_t + 8)] [.inr (9, fsX9 a_t t_knotMany t_thereMany t_groupMany), IA E 120 t_froms, IA E 120 t_tos, .inr (8, fsX8 (a_t + 4) t_steps_many), IA E 120 t_steps_xs, IA E 120 t_steps_ys, IA E 120 t_steps_zs, ZA E 120 t_there] h) 0 [some (.ref a_t), some (vI v1), some (vI v2)] [] := by
    have hs := hm
    exact g_X9_tellLine_0 ao ok_t_froms ok_t_tos ok_t_steps_many ok_t_steps_xs ok_t_steps_ys ok_t_steps_zs ok_t_there ok_v1 ok_v2 hs
  rw [FA_id hf] at hg
  exact Ct_of [some (.ref a_t), some (vI v1), some (vI v2)] ⟨by decide +kernel, rfl⟩ rfl (Nat.le_of_ble_eq_true rfl) hg

/-! ===== X9_sumAt ===== -/
theorem e_X9_sumAt_0 : DC cX9_sumAt 0 (.iconst 0) 1 1 := ⟨by decide +kernel, rfl⟩
theorem e_X9_sumAt_1 : DC cX9_sumAt 1 (.istore_n 3) 1 2 := ⟨by decide +kernel, rfl⟩
theorem e_X9_sumAt_2 : DC cX9_sumAt 2 (.iconst 0) 1 3 := ⟨by decide +kernel, rfl⟩
theorem e_X9_sumAt_3 : DC cX9_sumAt 3 (.istore 4) 2 5 := ⟨by decide +kernel, rfl⟩
theorem e_X9_sumAt_5 : DC cX9_sumAt 5 (.iload 4) 2 7 := ⟨by decide +kernel, rfl⟩
theorem e_X9_sumAt_7 : DC cX9_sumAt 7 (.aload_n 0) 1 8 := ⟨by decide +kernel, rfl⟩
theorem e_X9_sumAt_8 : DC cX9_sumAt 8 (.getfield 27) 3 11 := ⟨by decide +kernel, rfl⟩
theorem e_X9_sumAt_11 : DC cX9_sumAt 11 (.getfield 74) 3 14 := ⟨by decide +kernel, rfl⟩
theorem e_X9_sumAt_14 : DB cX9_sumAt 14 (.if_icmp .ge 80) (80) 3 17 94 := ⟨by decide +kernel, rfl, rfl⟩
theorem e_X9_sumAt_17 : DC cX9_sumAt 17 (.aload_n 0) 1 18 := ⟨by decide +kernel, rfl⟩
theorem e_X9_sumAt_18 : DC cX9_sumAt 18 (.getfield 31) 3 21 := ⟨by decide +kernel, rfl⟩
theorem e_X9_sumAt_21 : DC cX9_sumAt 21 (.iload 4) 2 23 := ⟨by decide +kernel, rfl⟩
theorem e_X9_sumAt_23 : DC cX9_sumAt 23 (.baload) 1 24 := ⟨by decide +kernel, rfl⟩
theorem e_X9_sumAt_24 : DB cX9_sumAt 24 (.ifCond .eq 30) (30) 3 27 54 := ⟨by decide +kernel, rfl, rfl⟩
theorem e_X9_sumAt_27 : DC cX9_sumAt 27 (.aload_n 0) 1 28 := ⟨by decide +kernel, rfl⟩
theorem e_X9_sumAt_28 : DC cX9_sumAt 28 (.getfield 15) 3 31 := ⟨by decide +kernel, rfl⟩
theorem e_X9_sumAt_31 : DC cX9_sumAt 31 (.iload 4) 2 33 := ⟨by decide +kernel, rfl⟩
theorem e_X9_sumAt_33 : DC cX9_sumAt 33 (.iaload) 1 34 := ⟨by decide +kernel, rfl⟩
theorem e_X9_sumAt_34 : DC cX9_sumAt 34 (.iload_n 1) 1 35 := ⟨by decide +kernel, rfl⟩
theorem e_X9_sumAt_35 : DB cX9_sumAt 35 (.if_icmp .ne 19) (19) 3 38 54 := ⟨by decide +kernel, rfl, rfl⟩
theorem e_X9_sumAt_38 : DC cX9_sumAt 38 (.iload_n 3) 1 39 := ⟨by decide +kernel, rfl⟩
theorem e_X9_sumAt_39 : DC cX9_sumAt 39 (.aload_n 0) 1 40 := ⟨by decide +kernel, rfl⟩
theorem e_X9_sumAt_40 : DC cX9_sumAt 40 (.getfield 27) 3 43 := ⟨by decide +kernel, rfl⟩
theorem e_X9_sumAt_43 : DC cX9_sumAt 43 (.iload 4) 2 45 := ⟨by decide +kernel, rfl⟩
theorem e_X9_sumAt_45 : DC cX9_sumAt 45 (.iload_n 2) 1 46 := ⟨by decide +kernel, rfl⟩
theorem e_X9_sumAt_46 : DC cX9_sumAt 46 (.invokevirtual 87) 3 49 := ⟨by decide +kernel, rfl⟩
theorem e_X9_sumAt_49 : DC cX9_sumAt 49 (.iadd) 1 50 := ⟨by decide +kernel, rfl⟩
theorem e_X9_sumAt_50 : DC cX9_sumAt 50 (.istore_n 3) 1 51 := ⟨by decide +kernel, rfl⟩
theorem e_X9_sumAt_51 : DB cX9_sumAt 51 (.goto 37) (37) 3 54 88 := ⟨by decide +kernel, rfl, rfl⟩
theorem e_X9_sumAt_54 : DC cX9_sumAt 54 (.aload_n 0) 1 55 := ⟨by decide +kernel, rfl⟩
theorem e_X9_sumAt_55 : DC cX9_sumAt 55 (.getfield 31) 3 58 := ⟨by decide +kernel, rfl⟩
theorem e_X9_sumAt_58 : DC cX9_sumAt 58 (.iload 4) 2 60 := ⟨by decide +kernel, rfl⟩
theorem e_X9_sumAt_60 : DC cX9_sumAt 60 (.baload) 1 61 := ⟨by decide +kernel, rfl⟩
theorem e_X9_sumAt_61 : DB cX9_sumAt 61 (.ifCond .eq 27) (27) 3 64 88 := ⟨by decide +kernel, rfl, rfl⟩
theorem e_X9_sumAt_64 : DC cX9_sumAt 64 (.aload_n 0) 1 65 := ⟨by decide +kernel, rfl⟩
theorem e_X9_sumAt_65 : DC cX9_sumAt 65 (.getfield 19) 3 68 := ⟨by decide +kernel, rfl⟩
theorem e_X9_sumAt_68 : DC cX9_sumAt 68 (.iload 4) 2 70 := ⟨by decide +kernel, rfl⟩
theorem e_X9_sumAt_70 : DC cX9_sumAt 70 (.iaload) 1 71 := ⟨by decide +kernel, rfl⟩
theorem e_X9_sumAt_71 : DC cX9_sumAt 71 (.iload_n 1) 1 72 := ⟨by decide +kernel, rfl⟩
theorem e_X9_sumAt_72 : DB cX9_sumAt 72 (.if_icmp .ne 16) (16) 3 75 88 := ⟨by decide +kernel, rfl, rfl⟩
theorem e_X9_sumAt_75 : DC cX9_sumAt 75 (.iload_n 3) 1 76 := ⟨by decide +kernel, rfl⟩
theorem e_X9_sumAt_76 : DC cX9_sumAt 76 (.aload_n 0) 1 77 := ⟨by decide +kernel, rfl⟩
theorem e_X9_sumAt_77 : DC cX9_sumAt 77 (.getfield 27) 3 80 := ⟨by decide +kernel, rfl⟩
theorem e_X9_sumAt_80 : DC cX9_sumAt 80 (.iload 4) 2 82 := ⟨by decide +kernel, rfl⟩
theorem e_X9_sumAt_82 : DC cX9_sumAt 82 (.iload_n 2) 1 83 := ⟨by decide +kernel, rfl⟩
theorem e_X9_sumAt_83 : DC cX9_sumAt 83 (.invokevirtual 87) 3 86 := ⟨by decide +kernel, rfl⟩
theorem e_X9_sumAt_86 : DC cX9_sumAt 86 (.isub) 1 87 := ⟨by decide +kernel, rfl⟩
theorem e_X9_sumAt_87 : DC cX9_sumAt 87 (.istore_n 3) 1 88 := ⟨by decide +kernel, rfl⟩
theorem e_X9_sumAt_88 : DC cX9_sumAt 88 (.iinc 4 1) 3 91 := ⟨by decide +kernel, rfl⟩
theorem e_X9_sumAt_91 : DB cX9_sumAt 91 (.goto (-86)) (-86) 3 94 5 := ⟨by decide +kernel, rfl, rfl⟩
theorem e_X9_sumAt_94 : DC cX9_sumAt 94 (.iload_n 3) 1 95 := ⟨by decide +kernel, rfl⟩
theorem e_X9_sumAt_95 : DC cX9_sumAt 95 (.ireturn) 1 96 := ⟨by decide +kernel, rfl⟩
noncomputable def m_X9_sumAt_88 (t_froms : Nat → Int) (t_tos : Nat → Int) (t_steps_many : Int) (t_steps_xs : Nat → Int) (t_steps_ys : Nat → Int) (t_steps_zs : Nat → Int) (t_there : Nat → Int) (v1 : Int) (v2 : Int) (v3 : Int) (v4 : Int) (ag : Int → Int → Option (Int)) (k_94 : Int → Int → Option (Int)) : Option (Int) :=
  chk (inI (v4 + 1)) (ag v3 (v4 + 1))

set_option maxRecDepth 10000 in
theorem g_X9_sumAt_88 {l : Launch} {E : EE} {b0 n : Nat} {h : AH} {a_t : Nat} {t_knotMany t_thereMany t_groupMany t_steps_many v1 v2 v3 v4 : Int} {t_froms t_tos t_steps_xs t_steps_ys t_steps_zs t_there : Nat → Int} {r : Int} {ag : Int → Int → Option (Int)} {k_94 : Int → Int → Option (Int)} (ao : AO b0 n [a_t, (a_t + 2), (a_t + 3), (a_t + 4), (a_t + 5), (a_t + 6), (a_t + 7), (a_t + 8)]) (ok_t_froms : okA t_froms) (ok_t_tos : okA t_tos) (ok_t_steps_many : inI t_steps_many) (ok_t_steps_xs : okA t_steps_xs) (ok_t_steps_ys : okA t_steps_ys) (ok_t_steps_zs : okA t_steps_zs) (ok_t_there : okZ t_there) (ok_v1 : inI v1) (ok_v2 : inI v2) (ok_v3 : inI v3) (ok_v4 : inI v4) (hag : ∀ (v3_ : Int) (v4_ : Int), inI v3_ → inI v4_ → ag v3_ v4_ = some r → G l E b0 M_X9_sumAt (fun _ => True) (ZM E b0 (some (vI r)) (ov [a_t, (a_t + 2), (a_t + 3), (a_t + 4), (a_t + 5), (a_t + 6), (a_t + 7), (a_t + 8)] [.inr (9, fsX9 a_t t_knotMany t_thereMany t_groupMany), IA E 120 t_froms, IA E 120 t_tos, .inr (8, fsX8 (a_t + 4) t_steps_many), IA E 120 t_steps_xs, IA E 120 t_steps_ys, IA E 120 t_steps_zs, ZA E 120 t_there] h) n (inI r) 0 0) 0 0 n (ov [a_t, (a_t + 2), (a_t + 3), (a_t + 4), (a_t + 5), (a_t + 6), (a_t + 7), (a_t + 8)] [.inr (9, fsX9 a_t t_knotMany t_thereMany t_groupMany), IA E 120 t_froms, IA E 120 t_tos, .inr (8, fsX8 (a_t + 4) t_steps_many), IA E 120 t_steps_xs, IA E 120 t_steps_ys, IA E 120 t_steps_zs, ZA E 120 t_there] h) 5 [some (.ref a_t), some (vI v1), some (vI v2), some (vI v3_), some (vI v4_)] []) (hk_94 : ∀ (v3_ : Int) (v4_ : Int), inI v3_ → inI v4_ → k_94 v3_ v4_ = some r → G l E b0 M_X9_sumAt (fun _ => True) (ZM E b0 (some (vI r)) (ov [a_t, (a_t + 2), (a_t + 3), (a_t + 4), (a_t + 5), (a_t + 6), (a_t + 7), (a_t + 8)] [.inr (9, fsX9 a_t t_knotMany t_thereMany t_groupMany), IA E 120 t_froms, IA E 120 t_tos, .inr (8, fsX8 (a_t + 4) t_steps_many), IA E 120 t_steps_xs, IA E 120 t_steps_ys, IA E 120 t_steps_zs, ZA E 120 t_there] h) n (inI r) 0 0) 0 0 n (ov [a_t, (a_t + 2), (a_t + 3), (a_t + 4), (a_t + 5), (a_t + 6), (a_t + 7), (a_t + 8)] [.inr (9, fsX9 a_t t_knotMany t_thereMany t_groupMany), IA E 120 t_froms, IA E 120 t_tos, .inr (8, fsX8 (a_t + 4) t_steps_many), IA E 120 t_steps_xs, IA E 120 t_steps_ys, IA E 120 t_steps_zs, ZA E 120 t_there] h) 94 [none, none, none, some (vI v3_), none] []) (hs : m_X9_sumAt_88 t_froms t_tos t_steps_many t_steps_xs t_steps_ys t_steps_zs t_there v1 v2 v3 v4 ag k_94 = some r) : G l E b0 M_X9_sumAt (fun _ => True) (ZM E b0 (some (vI r)) (ov [a_t, (a_t + 2), (a_t + 3), (a_t + 4), (a_t + 5), (a_t + 6), (a_t + 7), (a_t + 8)] [.inr (9, fsX9 a_t t_knotMany t_thereMany t_groupMany), IA E 120 t_froms, IA E 120 t_tos, .inr (8, fsX8 (a_t + 4) t_steps_many), IA E 120 t_steps_xs, IA E 120 t_steps_ys, IA E 120 t_steps_zs, ZA E 120 t_there] h) n (inI r) 0 0) 0 0 n (ov [a_t, (a_t + 2), (a_t + 3), (a_t + 4), (a_t + 5), (a_t + 6), (a_t + 7), (a_t + 8)] [.inr (9, fsX9 a_t t_knotMany t_thereMany t_groupMany), IA E 120 t_froms, IA E 120 t_tos, .inr (8, fsX8 (a_t + 4) t_steps_many), IA E 120 t_steps_xs, IA E 120 t_steps_ys, IA E 120 t_steps_zs, ZA E 120 t_there] h) 88 [some (.ref a_t), some (vI v1), some (vI v2), some (vI v3), some (vI v4)] [] := by
  rw [m_X9_sumAt_88] at hs
  refine g_iinc e_X9_sumAt_88 rfl st1_4 rfl ?_
  refine g_goto e_X9_sumAt_91 ?_
  obtain ⟨hc3, hs⟩ := chk_elim hs
  exact hag _ _ ok_v3 hc3 hs

noncomputable def m_X9_sumAt_54 (t_froms : Nat → Int) (t_tos : Nat → Int) (t_steps_many : Int) (t_steps_xs : Nat → Int) (t_steps_ys : Nat → Int) (t_steps_zs : Nat → Int) (t_there : Nat → Int) (v1 : Int) (v2 : Int) (v3 : Int) (v4 : Int) (ag : Int → Int → Option (Int)) (k_94 : Int → Int → Option (Int)) : Option (Int) :=
  chk (inB v4 120) (if (t_there (Int.toNat v4)) = 0 then (m_X9_sumAt_88 t_froms t_tos t_steps_many t_steps_xs t_steps_ys t_steps_zs t_there v1 v2 v3 v4 ag k_94) else (chk (inB v4 120) (if (t_tos (Int.toNat v4)) = v1 then ((m_X8_partOf 120 t_steps_many t_steps_xs t_steps_ys t_steps_zs v4 v2).bind (fun y5 => chk (inI (v3 - y5)) (m_X9_sumAt_88 t_froms t_tos t_steps_many t_steps_xs t_steps_ys t_steps_zs t_there v1 v2 (v3 - y5) v4 ag k_94))) else (m_X9_sumAt_88 t_froms t_tos t_steps_many t_steps_xs t_steps_ys t_steps_zs t_there v1 v2 v3 v4 ag k_94))))

set_option maxRecDepth 10000 in
theorem g_X9_sumAt_54 {l : Launch} {E : EE} {b0 n : Nat} {h : AH} {a_t : Nat} {t_knotMany t_thereMany t_groupMany t_steps_many v1 v2 v3 v4 : Int} {t_froms t_tos t_steps_xs t_steps_ys t_steps_zs t_there : Nat → Int} {r : Int} {ag : Int → Int → Option (Int)} {k_94 : Int → Int → Option (Int)} (ao : AO b0 n [a_t, (a_t + 2), (a_t + 3), (a_t + 4), (a_t + 5), (a_t + 6), (a_t + 7), (a_t + 8)]) (ok_t_froms : okA t_froms) (ok_t_tos : okA t_tos) (ok_t_steps_many : inI t_steps_many) (ok_t_steps_xs : okA t_steps_xs) (ok_t_steps_ys : okA t_steps_ys) (ok_t_steps_zs : okA t_steps_zs) (ok_t_there : okZ t_there) (ok_v1 : inI v1) (ok_v2 : inI v2) (ok_v3 : inI v3) (ok_v4 : inI v4) (hag : ∀ (v3_ : Int) (v4_ : Int), inI v3_ → inI v4_ → ag v3_ v4_ = some r → G l E b0 M_X9_sumAt (fun _ => True) (ZM E b0 (some (vI r)) (ov [a_t, (a_t + 2), (a_t + 3), (a_t + 4), (a_t + 5), (a_t + 6), (a_t + 7), (a_t + 8)] [.inr (9, fsX9 a_t t_knotMany t_thereMany t_groupMany), IA E 120 t_froms, IA E 120 t_tos, .inr (8, fsX8 (a_t + 4) t_steps_many), IA E 120 t_steps_xs, IA E 120 t_steps_ys, IA E 120 t_steps_zs, ZA E 120 t_there] h) n (inI r) 0 0) 0 0 n (ov [a_t, (a_t + 2), (a_t + 3), (a_t + 4), (a_t + 5), (a_t + 6), (a_t + 7), (a_t + 8)] [.inr (9, fsX9 a_t t_knotMany t_thereMany t_groupMany), IA E 120 t_froms, IA E 120 t_tos, .inr (8, fsX8 (a_t + 4) t_steps_many), IA E 120 t_steps_xs, IA E 120 t_steps_ys, IA E 120 t_steps_zs, ZA E 120 t_there] h) 5 [some (.ref a_t), some (vI v1), some (vI v2), some (vI v3_), some (vI v4_)] []) (hk_94 : ∀ (v3_ : Int) (v4_ : Int), inI v3_ → inI v4_ → k_94 v3_ v4_ = some r → G l E b0 M_X9_sumAt (fun _ => True) (ZM E b0 (some (vI r)) (ov [a_t, (a_t + 2), (a_t + 3), (a_t + 4), (a_t + 5), (a_t + 6), (a_t + 7), (a_t + 8)] [.inr (9, fsX9 a_t t_knotMany t_thereMany t_groupMany), IA E 120 t_froms, IA E 120 t_tos, .inr (8, fsX8 (a_t + 4) t_steps_many), IA E 120 t_steps_xs, IA E 120 t_steps_ys, IA E 120 t_steps_zs, ZA E 120 t_there] h) n (inI r) 0 0) 0 0 n (ov [a_t, (a_t + 2), (a_t + 3), (a_t + 4), (a_t + 5), (a_t + 6), (a_t + 7), (a_t + 8)] [.inr (9, fsX9 a_t t_knotMany t_thereMany t_groupMany), IA E 120 t_froms, IA E 120 t_tos, .inr (8, fsX8 (a_t + 4) t_steps_many), IA E 120 t_steps_xs, IA E 120 t_steps_ys, IA E 120 t_steps_zs, ZA E 120 t_there] h) 94 [none, none, none, some (vI v3_), none] []) (hs : m_X9_sumAt_54 t_froms t_tos t_steps_many t_steps_xs t_steps_ys t_steps_zs t_there v1 v2 v3 v4 ag k_94 = some r) : G l E b0 M_X9_sumAt (fun _ => True) (ZM E b0 (some (vI r)) (ov [a_t, (a_t + 2), (a_t + 3), (a_t + 4), (a_t + 5), (a_t + 6), (a_t + 7), (a_t + 8)] [.inr (9, fsX9 a_t t_knotMany t_thereMany t_groupMany), IA E 120 t_froms, IA E 120 t_tos, .inr (8, fsX8 (a_t + 4) t_steps_many), IA E 120 t_steps_xs, IA E 120 t_steps_ys, IA E 120 t_steps_zs, ZA E 120 t_there] h) n (inI r) 0 0) 0 0 n (ov [a_t, (a_t + 2), (a_t + 3), (a_t + 4), (a_t + 5), (a_t + 6), (a_t + 7), (a_t + 8)] [.inr (9, fsX9 a_t t_knotMany t_thereMany t_groupMany), IA E 120 t_froms, IA E 120 t_tos, .inr (8, fsX8 (a_t + 4) t_steps_many), IA E 120 t_steps_xs, IA E 120 t_steps_ys, IA E 120 t_steps_zs, ZA E 120 t_there] h) 54 [some (.ref a_t), some (vI v1), some (vI v2), some (vI v3), some (vI v4)] [] := by
  rw [m_X9_sumAt_54] at hs
  refine g_aload_n e_X9_sumAt_54 rfl ?_
  refine g_get 0 4 ao rfl rfl fsX9_g4 fl_X9_31 e_X9_sumAt_55 ?_
  refine g_iload e_X9_sumAt_58 rfl ?_
  refine g_zald 7 ao rfl rfl (Nat.le_of_ble_eq_true rfl) e_X9_sumAt_60 hs (fun hi2 hs => ?_)
  refine g_if_eq e_X9_sumAt_61 (inZ_I (ok_t_there _)) hs (fun c61 hs => ?_) (fun c61 hs => ?_)
  · exact g_X9_sumAt_88 ao ok_t_froms ok_t_tos ok_t_steps_many ok_t_steps_xs ok_t_steps_ys ok_t_steps_zs ok_t_there ok_v1 ok_v2 ok_v3 ok_v4 hag hk_94 hs
  · refine g_aload_n e_X9_sumAt_64 rfl ?_
    refine g_get 0 2 ao rfl rfl fsX9_g2 fl_X9_19 e_X9_sumAt_65 ?_
    refine g_iload e_X9_sumAt_68 rfl ?_
    refine g_iald 2 ao rfl rfl (Nat.le_of_ble_eq_true rfl) e_X9_sumAt_70 hs (fun hi4 hs => ?_)
    refine g_iload_n e_X9_sumAt_71 rfl ?_
    refine g_icmp_ne e_X9_sumAt_72 (ok_t_tos _) ok_v1 hs (fun c72 hs => ?_) (fun c72 hs => ?_)
    · refine g_iload_n e_X9_sumAt_75 rfl ?_
      refine g_aload_n e_X9_sumAt_76 rfl ?_
      refine g_get 0 3 ao rfl rfl fsX9_g3 fl_X9_27 e_X9_sumAt_77 ?_
      refine g_iload e_X9_sumAt_80 rfl ?_
      refine g_iload_n e_X9_sumAt_82 rfl ?_
      obtain ⟨y5, hy5, hs⟩ := bind_elim hs
      refine g_callVr [vI v4, vI v2] cv_X9_87 ⟨rfl, rfl, Nat.le_of_ble_eq_true rfl, Nat.le_of_ble_eq_true rfl⟩ (ct_X8_partOf (AO_call [3, 4, 5, 6] ao (by decide) rfl) (by omega) (FA_call [3, 4, 5, 6] ao.1 rfl rfl) ok_t_steps_many ok_t_steps_xs ok_t_steps_ys ok_t_steps_zs ok_v4 ok_v2 hy5) e_X9_sumAt_83 (ao.2 3 _ rfl) (ov_get 3 ao.1 rfl rfl) rfl rfl rfl (Nat.le_of_ble_eq_true rfl) ⟨Nat.le_refl _, Nat.le_refl _⟩ (fun Py5 => ?_)
      refine g_isub e_X9_sumAt_86 ?_
      refine g_istore_n e_X9_sumAt_87 st1_3 rfl ?_
      obtain ⟨hc6, hs⟩ := chk_elim hs
      exact g_X9_sumAt_88 ao ok_t_froms ok_t_tos ok_t_steps_many ok_t_steps_xs ok_t_steps_ys ok_t_steps_zs ok_t_there ok_v1 ok_v2 hc6 ok_v4 hag hk_94 hs
    · exact g_X9_sumAt_88 ao ok_t_froms ok_t_tos ok_t_steps_many ok_t_steps_xs ok_t_steps_ys ok_t_steps_zs ok_t_there ok_v1 ok_v2 ok_v3 ok_v4 hag hk_94 hs

noncomputable def m_X9_sumAt_5 (t_froms : Nat → Int) (t_tos : Nat → Int) (t_steps_many : Int) (t_steps_xs : Nat → Int) (t_steps_ys : Nat → Int) (t_steps_zs : Nat → Int) (t_there : Nat → Int) (v1 : Int) (v2 : Int) (k_94 : Int → Int → Option (Int)) : Nat → Int → Int → Option (Int)
  | 0, _, _ => none
  | F + 1, v3, v4 => if t_steps_many ≤ v4 then (some (v3)) else (chk (inB v4 120) (if (t_there (Int.toNat v4)) = 0 then (m_X9_sumAt_54 t_froms t_tos t_steps_many t_steps_xs t_steps_ys t_steps_zs t_there v1 v2 v3 v4 (m_X9_sumAt_5 t_froms t_tos t_steps_many t_steps_xs t_steps_ys t_steps_zs t_there v1 v2 k_94 F) k_94) else (chk (inB v4 120) (if (t_froms (Int.toNat v4)) = v1 then ((m_X8_partOf 120 t_steps_many t_steps_xs t_steps_ys t_steps_zs v4 v2).bind (fun y8 => chk (inI (v3 + y8)) (m_X9_sumAt_88 t_froms t_tos t_steps_many t_steps_xs t_steps_ys t_steps_zs t_there v1 v2 (v3 + y8) v4 (m_X9_sumAt_5 t_froms t_tos t_steps_many t_steps_xs t_steps_ys t_steps_zs t_there v1 v2 k_94 F) k_94))) else (m_X9_sumAt_54 t_froms t_tos t_steps_many t_steps_xs t_steps_ys t_steps_zs t_there v1 v2 v3 v4 (m_X9_sumAt_5 t_froms t_tos t_steps_many t_steps_xs t_steps_ys t_steps_zs t_there v1 v2 k_94 F) k_94)))))

set_option maxRecDepth 10000 in
theorem g_X9_sumAt_5 {l : Launch} {E : EE} {b0 n : Nat} {h : AH} {a_t : Nat} {t_knotMany t_thereMany t_groupMany t_steps_many v1 v2 : Int} {t_froms t_tos t_steps_xs t_steps_ys t_steps_zs t_there : Nat → Int} {r : Int} {k_94 : Int → Int → Option (Int)} (ao : AO b0 n [a_t, (a_t + 2), (a_t + 3), (a_t + 4), (a_t + 5), (a_t + 6), (a_t + 7), (a_t + 8)]) (ok_t_froms : okA t_froms) (ok_t_tos : okA t_tos) (ok_t_steps_many : inI t_steps_many) (ok_t_steps_xs : okA t_steps_xs) (ok_t_steps_ys : okA t_steps_ys) (ok_t_steps_zs : okA t_steps_zs) (ok_t_there : okZ t_there) (ok_v1 : inI v1) (ok_v2 : inI v2) (hk_94 : ∀ (v3_ : Int) (v4_ : Int), inI v3_ → inI v4_ → k_94 v3_ v4_ = some r → G l E b0 M_X9_sumAt (fun _ => True) (ZM E b0 (some (vI r)) (ov [a_t, (a_t + 2), (a_t + 3), (a_t + 4), (a_t + 5), (a_t + 6), (a_t + 7), (a_t + 8)] [.inr (9, fsX9 a_t t_knotMany t_thereMany t_groupMany), IA E 120 t_froms, IA E 120 t_tos, .inr (8, fsX8 (a_t + 4) t_steps_many), IA E 120 t_steps_xs, IA E 120 t_steps_ys, IA E 120 t_steps_zs, ZA E 120 t_there] h) n (inI r) 0 0) 0 0 n (ov [a_t, (a_t + 2), (a_t + 3), (a_t + 4), (a_t + 5), (a_t + 6), (a_t + 7), (a_t + 8)] [.inr (9, fsX9 a_t t_knotMany t_thereMany t_groupMany), IA E 120 t_froms, IA E 120 t_tos, .inr (8, fsX8 (a_t + 4) t_steps_many), IA E 120 t_steps_xs, IA E 120 t_steps_ys, IA E 120 t_steps_zs, ZA E 120 t_there] h) 94 [none, none, none, some (vI v3_), none] []) :
    ∀ (F : Nat) (v3 : Int) (v4 : Int), inI v3 → inI v4 → m_X9_sumAt_5 t_froms t_tos t_steps_many t_steps_xs t_steps_ys t_steps_zs t_there v1 v2 k_94 F v3 v4 = some r → G l E b0 M_X9_sumAt (fun _ => True) (ZM E b0 (some (vI r)) (ov [a_t, (a_t + 2), (a_t + 3), (a_t + 4), (a_t + 5), (a_t + 6), (a_t + 7), (a_t + 8)] [.inr (9, fsX9 a_t t_knotMany t_thereMany t_groupMany), IA E 120 t_froms, IA E 120 t_tos, .inr (8, fsX8 (a_t + 4) t_steps_many), IA E 120 t_steps_xs, IA E 120 t_steps_ys, IA E 120 t_steps_zs, ZA E 120 t_there] h) n (inI r) 0 0) 0 0 n (ov [a_t, (a_t + 2), (a_t + 3), (a_t + 4), (a_t + 5), (a_t + 6), (a_t + 7), (a_t + 8)] [.inr (9, fsX9 a_t t_knotMany t_thereMany t_groupMany), IA E 120 t_froms, IA E 120 t_tos, .inr (8, fsX8 (a_t + 4) t_steps_many), IA E 120 t_steps_xs, IA E 120 t_steps_ys, IA E 120 t_steps_zs, ZA E 120 t_there] h) 5 [some (.ref a_t), some (vI v1), some (vI v2), some (vI v3), some (vI v4)] [] := by
  intro F
  induction F with
  | zero =>
    intro v3 v4 ok_v3 ok_v4 hs
    rw [m_X9_sumAt_5] at hs
    cases hs
  | succ F ih =>
    intro v3 v4 ok_v3 ok_v4 hs
    rw [m_X9_sumAt_5] at hs
    refine g_iload e_X9_sumAt_5 rfl ?_
    refine g_aload_n e_X9_sumAt_7 rfl ?_
    refine g_get 0 3 ao rfl rfl fsX9_g3 fl_X9_27 e_X9_sumAt_8 ?_
    refine g_get 3 3 ao rfl rfl fsX8_g3 fl_X9_74 e_X9_sumAt_11 ?_
    refine g_icmp_ge e_X9_sumAt_14 ok_v4 ok_t_steps_many hs (fun c14 hs => ?_) (fun c14 hs => ?_)
    · refine g_iload_n e_X9_sumAt_94 rfl ?_
      obtain rfl := Option.some.inj hs
      exact g_iret rfl ok_v3 e_X9_sumAt_95
    · refine g_aload_n e_X9_sumAt_17 rfl ?_
      refine g_get 0 4 ao rfl rfl fsX9_g4 fl_X9_31 e_X9_sumAt_18 ?_
      refine g_iload e_X9_sumAt_21 rfl ?_
      refine g_zald 7 ao rfl rfl (Nat.le_of_ble_eq_true rfl) e_X9_sumAt_23 hs (fun hi1 hs => ?_)
      refine g_if_eq e_X9_sumAt_24 (inZ_I (ok_t_there _)) hs (fun c24 hs => ?_) (fun c24 hs => ?_)
      · exact g_X9_sumAt_54 ao ok_t_froms ok_t_tos ok_t_steps_many ok_t_steps_xs ok_t_steps_ys ok_t_steps_zs ok_t_there ok_v1 ok_v2 ok_v3 ok_v4 ih hk_94 hs
      · refine g_aload_n e_X9_sumAt_27 rfl ?_
        refine g_get 0 1 ao rfl rfl fsX9_g1 fl_X9_15 e_X9_sumAt_28 ?_
        refine g_iload e_X9_sumAt_31 rfl ?_
        refine g_iald 1 ao rfl rfl (Nat.le_of_ble_eq_true rfl) e_X9_sumAt_33 hs (fun hi7 hs => ?_)
        refine g_iload_n e_X9_sumAt_34 rfl ?_
        refine g_icmp_ne e_X9_sumAt_35 (ok_t_froms _) ok_v1 hs (fun c35 hs => ?_) (fun c35 hs => ?_)
        · refine g_iload_n e_X9_sumAt_38 rfl ?_
          refine g_aload_n e_X9_sumAt_39 rfl ?_
          refine g_get 0 3 ao rfl rfl fsX9_g3 fl_X9_27 e_X9_sumAt_40 ?_
          refine g_iload e_X9_sumAt_43 rfl ?_
          refine g_iload_n e_X9_sumAt_45 rfl ?_
          obtain ⟨y8, hy8, hs⟩ := bind_elim hs
          refine g_callVr [vI v4, vI v2] cv_X9_87 ⟨rfl, rfl, Nat.le_of_ble_eq_true rfl, Nat.le_of_ble_eq_true rfl⟩ (ct_X8_partOf (AO_call [3, 4, 5, 6] ao (by decide) rfl) (by omega) (FA_call [3, 4, 5, 6] ao.1 rfl rfl) ok_t_steps_many ok_t_steps_xs ok_t_steps_ys ok_t_steps_zs ok_v4 ok_v2 hy8) e_X9_sumAt_46 (ao.2 3 _ rfl) (ov_get 3 ao.1 rfl rfl) rfl rfl rfl (Nat.le_of_ble_eq_true rfl) ⟨Nat.le_refl _, Nat.le_refl _⟩ (fun Py8 => ?_)
          refine g_iadd e_X9_sumAt_49 ?_
          refine g_istore_n e_X9_sumAt_50 st1_3 rfl ?_
          refine g_goto e_X9_sumAt_51 ?_
          obtain ⟨hc9, hs⟩ := chk_elim hs
          exact g_X9_sumAt_88 ao ok_t_froms ok_t_tos ok_t_steps_many ok_t_steps_xs ok_t_steps_ys ok_t_steps_zs ok_t_there ok_v1 ok_v2 hc9 ok_v4 ih hk_94 hs
        · exact g_X9_sumAt_54 ao ok_t_froms ok_t_tos ok_t_steps_many ok_t_steps_xs ok_t_steps_ys ok_t_steps_zs ok_t_there ok_v1 ok_v2 ok_v3 ok_v4 ih hk_94 hs

noncomputable def m_X9_sumAt_94 (v3 : Int) : Option (Int) :=
  some (v3)

set_option maxRecDepth 10000 in
theorem g_X9_sumAt_94 {l : Launch} {E : EE} {b0 n : Nat} {h : AH} {a_t : Nat} {t_knotMany t_thereMany t_groupMany t_steps_many v3 : Int} {t_froms t_tos t_steps_xs t_steps_ys t_steps_zs t_there : Nat → Int} {r : Int} (ao : AO b0 n [a_t, (a_t + 2), (a_t + 3), (a_t + 4), (a_t + 5), (a_t + 6), (a_t + 7), (a_t + 8)]) (ok_t_froms : okA t_froms) (ok_t_tos : okA t_tos) (ok_t_steps_many : inI t_steps_many) (ok_t_steps_xs : okA t_steps_xs) (ok_t_steps_ys : okA t_steps_ys) (ok_t_steps_zs : okA t_steps_zs) (ok_t_there : okZ t_there) (ok_v3 : inI v3) (hs : m_X9_sumAt_94 v3 = some r) : G l E b0 M_X9_sumAt (fun _ => True) (ZM E b0 (some (vI r)) (ov [a_t, (a_t + 2), (a_t + 3), (a_t + 4), (a_t + 5), (a_t + 6), (a_t + 7), (a_t + 8)] [.inr (9, fsX9 a_t t_knotMany t_thereMany t_groupMany), IA E 120 t_froms, IA E 120 t_tos, .inr (8, fsX8 (a_t + 4) t_steps_many), IA E 120 t_steps_xs, IA E 120 t_steps_ys, IA E 120 t_steps_zs, ZA E 120 t_there] h) n (inI r) 0 0) 0 0 n (ov [a_t, (a_t + 2), (a_t + 3), (a_t + 4), (a_t + 5), (a_t + 6), (a_t + 7), (a_t + 8)] [.inr (9, fsX9 a_t t_knotMany t_thereMany t_groupMany), IA E 120 t_froms, IA E 120 t_tos, .inr (8, fsX8 (a_t + 4) t_steps_many), IA E 120 t_steps_xs, IA E 120 t_steps_ys, IA E 120 t_steps_zs, ZA E 120 t_there] h) 94 [none, none, none, some (vI v3), none] [] := by
  rw [m_X9_sumAt_94] at hs
  refine g_iload_n e_X9_sumAt_94 rfl ?_
  obtain rfl := Option.some.inj hs
  exact g_iret rfl ok_v3 e_X9_sumAt_95

noncomputable def m_X9_sumAt_0 (t_froms : Nat → Int) (t_tos : Nat → Int) (t_steps_many : Int) (t_steps_xs : Nat → Int) (t_steps_ys : Nat → Int) (t_steps_zs : Nat → Int) (t_there : Nat → Int) (v1 : Int) (v2 : Int) : Option (Int) :=
  m_X9_sumAt_5 t_froms t_tos t_steps_many t_steps_xs t_steps_ys t_steps_zs t_there v1 v2 (fun v3' v4' => m_X9_sumAt_94 v3') FU 0 0

set_option maxRecDepth 10000 in
theorem g_X9_sumAt_0 {l : Launch} {E : EE} {b0 n : Nat} {h : AH} {a_t : Nat} {t_knotMany t_thereMany t_groupMany t_steps_many v1 v2 : Int} {t_froms t_tos t_steps_xs t_steps_ys t_steps_zs t_there : Nat → Int} {r : Int} (ao : AO b0 n [a_t, (a_t + 2), (a_t + 3), (a_t + 4), (a_t + 5), (a_t + 6), (a_t + 7), (a_t + 8)]) (ok_t_froms : okA t_froms) (ok_t_tos : okA t_tos) (ok_t_steps_many : inI t_steps_many) (ok_t_steps_xs : okA t_steps_xs) (ok_t_steps_ys : okA t_steps_ys) (ok_t_steps_zs : okA t_steps_zs) (ok_t_there : okZ t_there) (ok_v1 : inI v1) (ok_v2 : inI v2) (hs : m_X9_sumAt_0 t_froms t_tos t_steps_many t_steps_xs t_steps_ys t_steps_zs t_there v1 v2 = some r) : G l E b0 M_X9_sumAt (fun _ => True) (ZM E b0 (some (vI r)) (ov [a_t, (a_t + 2), (a_t + 3), (a_t + 4), (a_t + 5), (a_t + 6), (a_t + 7), (a_t + 8)] [.inr (9, fsX9 a_t t_knotMany t_thereMany t_groupMany), IA E 120 t_froms, IA E 120 t_tos, .inr (8, fsX8 (a_t + 4) t_steps_many), IA E 120 t_steps_xs, IA E 120 t_steps_ys, IA E 120 t_steps_zs, ZA E 120 t_there] h) n (inI r) 0 0) 0 0 n (ov [a_t, (a_t + 2), (a_t + 3), (a_t + 4), (a_t + 5), (a_t + 6), (a_t + 7), (a_t + 8)] [.inr (9, fsX9 a_t t_knotMany t_thereMany t_groupMany), IA E 120 t_froms, IA E 120 t_tos, .inr (8, fsX8 (a_t + 4) t_steps_many), IA E 120 t_steps_xs, IA E 120 t_steps_ys, IA E 120 t_steps_zs, ZA E 120 t_there] h) 0 [some (.ref a_t), some (vI v1), some (vI v2), none, none] [] := by
  rw [m_X9_sumAt_0] at hs
  refine g_iconst e_X9_sumAt_0 ?_
  refine g_istore_n e_X9_sumAt_1 st1_3 rfl ?_
  refine g_iconst e_X9_sumAt_2 ?_
  refine g_istore e_X9_sumAt_3 st1_4 rfl ?_
  exact g_X9_sumAt_5 ao ok_t_froms ok_t_tos ok_t_steps_many ok_t_steps_xs ok_t_steps_ys ok_t_steps_zs ok_t_there ok_v1 ok_v2 (hk_94 := by
      intro v3' v4' ok_v3' ok_v4' hs
      exact g_X9_sumAt_94 ao ok_t_froms ok_t_tos ok_t_steps_many ok_t_steps_xs ok_t_steps_ys ok_t_steps_zs ok_t_there ok_v3' hs) FU _ _ (by decide : inI 0) (by decide : inI 0) hs

noncomputable def m_X9_sumAt (t_froms : Nat → Int) (t_tos : Nat → Int) (t_steps_many : Int) (t_steps_xs : Nat → Int) (t_steps_ys : Nat → Int) (t_steps_zs : Nat → Int) (t_there : Nat → Int) (v1 : Int) (v2 : Int) : Option (Int) := m_X9_sumAt_0 t_froms t_tos t_steps_many t_steps_xs t_steps_ys t_steps_zs t_there v1 v2

set_option maxRecDepth 10000 in
theorem ct_X9_sumAt {l : Launch} {E : EE} {b0 n : Nat} {h : AH} {a_t : Nat} {t_knotMany t_thereMany t_groupMany t_steps_many : Int} {t_froms t_tos t_steps_xs t_steps_ys t_steps_zs t_there : Nat → Int} {v1 v2 : Int} (ao : AO b0 n [a_t, (a_t + 2), (a_t + 3), (a_t + 4), (a_t + 5), (a_t + 6), (a_t + 7), (a_t + 8)]) (hf : FA h [a_t, (a_t + 2), (a_t + 3), (a_t + 4), (a_t + 5), (a_t + 6), (a_t + 7), (a_t + 8)] [.inr (9, fsX9 a_t t_knotMany t_thereMany t_groupMany), IA E 120 t_froms, IA E 120 t_tos, .inr (8, fsX8 (a_t + 4) t_steps_many), IA E 120 t_steps_xs, IA E 120 t_steps_ys, IA E 120 t_steps_zs, ZA E 120 t_there]) (ok_t_froms : okA t_froms) (ok_t_tos : okA t_tos) (ok_t_steps_many : inI t_steps_many) (ok_t_steps_xs : okA t_steps_xs) (ok_t_steps_ys : okA t_steps_ys) (ok_t_steps_zs : okA t_steps_zs) (ok_t_there : okZ t_there) (ok_v1 : inI v1) (ok_v2 : inI v2) {r : Int} (hm : m_X9_sumAt t_froms t_tos t_steps_many t_steps_xs t_steps_ys t_steps_zs t_there v1 v2 = some r) : Ct l E b0 M_X9_sumAt 0 0 [.ref a_t, vI v1, vI v2] h n (some (vI r)) h n (inI r) := by
  rw [m_X9_sumAt] at hm
  have hg : G l E b0 M_X9_sumAt (fun _ => True) (ZM E b0 (some (vI r)) (ov [a_t, (a_t + 2), (a_t + 3), (a_t + 4), (a_t + 5), (a_t + 6), (a_t + 7), (a_t + 8)] [.inr (9, fsX9 a_t t_knotMany t_thereMany t_groupMany), IA E 120 t_froms, IA E 120 t_tos, .inr (8, fsX8 (a_t + 4) t_steps_many), IA E 120 t_steps_xs, IA E 120 t_steps_ys, IA E 120 t_steps_zs, ZA E 120 t_there] h) n (inI r) 0 0) 0 0 n (ov [a_t, (a_t + 2), (a_t + 3), (a_t + 4), (a_t + 5), (a_t + 6), (a_t + 7), (a_t + 8)] [.inr (9, fsX9 a_t t_knotMany t_thereMany t_groupMany), IA E 120 t_froms, IA E 120 t_tos, .inr (8, fsX8 (a_t + 4) t_steps_many), IA E 120 t_steps_xs, IA E 120 t_steps_ys, IA E 120 t_steps_zs, ZA E 120 t_there] h) 0 [some (.ref a_t), some (vI v1), some (vI v2), none, none] [] := by
    have hs := hm
    exact g_X9_sumAt_0 ao ok_t_froms ok_t_tos ok_t_steps_many ok_t_steps_xs ok_t_steps_ys ok_t_steps_zs ok_t_there ok_v1 ok_v2 hs
  rw [FA_id hf] at hg
  exact Ct_of [some (.ref a_t), some (vI v1), some (vI v2), none, none] ⟨by decide +kernel, rfl⟩ rfl (Nat.le_of_ble_eq_true rfl) hg

/-! ===== X9_firstUnsound ===== -/
theorem e_X9_firstUnsound_0 : DC cX9_firstUnsound 0 (.iconst 0) 1 1 := ⟨by decide +kernel, rfl⟩
theorem e_X9_firstUnsound_1 : DC cX9_firstUnsound 1 (.istore_n 1) 1 2 := ⟨by decide +kernel, rfl⟩
theorem e_X9_firstUnsound_2 : DC cX9_firstUnsound 2 (.iload_n 1) 1 3 := ⟨by decide +kernel, rfl⟩
theorem e_X9_firstUnsound_3 : DC cX9_firstUnsound 3 (.aload_n 0) 1 4 := ⟨by decide +kernel, rfl⟩
theorem e_X9_firstUnsound_4 : DC cX9_firstUnsound 4 (.getfield 52) 3 7 := ⟨by decide +kernel, rfl⟩
theorem e_X9_firstUnsound_7 : DB cX9_firstUnsound 7 (.if_icmp .ge 57) (57) 3 10 64 := ⟨by decide +kernel, rfl, rfl⟩
theorem e_X9_firstUnsound_10 : DC cX9_firstUnsound 10 (.aload_n 0) 1 11 := ⟨by decide +kernel, rfl⟩
theorem e_X9_firstUnsound_11 : DC cX9_firstUnsound 11 (.iload_n 1) 1 12 := ⟨by decide +kernel, rfl⟩
theorem e_X9_firstUnsound_12 : DC cX9_firstUnsound 12 (.iconst 0) 1 13 := ⟨by decide +kernel, rfl⟩
theorem e_X9_firstUnsound_13 : DC cX9_firstUnsound 13 (.invokevirtual 95) 3 16 := ⟨by decide +kernel, rfl⟩
theorem e_X9_firstUnsound_16 : DB cX9_firstUnsound 16 (.ifCond .ne 25) (25) 3 19 41 := ⟨by decide +kernel, rfl, rfl⟩
theorem e_X9_firstUnsound_19 : DC cX9_firstUnsound 19 (.aload_n 0) 1 20 := ⟨by decide +kernel, rfl⟩
theorem e_X9_firstUnsound_20 : DC cX9_firstUnsound 20 (.iload_n 1) 1 21 := ⟨by decide +kernel, rfl⟩
theorem e_X9_firstUnsound_21 : DC cX9_firstUnsound 21 (.iconst 1) 1 22 := ⟨by decide +kernel, rfl⟩
theorem e_X9_firstUnsound_22 : DC cX9_firstUnsound 22 (.invokevirtual 95) 3 25 := ⟨by decide +kernel, rfl⟩
theorem e_X9_firstUnsound_25 : DB cX9_firstUnsound 25 (.ifCond .ne 16) (16) 3 28 41 := ⟨by decide +kernel, rfl, rfl⟩
theorem e_X9_firstUnsound_28 : DC cX9_firstUnsound 28 (.aload_n 0) 1 29 := ⟨by decide +kernel, rfl⟩
theorem e_X9_firstUnsound_29 : DC cX9_firstUnsound 29 (.iload_n 1) 1 30 := ⟨by decide +kernel, rfl⟩
theorem e_X9_firstUnsound_30 : DC cX9_firstUnsound 30 (.iconst 2) 1 31 := ⟨by decide +kernel, rfl⟩
theorem e_X9_firstUnsound_31 : DC cX9_firstUnsound 31 (.invokevirtual 95) 3 34 := ⟨by decide +kernel, rfl⟩
theorem e_X9_firstUnsound_34 : DB cX9_firstUnsound 34 (.ifCond .ne 7) (7) 3 37 41 := ⟨by decide +kernel, rfl, rfl⟩
theorem e_X9_firstUnsound_37 : DC cX9_firstUnsound 37 (.iconst 1) 1 38 := ⟨by decide +kernel, rfl⟩
theorem e_X9_firstUnsound_38 : DB cX9_firstUnsound 38 (.goto 4) (4) 3 41 42 := ⟨by decide +kernel, rfl, rfl⟩
theorem e_X9_firstUnsound_41 : DC cX9_firstUnsound 41 (.iconst 0) 1 42 := ⟨by decide +kernel, rfl⟩
theorem e_X9_firstUnsound_42 : DC cX9_firstUnsound 42 (.istore_n 2) 1 43 := ⟨by decide +kernel, rfl⟩
theorem e_X9_firstUnsound_43 : DC cX9_firstUnsound 43 (.aload_n 0) 1 44 := ⟨by decide +kernel, rfl⟩
theorem e_X9_firstUnsound_44 : DC cX9_firstUnsound 44 (.getfield 9) 3 47 := ⟨by decide +kernel, rfl⟩
theorem e_X9_firstUnsound_47 : DC cX9_firstUnsound 47 (.iload_n 1) 1 48 := ⟨by decide +kernel, rfl⟩
theorem e_X9_firstUnsound_48 : DC cX9_firstUnsound 48 (.baload) 1 49 := ⟨by decide +kernel, rfl⟩
theorem e_X9_firstUnsound_49 : DB cX9_firstUnsound 49 (.ifCond .ne 9) (9) 3 52 58 := ⟨by decide +kernel, rfl, rfl⟩
theorem e_X9_firstUnsound_52 : DC cX9_firstUnsound 52 (.iload_n 2) 1 53 := ⟨by decide +kernel, rfl⟩
theorem e_X9_firstUnsound_53 : DB cX9_firstUnsound 53 (.ifCond .ne 5) (5) 3 56 58 := ⟨by decide +kernel, rfl, rfl⟩
theorem e_X9_firstUnsound_56 : DC cX9_firstUnsound 56 (.iload_n 1) 1 57 := ⟨by decide +kernel, rfl⟩
theorem e_X9_firstUnsound_57 : DC cX9_firstUnsound 57 (.ireturn) 1 58 := ⟨by decide +kernel, rfl⟩
theorem e_X9_firstUnsound_58 : DC cX9_firstUnsound 58 (.iinc 1 1) 3 61 := ⟨by decide +kernel, rfl⟩
theorem e_X9_firstUnsound_61 : DB cX9_firstUnsound 61 (.goto (-59)) (-59) 3 64 2 := ⟨by decide +kernel, rfl, rfl⟩
theorem e_X9_firstUnsound_64 : DC cX9_firstUnsound 64 (.iconst (-1)) 1 65 := ⟨by decide +kernel, rfl⟩
theorem e_X9_firstUnsound_65 : DC cX9_firstUnsound 65 (.ireturn) 1 66 := ⟨by decide +kernel, rfl⟩
noncomputable def m_X9_firstUnsound_58 (t_knotMany : Int) (t_rims : Nat → Int) (t_froms : Nat → Int) (t_tos : Nat → Int) (t_steps_many : Int) (t_steps_xs : Nat → Int) (t_steps_ys : Nat → Int) (t_steps_zs : Nat → Int) (t_there : Nat → Int) (v1 : Int) (ag : Int → Option (Int)) (k_64 : Int → Option (Int)) (k_56 : Int → Option (Int)) : Option (Int) :=
  chk (inI (v1 + 1)) (ag (v1 + 1))

set_option maxRecDepth 10000 in
theorem g_X9_firstUnsound_58 {l : Launch} {E : EE} {b0 n : Nat} {h : AH} {a_t : Nat} {t_knotMany t_thereMany t_groupMany t_steps_many v1 : Int} {t_rims t_froms t_tos t_steps_xs t_steps_ys t_steps_zs t_there : Nat → Int} {r : Int} {ag : Int → Option (Int)} {k_64 : Int → Option (Int)} {k_56 : Int → Option (Int)} (ao : AO b0 n [a_t, (a_t + 1), (a_t + 2), (a_t + 3), (a_t + 4), (a_t + 5), (a_t + 6), (a_t + 7), (a_t + 8)]) (ok_t_knotMany : inI t_knotMany) (ok_t_rims : okZ t_rims) (ok_t_froms : okA t_froms) (ok_t_tos : okA t_tos) (ok_t_steps_many : inI t_steps_many) (ok_t_steps_xs : okA t_steps_xs) (ok_t_steps_ys : okA t_steps_ys) (ok_t_steps_zs : okA t_steps_zs) (ok_t_there : okZ t_there) (ok_v1 : inI v1) (hag : ∀ (v1_ : Int), inI v1_ → ag v1_ = some r → G l E b0 M_X9_firstUnsound (fun _ => True) (ZM E b0 (some (vI r)) (ov [a_t, (a_t + 1), (a_t + 2), (a_t + 3), (a_t + 4), (a_t + 5), (a_t + 6), (a_t + 7), (a_t + 8)] [.inr (9, fsX9 a_t t_knotMany t_thereMany t_groupMany), ZA E 60 t_rims, IA E 120 t_froms, IA E 120 t_tos, .inr (8, fsX8 (a_t + 4) t_steps_many), IA E 120 t_steps_xs, IA E 120 t_steps_ys, IA E 120 t_steps_zs, ZA E 120 t_there] h) n (inI r) 0 0) 0 0 n (ov [a_t, (a_t + 1), (a_t + 2), (a_t + 3), (a_t + 4), (a_t + 5), (a_t + 6), (a_t + 7), (a_t + 8)] [.inr (9, fsX9 a_t t_knotMany t_thereMany t_groupMany), ZA E 60 t_rims, IA E 120 t_froms, IA E 120 t_tos, .inr (8, fsX8 (a_t + 4) t_steps_many), IA E 120 t_steps_xs, IA E 120 t_steps_ys, IA E 120 t_steps_zs, ZA E 120 t_there] h) 2 [some (.ref a_t), some (vI v1_), none] []) (hk_64 : ∀ (v1_ : Int), inI v1_ → k_64 v1_ = some r → G l E b0 M_X9_firstUnsound (fun _ => True) (ZM E b0 (some (vI r)) (ov [a_t, (a_t + 1), (a_t + 2), (a_t + 3), (a_t + 4), (a_t + 5), (a_t + 6), (a_t + 7), (a_t + 8)] [.inr (9, fsX9 a_t t_knotMany t_thereMany t_groupMany), ZA E 60 t_rims, IA E 120 t_froms, IA E 120 t_tos, .inr (8, fsX8 (a_t + 4) t_steps_many), IA E 120 t_steps_xs, IA E 120 t_steps_ys, IA E 120 t_steps_zs, ZA E 120 t_there] h) n (inI r) 0 0) 0 0 n (ov [a_t, (a_t + 1), (a_t + 2), (a_t + 3), (a_t + 4), (a_t + 5), (a_t + 6), (a_t + 7), (a_t + 8)] [.inr (9, fsX9 a_t t_knotMany t_thereMany t_groupMany), ZA E 60 t_rims, IA E 120 t_froms, IA E 120 t_tos, .inr (8, fsX8 (a_t + 4) t_steps_many), IA E 120 t_steps_xs, IA E 120 t_steps_ys, IA E 120 t_steps_zs, ZA E 120 t_there] h) 64 [none, none, none] []) (hk_56 : ∀ (v1_ : Int), inI v1_ → k_56 v1_ = some r → G l E b0 M_X9_firstUnsound (fun _ => True) (ZM E b0 (some (vI r)) (ov [a_t, (a_t + 1), (a_t + 2), (a_t + 3), (a_t + 4), (a_t + 5), (a_t + 6), (a_t + 7), (a_t + 8)] [.inr (9, fsX9 a_t t_knotMany t_thereMany t_groupMany), ZA E 60 t_rims, IA E 120 t_froms, IA E 120 t_tos, .inr (8, fsX8 (a_t + 4) t_steps_many), IA E 120 t_steps_xs, IA E 120 t_steps_ys, IA E 120 t_steps_zs, ZA E 120 t_there] h) n (inI r) 0 0) 0 0 n (ov [a_t, (a_t + 1), (a_t + 2), (a_t + 3), (a_t + 4), (a_t + 5), (a_t + 6), (a_t + 7), (a_t + 8)] [.inr (9, fsX9 a_t t_knotMany t_thereMany t_groupMany), ZA E 60 t_rims, IA E 120 t_froms, IA E 120 t_tos, .inr (8, fsX8 (a_t + 4) t_steps_many), IA E 120 t_steps_xs, IA E 120 t_steps_ys, IA E 120 t_steps_zs, ZA E 120 t_there] h) 56 [none, some (vI v1_), none] []) (hs : m_X9_firstUnsound_58 t_knotMany t_rims t_froms t_tos t_steps_many t_steps_xs t_steps_ys t_steps_zs t_there v1 ag k_64 k_56 = some r) : G l E b0 M_X9_firstUnsound (fun _ => True) (ZM E b0 (some (vI r)) (ov [a_t, (a_t + 1), (a_t + 2), (a_t + 3), (a_t + 4), (a_t + 5), (a_t + 6), (a_t + 7), (a_t + 8)] [.inr (9, fsX9 a_t t_knotMany t_thereMany t_groupMany), ZA E 60 t_rims, IA E 120 t_froms, IA E 120 t_tos, .inr (8, fsX8 (a_t + 4) t_steps_many), IA E 120 t_steps_xs, IA E 120 t_steps_ys, IA E 120 t_steps_zs, ZA E 120 t_there] h) n (inI r) 0 0) 0 0 n (ov [a_t, (a_t + 1), (a_t + 2), (a_t + 3), (a_t + 4), (a_t + 5), (a_t + 6), (a_t + 7), (a_t + 8)] [.inr (9, fsX9 a_t t_knotMany t_thereMany t_groupMany), ZA E 60 t_rims, IA E 120 t_froms, IA E 120 t_tos, .inr (8, fsX8 (a_t + 4) t_steps_many), IA E 120 t_steps_xs, IA E 120 t_steps_ys, IA E 120 t_steps_zs, ZA E 120 t_there] h) 58 [some (.ref a_t), some (vI v1), none] [] := by
  rw [m_X9_firstUnsound_58] at hs
  refine g_iinc e_X9_firstUnsound_58 rfl st1_1 rfl ?_
  refine g_goto e_X9_firstUnsound_61 ?_
  obtain ⟨hc5, hs⟩ := chk_elim hs
  exact hag _ hc5 hs

noncomputable def m_X9_firstUnsound_42 (t_knotMany : Int) (t_rims : Nat → Int) (t_froms : Nat → Int) (t_tos : Nat → Int) (t_steps_many : Int) (t_steps_xs : Nat → Int) (t_steps_ys : Nat → Int) (t_steps_zs : Nat → Int) (t_there : Nat → Int) (v1 : Int) (s0 : Int) (ag : Int → Option (Int)) (k_64 : Int → Option (Int)) (k_56 : Int → Option (Int)) : Option (Int) :=
  chk (inB v1 60) (if (t_rims (Int.toNat v1)) = 0 then (if s0 = 0 then (some (v1)) else (m_X9_firstUnsound_58 t_knotMany t_rims t_froms t_tos t_steps_many t_steps_xs t_steps_ys t_steps_zs t_there v1 ag k_64 k_56)) else (m_X9_firstUnsound_58 t_knotMany t_rims t_froms t_tos t_steps_many t_steps_xs t_steps_ys t_steps_zs t_there v1 ag k_64 k_56))

set_option maxRecDepth 10000 in
theorem g_X9_firstUnsound_42 {l : Launch} {E : EE} {b0 n : Nat} {h : AH} {a_t : Nat} {t_knotMany t_thereMany t_groupMany t_steps_many v1 s0 : Int} {t_rims t_froms t_tos t_steps_xs t_steps_ys t_steps_zs t_there : Nat → Int} {r : Int} {ag : Int → Option (Int)} {k_64 : Int → Option (Int)} {k_56 : Int → Option (Int)} (ao : AO b0 n [a_t, (a_t + 1), (a_t + 2), (a_t + 3), (a_t + 4), (a_t + 5), (a_t + 6), (a_t + 7), (a_t + 8)]) (ok_t_knotMany : inI t_knotMany) (ok_t_rims : okZ t_rims) (ok_t_froms : okA t_froms) (ok_t_tos : okA t_tos) (ok_t_steps_many : inI t_steps_many) (ok_t_steps_xs : okA t_steps_xs) (ok_t_steps_ys : okA t_steps_ys) (ok_t_steps_zs : okA t_steps_zs) (ok_t_there : okZ t_there) (ok_v1 : inI v1) (ok_s0 : inZ s0) (hag : ∀ (v1_ : Int), inI v1_ → ag v1_ = some r → G l E b0 M_X9_firstUnsound (fun _ => True) (ZM E b0 (some (vI r)) (ov [a_t, (a_t + 1), (a_t + 2), (a_t + 3), (a_t + 4), (a_t + 5), (a_t + 6), (a_t + 7), (a_t + 8)] [.inr (9, fsX9 a_t t_knotMany t_thereMany t_groupMany), ZA E 60 t_rims, IA E 120 t_froms, IA E 120 t_tos, .inr (8, fsX8 (a_t + 4) t_steps_many), IA E 120 t_steps_xs, IA E 120 t_steps_ys, IA E 120 t_steps_zs, ZA E 120 t_there] h) n (inI r) 0 0) 0 0 n (ov [a_t, (a_t + 1), (a_t + 2), (a_t + 3), (a_t + 4), (a_t + 5), (a_t + 6), (a_t + 7), (a_t + 8)] [.inr (9, fsX9 a_t t_knotMany t_thereMany t_groupMany), ZA E 60 t_rims, IA E 120 t_froms, IA E 120 t_tos, .inr (8, fsX8 (a_t + 4) t_steps_many), IA E 120 t_steps_xs, IA E 120 t_steps_ys, IA E 120 t_steps_zs, ZA E 120 t_there] h) 2 [some (.ref a_t), some (vI v1_), none] []) (hk_64 : ∀ (v1_ : Int), inI v1_ → k_64 v1_ = some r → G l E b0 M_X9_firstUnsound (fun _ => True) (ZM E b0 (some (vI r)) (ov [a_t, (a_t + 1), (a_t + 2), (a_t + 3), (a_t + 4), (a_t + 5), (a_t + 6), (a_t + 7), (a_t + 8)] [.inr (9, fsX9 a_t t_knotMany t_thereMany t_groupMany), ZA E 60 t_rims, IA E 120 t_froms, IA E 120 t_tos, .inr (8, fsX8 (a_t + 4) t_steps_many), IA E 120 t_steps_xs, IA E 120 t_steps_ys, IA E 120 t_steps_zs, ZA E 120 t_there] h) n (inI r) 0 0) 0 0 n (ov [a_t, (a_t + 1), (a_t + 2), (a_t + 3), (a_t + 4), (a_t + 5), (a_t + 6), (a_t + 7), (a_t + 8)] [.inr (9, fsX9 a_t t_knotMany t_thereMany t_groupMany), ZA E 60 t_rims, IA E 120 t_froms, IA E 120 t_tos, .inr (8, fsX8 (a_t + 4) t_steps_many), IA E 120 t_steps_xs, IA E 120 t_steps_ys, IA E 120 t_steps_zs, ZA E 120 t_there] h) 64 [none, none, none] []) (hk_56 : ∀ (v1_ : Int), inI v1_ → k_56 v1_ = some r → G l E b0 M_X9_firstUnsound (fun _ => True) (ZM E b0 (some (vI r)) (ov [a_t, (a_t + 1), (a_t + 2), (a_t + 3), (a_t + 4), (a_t + 5), (a_t + 6), (a_t + 7), (a_t + 8)] [.inr (9, fsX9 a_t t_knotMany t_thereMany t_groupMany), ZA E 60 t_rims, IA E 120 t_froms, IA E 120 t_tos, .inr (8, fsX8 (a_t + 4) t_steps_many), IA E 120 t_steps_xs, IA E 120 t_steps_ys, IA E 120 t_steps_zs, ZA E 120 t_there] h) n (inI r) 0 0) 0 0 n (ov [a_t, (a_t + 1), (a_t + 2), (a_t + 3), (a_t + 4), (a_t + 5), (a_t + 6), (a_t + 7), (a_t + 8)] [.inr (9, fsX9 a_t t_knotMany t_thereMany t_groupMany), ZA E 60 t_rims, IA E 120 t_froms, IA E 120 t_tos, .inr (8, fsX8 (a_t + 4) t_steps_many), IA E 120 t_steps_xs, IA E 120 t_steps_ys, IA E 120 t_steps_zs, ZA E 120 t_there] h) 56 [none, some (vI v1_), none] []) (hs : m_X9_firstUnsound_42 t_knotMany t_rims t_froms t_tos t_steps_many t_steps_xs t_steps_ys t_steps_zs t_there v1 s0 ag k_64 k_56 = some r) : G l E b0 M_X9_firstUnsound (fun _ => True) (ZM E b0 (some (vI r)) (ov [a_t, (a_t + 1), (a_t + 2), (a_t + 3), (a_t + 4), (a_t + 5), (a_t + 6), (a_t + 7), (a_t + 8)] [.inr (9, fsX9 a_t t_knotMany t_thereMany t_groupMany), ZA E 60 t_rims, IA E 120 t_froms, IA E 120 t_tos, .inr (8, fsX8 (a_t + 4) t_steps_many), IA E 120 t_steps_xs, IA E 120 t_steps_ys, IA E 120 t_steps_zs, ZA E 120 t_there] h) n (inI r) 0 0) 0 0 n (ov [a_t, (a_t + 1), (a_t + 2), (a_t + 3), (a_t + 4), (a_t + 5), (a_t + 6), (a_t + 7), (a_t + 8)] [.inr (9, fsX9 a_t t_knotMany t_thereMany t_groupMany), ZA E 60 t_rims, IA E 120 t_froms, IA E 120 t_tos, .inr (8, fsX8 (a_t + 4) t_steps_many), IA E 120 t_steps_xs, IA E 120 t_steps_ys, IA E 120 t_steps_zs, ZA E 120 t_there] h) 42 [some (.ref a_t), some (vI v1), none] [vI s0] := by
  rw [m_X9_firstUnsound_42] at hs
  refine g_istore_n e_X9_firstUnsound_42 st1_2 rfl ?_
  refine g_aload_n e_X9_firstUnsound_43 rfl ?_
  refine g_get 0 0 ao rfl rfl fsX9_g0 fl_X9_9 e_X9_firstUnsound_44 ?_
  refine g_iload_n e_X9_firstUnsound_47 rfl ?_
  refine g_zald 1 ao rfl rfl (Nat.le_of_ble_eq_true rfl) e_X9_firstUnsound_48 hs (fun hi4 hs => ?_)
  refine g_if_ne e_X9_firstUnsound_49 (inZ_I (ok_t_rims _)) hs (fun c49 hs => ?_) (fun c49 hs => ?_)
  · refine g_iload_n e_X9_firstUnsound_52 rfl ?_
    refine g_if_ne e_X9_firstUnsound_53 (inZ_I ok_s0) hs (fun c53 hs => ?_) (fun c53 hs => ?_)
    · refine g_iload_n e_X9_firstUnsound_56 rfl ?_
      obtain rfl := Option.some.inj hs
      exact g_iret rfl ok_v1 e_X9_firstUnsound_57
    · exact g_mask [true, true, false] (g_X9_firstUnsound_58 ao ok_t_knotMany ok_t_rims ok_t_froms ok_t_tos ok_t_steps_many ok_t_steps_xs ok_t_steps_ys ok_t_steps_zs ok_t_there ok_v1 hag hk_64 hk_56 hs)
  · exact g_mask [true, true, false] (g_X9_firstUnsound_58 ao ok_t_knotMany ok_t_rims ok_t_froms ok_t_tos ok_t_steps_many ok_t_steps_xs ok_t_steps_ys ok_t_steps_zs ok_t_there ok_v1 hag hk_64 hk_56 hs)

noncomputable def m_X9_firstUnsound_41 (t_knotMany : Int) (t_rims : Nat → Int) (t_froms : Nat → Int) (t_tos : Nat → Int) (t_steps_many : Int) (t_steps_xs : Nat → Int) (t_steps_ys : Nat → Int) (t_steps_zs : Nat → Int) (t_there : Nat → Int) (v1 : Int) (ag : Int → Option (Int)) (k_64 : Int → Option (Int)) (k_56 : Int → Option (Int)) : Option (Int) :=
  m_X9_firstUnsound_42 t_knotMany t_rims t_froms t_tos t_steps_many t_steps_xs t_steps_ys t_steps_zs t_there v1 0 ag k_64 k_56

set_option maxRecDepth 10000 in
theorem g_X9_firstUnsound_41 {l : Launch} {E : EE} {b0 n : Nat} {h : AH} {a_t : Nat} {t_knotMany t_thereMany t_groupMany t_steps_many v1 : Int} {t_rims t_froms t_tos t_steps_xs t_steps_ys t_steps_zs t_there : Nat → Int} {r : Int} {ag : Int → Option (Int)} {k_64 : Int → Option (Int)} {k_56 : Int → Option (Int)} (ao : AO b0 n [a_t, (a_t + 1), (a_t + 2), (a_t + 3), (a_t + 4), (a_t + 5), (a_t + 6), (a_t + 7), (a_t + 8)]) (ok_t_knotMany : inI t_knotMany) (ok_t_rims : okZ t_rims) (ok_t_froms : okA t_froms) (ok_t_tos : okA t_tos) (ok_t_steps_many : inI t_steps_many) (ok_t_steps_xs : okA t_steps_xs) (ok_t_steps_ys : okA t_steps_ys) (ok_t_steps_zs : okA t_steps_zs) (ok_t_there : okZ t_there) (ok_v1 : inI v1) (hag : ∀ (v1_ : Int), inI v1_ → ag v1_ = some r → G l E b0 M_X9_firstUnsound (fun _ => True) (ZM E b0 (some (vI r)) (ov [a_t, (a_t + 1), (a_t + 2), (a_t + 3), (a_t + 4), (a_t + 5), (a_t + 6), (a_t + 7), (a_t + 8)] [.inr (9, fsX9 a_t t_knotMany t_thereMany t_groupMany), ZA E 60 t_rims, IA E 120 t_froms, IA E 120 t_tos, .inr (8, fsX8 (a_t + 4) t_steps_many), IA E 120 t_steps_xs, IA E 120 t_steps_ys, IA E 120 t_steps_zs, ZA E 120 t_there] h) n (inI r) 0 0) 0 0 n (ov [a_t, (a_t + 1), (a_t + 2), (a_t + 3), (a_t + 4), (a_t + 5), (a_t + 6), (a_t + 7), (a_t + 8)] [.inr (9, fsX9 a_t t_knotMany t_thereMany t_groupMany), ZA E 60 t_rims, IA E 120 t_froms, IA E 120 t_tos, .inr (8, fsX8 (a_t + 4) t_steps_many), IA E 120 t_steps_xs, IA E 120 t_steps_ys, IA E 120 t_steps_zs, ZA E 120 t_there] h) 2 [some (.ref a_t), some (vI v1_), none] []) (hk_64 : ∀ (v1_ : Int), inI v1_ → k_64 v1_ = some r → G l E b0 M_X9_firstUnsound (fun _ => True) (ZM E b0 (some (vI r)) (ov [a_t, (a_t + 1), (a_t + 2), (a_t + 3), (a_t + 4), (a_t + 5), (a_t + 6), (a_t + 7), (a_t + 8)] [.inr (9, fsX9 a_t t_knotMany t_thereMany t_groupMany), ZA E 60 t_rims, IA E 120 t_froms, IA E 120 t_tos, .inr (8, fsX8 (a_t + 4) t_steps_many), IA E 120 t_steps_xs, IA E 120 t_steps_ys, IA E 120 t_steps_zs, ZA E 120 t_there] h) n (inI r) 0 0) 0 0 n (ov [a_t, (a_t + 1), (a_t + 2), (a_t + 3), (a_t + 4), (a_t + 5), (a_t + 6), (a_t + 7), (a_t + 8)] [.inr (9, fsX9 a_t t_knotMany t_thereMany t_groupMany), ZA E 60 t_rims, IA E 120 t_froms, IA E 120 t_tos, .inr (8, fsX8 (a_t + 4) t_steps_many), IA E 120 t_steps_xs, IA E 120 t_steps_ys, IA E 120 t_steps_zs, ZA E 120 t_there] h) 64 [none, none, none] []) (hk_56 : ∀ (v1_ : Int), inI v1_ → k_56 v1_ = some r → G l E b0 M_X9_firstUnsound (fun _ => True) (ZM E b0 (some (vI r)) (ov [a_t, (a_t + 1), (a_t + 2), (a_t + 3), (a_t + 4), (a_t + 5), (a_t + 6), (a_t + 7), (a_t + 8)] [.inr (9, fsX9 a_t t_knotMany t_thereMany t_groupMany), ZA E 60 t_rims, IA E 120 t_froms, IA E 120 t_tos, .inr (8, fsX8 (a_t + 4) t_steps_many), IA E 120 t_steps_xs, IA E 120 t_steps_ys, IA E 120 t_steps_zs, ZA E 120 t_there] h) n (inI r) 0 0) 0 0 n (ov [a_t, (a_t + 1), (a_t + 2), (a_t + 3), (a_t + 4), (a_t + 5), (a_t + 6), (a_t + 7), (a_t + 8)] [.inr (9, fsX9 a_t t_knotMany t_thereMany t_groupMany), ZA E 60 t_rims, IA E 120 t_froms, IA E 120 t_tos, .inr (8, fsX8 (a_t + 4) t_steps_many), IA E 120 t_steps_xs, IA E 120 t_steps_ys, IA E 120 t_steps_zs, ZA E 120 t_there] h) 56 [none, some (vI v1_), none] []) (hs : m_X9_firstUnsound_41 t_knotMany t_rims t_froms t_tos t_steps_many t_steps_xs t_steps_ys t_steps_zs t_there v1 ag k_64 k_56 = some r) : G l E b0 M_X9_firstUnsound (fun _ => True) (ZM E b0 (some (vI r)) (ov [a_t, (a_t + 1), (a_t + 2), (a_t + 3), (a_t + 4), (a_t + 5), (a_t + 6), (a_t + 7), (a_t + 8)] [.inr (9, fsX9 a_t t_knotMany t_thereMany t_groupMany), ZA E 60 t_rims, IA E 120 t_froms, IA E 120 t_tos, .inr (8, fsX8 (a_t + 4) t_steps_many), IA E 120 t_steps_xs, IA E 120 t_steps_ys, IA E 120 t_steps_zs, ZA E 120 t_there] h) n (inI r) 0 0) 0 0 n (ov [a_t, (a_t + 1), (a_t + 2), (a_t + 3), (a_t + 4), (a_t + 5), (a_t + 6), (a_t + 7), (a_t + 8)] [.inr (9, fsX9 a_t t_knotMany t_thereMany t_groupMany), ZA E 60 t_rims, IA E 120 t_froms, IA E 120 t_tos, .inr (8, fsX8 (a_t + 4) t_steps_many), IA E 120 t_steps_xs, IA E 120 t_steps_ys, IA E 120 t_steps_zs, ZA E 120 t_there] h) 41 [some (.ref a_t), some (vI v1), none] [] := by
  rw [m_X9_firstUnsound_41] at hs
  refine g_iconst e_X9_firstUnsound_41 ?_
  exact g_X9_firstUnsound_42 ao ok_t_knotMany ok_t_rims ok_t_froms ok_t_tos ok_t_steps_many ok_t_steps_xs ok_t_steps_ys ok_t_steps_zs ok_t_there ok_v1 (by decide : inZ 0) hag hk_64 hk_56 hs

noncomputable def m_X9_firstUnsound_2 (t_knotMany : Int) (t_rims : Nat → Int) (t_froms : Nat → Int) (t_tos : Nat → Int) (t_steps_many : Int) (t_steps_xs : Nat → Int) (t_steps_ys : Nat → Int) (t_steps_zs : Nat → Int) (t_there : Nat → Int) (k_64 : Int → Option (Int)) (k_56 : Int → Option (Int)) : Nat → Int → Option (Int)
  | 0, _ => none
  | F + 1, v1 => if t_knotMany ≤ v1 then (some ((-1))) else ((m_X9_sumAt t_froms t_tos t_steps_many t_steps_xs t_steps_ys t_steps_zs t_there v1 0).bind (fun y1 => if y1 = 0 then ((m_X9_sumAt t_froms t_tos t_steps_many t_steps_xs t_steps_ys t_steps_zs t_there v1 1).bind (fun y2 => if y2 = 0 then ((m_X9_sumAt t_froms t_tos t_steps_many t_steps_xs t_steps_ys t_steps_zs t_there v1 2).bind (fun y3 => if y3 = 0 then (m_X9_firstUnsound_42 t_knotMany t_rims t_froms t_tos t_steps_many t_steps_xs t_steps_ys t_steps_zs t_there v1 1 (m_X9_firstUnsound_2 t_knotMany t_rims t_froms t_tos t_steps_many t_steps_xs t_steps_ys t_steps_zs t_there k_64 k_56 F) k_64 k_56) else (m_X9_firstUnsound_41 t_knotMany t_rims t_froms t_tos t_steps_many t_steps_xs t_steps_ys t_steps_zs t_there v1 (m_X9_firstUnsound_2 t_knotMany t_rims t_froms t_tos t_steps_many t_steps_xs t_steps_ys t_steps_zs t_there k_64 k_56 F) k_64 k_56))) else (m_X9_firstUnsound_41 t_knotMany t_rims t_froms t_tos t_steps_many t_steps_xs t_steps_ys t_steps_zs t_there v1 (m_X9_firstUnsound_2 t_knotMany t_rims t_froms t_tos t_steps_many t_steps_xs t_steps_ys t_steps_zs t_there k_64 k_56 F) k_64 k_56))) else (m_X9_firstUnsound_41 t_knotMany t_rims t_froms t_tos t_steps_many t_steps_xs t_steps_ys t_steps_zs t_there v1 (m_X9_firstUnsound_2 t_knotMany t_rims t_froms t_tos t_steps_many t_steps_xs t_steps_ys t_steps_zs t_there k_64 k_56 F) k_64 k_56)))

set_option maxRecDepth 10000 in
theorem g_X9_firstUnsound_2 {l : Launch} {E : EE} {b0 n : Nat} {h : AH} {a_t : Nat} {t_knotMany t_thereMany t_groupMany t_steps_many : Int} {t_rims t_froms t_tos t_steps_xs t_steps_ys t_steps_zs t_there : Nat → Int} {r : Int} {k_64 : Int → Option (Int)} {k_56 : Int → Option (Int)} (ao : AO b0 n [a_t, (a_t + 1), (a_t + 2), (a_t + 3), (a_t + 4), (a_t + 5), (a_t + 6), (a_t + 7), (a_t + 8)]) (ok_t_knotMany : inI t_knotMany) (ok_t_rims : okZ t_rims) (ok_t_froms : okA t_froms) (ok_t_tos : okA t_tos) (ok_t_steps_many : inI t_steps_many) (ok_t_steps_xs : okA t_steps_xs) (ok_t_steps_ys : okA t_steps_ys) (ok_t_steps_zs : okA t_steps_zs) (ok_t_there : okZ t_there) (hk_64 : ∀ (v1_ : Int), inI v1_ → k_64 v1_ = some r → G l E b0 M_X9_firstUnsound (fun _ => True) (ZM E b0 (some (vI r)) (ov [a_t, (a_t + 1), (a_t + 2), (a_t + 3), (a_t + 4), (a_t + 5), (a_t + 6), (a_t + 7), (a_t + 8)] [.inr (9, fsX9 a_t t_knotMany t_thereMany t_groupMany), ZA E 60 t_rims, IA E 120 t_froms, IA E 120 t_tos, .inr (8, fsX8 (a_t + 4) t_steps_many), IA E 120 t_steps_xs, IA E 120 t_steps_ys, IA E 120 t_steps_zs, ZA E 120 t_there] h) n (inI r) 0 0) 0 0 n (ov [a_t, (a_t + 1), (a_t + 2), (a_t + 3), (a_t + 4), (a_t + 5), (a_t + 6), (a_t + 7), (a_t + 8)] [.inr (9, fsX9 a_t t_knotMany t_thereMany t_groupMany), ZA E 60 t_rims, IA E 120 t_froms, IA E 120 t_tos, .inr (8, fsX8 (a_t + 4) t_steps_many), IA E 120 t_steps_xs, IA E 120 t_steps_ys, IA E 120 t_steps_zs, ZA E 120 t_there] h) 64 [none, none, none] []) (hk_56 : ∀ (v1_ : Int), inI v1_ → k_56 v1_ = some r → G l E b0 M_X9_firstUnsound (fun _ => True) (ZM E b0 (some (vI r)) (ov [a_t, (a_t + 1), (a_t + 2), (a_t + 3), (a_t + 4), (a_t + 5), (a_t + 6), (a_t + 7), (a_t + 8)] [.inr (9, fsX9 a_t t_knotMany t_thereMany t_groupMany), ZA E 60 t_rims, IA E 120 t_froms, IA E 120 t_tos, .inr (8, fsX8 (a_t + 4) t_steps_many), IA E 120 t_steps_xs, IA E 120 t_steps_ys, IA E 120 t_steps_zs, ZA E 120 t_there] h) n (inI r) 0 0) 0 0 n (ov [a_t, (a_t + 1), (a_t + 2), (a_t + 3), (a_t + 4), (a_t + 5), (a_t + 6), (a_t + 7), (a_t + 8)] [.inr (9, fsX9 a_t t_knotMany t_thereMany t_groupMany), ZA E 60 t_rims, IA E 120 t_froms, IA E 120 t_tos, .inr (8, fsX8 (a_t + 4) t_steps_many), IA E 120 t_steps_xs, IA E 120 t_steps_ys, IA E 120 t_steps_zs, ZA E 120 t_there] h) 56 [none, some (vI v1_), none] []) :
    ∀ (F : Nat) (v1 : Int), inI v1 → m_X9_firstUnsound_2 t_knotMany t_rims t_froms t_tos t_steps_many t_steps_xs t_steps_ys t_steps_zs t_there k_64 k_56 F v1 = some r → G l E b0 M_X9_firstUnsound (fun _ => True) (ZM E b0 (some (vI r)) (ov [a_t, (a_t + 1), (a_t + 2), (a_t + 3), (a_t + 4), (a_t + 5), (a_t + 6), (a_t + 7), (a_t + 8)] [.inr (9, fsX9 a_t t_knotMany t_thereMany t_groupMany), ZA E 60 t_rims, IA E 120 t_froms, IA E 120 t_tos, .inr (8, fsX8 (a_t + 4) t_steps_many), IA E 120 t_steps_xs, IA E 120 t_steps_ys, IA E 120 t_steps_zs, ZA E 120 t_there] h) n (inI r) 0 0) 0 0 n (ov [a_t, (a_t + 1), (a_t + 2), (a_t + 3), (a_t + 4), (a_t + 5), (a_t + 6), (a_t + 7), (a_t + 8)] [.inr (9, fsX9 a_t t_knotMany t_thereMany t_groupMany), ZA E 60 t_rims, IA E 120 t_froms, IA E 120 t_tos, .inr (8, fsX8 (a_t + 4) t_steps_many), IA E 120 t_steps_xs, IA E 120 t_steps_ys, IA E 120 t_steps_zs, ZA E 120 t_there] h) 2 [some (.ref a_t), some (vI v1), none] [] := by
  intro F
  induction F with
  | zero =>
    intro v1 ok_v1 hs
    rw [m_X9_firstUnsound_2] at hs
    cases hs
  | succ F ih =>
    intro v1 ok_v1 hs
    rw [m_X9_firstUnsound_2] at hs
    refine g_iload_n e_X9_firstUnsound_2 rfl ?_
    refine g_aload_n e_X9_firstUnsound_3 rfl ?_
    refine g_get 0 5 ao rfl rfl fsX9_g5 fl_X9_52 e_X9_firstUnsound_4 ?_
    refine g_icmp_ge e_X9_firstUnsound_7 ok_v1 ok_t_knotMany hs (fun c7 hs => ?_) (fun c7 hs => ?_)
    · refine g_iconst e_X9_firstUnsound_64 ?_
      obtain rfl := Option.some.inj hs
      exact g_iret rfl (by decide : inI (-1)) e_X9_firstUnsound_65
    · refine g_aload_n e_X9_firstUnsound_10 rfl ?_
      refine g_iload_n e_X9_firstUnsound_11 rfl ?_
      refine g_iconst e_X9_firstUnsound_12 ?_
      obtain ⟨y1, hy1, hs⟩ := bind_elim hs
      refine g_callVr [vI v1, vI 0] cv_X9_95 ⟨rfl, rfl, Nat.le_of_ble_eq_true rfl, Nat.le_of_ble_eq_true rfl⟩ (ct_X9_sumAt (AO_call [0, 2, 3, 4, 5, 6, 7, 8] ao (by decide) rfl) (FA_call [0, 2, 3, 4, 5, 6, 7, 8] ao.1 rfl rfl) ok_t_froms ok_t_tos ok_t_steps_many ok_t_steps_xs ok_t_steps_ys ok_t_steps_zs ok_t_there ok_v1 (by decide : inI 0) hy1) e_X9_firstUnsound_13 (ao.2 0 _ rfl) (ov_get 0 ao.1 rfl rfl) rfl rfl rfl (Nat.le_of_ble_eq_true rfl) ⟨Nat.le_refl _, Nat.le_refl _⟩ (fun Py1 => ?_)
      refine g_if_ne e_X9_firstUnsound_16 Py1 hs (fun c16 hs => ?_) (fun c16 hs => ?_)
      · refine g_aload_n e_X9_firstUnsound_19 rfl ?_
        refine g_iload_n e_X9_firstUnsound_20 rfl ?_
        refine g_iconst e_X9_firstUnsound_21 ?_
        obtain ⟨y2, hy2, hs⟩ := bind_elim hs
        refine g_callVr [vI v1, vI 1] cv_X9_95 ⟨rfl, rfl, Nat.le_of_ble_eq_true rfl, Nat.le_of_ble_eq_true rfl⟩ (ct_X9_sumAt (AO_call [0, 2, 3, 4, 5, 6, 7, 8] ao (by decide) rfl) (FA_call [0, 2, 3, 4, 5, 6, 7, 8] ao.1 rfl rfl) ok_t_froms ok_t_tos ok_t_steps_many ok_t_steps_xs ok_t_steps_ys ok_t_steps_zs ok_t_there ok_v1 (by decide : inI 1) hy2) e_X9_firstUnsound_22 (ao.2 0 _ rfl) (ov_get 0 ao.1 rfl rfl) rfl rfl rfl (Nat.le_of_ble_eq_true rfl) ⟨Nat.le_refl _, Nat.le_refl _⟩ (fun Py2 => ?_)
        refine g_if_ne e_X9_firstUnsound_25 Py2 hs (fun c25 hs => ?_) (fun c25 hs => ?_)
        · refine g_aload_n e_X9_firstUnsound_28 rfl ?_
          refine g_iload_n e_X9_firstUnsound_29 rfl ?_
          refine g_iconst e_X9_firstUnsound_30 ?_
          obtain ⟨y3, hy3, hs⟩ := bind_elim hs
          refine g_callVr [vI v1, vI 2] cv_X9_95 ⟨rfl, rfl, Nat.le_of_ble_eq_true rfl, Nat.le_of_ble_eq_true rfl⟩ (ct_X9_sumAt (AO_call [0, 2, 3, 4, 5, 6, 7, 8] ao (by decide) rfl) (FA_call [0, 2, 3, 4, 5, 6, 7, 8] ao.1 rfl rfl) ok_t_froms ok_t_tos ok_t_steps_many ok_t_steps_xs ok_t_steps_ys ok_t_steps_zs ok_t_there ok_v1 (by decide : inI 2) hy3) e_X9_firstUnsound_31 (ao.2 0 _ rfl) (ov_get 0 ao.1 rfl rfl) rfl rfl rfl (Nat.le_of_ble_eq_true rfl) ⟨Nat.le_refl _, Nat.le_refl _⟩ (fun Py3 => ?_)
          refine g_if_ne e_X9_firstUnsound_34 Py3 hs (fun c34 hs => ?_) (fun c34 hs => ?_)
          · refine g_iconst e_X9_firstUnsound_37 ?_
            refine g_goto e_X9_firstUnsound_38 ?_
            exact g_X9_firstUnsound_42 ao ok_t_knotMany ok_t_rims ok_t_froms ok_t_tos ok_t_steps_many ok_t_steps_xs ok_t_steps_ys ok_t_steps_zs ok_t_there ok_v1 (by decide : inZ 1) ih hk_64 hk_56 hs
          · exact g_X9_firstUnsound_41 ao ok_t_knotMany ok_t_rims ok_t_froms ok_t_tos ok_t_steps_many ok_t_steps_xs ok_t_steps_ys ok_t_steps_zs ok_t_there ok_v1 ih hk_64 hk_56 hs
        · exact g_X9_firstUnsound_41 ao ok_t_knotMany ok_t_rims ok_t_froms ok_t_tos ok_t_steps_many ok_t_steps_xs ok_t_steps_ys ok_t_steps_zs ok_t_there ok_v1 ih hk_64 hk_56 hs
      · exact g_X9_firstUnsound_41 ao ok_t_knotMany ok_t_rims ok_t_froms ok_t_tos ok_t_steps_many ok_t_steps_xs ok_t_steps_ys ok_t_steps_zs ok_t_there ok_v1 ih hk_64 hk_56 hs

noncomputable def m_X9_firstUnsound_64 : Option (Int) :=
  some ((-1))

set_option maxRecDepth 10000 in
theorem g_X9_firstUnsound_64 {l : Launch} {E : EE} {b0 n : Nat} {h : AH} {a_t : Nat} {t_knotMany t_thereMany t_groupMany t_steps_many : Int} {t_rims t_froms t_tos t_steps_xs t_steps_ys t_steps_zs t_there : Nat → Int} {r : Int} (ao : AO b0 n [a_t, (a_t + 1), (a_t + 2), (a_t + 3), (a_t + 4), (a_t + 5), (a_t + 6), (a_t + 7), (a_t + 8)]) (ok_t_knotMany : inI t_knotMany) (ok_t_rims : okZ t_rims) (ok_t_froms : okA t_froms) (ok_t_tos : okA t_tos) (ok_t_steps_many : inI t_steps_many) (ok_t_steps_xs : okA t_steps_xs) (ok_t_steps_ys : okA t_steps_ys) (ok_t_steps_zs : okA t_steps_zs) (ok_t_there : okZ t_there) (hs : m_X9_firstUnsound_64 = some r) : G l E b0 M_X9_firstUnsound (fun _ => True) (ZM E b0 (some (vI r)) (ov [a_t, (a_t + 1), (a_t + 2), (a_t + 3), (a_t + 4), (a_t + 5), (a_t + 6), (a_t + 7), (a_t + 8)] [.inr (9, fsX9 a_t t_knotMany t_thereMany t_groupMany), ZA E 60 t_rims, IA E 120 t_froms, IA E 120 t_tos, .inr (8, fsX8 (a_t + 4) t_steps_many), IA E 120 t_steps_xs, IA E 120 t_steps_ys, IA E 120 t_steps_zs, ZA E 120 t_there] h) n (inI r) 0 0) 0 0 n (ov [a_t, (a_t + 1), (a_t + 2), (a_t + 3), (a_t + 4), (a_t + 5), (a_t + 6), (a_t + 7), (a_t + 8)] [.inr (9, fsX9 a_t t_knotMany t_thereMany t_groupMany), ZA E 60 t_rims, IA E 120 t_froms, IA E 120 t_tos, .inr (8, fsX8 (a_t + 4) t_steps_many), IA E 120 t_steps_xs, IA E 120 t_steps_ys, IA E 120 t_steps_zs, ZA E 120 t_there] h) 64 [none, none, none] [] := by
  rw [m_X9_firstUnsound_64] at hs
  refine g_iconst e_X9_firstUnsound_64 ?_
  obtain rfl := Option.some.inj hs
  exact g_iret rfl (by decide : inI (-1)) e_X9_firstUnsound_65

noncomputable def m_X9_firstUnsound_56 (v1 : Int) : Option (Int) :=
  some (v1)

set_option maxRecDepth 10000 in
theorem g_X9_firstUnsound_56 {l : Launch} {E : EE} {b0 n : Nat} {h : AH} {a_t : Nat} {t_knotMany t_thereMany t_groupMany t_steps_many v1 : Int} {t_rims t_froms t_tos t_steps_xs t_steps_ys t_steps_zs t_there : Nat → Int} {r : Int} (ao : AO b0 n [a_t, (a_t + 1), (a_t + 2), (a_t + 3), (a_t + 4), (a_t + 5), (a_t + 6), (a_t + 7), (a_t + 8)]) (ok_t_knotMany : inI t_knotMany) (ok_t_rims : okZ t_rims) (ok_t_froms : okA t_froms) (ok_t_tos : okA t_tos) (ok_t_steps_many : inI t_steps_many) (ok_t_steps_xs : okA t_steps_xs) (ok_t_steps_ys : okA t_steps_ys) (ok_t_steps_zs : okA t_steps_zs) (ok_t_there : okZ t_there) (ok_v1 : inI v1) (hs : m_X9_firstUnsound_56 v1 = some r) : G l E b0 M_X9_firstUnsound (fun _ => True) (ZM E b0 (some (vI r)) (ov [a_t, (a_t + 1), (a_t + 2), (a_t + 3), (a_t + 4), (a_t + 5), (a_t + 6), (a_t + 7), (a_t + 8)] [.inr (9, fsX9 a_t t_knotMany t_thereMany t_groupMany), ZA E 60 t_rims, IA E 120 t_froms, IA E 120 t_tos, .inr (8, fsX8 (a_t + 4) t_steps_many), IA E 120 t_steps_xs, IA E 120 t_steps_ys, IA E 120 t_steps_zs, ZA E 120 t_there] h) n (inI r) 0 0) 0 0 n (ov [a_t, (a_t + 1), (a_t + 2), (a_t + 3), (a_t + 4), (a_t + 5), (a_t + 6), (a_t + 7), (a_t + 8)] [.inr (9, fsX9 a_t t_knotMany t_thereMany t_groupMany), ZA E 60 t_rims, IA E 120 t_froms, IA E 120 t_tos, .inr (8, fsX8 (a_t + 4) t_steps_many), IA E 120 t_steps_xs, IA E 120 t_steps_ys, IA E 120 t_steps_zs, ZA E 120 t_there] h) 56 [none, some (vI v1), none] [] := by
  rw [m_X9_firstUnsound_56] at hs
  refine g_iload_n e_X9_firstUnsound_56 rfl ?_
  obtain rfl := Option.some.inj hs
  exact g_iret rfl ok_v1 e_X9_firstUnsound_57

noncomputable def m_X9_firstUnsound_0 (t_knotMany : Int) (t_rims : Nat → Int) (t_froms : Nat → Int) (t_tos : Nat → Int) (t_steps_many : Int) (t_steps_xs : Nat → Int) (t_steps_ys : Nat → Int) (t_steps_zs : Nat → Int) (t_there : Nat → Int) : Option (Int) :=
  m_X9_firstUnsound_2 t_knotMany t_rims t_froms t_tos t_steps_many t_steps_xs t_steps_ys t_steps_zs t_there (fun v1' => m_X9_firstUnsound_64) (fun v1' => m_X9_firstUnsound_56 v1') FU 0

set_option maxRecDepth 10000 in
theorem g_X9_firstUnsound_0 {l : Launch} {E : EE} {b0 n : Nat} {h : AH} {a_t : Nat} {t_knotMany t_thereMany t_groupMany t_steps_many : Int} {t_rims t_froms t_tos t_steps_xs t_steps_ys t_steps_zs t_there : Nat → Int} {r : Int} (ao : AO b0 n [a_t, (a_t + 1), (a_t + 2), (a_t + 3), (a_t + 4), (a_t + 5), (a_t + 6), (a_t + 7), (a_t + 8)]) (ok_t_knotMany : inI t_knotMany) (ok_t_rims : okZ t_rims) (ok_t_froms : okA t_froms) (ok_t_tos : okA t_tos) (ok_t_steps_many : inI t_steps_many) (ok_t_steps_xs : okA t_steps_xs) (ok_t_steps_ys : okA t_steps_ys) (ok_t_steps_zs : okA t_steps_zs) (ok_t_there : okZ t_there) (hs : m_X9_firstUnsound_0 t_knotMany t_rims t_froms t_tos t_steps_many t_steps_xs t_steps_ys t_steps_zs t_there = some r) : G l E b0 M_X9_firstUnsound (fun _ => True) (ZM E b0 (some (vI r)) (ov [a_t, (a_t + 1), (a_t + 2), (a_t + 3), (a_t + 4), (a_t + 5), (a_t + 6), (a_t + 7), (a_t + 8)] [.inr (9, fsX9 a_t t_knotMany t_thereMany t_groupMany), ZA E 60 t_rims, IA E 120 t_froms, IA E 120 t_tos, .inr (8, fsX8 (a_t + 4) t_steps_many), IA E 120 t_steps_xs, IA E 120 t_steps_ys, IA E 120 t_steps_zs, ZA E 120 t_there] h) n (inI r) 0 0) 0 0 n (ov [a_t, (a_t + 1), (a_t + 2), (a_t + 3), (a_t + 4), (a_t + 5), (a_t + 6), (a_t + 7), (a_t + 8)] [.inr (9, fsX9 a_t t_knotMany t_thereMany t_groupMany), ZA E 60 t_rims, IA E 120 t_froms, IA E 120 t_tos, .inr (8, fsX8 (a_t + 4) t_steps_many), IA E 120 t_steps_xs, IA E 120 t_steps_ys, IA E 120 t_steps_zs, ZA E 120 t_there] h) 0 [some (.ref a_t), none, none] [] := by
  rw [m_X9_firstUnsound_0] at hs
  refine g_iconst e_X9_firstUnsound_0 ?_
  refine g_istore_n e_X9_firstUnsound_1 st1_1 rfl ?_
  exact g_X9_firstUnsound_2 ao ok_t_knotMany ok_t_rims ok_t_froms ok_t_tos ok_t_steps_many ok_t_steps_xs ok_t_steps_ys ok_t_steps_zs ok_t_there (hk_64 := by
      intro v1' ok_v1' hs
      exact g_X9_firstUnsound_64 ao ok_t_knotMany ok_t_rims ok_t_froms ok_t_tos ok_t_steps_many ok_t_steps_xs ok_t_steps_ys ok_t_steps_zs ok_t_there hs) (hk_56 := by
      intro v1' ok_v1' hs
      exact g_X9_firstUnsound_56 ao ok_t_knotMany ok_t_rims ok_t_froms ok_t_tos ok_t_steps_many ok_t_steps_xs ok_t_steps_ys ok_t_steps_zs ok_t_there ok_v1' hs) FU _ (by decide : inI 0) hs

noncomputable def m_X9_firstUnsound (t_knotMany : Int) (t_rims : Nat → Int) (t_froms : Nat → Int) (t_tos : Nat → Int) (t_steps_many : Int) (t_steps_xs : Nat → Int) (t_steps_ys : Nat → Int) (t_steps_zs : Nat → Int) (t_there : Nat → Int) : Option (Int) := m_X9_firstUnsound_0 t_knotMany t_rims t_froms t_tos t_steps_many t_steps_xs t_steps_ys t_steps_zs t_there

set_option maxRecDepth 10000 in
theorem ct_X9_firstUnsound {l : Launch} {E : EE} {b0 n : Nat} {h : AH} {a_t : Nat} {t_knotMany t_thereMany t_groupMany t_steps_many : Int} {t_rims t_froms t_tos t_steps_xs t_steps_ys t_steps_zs t_there : Nat → Int} (ao : AO b0 n [a_t, (a_t + 1), (a_t + 2), (a_t + 3), (a_t + 4), (a_t + 5), (a_t + 6), (a_t + 7), (a_t + 8)]) (hf : FA h [a_t, (a_t + 1), (a_t + 2), (a_t + 3), (a_t + 4), (a_t + 5), (a_t + 6), (a_t + 7), (a_t + 8)] [.inr (9, fsX9 a_t t_knotMany t_thereMany t_groupMany), ZA E 60 t_rims, IA E 120 t_froms, IA E 120 t_tos, .inr (8, fsX8 (a_t + 4) t_steps_many), IA E 120 t_steps_xs, IA E 120 t_steps_ys, IA E 120 t_steps_zs, ZA E 120 t_there]) (ok_t_knotMany : inI t_knotMany) (ok_t_rims : okZ t_rims) (ok_t_froms : okA t_froms) (ok_t_tos : okA t_tos) (ok_t_steps_many : inI t_steps_many) (ok_t_steps_xs : okA t_steps_xs) (ok_t_steps_ys : okA t_steps_ys) (ok_t_steps_zs : okA t_steps_zs) (ok_t_there : okZ t_there) {r : Int} (hm : m_X9_firstUnsound t_knotMany t_rims t_froms t_tos t_steps_many t_steps_xs t_steps_ys t_steps_zs t_there = some r) : Ct l E b0 M_X9_firstUnsound 0 0 [.ref a_t] h n (some (vI r)) h n (inI r) := by
  rw [m_X9_firstUnsound] at hm
  have hg : G l E b0 M_X9_firstUnsound (fun _ => True) (ZM E b0 (some (vI r)) (ov [a_t, (a_t + 1), (a_t + 2), (a_t + 3), (a_t + 4), (a_t + 5), (a_t + 6), (a_t + 7), (a_t + 8)] [.inr (9, fsX9 a_t t_knotMany t_thereMany t_groupMany), ZA E 60 t_rims, IA E 120 t_froms, IA E 120 t_tos, .inr (8, fsX8 (a_t + 4) t_steps_many), IA E 120 t_steps_xs, IA E 120 t_steps_ys, IA E 120 t_steps_zs, ZA E 120 t_there] h) n (inI r) 0 0) 0 0 n (ov [a_t, (a_t + 1), (a_t + 2), (a_t + 3), (a_t + 4), (a_t + 5), (a_t + 6), (a_t + 7), (a_t + 8)] [.inr (9, fsX9 a_t t_knotMany t_thereMany t_groupMany), ZA E 60 t_rims, IA E 120 t_froms, IA E 120 t_tos, .inr (8, fsX8 (a_t + 4) t_steps_many), IA E 120 t_steps_xs, IA E 120 t_steps_ys, IA E 120 t_steps_zs, ZA E 120 t_there] h) 0 [some (.ref a_t), none, none] [] := by
    have hs := hm
    exact g_X9_firstUnsound_0 ao ok_t_knotMany ok_t_rims ok_t_froms ok_t_tos ok_t_steps_many ok_t_steps_xs ok_t_steps_ys ok_t_steps_zs ok_t_there hs
  rw [FA_id hf] at hg
  exact Ct_of [some (.ref a_t), none, none] ⟨by decide +kernel, rfl⟩ rfl (Nat.le_of_ble_eq_true rfl) hg

/-! ===== X9_remove ===== -/
theorem e_X9_remove_0 : DC cX9_remove 0 (.aload_n 0) 1 1 := ⟨by decide +kernel, rfl⟩
theorem e_X9_remove_1 : DC cX9_remove 1 (.iload_n 1) 1 2 := ⟨by decide +kernel, rfl⟩
theorem e_X9_remove_2 : DC cX9_remove 2 (.invokevirtual 84) 3 5 := ⟨by decide +kernel, rfl⟩
theorem e_X9_remove_5 : DB cX9_remove 5 (.ifCond .eq 20) (20) 3 8 25 := ⟨by decide +kernel, rfl, rfl⟩
theorem e_X9_remove_8 : DC cX9_remove 8 (.aload_n 0) 1 9 := ⟨by decide +kernel, rfl⟩
theorem e_X9_remove_9 : DC cX9_remove 9 (.getfield 31) 3 12 := ⟨by decide +kernel, rfl⟩
theorem e_X9_remove_12 : DC cX9_remove 12 (.iload_n 1) 1 13 := ⟨by decide +kernel, rfl⟩
theorem e_X9_remove_13 : DC cX9_remove 13 (.iconst 0) 1 14 := ⟨by decide +kernel, rfl⟩
theorem e_X9_remove_14 : DC cX9_remove 14 (.bastore) 1 15 := ⟨by decide +kernel, rfl⟩
theorem e_X9_remove_15 : DC cX9_remove 15 (.aload_n 0) 1 16 := ⟨by decide +kernel, rfl⟩
theorem e_X9_remove_16 : DC cX9_remove 16 (.dup) 1 17 := ⟨by decide +kernel, rfl⟩
theorem e_X9_remove_17 : DC cX9_remove 17 (.getfield 81) 3 20 := ⟨by decide +kernel, rfl⟩
theorem e_X9_remove_20 : DC cX9_remove 20 (.iconst 1) 1 21 := ⟨by decide +kernel, rfl⟩
theorem e_X9_remove_21 : DC cX9_remove 21 (.isub) 1 22 := ⟨by decide +kernel, rfl⟩
theorem e_X9_remove_22 : DC cX9_remove 22 (.putfield 81) 3 25 := ⟨by decide +kernel, rfl⟩
theorem e_X9_remove_25 : DC cX9_remove 25 (.return_) 1 26 := ⟨by decide +kernel, rfl⟩
noncomputable def m_X9_remove_0 (t_thereMany : Int) (t_steps_many : Int) (t_there : Nat → Int) (v1 : Int) : Option (Int × (Nat → Int)) :=
  (m_X9_isThere t_steps_many t_there v1).bind (fun y1 => if y1 = 0 then (some (t_thereMany, t_there)) else (chk (inB v1 120) (chk (inI (t_thereMany - 1)) (some (t_thereMany - 1, up t_there (Int.toNat v1) 0)))))

set_option maxRecDepth 10000 in
theorem g_X9_remove_0 {l : Launch} {E : EE} {b0 n : Nat} {h : AH} {a_t : Nat} {t_knotMany t_thereMany t_groupMany t_steps_many v1 : Int} {t_there : Nat → Int} {r : Int × (Nat → Int)} (ao : AO b0 n [a_t, (a_t + 4), (a_t + 8)]) (ok_t_thereMany : inI t_thereMany) (ok_t_steps_many : inI t_steps_many) (ok_t_there : okZ t_there) (ok_v1 : inI v1) (hs : m_X9_remove_0 t_thereMany t_steps_many t_there v1 = some r) : G l E b0 M_X9_remove (fun _ => True) (ZM E b0 (none) (ov [a_t, (a_t + 4), (a_t + 8)] [.inr (9, fsX9 a_t t_knotMany r.1 t_groupMany), .inr (8, fsX8 (a_t + 4) t_steps_many), ZA E 120 r.2] h) n (inI r.1 ∧ okZ r.2) 0 0) 0 0 n (ov [a_t, (a_t + 4), (a_t + 8)] [.inr (9, fsX9 a_t t_knotMany t_thereMany t_groupMany), .inr (8, fsX8 (a_t + 4) t_steps_many), ZA E 120 t_there] h) 0 [some (.ref a_t), some (vI v1)] [] := by
  rw [m_X9_remove_0] at hs
  refine g_aload_n e_X9_remove_0 rfl ?_
  refine g_iload_n e_X9_remove_1 rfl ?_
  obtain ⟨y1, hy1, hs⟩ := bind_elim hs
  refine g_callVr [vI v1] cv_X9_84 ⟨rfl, rfl, Nat.le_of_ble_eq_true rfl, Nat.le_of_ble_eq_true rfl⟩ (ct_X9_isThere (AO_call [0, 1, 2] ao (by decide) rfl) (FA_call [0, 1, 2] ao.1 rfl rfl) ok_t_steps_many ok_t_there ok_v1 hy1) e_X9_remove_2 (ao.2 0 _ rfl) (ov_get 0 ao.1 rfl rfl) rfl rfl rfl (Nat.le_of_ble_eq_true rfl) ⟨Nat.le_refl _, Nat.le_refl _⟩ (fun Py1 => ?_)
  refine g_if_eq e_X9_remove_5 (inZ_I Py1) hs (fun c5 hs => ?_) (fun c5 hs => ?_)
  · obtain rfl := Option.some.inj hs
    exact g_vret rfl ⟨ok_t_thereMany, ok_t_there⟩ e_X9_remove_25
  · refine g_aload_n e_X9_remove_8 rfl ?_
    refine g_get 0 4 ao rfl rfl fsX9_g4 fl_X9_31 e_X9_remove_9 ?_
    refine g_iload_n e_X9_remove_12 rfl ?_
    refine g_iconst e_X9_remove_13 ?_
    refine g_zast 2 ao rfl rfl ls_2 (Nat.le_of_ble_eq_true rfl) (by decide : inZ 0) e_X9_remove_14 hs (fun hi2 hs => ?_)
    refine g_aload_n e_X9_remove_15 rfl ?_
    refine g_dup e_X9_remove_16 rfl ?_
    refine g_get 0 6 ao rfl rfl fsX9_g6 fl_X9_81 e_X9_remove_17 ?_
    refine g_iconst e_X9_remove_20 ?_
    refine g_isub e_X9_remove_21 ?_
    obtain ⟨hc3, hs⟩ := chk_elim hs
    refine g_put 0 6 ao rfl rfl fsX9_k6 fsX9_s6 ls_0 fw_X9_81 (fun h => by cases h) ⟨rfl, rfl⟩ e_X9_remove_22 ?_
    obtain rfl := Option.some.inj hs
    exact g_vret rfl ⟨hc3, (okZ_up ok_t_there (by decide : inZ 0))⟩ e_X9_remove_25

noncomputable def m_X9_remove (t_thereMany : Int) (t_steps_many : Int) (t_there : Nat → Int) (v1 : Int) : Option (Int × (Nat → Int)) := m_X9_remove_0 t_thereMany t_steps_many t_there v1

set_option maxRecDepth 10000 in
theorem ct_X9_remove {l : Launch} {E : EE} {b0 n : Nat} {h : AH} {a_t : Nat} {t_knotMany t_thereMany t_groupMany t_steps_many : Int} {t_there : Nat → Int} {v1 : Int} (ao : AO b0 n [a_t, (a_t + 4), (a_t + 8)]) (hf : FA h [a_t, (a_t + 4), (a_t + 8)] [.inr (9, fsX9 a_t t_knotMany t_thereMany t_groupMany), .inr (8, fsX8 (a_t + 4) t_steps_many), ZA E 120 t_there]) (ok_t_thereMany : inI t_thereMany) (ok_t_steps_many : inI t_steps_many) (ok_t_there : okZ t_there) (ok_v1 : inI v1) {r : Int × (Nat → Int)} (hm : m_X9_remove t_thereMany t_steps_many t_there v1 = some r) : Ct l E b0 M_X9_remove 0 0 [.ref a_t, vI v1] h n (none) (ov [a_t, (a_t + 4), (a_t + 8)] [.inr (9, fsX9 a_t t_knotMany r.1 t_groupMany), .inr (8, fsX8 (a_t + 4) t_steps_many), ZA E 120 r.2] h) n (inI r.1 ∧ okZ r.2) := by
  rw [m_X9_remove] at hm
  have hg : G l E b0 M_X9_remove (fun _ => True) (ZM E b0 (none) (ov [a_t, (a_t + 4), (a_t + 8)] [.inr (9, fsX9 a_t t_knotMany r.1 t_groupMany), .inr (8, fsX8 (a_t + 4) t_steps_many), ZA E 120 r.2] h) n (inI r.1 ∧ okZ r.2) 0 0) 0 0 n (ov [a_t, (a_t + 4), (a_t + 8)] [.inr (9, fsX9 a_t t_knotMany t_thereMany t_groupMany), .inr (8, fsX8 (a_t + 4) t_steps_many), ZA E 120 t_there] h) 0 [some (.ref a_t), some (vI v1)] [] := by
    have hs := hm
    exact g_X9_remove_0 ao ok_t_thereMany ok_t_steps_many ok_t_there ok_v1 hs
  rw [FA_id hf] at hg
  exact Ct_of [some (.ref a_t), some (vI v1)] ⟨by decide +kernel, rfl⟩ rfl (Nat.le_of_ble_eq_true rfl) hg

/-! ===== X9_choose ===== -/
theorem e_X9_choose_0 : DC cX9_choose 0 (.lload_n 2) 1 1 := ⟨by decide +kernel, rfl⟩
theorem e_X9_choose_1 : DC cX9_choose 1 (.bipush 60) 2 3 := ⟨by decide +kernel, rfl⟩
theorem e_X9_choose_3 : DC cX9_choose 3 (.lushr) 1 4 := ⟨by decide +kernel, rfl⟩
theorem e_X9_choose_4 : DC cX9_choose 4 (.lconst 0) 1 5 := ⟨by decide +kernel, rfl⟩
theorem e_X9_choose_5 : DC cX9_choose 5 (.lcmp) 1 6 := ⟨by decide +kernel, rfl⟩
theorem e_X9_choose_6 : DB cX9_choose 6 (.ifCond .eq 5) (5) 3 9 11 := ⟨by decide +kernel, rfl, rfl⟩
theorem e_X9_choose_9 : DC cX9_choose 9 (.iconst 0) 1 10 := ⟨by decide +kernel, rfl⟩
theorem e_X9_choose_10 : DC cX9_choose 10 (.ireturn) 1 11 := ⟨by decide +kernel, rfl⟩
theorem e_X9_choose_11 : DC cX9_choose 11 (.iconst 0) 1 12 := ⟨by decide +kernel, rfl⟩
theorem e_X9_choose_12 : DC cX9_choose 12 (.istore 4) 2 14 := ⟨by decide +kernel, rfl⟩
theorem e_X9_choose_14 : DC cX9_choose 14 (.iconst 0) 1 15 := ⟨by decide +kernel, rfl⟩
theorem e_X9_choose_15 : DC cX9_choose 15 (.istore 5) 2 17 := ⟨by decide +kernel, rfl⟩
theorem e_X9_choose_17 : DC cX9_choose 17 (.iload 5) 2 19 := ⟨by decide +kernel, rfl⟩
theorem e_X9_choose_19 : DC cX9_choose 19 (.bipush 60) 2 21 := ⟨by decide +kernel, rfl⟩
theorem e_X9_choose_21 : DB cX9_choose 21 (.if_icmp .ge 84) (84) 3 24 105 := ⟨by decide +kernel, rfl, rfl⟩
theorem e_X9_choose_24 : DC cX9_choose 24 (.lload_n 2) 1 25 := ⟨by decide +kernel, rfl⟩
theorem e_X9_choose_25 : DC cX9_choose 25 (.iload 5) 2 27 := ⟨by decide +kernel, rfl⟩
theorem e_X9_choose_27 : DC cX9_choose 27 (.lushr) 1 28 := ⟨by decide +kernel, rfl⟩
theorem e_X9_choose_28 : DC cX9_choose 28 (.lconst 1) 1 29 := ⟨by decide +kernel, rfl⟩
theorem e_X9_choose_29 : DC cX9_choose 29 (.land) 1 30 := ⟨by decide +kernel, rfl⟩
theorem e_X9_choose_30 : DC cX9_choose 30 (.lconst 0) 1 31 := ⟨by decide +kernel, rfl⟩
theorem e_X9_choose_31 : DC cX9_choose 31 (.lcmp) 1 32 := ⟨by decide +kernel, rfl⟩
theorem e_X9_choose_32 : DB cX9_choose 32 (.ifCond .eq 67) (67) 3 35 99 := ⟨by decide +kernel, rfl, rfl⟩
theorem e_X9_choose_35 : DC cX9_choose 35 (.aload_n 0) 1 36 := ⟨by decide +kernel, rfl⟩
theorem e_X9_choose_36 : DC cX9_choose 36 (.iload 5) 2 38 := ⟨by decide +kernel, rfl⟩
theorem e_X9_choose_38 : DC cX9_choose 38 (.invokevirtual 84) 3 41 := ⟨by decide +kernel, rfl⟩
theorem e_X9_choose_41 : DB cX9_choose 41 (.ifCond .eq 29) (29) 3 44 70 := ⟨by decide +kernel, rfl, rfl⟩
theorem e_X9_choose_44 : DC cX9_choose 44 (.aload_n 0) 1 45 := ⟨by decide +kernel, rfl⟩
theorem e_X9_choose_45 : DC cX9_choose 45 (.getfield 15) 3 48 := ⟨by decide +kernel, rfl⟩
theorem e_X9_choose_48 : DC cX9_choose 48 (.iload 5) 2 50 := ⟨by decide +kernel, rfl⟩
theorem e_X9_choose_50 : DC cX9_choose 50 (.iaload) 1 51 := ⟨by decide +kernel, rfl⟩
theorem e_X9_choose_51 : DC cX9_choose 51 (.iload_n 1) 1 52 := ⟨by decide +kernel, rfl⟩
theorem e_X9_choose_52 : DB cX9_choose 52 (.if_icmp .eq 14) (14) 3 55 66 := ⟨by decide +kernel, rfl, rfl⟩
theorem e_X9_choose_55 : DC cX9_choose 55 (.aload_n 0) 1 56 := ⟨by decide +kernel, rfl⟩
theorem e_X9_choose_56 : DC cX9_choose 56 (.getfield 19) 3 59 := ⟨by decide +kernel, rfl⟩
theorem e_X9_choose_59 : DC cX9_choose 59 (.iload 5) 2 61 := ⟨by decide +kernel, rfl⟩
theorem e_X9_choose_61 : DC cX9_choose 61 (.iaload) 1 62 := ⟨by decide +kernel, rfl⟩
theorem e_X9_choose_62 : DC cX9_choose 62 (.iload_n 1) 1 63 := ⟨by decide +kernel, rfl⟩
theorem e_X9_choose_63 : DB cX9_choose 63 (.if_icmp .ne 7) (7) 3 66 70 := ⟨by decide +kernel, rfl, rfl⟩
theorem e_X9_choose_66 : DC cX9_choose 66 (.iconst 1) 1 67 := ⟨by decide +kernel, rfl⟩
theorem e_X9_choose_67 : DB cX9_choose 67 (.goto 4) (4) 3 70 71 := ⟨by decide +kernel, rfl, rfl⟩
theorem e_X9_choose_70 : DC cX9_choose 70 (.iconst 0) 1 71 := ⟨by decide +kernel, rfl⟩
theorem e_X9_choose_71 : DC cX9_choose 71 (.istore 6) 2 73 := ⟨by decide +kernel, rfl⟩
theorem e_X9_choose_73 : DC cX9_choose 73 (.iload 6) 2 75 := ⟨by decide +kernel, rfl⟩
theorem e_X9_choose_75 : DB cX9_choose 75 (.ifCond .eq 10) (10) 3 78 85 := ⟨by decide +kernel, rfl, rfl⟩
theorem e_X9_choose_78 : DC cX9_choose 78 (.iload 4) 2 80 := ⟨by decide +kernel, rfl⟩
theorem e_X9_choose_80 : DC cX9_choose 80 (.bipush 8) 2 82 := ⟨by decide +kernel, rfl⟩
theorem e_X9_choose_82 : DB cX9_choose 82 (.if_icmp .lt 5) (5) 3 85 87 := ⟨by decide +kernel, rfl, rfl⟩
theorem e_X9_choose_85 : DC cX9_choose 85 (.iconst 0) 1 86 := ⟨by decide +kernel, rfl⟩
theorem e_X9_choose_86 : DC cX9_choose 86 (.ireturn) 1 87 := ⟨by decide +kernel, rfl⟩
theorem e_X9_choose_87 : DC cX9_choose 87 (.aload_n 0) 1 88 := ⟨by decide +kernel, rfl⟩
theorem e_X9_choose_88 : DC cX9_choose 88 (.getfield 34) 3 91 := ⟨by decide +kernel, rfl⟩
theorem e_X9_choose_91 : DC cX9_choose 91 (.iload 4) 2 93 := ⟨by decide +kernel, rfl⟩
theorem e_X9_choose_93 : DC cX9_choose 93 (.iload 5) 2 95 := ⟨by decide +kernel, rfl⟩
theorem e_X9_choose_95 : DC cX9_choose 95 (.iastore) 1 96 := ⟨by decide +kernel, rfl⟩
theorem e_X9_choose_96 : DC cX9_choose 96 (.iinc 4 1) 3 99 := ⟨by decide +kernel, rfl⟩
theorem e_X9_choose_99 : DC cX9_choose 99 (.iinc 5 1) 3 102 := ⟨by decide +kernel, rfl⟩
theorem e_X9_choose_102 : DB cX9_choose 102 (.goto (-85)) (-85) 3 105 17 := ⟨by decide +kernel, rfl, rfl⟩
theorem e_X9_choose_105 : DC cX9_choose 105 (.iload 4) 2 107 := ⟨by decide +kernel, rfl⟩
theorem e_X9_choose_107 : DC cX9_choose 107 (.ireturn) 1 108 := ⟨by decide +kernel, rfl⟩
noncomputable def m_X9_choose_99 (t_froms : Nat → Int) (t_tos : Nat → Int) (t_steps_many : Int) (t_there : Nat → Int) (t_chosen : Nat → Int) (v1 : Int) (v2 : Int) (v4 : Int) (v5 : Int) (ag : (Nat → Int) → Int → Int → Option (Int × (Nat → Int))) (k_105 : (Nat → Int) → Int → Int → Option (Int × (Nat → Int))) (k_85 : (Nat → Int) → Int → Int → Option (Int × (Nat → Int))) : Option (Int × (Nat → Int)) :=
  chk (inI (v5 + 1)) (ag t_chosen v4 (v5 + 1))

set_option maxRecDepth 10000 in
theorem g_X9_choose_99 {l : Launch} {E : EE} {b0 n : Nat} {h : AH} {a_t : Nat} {t_knotMany t_thereMany t_groupMany t_steps_many v1 v2 v4 v5 : Int} {t_froms t_tos t_there t_chosen : Nat → Int} {r : Int × (Nat → Int)} {ag : (Nat → Int) → Int → Int → Option (Int × (Nat → Int))} {k_105 : (Nat → Int) → Int → Int → Option (Int × (Nat → Int))} {k_85 : (Nat → Int) → Int → Int → Option (Int × (Nat → Int))} (ao : AO b0 n [a_t, (a_t + 2), (a_t + 3), (a_t + 4), (a_t + 8), (a_t + 9)]) (ok_t_froms : okA t_froms) (ok_t_tos : okA t_tos) (ok_t_steps_many : inI t_steps_many) (ok_t_there : okZ t_there) (ok_t_chosen : okA t_chosen) (ok_v1 : inI v1) (ok_v2 : inJ v2) (ok_v4 : inI v4) (ok_v5 : inI v5) (hag : ∀ (t_chosen_ : Nat → Int) (v4_ : Int) (v5_ : Int), okA t_chosen_ → inI v4_ → inI v5_ → ag t_chosen_ v4_ v5_ = some r → G l E b0 M_X9_choose (fun _ => True) (ZM E b0 (some (vI r.1)) (ov [a_t, (a_t + 2), (a_t + 3), (a_t + 4), (a_t + 8), (a_t + 9)] [.inr (9, fsX9 a_t t_knotMany t_thereMany t_groupMany), IA E 120 t_froms, IA E 120 t_tos, .inr (8, fsX8 (a_t + 4) t_steps_many), ZA E 120 t_there, IA E 8 r.2] h) n (inI r.1 ∧ okA r.2) 0 0) 0 0 n (ov [a_t, (a_t + 2), (a_t + 3), (a_t + 4), (a_t + 8), (a_t + 9)] [.inr (9, fsX9 a_t t_knotMany t_thereMany t_groupMany), IA E 120 t_froms, IA E 120 t_tos, .inr (8, fsX8 (a_t + 4) t_steps_many), ZA E 120 t_there, IA E 8 t_chosen_] h) 17 [some (.ref a_t), some (vI v1), some (vJ v2), none, some (vI v4_), some (vI v5_), none] []) (hk_105 : ∀ (t_chosen_ : Nat → Int) (v4_ : Int) (v5_ : Int), okA t_chosen_ → inI v4_ → inI v5_ → k_105 t_chosen_ v4_ v5_ = some r → G l E b0 M_X9_choose (fun _ => True) (ZM E b0 (some (vI r.1)) (ov [a_t, (a_t + 2), (a_t + 3), (a_t + 4), (a_t + 8), (a_t + 9)] [.inr (9, fsX9 a_t t_knotMany t_thereMany t_groupMany), IA E 120 t_froms, IA E 120 t_tos, .inr (8, fsX8 (a_t + 4) t_steps_many), ZA E 120 t_there, IA E 8 r.2] h) n (inI r.1 ∧ okA r.2) 0 0) 0 0 n (ov [a_t, (a_t + 2), (a_t + 3), (a_t + 4), (a_t + 8), (a_t + 9)] [.inr (9, fsX9 a_t t_knotMany t_thereMany t_groupMany), IA E 120 t_froms, IA E 120 t_tos, .inr (8, fsX8 (a_t + 4) t_steps_many), ZA E 120 t_there, IA E 8 t_chosen_] h) 105 [none, none, none, none, some (vI v4_), none, none] []) (hk_85 : ∀ (t_chosen_ : Nat → Int) (v4_ : Int) (v5_ : Int), okA t_chosen_ → inI v4_ → inI v5_ → k_85 t_chosen_ v4_ v5_ = some r → G l E b0 M_X9_choose (fun _ => True) (ZM E b0 (some (vI r.1)) (ov [a_t, (a_t + 2), (a_t + 3), (a_t + 4), (a_t + 8), (a_t + 9)] [.inr (9, fsX9 a_t t_knotMany t_thereMany t_groupMany), IA E 120 t_froms, IA E 120 t_tos, .inr (8, fsX8 (a_t + 4) t_steps_many), ZA E 120 t_there, IA E 8 r.2] h) n (inI r.1 ∧ okA r.2) 0 0) 0 0 n (ov [a_t, (a_t + 2), (a_t + 3), (a_t + 4), (a_t + 8), (a_t + 9)] [.inr (9, fsX9 a_t t_knotMany t_thereMany t_groupMany), IA E 120 t_froms, IA E 120 t_tos, .inr (8, fsX8 (a_t + 4) t_steps_many), ZA E 120 t_there, IA E 8 t_chosen_] h) 85 [none, none, none, none, none, none, none] []) (hs : m_X9_choose_99 t_froms t_tos t_steps_many t_there t_chosen v1 v2 v4 v5 ag k_105 k_85 = some r) : G l E b0 M_X9_choose (fun _ => True) (ZM E b0 (some (vI r.1)) (ov [a_t, (a_t + 2), (a_t + 3), (a_t + 4), (a_t + 8), (a_t + 9)] [.inr (9, fsX9 a_t t_knotMany t_thereMany t_groupMany), IA E 120 t_froms, IA E 120 t_tos, .inr (8, fsX8 (a_t + 4) t_steps_many), ZA E 120 t_there, IA E 8 r.2] h) n (inI r.1 ∧ okA r.2) 0 0) 0 0 n (ov [a_t, (a_t + 2), (a_t + 3), (a_t + 4), (a_t + 8), (a_t + 9)] [.inr (9, fsX9 a_t t_knotMany t_thereMany t_groupMany), IA E 120 t_froms, IA E 120 t_tos, .inr (8, fsX8 (a_t + 4) t_steps_many), ZA E 120 t_there, IA E 8 t_chosen] h) 99 [some (.ref a_t), some (vI v1), some (vJ v2), none, some (vI v4), some (vI v5), none] [] := by
  rw [m_X9_choose_99] at hs
  refine g_iinc e_X9_choose_99 rfl st1_5 rfl ?_
  refine g_goto e_X9_choose_102 ?_
  obtain ⟨hc1, hs⟩ := chk_elim hs
  exact hag _ _ _ ok_t_chosen ok_v4 hc1 hs

noncomputable def m_X9_choose_71 (t_froms : Nat → Int) (t_tos : Nat → Int) (t_steps_many : Int) (t_there : Nat → Int) (t_chosen : Nat → Int) (v1 : Int) (v2 : Int) (v4 : Int) (v5 : Int) (s0 : Int) (ag : (Nat → Int) → Int → Int → Option (Int × (Nat → Int))) (k_105 : (Nat → Int) → Int → Int → Option (Int × (Nat → Int))) (k_85 : (Nat → Int) → Int → Int → Option (Int × (Nat → Int))) : Option (Int × (Nat → Int)) :=
  if s0 = 0 then (some (0, t_chosen)) else (if v4 < 8 then (chk (inB v4 8) (chk (inI (v4 + 1)) (m_X9_choose_99 t_froms t_tos t_steps_many t_there (up t_chosen (Int.toNat v4) v5) v1 v2 (v4 + 1) v5 ag k_105 k_85))) else (some (0, t_chosen)))

set_option maxRecDepth 10000 in
theorem g_X9_choose_71 {l : Launch} {E : EE} {b0 n : Nat} {h : AH} {a_t : Nat} {t_knotMany t_thereMany t_groupMany t_steps_many v1 v2 v4 v5 s0 : Int} {t_froms t_tos t_there t_chosen : Nat → Int} {r : Int × (Nat → Int)} {ag : (Nat → Int) → Int → Int → Option (Int × (Nat → Int))} {k_105 : (Nat → Int) → Int → Int → Option (Int × (Nat → Int))} {k_85 : (Nat → Int) → Int → Int → Option (Int × (Nat → Int))} (ao : AO b0 n [a_t, (a_t + 2), (a_t + 3), (a_t + 4), (a_t + 8), (a_t + 9)]) (ok_t_froms : okA t_froms) (ok_t_tos : okA t_tos) (ok_t_steps_many : inI t_steps_many) (ok_t_there : okZ t_there) (ok_t_chosen : okA t_chosen) (ok_v1 : inI v1) (ok_v2 : inJ v2) (ok_v4 : inI v4) (ok_v5 : inI v5) (ok_s0 : inZ s0) (hag : ∀ (t_chosen_ : Nat → Int) (v4_ : Int) (v5_ : Int), okA t_chosen_ → inI v4_ → inI v5_ → ag t_chosen_ v4_ v5_ = some r → G l E b0 M_X9_choose (fun _ => True) (ZM E b0 (some (vI r.1)) (ov [a_t, (a_t + 2), (a_t + 3), (a_t + 4), (a_t + 8), (a_t + 9)] [.inr (9, fsX9 a_t t_knotMany t_thereMany t_groupMany), IA E 120 t_froms, IA E 120 t_tos, .inr (8, fsX8 (a_t + 4) t_steps_many), ZA E 120 t_there, IA E 8 r.2] h) n (inI r.1 ∧ okA r.2) 0 0) 0 0 n (ov [a_t, (a_t + 2), (a_t + 3), (a_t + 4), (a_t + 8), (a_t + 9)] [.inr (9, fsX9 a_t t_knotMany t_thereMany t_groupMany), IA E 120 t_froms, IA E 120 t_tos, .inr (8, fsX8 (a_t + 4) t_steps_many), ZA E 120 t_there, IA E 8 t_chosen_] h) 17 [some (.ref a_t), some (vI v1), some (vJ v2), none, some (vI v4_), some (vI v5_), none] []) (hk_105 : ∀ (t_chosen_ : Nat → Int) (v4_ : Int) (v5_ : Int), okA t_chosen_ → inI v4_ → inI v5_ → k_105 t_chosen_ v4_ v5_ = some r → G l E b0 M_X9_choose (fun _ => True) (ZM E b0 (some (vI r.1)) (ov [a_t, (a_t + 2), (a_t + 3), (a_t + 4), (a_t + 8), (a_t + 9)] [.inr (9, fsX9 a_t t_knotMany t_thereMany t_groupMany), IA E 120 t_froms, IA E 120 t_tos, .inr (8, fsX8 (a_t + 4) t_steps_many), ZA E 120 t_there, IA E 8 r.2] h) n (inI r.1 ∧ okA r.2) 0 0) 0 0 n (ov [a_t, (a_t + 2), (a_t + 3), (a_t + 4), (a_t + 8), (a_t + 9)] [.inr (9, fsX9 a_t t_knotMany t_thereMany t_groupMany), IA E 120 t_froms, IA E 120 t_tos, .inr (8, fsX8 (a_t + 4) t_steps_many), ZA E 120 t_there, IA E 8 t_chosen_] h) 105 [none, none, none, none, some (vI v4_), none, none] []) (hk_85 : ∀ (t_chosen_ : Nat → Int) (v4_ : Int) (v5_ : Int), okA t_chosen_ → inI v4_ → inI v5_ → k_85 t_chosen_ v4_ v5_ = some r → G l E b0 M_X9_choose (fun _ => True) (ZM E b0 (some (vI r.1)) (ov [a_t, (a_t + 2), (a_t + 3), (a_t + 4), (a_t + 8), (a_t + 9)] [.inr (9, fsX9 a_t t_knotMany t_thereMany t_groupMany), IA E 120 t_froms, IA E 120 t_tos, .inr (8, fsX8 (a_t + 4) t_steps_many), ZA E 120 t_there, IA E 8 r.2] h) n (inI r.1 ∧ okA r.2) 0 0) 0 0 n (ov [a_t, (a_t + 2), (a_t + 3), (a_t + 4), (a_t + 8), (a_t + 9)] [.inr (9, fsX9 a_t t_knotMany t_thereMany t_groupMany), IA E 120 t_froms, IA E 120 t_tos, .inr (8, fsX8 (a_t + 4) t_steps_many), ZA E 120 t_there, IA E 8 t_chosen_] h) 85 [none, none, none, none, none, none, none] []) (hs : m_X9_choose_71 t_froms t_tos t_steps_many t_there t_chosen v1 v2 v4 v5 s0 ag k_105 k_85 = some r) : G l E b0 M_X9_choose (fun _ => True) (ZM E b0 (some (vI r.1)) (ov [a_t, (a_t + 2), (a_t + 3), (a_t + 4), (a_t + 8), (a_t + 9)] [.inr (9, fsX9 a_t t_knotMany t_thereMany t_groupMany), IA E 120 t_froms, IA E 120 t_tos, .inr (8, fsX8 (a_t + 4) t_steps_many), ZA E 120 t_there, IA E 8 r.2] h) n (inI r.1 ∧ okA r.2) 0 0) 0 0 n (ov [a_t, (a_t + 2), (a_t + 3), (a_t + 4), (a_t + 8), (a_t + 9)] [.inr (9, fsX9 a_t t_knotMany t_thereMany t_groupMany), IA E 120 t_froms, IA E 120 t_tos, .inr (8, fsX8 (a_t + 4) t_steps_many), ZA E 120 t_there, IA E 8 t_chosen] h) 71 [some (.ref a_t), some (vI v1), some (vJ v2), none, some (vI v4), some (vI v5), none] [vI s0] := by
  rw [m_X9_choose_71] at hs
  refine g_istore e_X9_choose_71 st1_6 rfl ?_
  refine g_iload e_X9_choose_73 rfl ?_
  refine g_if_eq e_X9_choose_75 (inZ_I ok_s0) hs (fun c75 hs => ?_) (fun c75 hs => ?_)
  · refine g_iconst e_X9_choose_85 ?_
    obtain rfl := Option.some.inj hs
    exact g_iret rfl ⟨(by decide : inI 0), ok_t_chosen⟩ e_X9_choose_86
  · refine g_iload e_X9_choose_78 rfl ?_
    refine g_bipush e_X9_choose_80 bp_8 ?_
    refine g_icmp_lt e_X9_choose_82 ok_v4 (by decide : inI 8) hs (fun c82 hs => ?_) (fun c82 hs => ?_)
    · refine g_aload_n e_X9_choose_87 rfl ?_
      refine g_get 0 7 ao rfl rfl fsX9_g7 fl_X9_34 e_X9_choose_88 ?_
      refine g_iload e_X9_choose_91 rfl ?_
      refine g_iload e_X9_choose_93 rfl ?_
      refine g_iast 5 ao rfl rfl ls_5 (Nat.le_of_ble_eq_true rfl) e_X9_choose_95 hs (fun hi3 hs => ?_)
      refine g_iinc e_X9_choose_96 rfl st1_4 rfl ?_
      obtain ⟨hc4, hs⟩ := chk_elim hs
      exact g_mask [true, true, true, true, true, true, false] (g_X9_choose_99 ao ok_t_froms ok_t_tos ok_t_steps_many ok_t_there (okA_up ok_t_chosen ok_v5) ok_v1 ok_v2 hc4 ok_v5 hag hk_105 hk_85 hs)
    · refine g_iconst e_X9_choose_85 ?_
      obtain rfl := Option.some.inj hs
      exact g_iret rfl ⟨(by decide : inI 0), ok_t_chosen⟩ e_X9_choose_86

noncomputable def m_X9_choose_70 (t_froms : Nat → Int) (t_tos : Nat → Int) (t_steps_many : Int) (t_there : Nat → Int) (t_chosen : Nat → Int) (v1 : Int) (v2 : Int) (v4 : Int) (v5 : Int) (ag : (Nat → Int) → Int → Int → Option (Int × (Nat → Int))) (k_105 : (Nat → Int) → Int → Int → Option (Int × (Nat → Int))) (k_85 : (Nat → Int) → Int → Int → Option (Int × (Nat → Int))) : Option (Int × (Nat → Int)) :=
  m_X9_choose_71 t_froms t_tos t_steps_many t_there t_chosen v1 v2 v4 v5 0 ag k_105 k_85

set_option maxRecDepth 10000 in
theorem g_X9_choose_70 {l : Launch} {E : EE} {b0 n : Nat} {h : AH} {a_t : Nat} {t_knotMany t_thereMany t_groupMany t_steps_many v1 v2 v4 v5 : Int} {t_froms t_tos t_there t_chosen : Nat → Int} {r : Int × (Nat → Int)} {ag : (Nat → Int) → Int → Int → Option (Int × (Nat → Int))} {k_105 : (Nat → Int) → Int → Int → Option (Int × (Nat → Int))} {k_85 : (Nat → Int) → Int → Int → Option (Int × (Nat → Int))} (ao : AO b0 n [a_t, (a_t + 2), (a_t + 3), (a_t + 4), (a_t + 8), (a_t + 9)]) (ok_t_froms : okA t_froms) (ok_t_tos : okA t_tos) (ok_t_steps_many : inI t_steps_many) (ok_t_there : okZ t_there) (ok_t_chosen : okA t_chosen) (ok_v1 : inI v1) (ok_v2 : inJ v2) (ok_v4 : inI v4) (ok_v5 : inI v5) (hag : ∀ (t_chosen_ : Nat → Int) (v4_ : Int) (v5_ : Int), okA t_chosen_ → inI v4_ → inI v5_ → ag t_chosen_ v4_ v5_ = some r → G l E b0 M_X9_choose (fun _ => True) (ZM E b0 (some (vI r.1)) (ov [a_t, (a_t + 2), (a_t + 3), (a_t + 4), (a_t + 8), (a_t + 9)] [.inr (9, fsX9 a_t t_knotMany t_thereMany t_groupMany), IA E 120 t_froms, IA E 120 t_tos, .inr (8, fsX8 (a_t + 4) t_steps_many), ZA E 120 t_there, IA E 8 r.2] h) n (inI r.1 ∧ okA r.2) 0 0) 0 0 n (ov [a_t, (a_t + 2), (a_t + 3), (a_t + 4), (a_t + 8), (a_t + 9)] [.inr (9, fsX9 a_t t_knotMany t_thereMany t_groupMany), IA E 120 t_froms, IA E 120 t_tos, .inr (8, fsX8 (a_t + 4) t_steps_many), ZA E 120 t_there, IA E 8 t_chosen_] h) 17 [some (.ref a_t), some (vI v1), some (vJ v2), none, some (vI v4_), some (vI v5_), none] []) (hk_105 : ∀ (t_chosen_ : Nat → Int) (v4_ : Int) (v5_ : Int), okA t_chosen_ → inI v4_ → inI v5_ → k_105 t_chosen_ v4_ v5_ = some r → G l E b0 M_X9_choose (fun _ => True) (ZM E b0 (some (vI r.1)) (ov [a_t, (a_t + 2), (a_t + 3), (a_t + 4), (a_t + 8), (a_t + 9)] [.inr (9, fsX9 a_t t_knotMany t_thereMany t_groupMany), IA E 120 t_froms, IA E 120 t_tos, .inr (8, fsX8 (a_t + 4) t_steps_many), ZA E 120 t_there, IA E 8 r.2] h) n (inI r.1 ∧ okA r.2) 0 0) 0 0 n (ov [a_t, (a_t + 2), (a_t + 3), (a_t + 4), (a_t + 8), (a_t + 9)] [.inr (9, fsX9 a_t t_knotMany t_thereMany t_groupMany), IA E 120 t_froms, IA E 120 t_tos, .inr (8, fsX8 (a_t + 4) t_steps_many), ZA E 120 t_there, IA E 8 t_chosen_] h) 105 [none, none, none, none, some (vI v4_), none, none] []) (hk_85 : ∀ (t_chosen_ : Nat → Int) (v4_ : Int) (v5_ : Int), okA t_chosen_ → inI v4_ → inI v5_ → k_85 t_chosen_ v4_ v5_ = some r → G l E b0 M_X9_choose (fun _ => True) (ZM E b0 (some (vI r.1)) (ov [a_t, (a_t + 2), (a_t + 3), (a_t + 4), (a_t + 8), (a_t + 9)] [.inr (9, fsX9 a_t t_knotMany t_thereMany t_groupMany), IA E 120 t_froms, IA E 120 t_tos, .inr (8, fsX8 (a_t + 4) t_steps_many), ZA E 120 t_there, IA E 8 r.2] h) n (inI r.1 ∧ okA r.2) 0 0) 0 0 n (ov [a_t, (a_t + 2), (a_t + 3), (a_t + 4), (a_t + 8), (a_t + 9)] [.inr (9, fsX9 a_t t_knotMany t_thereMany t_groupMany), IA E 120 t_froms, IA E 120 t_tos, .inr (8, fsX8 (a_t + 4) t_steps_many), ZA E 120 t_there, IA E 8 t_chosen_] h) 85 [none, none, none, none, none, none, none] []) (hs : m_X9_choose_70 t_froms t_tos t_steps_many t_there t_chosen v1 v2 v4 v5 ag k_105 k_85 = some r) : G l E b0 M_X9_choose (fun _ => True) (ZM E b0 (some (vI r.1)) (ov [a_t, (a_t + 2), (a_t + 3), (a_t + 4), (a_t + 8), (a_t + 9)] [.inr (9, fsX9 a_t t_knotMany t_thereMany t_groupMany), IA E 120 t_froms, IA E 120 t_tos, .inr (8, fsX8 (a_t + 4) t_steps_many), ZA E 120 t_there, IA E 8 r.2] h) n (inI r.1 ∧ okA r.2) 0 0) 0 0 n (ov [a_t, (a_t + 2), (a_t + 3), (a_t + 4), (a_t + 8), (a_t + 9)] [.inr (9, fsX9 a_t t_knotMany t_thereMany t_groupMany), IA E 120 t_froms, IA E 120 t_tos, .inr (8, fsX8 (a_t + 4) t_steps_many), ZA E 120 t_there, IA E 8 t_chosen] h) 70 [some (.ref a_t), some (vI v1), some (vJ v2), none, some (vI v4), some (vI v5), none] [] := by
  rw [m_X9_choose_70] at hs
  refine g_iconst e_X9_choose_70 ?_
  exact g_X9_choose_71 ao ok_t_froms ok_t_tos ok_t_steps_many ok_t_there ok_t_chosen ok_v1 ok_v2 ok_v4 ok_v5 (by decide : inZ 0) hag hk_105 hk_85 hs

noncomputable def m_X9_choose_66 (t_froms : Nat → Int) (t_tos : Nat → Int) (t_steps_many : Int) (t_there : Nat → Int) (t_chosen : Nat → Int) (v1 : Int) (v2 : Int) (v4 : Int) (v5 : Int) (ag : (Nat → Int) → Int → Int → Option (Int × (Nat → Int))) (k_105 : (Nat → Int) → Int → Int → Option (Int × (Nat → Int))) (k_85 : (Nat → Int) → Int → Int → Option (Int × (Nat → Int))) : Option (Int × (Nat → Int)) :=
  m_X9_choose_71 t_froms t_tos t_steps_many t_there t_chosen v1 v2 v4 v5 1 ag k_105 k_85

set_option maxRecDepth 10000 in
theorem g_X9_choose_66 {l : Launch} {E : EE} {b0 n : Nat} {h : AH} {a_t : Nat} {t_knotMany t_thereMany t_groupMany t_steps_many v1 v2 v4 v5 : Int} {t_froms t_tos t_there t_chosen : Nat → Int} {r : Int × (Nat → Int)} {ag : (Nat → Int) → Int → Int → Option (Int × (Nat → Int))} {k_105 : (Nat → Int) → Int → Int → Option (Int × (Nat → Int))} {k_85 : (Nat → Int) → Int → Int → Option (Int × (Nat → Int))} (ao : AO b0 n [a_t, (a_t + 2), (a_t + 3), (a_t + 4), (a_t + 8), (a_t + 9)]) (ok_t_froms : okA t_froms) (ok_t_tos : okA t_tos) (ok_t_steps_many : inI t_steps_many) (ok_t_there : okZ t_there) (ok_t_chosen : okA t_chosen) (ok_v1 : inI v1) (ok_v2 : inJ v2) (ok_v4 : inI v4) (ok_v5 : inI v5) (hag : ∀ (t_chosen_ : Nat → Int) (v4_ : Int) (v5_ : Int), okA t_chosen_ → inI v4_ → inI v5_ → ag t_chosen_ v4_ v5_ = some r → G l E b0 M_X9_choose (fun _ => True) (ZM E b0 (some (vI r.1)) (ov [a_t, (a_t + 2), (a_t + 3), (a_t + 4), (a_t + 8), (a_t + 9)] [.inr (9, fsX9 a_t t_knotMany t_thereMany t_groupMany), IA E 120 t_froms, IA E 120 t_tos, .inr (8, fsX8 (a_t + 4) t_steps_many), ZA E 120 t_there, IA E 8 r.2] h) n (inI r.1 ∧ okA r.2) 0 0) 0 0 n (ov [a_t, (a_t + 2), (a_t + 3), (a_t + 4), (a_t + 8), (a_t + 9)] [.inr (9, fsX9 a_t t_knotMany t_thereMany t_groupMany), IA E 120 t_froms, IA E 120 t_tos, .inr (8, fsX8 (a_t + 4) t_steps_many), ZA E 120 t_there, IA E 8 t_chosen_] h) 17 [some (.ref a_t), some (vI v1), some (vJ v2), none, some (vI v4_), some (vI v5_), none] []) (hk_105 : ∀ (t_chosen_ : Nat → Int) (v4_ : Int) (v5_ : Int), okA t_chosen_ → inI v4_ → inI v5_ → k_105 t_chosen_ v4_ v5_ = some r → G l E b0 M_X9_choose (fun _ => True) (ZM E b0 (some (vI r.1)) (ov [a_t, (a_t + 2), (a_t + 3), (a_t + 4), (a_t + 8), (a_t + 9)] [.inr (9, fsX9 a_t t_knotMany t_thereMany t_groupMany), IA E 120 t_froms, IA E 120 t_tos, .inr (8, fsX8 (a_t + 4) t_steps_many), ZA E 120 t_there, IA E 8 r.2] h) n (inI r.1 ∧ okA r.2) 0 0) 0 0 n (ov [a_t, (a_t + 2), (a_t + 3), (a_t + 4), (a_t + 8), (a_t + 9)] [.inr (9, fsX9 a_t t_knotMany t_thereMany t_groupMany), IA E 120 t_froms, IA E 120 t_tos, .inr (8, fsX8 (a_t + 4) t_steps_many), ZA E 120 t_there, IA E 8 t_chosen_] h) 105 [none, none, none, none, some (vI v4_), none, none] []) (hk_85 : ∀ (t_chosen_ : Nat → Int) (v4_ : Int) (v5_ : Int), okA t_chosen_ → inI v4_ → inI v5_ → k_85 t_chosen_ v4_ v5_ = some r → G l E b0 M_X9_choose (fun _ => True) (ZM E b0 (some (vI r.1)) (ov [a_t, (a_t + 2), (a_t + 3), (a_t + 4), (a_t + 8), (a_t + 9)] [.inr (9, fsX9 a_t t_knotMany t_thereMany t_groupMany), IA E 120 t_froms, IA E 120 t_tos, .inr (8, fsX8 (a_t + 4) t_steps_many), ZA E 120 t_there, IA E 8 r.2] h) n (inI r.1 ∧ okA r.2) 0 0) 0 0 n (ov [a_t, (a_t + 2), (a_t + 3), (a_t + 4), (a_t + 8), (a_t + 9)] [.inr (9, fsX9 a_t t_knotMany t_thereMany t_groupMany), IA E 120 t_froms, IA E 120 t_tos, .inr (8, fsX8 (a_t + 4) t_steps_many), ZA E 120 t_there, IA E 8 t_chosen_] h) 85 [none, none, none, none, none, none, none] []) (hs : m_X9_choose_66 t_froms t_tos t_steps_many t_there t_chosen v1 v2 v4 v5 ag k_105 k_85 = some r) : G l E b0 M_X9_choose (fun _ => True) (ZM E b0 (some (vI r.1)) (ov [a_t, (a_t + 2), (a_t + 3), (a_t + 4), (a_t + 8), (a_t + 9)] [.inr (9, fsX9 a_t t_knotMany t_thereMany t_groupMany), IA E 120 t_froms, IA E 120 t_tos, .inr (8, fsX8 (a_t + 4) t_steps_many), ZA E 120 t_there, IA E 8 r.2] h) n (inI r.1 ∧ okA r.2) 0 0) 0 0 n (ov [a_t, (a_t + 2), (a_t + 3), (a_t + 4), (a_t + 8), (a_t + 9)] [.inr (9, fsX9 a_t t_knotMany t_thereMany t_groupMany), IA E 120 t_froms, IA E 120 t_tos, .inr (8, fsX8 (a_t + 4) t_steps_many), ZA E 120 t_there, IA E 8 t_chosen] h) 66 [some (.ref a_t), some (vI v1), some (vJ v2), none, some (vI v4), some (vI v5), none] [] := by
  rw [m_X9_choose_66] at hs
  refine g_iconst e_X9_choose_66 ?_
  refine g_goto e_X9_choose_67 ?_
  exact g_X9_choose_71 ao ok_t_froms ok_t_tos ok_t_steps_many ok_t_there ok_t_chosen ok_v1 ok_v2 ok_v4 ok_v5 (by decide : inZ 1) hag hk_105 hk_85 hs

noncomputable def m_X9_choose_17 (t_froms : Nat → Int) (t_tos : Nat → Int) (t_steps_many : Int) (t_there : Nat → Int) (v1 : Int) (v2 : Int) (k_105 : (Nat → Int) → Int → Int → Option (Int × (Nat → Int))) (k_85 : (Nat → Int) → Int → Int → Option (Int × (Nat → Int))) : Nat → (Nat → Int) → Int → Int → Option (Int × (Nat → Int))
  | 0, _, _, _ => none
  | F + 1, t_chosen, v4, v5 => if 60 ≤ v5 then (some (v4, t_chosen)) else (if (jAnd (jUshr v2 v5) 1) = 0 then (m_X9_choose_99 t_froms t_tos t_steps_many t_there t_chosen v1 v2 v4 v5 (m_X9_choose_17 t_froms t_tos t_steps_many t_there v1 v2 k_105 k_85 F) k_105 k_85) else ((m_X9_isThere t_steps_many t_there v5).bind (fun y2 => if y2 = 0 then (m_X9_choose_70 t_froms t_tos t_steps_many t_there t_chosen v1 v2 v4 v5 (m_X9_choose_17 t_froms t_tos t_steps_many t_there v1 v2 k_105 k_85 F) k_105 k_85) else (chk (inB v5 120) (if (t_froms (Int.toNat v5)) = v1 then (m_X9_choose_66 t_froms t_tos t_steps_many t_there t_chosen v1 v2 v4 v5 (m_X9_choose_17 t_froms t_tos t_steps_many t_there v1 v2 k_105 k_85 F) k_105 k_85) else (chk (inB v5 120) (if (t_tos (Int.toNat v5)) = v1 then (m_X9_choose_66 t_froms t_tos t_steps_many t_there t_chosen v1 v2 v4 v5 (m_X9_choose_17 t_froms t_tos t_steps_many t_there v1 v2 k_105 k_85 F) k_105 k_85) else (m_X9_choose_70 t_froms t_tos t_steps_many t_there t_chosen v1 v2 v4 v5 (m_X9_choose_17 t_froms t_tos t_steps_many t_there v1 v2 k_105 k_85 F) k_105 k_85))))))))

set_option maxRecDepth 10000 in
theorem g_X9_choose_17 {l : Launch} {E : EE} {b0 n : Nat} {h : AH} {a_t : Nat} {t_knotMany t_thereMany t_groupMany t_steps_many v1 v2 : Int} {t_froms t_tos t_there : Nat → Int} {r : Int × (Nat → Int)} {k_105 : (Nat → Int) → Int → Int → Option (Int × (Nat → Int))} {k_85 : (Nat → Int) → Int → Int → Option (Int × (Nat → Int))} (ao : AO b0 n [a_t, (a_t + 2), (a_t + 3), (a_t + 4), (a_t + 8), (a_t + 9)]) (ok_t_froms : okA t_froms) (ok_t_tos : okA t_tos) (ok_t_steps_many : inI t_steps_many) (ok_t_there : okZ t_there) (ok_v1 : inI v1) (ok_v2 : inJ v2) (hk_105 : ∀ (t_chosen_ : Nat → Int) (v4_ : Int) (v5_ : Int), okA t_chosen_ → inI v4_ → inI v5_ → k_105 t_chosen_ v4_ v5_ = some r → G l E b0 M_X9_choose (fun _ => True) (ZM E b0 (some (vI r.1)) (ov [a_t, (a_t + 2), (a_t + 3), (a_t + 4), (a_t + 8), (a_t + 9)] [.inr (9, fsX9 a_t t_knotMany t_thereMany t_groupMany), IA E 120 t_froms, IA E 120 t_tos, .inr (8, fsX8 (a_t + 4) t_steps_many), ZA E 120 t_there, IA E 8 r.2] h) n (inI r.1 ∧ okA r.2) 0 0) 0 0 n (ov [a_t, (a_t + 2), (a_t + 3), (a_t + 4), (a_t + 8), (a_t + 9)] [.inr (9, fsX9 a_t t_knotMany t_thereMany t_groupMany), IA E 120 t_froms, IA E 120 t_tos, .inr (8, fsX8 (a_t + 4) t_steps_many), ZA E 120 t_there, IA E 8 t_chosen_] h) 105 [none, none, none, none, some (vI v4_), none, none] []) (hk_85 : ∀ (t_chosen_ : Nat → Int) (v4_ : Int) (v5_ : Int), okA t_chosen_ → inI v4_ → inI v5_ → k_85 t_chosen_ v4_ v5_ = some r → G l E b0 M_X9_choose (fun _ => True) (ZM E b0 (some (vI r.1)) (ov [a_t, (a_t + 2), (a_t + 3), (a_t + 4), (a_t + 8), (a_t + 9)] [.inr (9, fsX9 a_t t_knotMany t_thereMany t_groupMany), IA E 120 t_froms, IA E 120 t_tos, .inr (8, fsX8 (a_t + 4) t_steps_many), ZA E 120 t_there, IA E 8 r.2] h) n (inI r.1 ∧ okA r.2) 0 0) 0 0 n (ov [a_t, (a_t + 2), (a_t + 3), (a_t + 4), (a_t + 8), (a_t + 9)] [.inr (9, fsX9 a_t t_knotMany t_thereMany t_groupMany), IA E 120 t_froms, IA E 120 t_tos, .inr (8, fsX8 (a_t + 4) t_steps_many), ZA E 120 t_there, IA E 8 t_chosen_] h) 85 [none, none, none, none, none, none, none] []) :
    ∀ (F : Nat) (t_chosen : Nat → Int) (v4 : Int) (v5 : Int), okA t_chosen → inI v4 → inI v5 → m_X9_choose_17 t_froms t_tos t_steps_many t_there v1 v2 k_105 k_85 F t_chosen v4 v5 = some r → G l E b0 M_X9_choose (fun _ => True) (ZM E b0 (some (vI r.1)) (ov [a_t, (a_t + 2), (a_t + 3), (a_t + 4), (a_t + 8), (a_t + 9)] [.inr (9, fsX9 a_t t_knotMany t_thereMany t_groupMany), IA E 120 t_froms, IA E 120 t_tos, .inr (8, fsX8 (a_t + 4) t_steps_many), ZA E 120 t_there, IA E 8 r.2] h) n (inI r.1 ∧ okA r.2) 0 0) 0 0 n (ov [a_t, (a_t + 2), (a_t + 3), (a_t + 4), (a_t + 8), (a_t + 9)] [.inr (9, fsX9 a_t t_knotMany t_thereMany t_groupMany), IA E 120 t_froms, IA E 120 t_tos, .inr (8, fsX8 (a_t + 4) t_steps_many), ZA E 120 t_there, IA E 8 t_chosen] h) 17 [some (.ref a_t), some (vI v1), some (vJ v2), none, some (vI v4), some (vI v5), none] [] := by
  intro F
  induction F with
  | zero =>
    intro t_chosen v4 v5 ok_t_chosen ok_v4 ok_v5 hs
    rw [m_X9_choose_17] at hs
    cases hs
  | succ F ih =>
    intro t_chosen v4 v5 ok_t_chosen ok_v4 ok_v5 hs
    rw [m_X9_choose_17] at hs
    refine g_iload e_X9_choose_17 rfl ?_
    refine g_bipush e_X9_choose_19 bp_60 ?_
    refine g_icmp_ge e_X9_choose_21 ok_v5 (by decide : inI 60) hs (fun c21 hs => ?_) (fun c21 hs => ?_)
    · refine g_iload e_X9_choose_105 rfl ?_
      obtain rfl := Option.some.inj hs
      exact g_iret rfl ⟨ok_v4, ok_t_chosen⟩ e_X9_choose_107
    · refine g_lload_n e_X9_choose_24 rfl ?_
      refine g_iload e_X9_choose_25 rfl ?_
      refine g_lushr e_X9_choose_27 ?_
      refine g_lconst (a := 1) e_X9_choose_28 rfl ?_
      refine g_land e_X9_choose_29 ?_
      refine g_lconst (a := 0) e_X9_choose_30 rfl ?_
      refine g_lcmp_eq e_X9_choose_31 e_X9_choose_32 (jAnd_J _ _) (by decide : inJ 0) hs (fun c31 hs => ?_) (fun c31 hs => ?_)
      · exact g_X9_choose_99 ao ok_t_froms ok_t_tos ok_t_steps_many ok_t_there ok_t_chosen ok_v1 ok_v2 ok_v4 ok_v5 ih hk_105 hk_85 hs
      · refine g_aload_n e_X9_choose_35 rfl ?_
        refine g_iload e_X9_choose_36 rfl ?_
        obtain ⟨y2, hy2, hs⟩ := bind_elim hs
        refine g_callVr [vI v5] cv_X9_84 ⟨rfl, rfl, Nat.le_of_ble_eq_true rfl, Nat.le_of_ble_eq_true rfl⟩ (ct_X9_isThere (AO_call [0, 3, 4] ao (by decide) rfl) (FA_call [0, 3, 4] ao.1 rfl rfl) ok_t_steps_many ok_t_there ok_v5 hy2) e_X9_choose_38 (ao.2 0 _ rfl) (ov_get 0 ao.1 rfl rfl) rfl rfl rfl (Nat.le_of_ble_eq_true rfl) ⟨Nat.le_refl _, Nat.le_refl _⟩ (fun Py2 => ?_)
        refine g_if_eq e_X9_choose_41 (inZ_I Py2) hs (fun c41 hs => ?_) (fun c41 hs => ?_)
        · exact g_X9_choose_70 ao ok_t_froms ok_t_tos ok_t_steps_many ok_t_there ok_t_chosen ok_v1 ok_v2 ok_v4 ok_v5 ih hk_105 hk_85 hs
        · refine g_aload_n e_X9_choose_44 rfl ?_
          refine g_get 0 1 ao rfl rfl fsX9_g1 fl_X9_15 e_X9_choose_45 ?_
          refine g_iload e_X9_choose_48 rfl ?_
          refine g_iald 1 ao rfl rfl (Nat.le_of_ble_eq_true rfl) e_X9_choose_50 hs (fun hi5 hs => ?_)
          refine g_iload_n e_X9_choose_51 rfl ?_
          refine g_icmp_eq e_X9_choose_52 (ok_t_froms _) ok_v1 hs (fun c52 hs => ?_) (fun c52 hs => ?_)
          · exact g_X9_choose_66 ao ok_t_froms ok_t_tos ok_t_steps_many ok_t_there ok_t_chosen ok_v1 ok_v2 ok_v4 ok_v5 ih hk_105 hk_85 hs
          · refine g_aload_n e_X9_choose_55 rfl ?_
            refine g_get 0 2 ao rfl rfl fsX9_g2 fl_X9_19 e_X9_choose_56 ?_
            refine g_iload e_X9_choose_59 rfl ?_
            refine g_iald 2 ao rfl rfl (Nat.le_of_ble_eq_true rfl) e_X9_choose_61 hs (fun hi6 hs => ?_)
            refine g_iload_n e_X9_choose_62 rfl ?_
            refine g_icmp_ne e_X9_choose_63 (ok_t_tos _) ok_v1 hs (fun c63 hs => ?_) (fun c63 hs => ?_)
            · exact g_X9_choose_66 ao ok_t_froms ok_t_tos ok_t_steps_many ok_t_there ok_t_chosen ok_v1 ok_v2 ok_v4 ok_v5 ih hk_105 hk_85 hs
            · exact g_X9_choose_70 ao ok_t_froms ok_t_tos ok_t_steps_many ok_t_there ok_t_chosen ok_v1 ok_v2 ok_v4 ok_v5 ih hk_105 hk_85 hs

noncomputable def m_X9_choose_105 (t_chosen : Nat → Int) (v4 : Int) : Option (Int × (Nat → Int)) :=
  some (v4, t_chosen)

set_option maxRecDepth 10000 in
theorem g_X9_choose_105 {l : Launch} {E : EE} {b0 n : Nat} {h : AH} {a_t : Nat} {t_knotMany t_thereMany t_groupMany t_steps_many v4 : Int} {t_froms t_tos t_there t_chosen : Nat → Int} {r : Int × (Nat → Int)} (ao : AO b0 n [a_t, (a_t + 2), (a_t + 3), (a_t + 4), (a_t + 8), (a_t + 9)]) (ok_t_froms : okA t_froms) (ok_t_tos : okA t_tos) (ok_t_steps_many : inI t_steps_many) (ok_t_there : okZ t_there) (ok_t_chosen : okA t_chosen) (ok_v4 : inI v4) (hs : m_X9_choose_105 t_chosen v4 = some r) : G l E b0 M_X9_choose (fun _ => True) (ZM E b0 (some (vI r.1)) (ov [a_t, (a_t + 2), (a_t + 3), (a_t + 4), (a_t + 8), (a_t + 9)] [.inr (9, fsX9 a_t t_knotMany t_thereMany t_groupMany), IA E 120 t_froms, IA E 120 t_tos, .inr (8, fsX8 (a_t + 4) t_steps_many), ZA E 120 t_there, IA E 8 r.2] h) n (inI r.1 ∧ okA r.2) 0 0) 0 0 n (ov [a_t, (a_t + 2), (a_t + 3), (a_t + 4), (a_t + 8), (a_t + 9)] [.inr (9, fsX9 a_t t_knotMany t_thereMany t_groupMany), IA E 120 t_froms, IA E 120 t_tos, .inr (8, fsX8 (a_t + 4) t_steps_many), ZA E 120 t_there, IA E 8 t_chosen] h) 105 [none, none, none, none, some (vI v4), none, none] [] := by
  rw [m_X9_choose_105] at hs
  refine g_iload e_X9_choose_105 rfl ?_
  obtain rfl := Option.some.inj hs
  exact g_iret rfl ⟨ok_v4, ok_t_chosen⟩ e_X9_choose_107

noncomputable def m_X9_choose_85 (t_chosen : Nat → Int) : Option (Int × (Nat → Int)) :=
  some (0, t_chosen)

set_option maxRecDepth 10000 in
theorem g_X9_choose_85 {l : Launch} {E : EE} {b0 n : Nat} {h : AH} {a_t : Nat} {t_knotMany t_thereMany t_groupMany t_steps_many : Int} {t_froms t_tos t_there t_chosen : Nat → Int} {r : Int × (Nat → Int)} (ao : AO b0 n [a_t, (a_t + 2), (a_t + 3), (a_t + 4), (a_t + 8), (a_t + 9)]) (ok_t_froms : okA t_froms) (ok_t_tos : okA t_tos) (ok_t_steps_many : inI t_steps_many) (ok_t_there : okZ t_there) (ok_t_chosen : okA t_chosen) (hs : m_X9_choose_85 t_chosen = some r) : G l E b0 M_X9_choose (fun _ => True) (ZM E b0 (some (vI r.1)) (ov [a_t, (a_t + 2), (a_t + 3), (a_t + 4), (a_t + 8), (a_t + 9)] [.inr (9, fsX9 a_t t_knotMany t_thereMany t_groupMany), IA E 120 t_froms, IA E 120 t_tos, .inr (8, fsX8 (a_t + 4) t_steps_many), ZA E 120 t_there, IA E 8 r.2] h) n (inI r.1 ∧ okA r.2) 0 0) 0 0 n (ov [a_t, (a_t + 2), (a_t + 3), (a_t + 4), (a_t + 8), (a_t + 9)] [.inr (9, fsX9 a_t t_knotMany t_thereMany t_groupMany), IA E 120 t_froms, IA E 120 t_tos, .inr (8, fsX8 (a_t + 4) t_steps_many), ZA E 120 t_there, IA E 8 t_chosen] h) 85 [none, none, none, none, none, none, none] [] := by
  rw [m_X9_choose_85] at hs
  refine g_iconst e_X9_choose_85 ?_
  obtain rfl := Option.some.inj hs
  exact g_iret rfl ⟨(by decide : inI 0), ok_t_chosen⟩ e_X9_choose_86

noncomputable def m_X9_choose_0 (t_froms : Nat → Int) (t_tos : Nat → Int) (t_steps_many : Int) (t_there : Nat → Int) (t_chosen : Nat → Int) (v1 : Int) (v2 : Int) : Option (Int × (Nat → Int)) :=
  if (jUshr v2 60) = 0 then (m_X9_choose_17 t_froms t_tos t_steps_many t_there v1 v2 (fun t_chosen' v4' v5' => m_X9_choose_105 t_chosen' v4') (fun t_chosen' v4' v5' => m_X9_choose_85 t_chosen') FU t_chosen 0 0) else (some (0, t_chosen))

set_option maxRecDepth 10000 in
theorem g_X9_choose_0 {l : Launch} {E : EE} {b0 n : Nat} {h : AH} {a_t : Nat} {t_knotMany t_thereMany t_groupMany t_steps_many v1 v2 : Int} {t_froms t_tos t_there t_chosen : Nat → Int} {r : Int × (Nat → Int)} (ao : AO b0 n [a_t, (a_t + 2), (a_t + 3), (a_t + 4), (a_t + 8), (a_t + 9)]) (ok_t_froms : okA t_froms) (ok_t_tos : okA t_tos) (ok_t_steps_many : inI t_steps_many) (ok_t_there : okZ t_there) (ok_t_chosen : okA t_chosen) (ok_v1 : inI v1) (ok_v2 : inJ v2) (hs : m_X9_choose_0 t_froms t_tos t_steps_many t_there t_chosen v1 v2 = some r) : G l E b0 M_X9_choose (fun _ => True) (ZM E b0 (some (vI r.1)) (ov [a_t, (a_t + 2), (a_t + 3), (a_t + 4), (a_t + 8), (a_t + 9)] [.inr (9, fsX9 a_t t_knotMany t_thereMany t_groupMany), IA E 120 t_froms, IA E 120 t_tos, .inr (8, fsX8 (a_t + 4) t_steps_many), ZA E 120 t_there, IA E 8 r.2] h) n (inI r.1 ∧ okA r.2) 0 0) 0 0 n (ov [a_t, (a_t + 2), (a_t + 3), (a_t + 4), (a_t + 8), (a_t + 9)] [.inr (9, fsX9 a_t t_knotMany t_thereMany t_groupMany), IA E 120 t_froms, IA E 120 t_tos, .inr (8, fsX8 (a_t + 4) t_steps_many), ZA E 120 t_there, IA E 8 t_chosen] h) 0 [some (.ref a_t), some (vI v1), some (vJ v2), none, none, none, none] [] := by
  rw [m_X9_choose_0] at hs
  refine g_lload_n e_X9_choose_0 rfl ?_
  refine g_bipush e_X9_choose_1 bp_60 ?_
  refine g_lushr e_X9_choose_3 ?_
  refine g_lconst (a := 0) e_X9_choose_4 rfl ?_
  refine g_lcmp_eq e_X9_choose_5 e_X9_choose_6 (jUshr_J _ _) (by decide : inJ 0) hs (fun c5 hs => ?_) (fun c5 hs => ?_)
  · refine g_iconst e_X9_choose_11 ?_
    refine g_istore e_X9_choose_12 st1_4 rfl ?_
    refine g_iconst e_X9_choose_14 ?_
    refine g_istore e_X9_choose_15 st1_5 rfl ?_
    exact g_X9_choose_17 ao ok_t_froms ok_t_tos ok_t_steps_many ok_t_there ok_v1 ok_v2 (hk_105 := by
      intro t_chosen' v4' v5' ok_t_chosen' ok_v4' ok_v5' hs
      exact g_X9_choose_105 ao ok_t_froms ok_t_tos ok_t_steps_many ok_t_there ok_t_chosen' ok_v4' hs) (hk_85 := by
      intro t_chosen' v4' v5' ok_t_chosen' ok_v4' ok_v5' hs
      exact g_X9_choose_85 ao ok_t_froms ok_t_tos ok_t_steps_many ok_t_there ok_t_chosen' hs) FU _ _ _ ok_t_chosen (by decide : inI 0) (by decide : inI 0) hs
  · refine g_iconst e_X9_choose_9 ?_
    obtain rfl := Option.some.inj hs
    exact g_iret rfl ⟨(by decide : inI 0), ok_t_chosen⟩ e_X9_choose_10

noncomputable def m_X9_choose (t_froms : Nat → Int) (t_tos : Nat → Int) (t_steps_many : Int) (t_there : Nat → Int) (t_chosen : Nat → Int) (v1 : Int) (v2 : Int) : Option (Int × (Nat → Int)) := m_X9_choose_0 t_froms t_tos t_steps_many t_there t_chosen v1 v2

set_option maxRecDepth 10000 in
theorem ct_X9_choose {l : Launch} {E : EE} {b0 n : Nat} {h : AH} {a_t : Nat} {t_knotMany t_thereMany t_groupMany t_steps_many : Int} {t_froms t_tos t_there t_chosen : Nat → Int} {v1 v2 : Int} (ao : AO b0 n [a_t, (a_t + 2), (a_t + 3), (a_t + 4), (a_t + 8), (a_t + 9)]) (hf : FA h [a_t, (a_t + 2), (a_t + 3), (a_t + 4), (a_t + 8), (a_t + 9)] [.inr (9, fsX9 a_t t_knotMany t_thereMany t_groupMany), IA E 120 t_froms, IA E 120 t_tos, .inr (8, fsX8 (a_t + 4) t_steps_many), ZA E 120 t_there, IA E 8 t_chosen]) (ok_t_froms : okA t_froms) (ok_t_tos : okA t_tos) (ok_t_steps_many : inI t_steps_many) (ok_t_there : okZ t_there) (ok_t_chosen : okA t_chosen) (ok_v1 : inI v1) (ok_v2 : inJ v2) {r : Int × (Nat → Int)} (hm : m_X9_choose t_froms t_tos t_steps_many t_there t_chosen v1 v2 = some r) : Ct l E b0 M_X9_choose 0 0 [.ref a_t, vI v1, vJ v2] h n (some (vI r.1)) (ov [a_t, (a_t + 2), (a_t + 3), (a_t + 4), (a_t + 8), (a_t + 9)] [.inr (9, fsX9 a_t t_knotMany t_thereMany t_groupMany), IA E 120 t_froms, IA E 120 t_tos, .inr (8, fsX8 (a_t + 4) t_steps_many), ZA E 120 t_there, IA E 8 r.2] h) n (inI r.1 ∧ okA r.2) := by
  rw [m_X9_choose] at hm
  have hg : G l E b0 M_X9_choose (fun _ => True) (ZM E b0 (some (vI r.1)) (ov [a_t, (a_t + 2), (a_t + 3), (a_t + 4), (a_t + 8), (a_t + 9)] [.inr (9, fsX9 a_t t_knotMany t_thereMany t_groupMany), IA E 120 t_froms, IA E 120 t_tos, .inr (8, fsX8 (a_t + 4) t_steps_many), ZA E 120 t_there, IA E 8 r.2] h) n (inI r.1 ∧ okA r.2) 0 0) 0 0 n (ov [a_t, (a_t + 2), (a_t + 3), (a_t + 4), (a_t + 8), (a_t + 9)] [.inr (9, fsX9 a_t t_knotMany t_thereMany t_groupMany), IA E 120 t_froms, IA E 120 t_tos, .inr (8, fsX8 (a_t + 4) t_steps_many), ZA E 120 t_there, IA E 8 t_chosen] h) 0 [some (.ref a_t), some (vI v1), some (vJ v2), none, none, none, none] [] := by
    have hs := hm
    exact g_X9_choose_0 ao ok_t_froms ok_t_tos ok_t_steps_many ok_t_there ok_t_chosen ok_v1 ok_v2 hs
  rw [FA_id hf] at hg
  exact Ct_of [some (.ref a_t), some (vI v1), some (vJ v2), none, none, none, none] ⟨by decide +kernel, rfl⟩ rfl (Nat.le_of_ble_eq_true rfl) hg

/-! ===== X9_lowestOf ===== -/
theorem e_X9_lowestOf_0 : DC cX9_lowestOf 0 (.iconst 0) 1 1 := ⟨by decide +kernel, rfl⟩
theorem e_X9_lowestOf_1 : DC cX9_lowestOf 1 (.istore_n 2) 1 2 := ⟨by decide +kernel, rfl⟩
theorem e_X9_lowestOf_2 : DC cX9_lowestOf 2 (.iload_n 2) 1 3 := ⟨by decide +kernel, rfl⟩
theorem e_X9_lowestOf_3 : DC cX9_lowestOf 3 (.iload_n 1) 1 4 := ⟨by decide +kernel, rfl⟩
theorem e_X9_lowestOf_4 : DB cX9_lowestOf 4 (.if_icmp .ge 19) (19) 3 7 23 := ⟨by decide +kernel, rfl, rfl⟩
theorem e_X9_lowestOf_7 : DC cX9_lowestOf 7 (.iload_n 0) 1 8 := ⟨by decide +kernel, rfl⟩
theorem e_X9_lowestOf_8 : DC cX9_lowestOf 8 (.iload_n 2) 1 9 := ⟨by decide +kernel, rfl⟩
theorem e_X9_lowestOf_9 : DC cX9_lowestOf 9 (.ishr) 1 10 := ⟨by decide +kernel, rfl⟩
theorem e_X9_lowestOf_10 : DC cX9_lowestOf 10 (.iconst 1) 1 11 := ⟨by decide +kernel, rfl⟩
theorem e_X9_lowestOf_11 : DC cX9_lowestOf 11 (.iand) 1 12 := ⟨by decide +kernel, rfl⟩
theorem e_X9_lowestOf_12 : DB cX9_lowestOf 12 (.ifCond .eq 5) (5) 3 15 17 := ⟨by decide +kernel, rfl, rfl⟩
theorem e_X9_lowestOf_15 : DC cX9_lowestOf 15 (.iload_n 2) 1 16 := ⟨by decide +kernel, rfl⟩
theorem e_X9_lowestOf_16 : DC cX9_lowestOf 16 (.ireturn) 1 17 := ⟨by decide +kernel, rfl⟩
theorem e_X9_lowestOf_17 : DC cX9_lowestOf 17 (.iinc 2 1) 3 20 := ⟨by decide +kernel, rfl⟩
theorem e_X9_lowestOf_20 : DB cX9_lowestOf 20 (.goto (-18)) (-18) 3 23 2 := ⟨by decide +kernel, rfl, rfl⟩
theorem e_X9_lowestOf_23 : DC cX9_lowestOf 23 (.iconst 0) 1 24 := ⟨by decide +kernel, rfl⟩
theorem e_X9_lowestOf_24 : DC cX9_lowestOf 24 (.ireturn) 1 25 := ⟨by decide +kernel, rfl⟩
noncomputable def m_X9_lowestOf_2 (v0 : Int) (v1 : Int) (k_23 : Int → Option (Int)) (k_15 : Int → Option (Int)) : Nat → Int → Option (Int)
  | 0, _ => none
  | F + 1, v2 => if v1 ≤ v2 then (some (0)) else (if (bAnd (bShr v0 v2) 1) = 0 then (chk (inI (v2 + 1)) (m_X9_lowestOf_2 v0 v1 k_23 k_15 F (v2 + 1))) else (some (v2)))

set_option maxRecDepth 10000 in
theorem g_X9_lowestOf_2 {l : Launch} {E : EE} {b0 n : Nat} {h : AH} {v0 v1 : Int} {r : Int} {k_23 : Int → Option (Int)} {k_15 : Int → Option (Int)} (ao : AO b0 n []) (ok_v0 : inI v0) (ok_v1 : inI v1) (hk_23 : ∀ (v2_ : Int), inI v2_ → k_23 v2_ = some r → G l E b0 M_X9_lowestOf (fun _ => True) (ZM E b0 (some (vI r)) (ov [] [] h) n (inI r) 0 0) 0 0 n (ov [] [] h) 23 [none, none, none] []) (hk_15 : ∀ (v2_ : Int), inI v2_ → k_15 v2_ = some r → G l E b0 M_X9_lowestOf (fun _ => True) (ZM E b0 (some (vI r)) (ov [] [] h) n (inI r) 0 0) 0 0 n (ov [] [] h) 15 [none, none, some (vI v2_)] []) :
    ∀ (F : Nat) (v2 : Int), inI v2 → m_X9_lowestOf_2 v0 v1 k_23 k_15 F v2 = some r → G l E b0 M_X9_lowestOf (fun _ => True) (ZM E b0 (some (vI r)) (ov [] [] h) n (inI r) 0 0) 0 0 n (ov [] [] h) 2 [some (vI v0), some (vI v1), some (vI v2)] [] := by
  intro F
  induction F with
  | zero =>
    intro v2 ok_v2 hs
    rw [m_X9_lowestOf_2] at hs
    cases hs
  | succ F ih =>
    intro v2 ok_v2 hs
    rw [m_X9_lowestOf_2] at hs
    refine g_iload_n e_X9_lowestOf_2 rfl ?_
    refine g_iload_n e_X9_lowestOf_3 rfl ?_
    refine g_icmp_ge e_X9_lowestOf_4 ok_v2 ok_v1 hs (fun c4 hs => ?_) (fun c4 hs => ?_)
    · refine g_iconst e_X9_lowestOf_23 ?_
      obtain rfl := Option.some.inj hs
      exact g_iret rfl (by decide : inI 0) e_X9_lowestOf_24
    · refine g_iload_n e_X9_lowestOf_7 rfl ?_
      refine g_iload_n e_X9_lowestOf_8 rfl ?_
      refine g_ishr e_X9_lowestOf_9 ?_
      refine g_iconst e_X9_lowestOf_10 ?_
      refine g_iand e_X9_lowestOf_11 ?_
      refine g_if_eq e_X9_lowestOf_12 (bAnd_I _ _) hs (fun c12 hs => ?_) (fun c12 hs => ?_)
      · refine g_iinc e_X9_lowestOf_17 rfl st1_2 rfl ?_
        refine g_goto e_X9_lowestOf_20 ?_
        obtain ⟨hc1, hs⟩ := chk_elim hs
        exact ih _ hc1 hs
      · refine g_iload_n e_X9_lowestOf_15 rfl ?_
        obtain rfl := Option.some.inj hs
        exact g_iret rfl ok_v2 e_X9_lowestOf_16

noncomputable def m_X9_lowestOf_23 : Option (Int) :=
  some (0)

set_option maxRecDepth 10000 in
theorem g_X9_lowestOf_23 {l : Launch} {E : EE} {b0 n : Nat} {h : AH} {r : Int} (ao : AO b0 n []) (hs : m_X9_lowestOf_23 = some r) : G l E b0 M_X9_lowestOf (fun _ => True) (ZM E b0 (some (vI r)) (ov [] [] h) n (inI r) 0 0) 0 0 n (ov [] [] h) 23 [none, none, none] [] := by
  rw [m_X9_lowestOf_23] at hs
  refine g_iconst e_X9_lowestOf_23 ?_
  obtain rfl := Option.some.inj hs
  exact g_iret rfl (by decide : inI 0) e_X9_lowestOf_24

noncomputable def m_X9_lowestOf_15 (v2 : Int) : Option (Int) :=
  some (v2)

set_option maxRecDepth 10000 in
theorem g_X9_lowestOf_15 {l : Launch} {E : EE} {b0 n : Nat} {h : AH} {v2 : Int} {r : Int} (ao : AO b0 n []) (ok_v2 : inI v2) (hs : m_X9_lowestOf_15 v2 = some r) : G l E b0 M_X9_lowestOf (fun _ => True) (ZM E b0 (some (vI r)) (ov [] [] h) n (inI r) 0 0) 0 0 n (ov [] [] h) 15 [none, none, some (vI v2)] [] := by
  rw [m_X9_lowestOf_15] at hs
  refine g_iload_n e_X9_lowestOf_15 rfl ?_
  obtain rfl := Option.some.inj hs
  exact g_iret rfl ok_v2 e_X9_lowestOf_16

noncomputable def m_X9_lowestOf_0 (v0 : Int) (v1 : Int) : Option (Int) :=
  m_X9_lowestOf_2 v0 v1 (fun v2' => m_X9_lowestOf_23) (fun v2' => m_X9_lowestOf_15 v2') FU 0

set_option maxRecDepth 10000 in
theorem g_X9_lowestOf_0 {l : Launch} {E : EE} {b0 n : Nat} {h : AH} {v0 v1 : Int} {r : Int} (ao : AO b0 n []) (ok_v0 : inI v0) (ok_v1 : inI v1) (hs : m_X9_lowestOf_0 v0 v1 = some r) : G l E b0 M_X9_lowestOf (fun _ => True) (ZM E b0 (some (vI r)) (ov [] [] h) n (inI r) 0 0) 0 0 n (ov [] [] h) 0 [some (vI v0), some (vI v1), none] [] := by
  rw [m_X9_lowestOf_0] at hs
  refine g_iconst e_X9_lowestOf_0 ?_
  refine g_istore_n e_X9_lowestOf_1 st1_2 rfl ?_
  exact g_X9_lowestOf_2 ao ok_v0 ok_v1 (hk_23 := by
      intro v2' ok_v2' hs
      exact g_X9_lowestOf_23 ao  hs) (hk_15 := by
      intro v2' ok_v2' hs
      exact g_X9_lowestOf_15 ao ok_v2' hs) FU _ (by decide : inI 0) hs

noncomputable def m_X9_lowestOf (v0 : Int) (v1 : Int) : Option (Int) := m_X9_lowestOf_0 v0 v1

set_option maxRecDepth 10000 in
theorem ct_X9_lowestOf {l : Launch} {E : EE} {b0 n : Nat} {h : AH} {v0 v1 : Int} (ao : AO b0 n []) (hf : FA h [] []) (ok_v0 : inI v0) (ok_v1 : inI v1) {r : Int} (hm : m_X9_lowestOf v0 v1 = some r) : Ct l E b0 M_X9_lowestOf 0 0 [vI v0, vI v1] h n (some (vI r)) h n (inI r) := by
  rw [m_X9_lowestOf] at hm
  have hg : G l E b0 M_X9_lowestOf (fun _ => True) (ZM E b0 (some (vI r)) (ov [] [] h) n (inI r) 0 0) 0 0 n (ov [] [] h) 0 [some (vI v0), some (vI v1), none] [] := by
    have hs := hm
    exact g_X9_lowestOf_0 ao ok_v0 ok_v1 hs
  rw [FA_id hf] at hg
  exact Ct_of [some (vI v0), some (vI v1), none] ⟨by decide +kernel, rfl⟩ rfl (Nat.le_of_ble_eq_true rfl) hg

/-! ===== X9_worthAsOne ===== -/
theorem e_X9_worthAsOne_0 : DC cX9_worthAsOne 0 (.aload_n 0) 1 1 := ⟨by decide +kernel, rfl⟩
theorem e_X9_worthAsOne_1 : DC cX9_worthAsOne 1 (.getfield 40) 3 4 := ⟨by decide +kernel, rfl⟩
theorem e_X9_worthAsOne_4 : DC cX9_worthAsOne 4 (.iload_n 2) 1 5 := ⟨by decide +kernel, rfl⟩
theorem e_X9_worthAsOne_5 : DC cX9_worthAsOne 5 (.invokevirtual 91) 3 8 := ⟨by decide +kernel, rfl⟩
theorem e_X9_worthAsOne_8 : DC cX9_worthAsOne 8 (.istore_n 3) 1 9 := ⟨by decide +kernel, rfl⟩
theorem e_X9_worthAsOne_9 : DC cX9_worthAsOne 9 (.iload_n 2) 1 10 := ⟨by decide +kernel, rfl⟩
theorem e_X9_worthAsOne_10 : DC cX9_worthAsOne 10 (.iload_n 2) 1 11 := ⟨by decide +kernel, rfl⟩
theorem e_X9_worthAsOne_11 : DC cX9_worthAsOne 11 (.iconst 1) 1 12 := ⟨by decide +kernel, rfl⟩
theorem e_X9_worthAsOne_12 : DC cX9_worthAsOne 12 (.isub) 1 13 := ⟨by decide +kernel, rfl⟩
theorem e_X9_worthAsOne_13 : DC cX9_worthAsOne 13 (.iand) 1 14 := ⟨by decide +kernel, rfl⟩
theorem e_X9_worthAsOne_14 : DB cX9_worthAsOne 14 (.ifCond .ne 7) (7) 3 17 21 := ⟨by decide +kernel, rfl, rfl⟩
theorem e_X9_worthAsOne_17 : DC cX9_worthAsOne 17 (.iconst 1) 1 18 := ⟨by decide +kernel, rfl⟩
theorem e_X9_worthAsOne_18 : DB cX9_worthAsOne 18 (.goto 4) (4) 3 21 22 := ⟨by decide +kernel, rfl, rfl⟩
theorem e_X9_worthAsOne_21 : DC cX9_worthAsOne 21 (.iconst 0) 1 22 := ⟨by decide +kernel, rfl⟩
theorem e_X9_worthAsOne_22 : DC cX9_worthAsOne 22 (.istore 4) 2 24 := ⟨by decide +kernel, rfl⟩
theorem e_X9_worthAsOne_24 : DC cX9_worthAsOne 24 (.iload 4) 2 26 := ⟨by decide +kernel, rfl⟩
theorem e_X9_worthAsOne_26 : DB cX9_worthAsOne 26 (.ifCond .ne 7) (7) 3 29 33 := ⟨by decide +kernel, rfl, rfl⟩
theorem e_X9_worthAsOne_29 : DC cX9_worthAsOne 29 (.iload_n 3) 1 30 := ⟨by decide +kernel, rfl⟩
theorem e_X9_worthAsOne_30 : DB cX9_worthAsOne 30 (.ifCond .ne 5) (5) 3 33 35 := ⟨by decide +kernel, rfl, rfl⟩
theorem e_X9_worthAsOne_33 : DC cX9_worthAsOne 33 (.iload_n 3) 1 34 := ⟨by decide +kernel, rfl⟩
theorem e_X9_worthAsOne_34 : DC cX9_worthAsOne 34 (.ireturn) 1 35 := ⟨by decide +kernel, rfl⟩
theorem e_X9_worthAsOne_35 : DC cX9_worthAsOne 35 (.aload_n 1) 1 36 := ⟨by decide +kernel, rfl⟩
theorem e_X9_worthAsOne_36 : DC cX9_worthAsOne 36 (.aload_n 0) 1 37 := ⟨by decide +kernel, rfl⟩
theorem e_X9_worthAsOne_37 : DC cX9_worthAsOne 37 (.getfield 40) 3 40 := ⟨by decide +kernel, rfl⟩
theorem e_X9_worthAsOne_40 : DC cX9_worthAsOne 40 (.iload_n 2) 1 41 := ⟨by decide +kernel, rfl⟩
theorem e_X9_worthAsOne_41 : DC cX9_worthAsOne 41 (.iconst 0) 1 42 := ⟨by decide +kernel, rfl⟩
theorem e_X9_worthAsOne_42 : DC cX9_worthAsOne 42 (.invokevirtual 87) 3 45 := ⟨by decide +kernel, rfl⟩
theorem e_X9_worthAsOne_45 : DC cX9_worthAsOne 45 (.aload_n 0) 1 46 := ⟨by decide +kernel, rfl⟩
theorem e_X9_worthAsOne_46 : DC cX9_worthAsOne 46 (.getfield 40) 3 49 := ⟨by decide +kernel, rfl⟩
theorem e_X9_worthAsOne_49 : DC cX9_worthAsOne 49 (.iload_n 2) 1 50 := ⟨by decide +kernel, rfl⟩
theorem e_X9_worthAsOne_50 : DC cX9_worthAsOne 50 (.iconst 1) 1 51 := ⟨by decide +kernel, rfl⟩
theorem e_X9_worthAsOne_51 : DC cX9_worthAsOne 51 (.invokevirtual 87) 3 54 := ⟨by decide +kernel, rfl⟩
theorem e_X9_worthAsOne_54 : DC cX9_worthAsOne 54 (.aload_n 0) 1 55 := ⟨by decide +kernel, rfl⟩
theorem e_X9_worthAsOne_55 : DC cX9_worthAsOne 55 (.getfield 40) 3 58 := ⟨by decide +kernel, rfl⟩
theorem e_X9_worthAsOne_58 : DC cX9_worthAsOne 58 (.iload_n 2) 1 59 := ⟨by decide +kernel, rfl⟩
theorem e_X9_worthAsOne_59 : DC cX9_worthAsOne 59 (.iconst 2) 1 60 := ⟨by decide +kernel, rfl⟩
theorem e_X9_worthAsOne_60 : DC cX9_worthAsOne 60 (.invokevirtual 87) 3 63 := ⟨by decide +kernel, rfl⟩
theorem e_X9_worthAsOne_63 : DC cX9_worthAsOne 63 (.invokevirtual 105) 3 66 := ⟨by decide +kernel, rfl⟩
theorem e_X9_worthAsOne_66 : DC cX9_worthAsOne 66 (.istore 5) 2 68 := ⟨by decide +kernel, rfl⟩
theorem e_X9_worthAsOne_68 : DC cX9_worthAsOne 68 (.iload 5) 2 70 := ⟨by decide +kernel, rfl⟩
theorem e_X9_worthAsOne_70 : DB cX9_worthAsOne 70 (.ifCond .eq 7) (7) 3 73 77 := ⟨by decide +kernel, rfl, rfl⟩
theorem e_X9_worthAsOne_73 : DC cX9_worthAsOne 73 (.iload_n 3) 1 74 := ⟨by decide +kernel, rfl⟩
theorem e_X9_worthAsOne_74 : DB cX9_worthAsOne 74 (.goto 4) (4) 3 77 78 := ⟨by decide +kernel, rfl, rfl⟩
theorem e_X9_worthAsOne_77 : DC cX9_worthAsOne 77 (.iconst (-1)) 1 78 := ⟨by decide +kernel, rfl⟩
theorem e_X9_worthAsOne_78 : DC cX9_worthAsOne 78 (.ireturn) 1 79 := ⟨by decide +kernel, rfl⟩
noncomputable def m_X9_worthAsOne_22 (N_p1 : Nat) (t_sums_many : Int) (t_sums_xs : Nat → Int) (t_sums_ys : Nat → Int) (t_sums_zs : Nat → Int) (p1_many : Int) (p1_xs : Nat → Int) (p1_ys : Nat → Int) (p1_zs : Nat → Int) (v2 : Int) (v3 : Int) (s0 : Int) : Option (Int) :=
  if s0 = 0 then (if v3 = 0 then (some (v3)) else ((m_X8_partOf 256 t_sums_many t_sums_xs t_sums_ys t_sums_zs v2 0).bind (fun y2 => (m_X8_partOf 256 t_sums_many t_sums_xs t_sums_ys t_sums_zs v2 1).bind (fun y3 => (m_X8_partOf 256 t_sums_many t_sums_xs t_sums_ys t_sums_zs v2 2).bind (fun y4 => (m_X8_haveEitherWay N_p1 p1_many p1_xs p1_ys p1_zs y2 y3 y4).bind (fun y5 => if y5 = 0 then (some ((-1))) else (some (v3)))))))) else (some (v3))

set_option maxRecDepth 10000 in
theorem g_X9_worthAsOne_22 {l : Launch} {E : EE} {b0 n : Nat} {h : AH} {a_t a_p1 : Nat} {N_p1 : Nat} {t_knotMany t_thereMany t_groupMany t_sums_many p1_many v2 v3 s0 : Int} {t_sums_xs t_sums_ys t_sums_zs p1_xs p1_ys p1_zs : Nat → Int} {r : Int} (ao : AO b0 n [a_t, (a_t + 11), (a_t + 12), (a_t + 13), (a_t + 14), a_p1, (a_p1 + 1), (a_p1 + 2), (a_p1 + 3)]) (hN_p1 : N_p1 ≤ 100000) (ok_t_sums_many : inI t_sums_many) (ok_t_sums_xs : okA t_sums_xs) (ok_t_sums_ys : okA t_sums_ys) (ok_t_sums_zs : okA t_sums_zs) (ok_p1_many : inI p1_many) (ok_p1_xs : okA p1_xs) (ok_p1_ys : okA p1_ys) (ok_p1_zs : okA p1_zs) (ok_v2 : inI v2) (ok_v3 : inI v3) (ok_s0 : inZ s0) (hs : m_X9_worthAsOne_22 N_p1 t_sums_many t_sums_xs t_sums_ys t_sums_zs p1_many p1_xs p1_ys p1_zs v2 v3 s0 = some r) : G l E b0 M_X9_worthAsOne (fun _ => True) (ZM E b0 (some (vI r)) (ov [a_t, (a_t + 11), (a_t + 12), (a_t + 13), (a_t + 14), a_p1, (a_p1 + 1), (a_p1 + 2), (a_p1 + 3)] [.inr (9, fsX9 a_t t_knotMany t_thereMany t_groupMany), .inr (8, fsX8 (a_t + 11) t_sums_many), IA E 256 t_sums_xs, IA E 256 t_sums_ys, IA E 256 t_sums_zs, .inr (8, fsX8 a_p1 p1_many), IA E N_p1 p1_xs, IA E N_p1 p1_ys, IA E N_p1 p1_zs] h) n (inI r) 0 0) 0 0 n (ov [a_t, (a_t + 11), (a_t + 12), (a_t + 13), (a_t + 14), a_p1, (a_p1 + 1), (a_p1 + 2), (a_p1 + 3)] [.inr (9, fsX9 a_t t_knotMany t_thereMany t_groupMany), .inr (8, fsX8 (a_t + 11) t_sums_many), IA E 256 t_sums_xs, IA E 256 t_sums_ys, IA E 256 t_sums_zs, .inr (8, fsX8 a_p1 p1_many), IA E N_p1 p1_xs, IA E N_p1 p1_ys, IA E N_p1 p1_zs] h) 22 [some (.ref a_t), some (.ref a_p1), some (vI v2), some (vI v3), none, none] [vI s0] := by
  rw [m_X9_worthAsOne_22] at hs
  refine g_istore e_X9_worthAsOne_22 st1_4 rfl ?_
  refine g_iload e_X9_worthAsOne_24 rfl ?_
  refine g_if_ne e_X9_worthAsOne_26 (inZ_I ok_s0) hs (fun c26 hs => ?_) (fun c26 hs => ?_)
  · refine g_iload_n e_X9_worthAsOne_29 rfl ?_
    refine g_if_ne e_X9_worthAsOne_30 ok_v3 hs (fun c30 hs => ?_) (fun c30 hs => ?_)
    · refine g_iload_n e_X9_worthAsOne_33 rfl ?_
      obtain rfl := Option.some.inj hs
      exact g_iret rfl ok_v3 e_X9_worthAsOne_34
    · refine g_aload_n e_X9_worthAsOne_35 rfl ?_
      refine g_aload_n e_X9_worthAsOne_36 rfl ?_
      refine g_get 0 9 ao rfl rfl fsX9_g9 fl_X9_40 e_X9_worthAsOne_37 ?_
      refine g_iload_n e_X9_worthAsOne_40 rfl ?_
      refine g_iconst e_X9_worthAsOne_41 ?_
      obtain ⟨y2, hy2, hs⟩ := bind_elim hs
      refine g_callVr [vI v2, vI 0] cv_X9_87 ⟨rfl, rfl, Nat.le_of_ble_eq_true rfl, Nat.le_of_ble_eq_true rfl⟩ (ct_X8_partOf (AO_call [1, 2, 3, 4] ao (by decide) rfl) (by omega) (FA_call [1, 2, 3, 4] ao.1 rfl rfl) ok_t_sums_many ok_t_sums_xs ok_t_sums_ys ok_t_sums_zs ok_v2 (by decide : inI 0) hy2) e_X9_worthAsOne_42 (ao.2 1 _ rfl) (ov_get 1 ao.1 rfl rfl) rfl rfl rfl (Nat.le_of_ble_eq_true rfl) ⟨Nat.le_refl _, Nat.le_refl _⟩ (fun Py2 => ?_)
      refine g_aload_n e_X9_worthAsOne_45 rfl ?_
      refine g_get 0 9 ao rfl rfl fsX9_g9 fl_X9_40 e_X9_worthAsOne_46 ?_
      refine g_iload_n e_X9_worthAsOne_49 rfl ?_
      refine g_iconst e_X9_worthAsOne_50 ?_
      obtain ⟨y3, hy3, hs⟩ := bind_elim hs
      refine g_callVr [vI v2, vI 1] cv_X9_87 ⟨rfl, rfl, Nat.le_of_ble_eq_true rfl, Nat.le_of_ble_eq_true rfl⟩ (ct_X8_partOf (AO_call [1, 2, 3, 4] ao (by decide) rfl) (by omega) (FA_call [1, 2, 3, 4] ao.1 rfl rfl) ok_t_sums_many ok_t_sums_xs ok_t_sums_ys ok_t_sums_zs ok_v2 (by decide : inI 1) hy3) e_X9_worthAsOne_51 (ao.2 1 _ rfl) (ov_get 1 ao.1 rfl rfl) rfl rfl rfl (Nat.le_of_ble_eq_true rfl) ⟨Nat.le_refl _, Nat.le_refl _⟩ (fun Py3 => ?_)
      refine g_aload_n e_X9_worthAsOne_54 rfl ?_
      refine g_get 0 9 ao rfl rfl fsX9_g9 fl_X9_40 e_X9_worthAsOne_55 ?_
      refine g_iload_n e_X9_worthAsOne_58 rfl ?_
      refine g_iconst e_X9_worthAsOne_59 ?_
      obtain ⟨y4, hy4, hs⟩ := bind_elim hs
      refine g_callVr [vI v2, vI 2] cv_X9_87 ⟨rfl, rfl, Nat.le_of_ble_eq_true rfl, Nat.le_of_ble_eq_true rfl⟩ (ct_X8_partOf (AO_call [1, 2, 3, 4] ao (by decide) rfl) (by omega) (FA_call [1, 2, 3, 4] ao.1 rfl rfl) ok_t_sums_many ok_t_sums_xs ok_t_sums_ys ok_t_sums_zs ok_v2 (by decide : inI 2) hy4) e_X9_worthAsOne_60 (ao.2 1 _ rfl) (ov_get 1 ao.1 rfl rfl) rfl rfl rfl (Nat.le_of_ble_eq_true rfl) ⟨Nat.le_refl _, Nat.le_refl _⟩ (fun Py4 => ?_)
      obtain ⟨y5, hy5, hs⟩ := bind_elim hs
      refine g_callVr [vI y2, vI y3, vI y4] cv_X9_105 ⟨rfl, rfl, Nat.le_of_ble_eq_true rfl, Nat.le_of_ble_eq_true rfl⟩ (ct_X8_haveEitherWay (AO_call [5, 6, 7, 8] ao (by decide) rfl) hN_p1 (FA_call [5, 6, 7, 8] ao.1 rfl rfl) ok_p1_many ok_p1_xs ok_p1_ys ok_p1_zs Py2 Py3 Py4 hy5) e_X9_worthAsOne_63 (ao.2 5 _ rfl) (ov_get 5 ao.1 rfl rfl) rfl rfl rfl (Nat.le_of_ble_eq_true rfl) ⟨Nat.le_refl _, Nat.le_refl _⟩ (fun Py5 => ?_)
      refine g_istore e_X9_worthAsOne_66 st1_5 rfl ?_
      refine g_iload e_X9_worthAsOne_68 rfl ?_
      refine g_if_eq e_X9_worthAsOne_70 (inZ_I Py5) hs (fun c70 hs => ?_) (fun c70 hs => ?_)
      · refine g_iconst e_X9_worthAsOne_77 ?_
        obtain rfl := Option.some.inj hs
        exact g_iret rfl (by decide : inI (-1)) e_X9_worthAsOne_78
      · refine g_iload_n e_X9_worthAsOne_73 rfl ?_
        refine g_goto e_X9_worthAsOne_74 ?_
        obtain rfl := Option.some.inj hs
        exact g_iret rfl ok_v3 e_X9_worthAsOne_78
  · refine g_iload_n e_X9_worthAsOne_33 rfl ?_
    obtain rfl := Option.some.inj hs
    exact g_iret rfl ok_v3 e_X9_worthAsOne_34

noncomputable def m_X9_worthAsOne_0 (N_p1 : Nat) (t_sums_many : Int) (t_sums_xs : Nat → Int) (t_sums_ys : Nat → Int) (t_sums_zs : Nat → Int) (p1_many : Int) (p1_xs : Nat → Int) (p1_ys : Nat → Int) (p1_zs : Nat → Int) (v2 : Int) : Option (Int) :=
  (m_X8_worthOf 256 t_sums_many t_sums_xs t_sums_ys t_sums_zs v2).bind (fun y1 => if (bAnd v2 (v2 - 1)) = 0 then (m_X9_worthAsOne_22 N_p1 t_sums_many t_sums_xs t_sums_ys t_sums_zs p1_many p1_xs p1_ys p1_zs v2 y1 1) else (m_X9_worthAsOne_22 N_p1 t_sums_many t_sums_xs t_sums_ys t_sums_zs p1_many p1_xs p1_ys p1_zs v2 y1 0))

set_option maxRecDepth 10000 in
theorem g_X9_worthAsOne_0 {l : Launch} {E : EE} {b0 n : Nat} {h : AH} {a_t a_p1 : Nat} {N_p1 : Nat} {t_knotMany t_thereMany t_groupMany t_sums_many p1_many v2 : Int} {t_sums_xs t_sums_ys t_sums_zs p1_xs p1_ys p1_zs : Nat → Int} {r : Int} (ao : AO b0 n [a_t, (a_t + 11), (a_t + 12), (a_t + 13), (a_t + 14), a_p1, (a_p1 + 1), (a_p1 + 2), (a_p1 + 3)]) (hN_p1 : N_p1 ≤ 100000) (ok_t_sums_many : inI t_sums_many) (ok_t_sums_xs : okA t_sums_xs) (ok_t_sums_ys : okA t_sums_ys) (ok_t_sums_zs : okA t_sums_zs) (ok_p1_many : inI p1_many) (ok_p1_xs : okA p1_xs) (ok_p1_ys : okA p1_ys) (ok_p1_zs : okA p1_zs) (ok_v2 : inI v2) (hs : m_X9_worthAsOne_0 N_p1 t_sums_many t_sums_xs t_sums_ys t_sums_zs p1_many p1_xs p1_ys p1_zs v2 = some r) : G l E b0 M_X9_worthAsOne (fun _ => True) (ZM E b0 (some (vI r)) (ov [a_t, (a_t + 11), (a_t + 12), (a_t + 13), (a_t + 14), a_p1, (a_p1 + 1), (a_p1 + 2), (a_p1 + 3)] [.inr (9, fsX9 a_t t_knotMany t_thereMany t_groupMany), .inr (8, fsX8 (a_t + 11) t_sums_many), IA E 256 t_sums_xs, IA E 256 t_sums_ys, IA E 256 t_sums_zs, .inr (8, fsX8 a_p1 p1_many), IA E N_p1 p1_xs, IA E N_p1 p1_ys, IA E N_p1 p1_zs] h) n (inI r) 0 0) 0 0 n (ov [a_t, (a_t + 11), (a_t + 12), (a_t + 13), (a_t + 14), a_p1, (a_p1 + 1), (a_p1 + 2), (a_p1 + 3)] [.inr (9, fsX9 a_t t_knotMany t_thereMany t_groupMany), .inr (8, fsX8 (a_t + 11) t_sums_many), IA E 256 t_sums_xs, IA E 256 t_sums_ys, IA E 256 t_sums_zs, .inr (8, fsX8 a_p1 p1_many), IA E N_p1 p1_xs, IA E N_p1 p1_ys, IA E N_p1 p1_zs] h) 0 [some (.ref a_t), some (.ref a_p1), some (vI v2), none, none, none] [] := by
  rw [m_X9_worthAsOne_0] at hs
  refine g_aload_n e_X9_worthAsOne_0 rfl ?_
  refine g_get 0 9 ao rfl rfl fsX9_g9 fl_X9_40 e_X9_worthAsOne_1 ?_
  refine g_iload_n e_X9_worthAsOne_4 rfl ?_
  obtain ⟨y1, hy1, hs⟩ := bind_elim hs
  refine g_callVr [vI v2] cv_X9_91 ⟨rfl, rfl, Nat.le_of_ble_eq_true rfl, Nat.le_of_ble_eq_true rfl⟩ (ct_X8_worthOf (AO_call [1, 2, 3, 4] ao (by decide) rfl) (by omega) (FA_call [1, 2, 3, 4] ao.1 rfl rfl) ok_t_sums_many ok_t_sums_xs ok_t_sums_ys ok_t_sums_zs ok_v2 hy1) e_X9_worthAsOne_5 (ao.2 1 _ rfl) (ov_get 1 ao.1 rfl rfl) rfl rfl rfl (Nat.le_of_ble_eq_true rfl) ⟨Nat.le_refl _, Nat.le_refl _⟩ (fun Py1 => ?_)
  refine g_istore_n e_X9_worthAsOne_8 st1_3 rfl ?_
  refine g_iload_n e_X9_worthAsOne_9 rfl ?_
  refine g_iload_n e_X9_worthAsOne_10 rfl ?_
  refine g_iconst e_X9_worthAsOne_11 ?_
  refine g_isub e_X9_worthAsOne_12 ?_
  refine g_iand e_X9_worthAsOne_13 ?_
  refine g_if_ne e_X9_worthAsOne_14 (bAnd_I _ _) hs (fun c14 hs => ?_) (fun c14 hs => ?_)
  · refine g_iconst e_X9_worthAsOne_17 ?_
    refine g_goto e_X9_worthAsOne_18 ?_
    exact g_X9_worthAsOne_22 ao hN_p1 ok_t_sums_many ok_t_sums_xs ok_t_sums_ys ok_t_sums_zs ok_p1_many ok_p1_xs ok_p1_ys ok_p1_zs ok_v2 Py1 (by decide : inZ 1) hs
  · refine g_iconst e_X9_worthAsOne_21 ?_
    exact g_X9_worthAsOne_22 ao hN_p1 ok_t_sums_many ok_t_sums_xs ok_t_sums_ys ok_t_sums_zs ok_p1_many ok_p1_xs ok_p1_ys ok_p1_zs ok_v2 Py1 (by decide : inZ 0) hs

noncomputable def m_X9_worthAsOne (N_p1 : Nat) (t_sums_many : Int) (t_sums_xs : Nat → Int) (t_sums_ys : Nat → Int) (t_sums_zs : Nat → Int) (p1_many : Int) (p1_xs : Nat → Int) (p1_ys : Nat → Int) (p1_zs : Nat → Int) (v2 : Int) : Option (Int) := m_X9_worthAsOne_0 N_p1 t_sums_many t_sums_xs t_sums_ys t_sums_zs p1_many p1_xs p1_ys p1_zs v2

set_option maxRecDepth 10000 in
theorem ct_X9_worthAsOne {l : Launch} {E : EE} {b0 n : Nat} {h : AH} {a_t a_p1 : Nat} {N_p1 : Nat} {t_knotMany t_thereMany t_groupMany t_sums_many p1_many : Int} {t_sums_xs t_sums_ys t_sums_zs p1_xs p1_ys p1_zs : Nat → Int} {v2 : Int} (ao : AO b0 n [a_t, (a_t + 11), (a_t + 12), (a_t + 13), (a_t + 14), a_p1, (a_p1 + 1), (a_p1 + 2), (a_p1 + 3)]) (hN_p1 : N_p1 ≤ 100000) (hf : FA h [a_t, (a_t + 11), (a_t + 12), (a_t + 13), (a_t + 14), a_p1, (a_p1 + 1), (a_p1 + 2), (a_p1 + 3)] [.inr (9, fsX9 a_t t_knotMany t_thereMany t_groupMany), .inr (8, fsX8 (a_t + 11) t_sums_many), IA E 256 t_sums_xs, IA E 256 t_sums_ys, IA E 256 t_sums_zs, .inr (8, fsX8 a_p1 p1_many), IA E N_p1 p1_xs, IA E N_p1 p1_ys, IA E N_p1 p1_zs]) (ok_t_sums_many : inI t_sums_many) (ok_t_sums_xs : okA t_sums_xs) (ok_t_sums_ys : okA t_sums_ys) (ok_t_sums_zs : okA t_sums_zs) (ok_p1_many : inI p1_many) (ok_p1_xs : okA p1_xs) (ok_p1_ys : okA p1_ys) (ok_p1_zs : okA p1_zs) (ok_v2 : inI v2) {r : Int} (hm : m_X9_worthAsOne N_p1 t_sums_many t_sums_xs t_sums_ys t_sums_zs p1_many p1_xs p1_ys p1_zs v2 = some r) : Ct l E b0 M_X9_worthAsOne 0 0 [.ref a_t, .ref a_p1, vI v2] h n (some (vI r)) h n (inI r) := by
  rw [m_X9_worthAsOne] at hm
  have hg : G l E b0 M_X9_worthAsOne (fun _ => True) (ZM E b0 (some (vI r)) (ov [a_t, (a_t + 11), (a_t + 12), (a_t + 13), (a_t + 14), a_p1, (a_p1 + 1), (a_p1 + 2), (a_p1 + 3)] [.inr (9, fsX9 a_t t_knotMany t_thereMany t_groupMany), .inr (8, fsX8 (a_t + 11) t_sums_many), IA E 256 t_sums_xs, IA E 256 t_sums_ys, IA E 256 t_sums_zs, .inr (8, fsX8 a_p1 p1_many), IA E N_p1 p1_xs, IA E N_p1 p1_ys, IA E N_p1 p1_zs] h) n (inI r) 0 0) 0 0 n (ov [a_t, (a_t + 11), (a_t + 12), (a_t + 13), (a_t + 14), a_p1, (a_p1 + 1), (a_p1 + 2), (a_p1 + 3)] [.inr (9, fsX9 a_t t_knotMany t_thereMany t_groupMany), .inr (8, fsX8 (a_t + 11) t_sums_many), IA E 256 t_sums_xs, IA E 256 t_sums_ys, IA E 256 t_sums_zs, .inr (8, fsX8 a_p1 p1_many), IA E N_p1 p1_xs, IA E N_p1 p1_ys, IA E N_p1 p1_zs] h) 0 [some (.ref a_t), some (.ref a_p1), some (vI v2), none, none, none] [] := by
    have hs := hm
    exact g_X9_worthAsOne_0 ao hN_p1 ok_t_sums_many ok_t_sums_xs ok_t_sums_ys ok_t_sums_zs ok_p1_many ok_p1_xs ok_p1_ys ok_p1_zs ok_v2 hs
  rw [FA_id hf] at hg
  exact Ct_of [some (.ref a_t), some (.ref a_p1), some (vI v2), none, none, none] ⟨by decide +kernel, rfl⟩ rfl (Nat.le_of_ble_eq_true rfl) hg

/-! ===== X9_findLeast ===== -/
theorem e_X9_findLeast_0 : DC cX9_findLeast 0 (.iload_n 1) 1 1 := ⟨by decide +kernel, rfl⟩
theorem e_X9_findLeast_1 : DC cX9_findLeast 1 (.iload_n 1) 1 2 := ⟨by decide +kernel, rfl⟩
theorem e_X9_findLeast_2 : DC cX9_findLeast 2 (.iconst 1) 1 3 := ⟨by decide +kernel, rfl⟩
theorem e_X9_findLeast_3 : DC cX9_findLeast 3 (.isub) 1 4 := ⟨by decide +kernel, rfl⟩
theorem e_X9_findLeast_4 : DC cX9_findLeast 4 (.iand) 1 5 := ⟨by decide +kernel, rfl⟩
theorem e_X9_findLeast_5 : DC cX9_findLeast 5 (.istore_n 2) 1 6 := ⟨by decide +kernel, rfl⟩
theorem e_X9_findLeast_6 : DC cX9_findLeast 6 (.iload_n 1) 1 7 := ⟨by decide +kernel, rfl⟩
theorem e_X9_findLeast_7 : DC cX9_findLeast 7 (.iload_n 2) 1 8 := ⟨by decide +kernel, rfl⟩
theorem e_X9_findLeast_8 : DC cX9_findLeast 8 (.ixor) 1 9 := ⟨by decide +kernel, rfl⟩
theorem e_X9_findLeast_9 : DC cX9_findLeast 9 (.istore_n 3) 1 10 := ⟨by decide +kernel, rfl⟩
theorem e_X9_findLeast_10 : DC cX9_findLeast 10 (.aload_n 0) 1 11 := ⟨by decide +kernel, rfl⟩
theorem e_X9_findLeast_11 : DC cX9_findLeast 11 (.getfield 46) 3 14 := ⟨by decide +kernel, rfl⟩
theorem e_X9_findLeast_14 : DC cX9_findLeast 14 (.iconst 0) 1 15 := ⟨by decide +kernel, rfl⟩
theorem e_X9_findLeast_15 : DC cX9_findLeast 15 (.iconst 0) 1 16 := ⟨by decide +kernel, rfl⟩
theorem e_X9_findLeast_16 : DC cX9_findLeast 16 (.iastore) 1 17 := ⟨by decide +kernel, rfl⟩
theorem e_X9_findLeast_17 : DC cX9_findLeast 17 (.aload_n 0) 1 18 := ⟨by decide +kernel, rfl⟩
theorem e_X9_findLeast_18 : DC cX9_findLeast 18 (.getfield 46) 3 21 := ⟨by decide +kernel, rfl⟩
theorem e_X9_findLeast_21 : DC cX9_findLeast 21 (.iload_n 1) 1 22 := ⟨by decide +kernel, rfl⟩
theorem e_X9_findLeast_22 : DC cX9_findLeast 22 (.ldc 136) 2 24 := ⟨by decide +kernel, rfl⟩
theorem e_X9_findLeast_24 : DC cX9_findLeast 24 (.iastore) 1 25 := ⟨by decide +kernel, rfl⟩
theorem e_X9_findLeast_25 : DC cX9_findLeast 25 (.iconst 0) 1 26 := ⟨by decide +kernel, rfl⟩
theorem e_X9_findLeast_26 : DC cX9_findLeast 26 (.istore 4) 2 28 := ⟨by decide +kernel, rfl⟩
theorem e_X9_findLeast_28 : DC cX9_findLeast 28 (.iload 4) 2 30 := ⟨by decide +kernel, rfl⟩
theorem e_X9_findLeast_30 : DC cX9_findLeast 30 (.iload_n 2) 1 31 := ⟨by decide +kernel, rfl⟩
theorem e_X9_findLeast_31 : DB cX9_findLeast 31 (.if_icmp .gt 104) (104) 3 34 135 := ⟨by decide +kernel, rfl, rfl⟩
theorem e_X9_findLeast_34 : DC cX9_findLeast 34 (.iload_n 3) 1 35 := ⟨by decide +kernel, rfl⟩
theorem e_X9_findLeast_35 : DC cX9_findLeast 35 (.iload 4) 2 37 := ⟨by decide +kernel, rfl⟩
theorem e_X9_findLeast_37 : DC cX9_findLeast 37 (.ior) 1 38 := ⟨by decide +kernel, rfl⟩
theorem e_X9_findLeast_38 : DC cX9_findLeast 38 (.istore 5) 2 40 := ⟨by decide +kernel, rfl⟩
theorem e_X9_findLeast_40 : DC cX9_findLeast 40 (.iload 4) 2 42 := ⟨by decide +kernel, rfl⟩
theorem e_X9_findLeast_42 : DC cX9_findLeast 42 (.iload_n 2) 1 43 := ⟨by decide +kernel, rfl⟩
theorem e_X9_findLeast_43 : DC cX9_findLeast 43 (.iconst (-1)) 1 44 := ⟨by decide +kernel, rfl⟩
theorem e_X9_findLeast_44 : DC cX9_findLeast 44 (.ixor) 1 45 := ⟨by decide +kernel, rfl⟩
theorem e_X9_findLeast_45 : DC cX9_findLeast 45 (.iand) 1 46 := ⟨by decide +kernel, rfl⟩
theorem e_X9_findLeast_46 : DB cX9_findLeast 46 (.ifCond .ne 18) (18) 3 49 64 := ⟨by decide +kernel, rfl, rfl⟩
theorem e_X9_findLeast_49 : DC cX9_findLeast 49 (.aload_n 0) 1 50 := ⟨by decide +kernel, rfl⟩
theorem e_X9_findLeast_50 : DC cX9_findLeast 50 (.getfield 43) 3 53 := ⟨by decide +kernel, rfl⟩
theorem e_X9_findLeast_53 : DC cX9_findLeast 53 (.iload 5) 2 55 := ⟨by decide +kernel, rfl⟩
theorem e_X9_findLeast_55 : DC cX9_findLeast 55 (.iaload) 1 56 := ⟨by decide +kernel, rfl⟩
theorem e_X9_findLeast_56 : DC cX9_findLeast 56 (.iconst (-1)) 1 57 := ⟨by decide +kernel, rfl⟩
theorem e_X9_findLeast_57 : DB cX9_findLeast 57 (.if_icmp .eq 7) (7) 3 60 64 := ⟨by decide +kernel, rfl, rfl⟩
theorem e_X9_findLeast_60 : DC cX9_findLeast 60 (.iconst 1) 1 61 := ⟨by decide +kernel, rfl⟩
theorem e_X9_findLeast_61 : DB cX9_findLeast 61 (.goto 4) (4) 3 64 65 := ⟨by decide +kernel, rfl, rfl⟩
theorem e_X9_findLeast_64 : DC cX9_findLeast 64 (.iconst 0) 1 65 := ⟨by decide +kernel, rfl⟩
theorem e_X9_findLeast_65 : DC cX9_findLeast 65 (.istore 6) 2 67 := ⟨by decide +kernel, rfl⟩
theorem e_X9_findLeast_67 : DC cX9_findLeast 67 (.iload 6) 2 69 := ⟨by decide +kernel, rfl⟩
theorem e_X9_findLeast_69 : DB cX9_findLeast 69 (.ifCond .eq 60) (60) 3 72 129 := ⟨by decide +kernel, rfl, rfl⟩
theorem e_X9_findLeast_72 : DC cX9_findLeast 72 (.aload_n 0) 1 73 := ⟨by decide +kernel, rfl⟩
theorem e_X9_findLeast_73 : DC cX9_findLeast 73 (.getfield 43) 3 76 := ⟨by decide +kernel, rfl⟩
theorem e_X9_findLeast_76 : DC cX9_findLeast 76 (.iload 5) 2 78 := ⟨by decide +kernel, rfl⟩
theorem e_X9_findLeast_78 : DC cX9_findLeast 78 (.iaload) 1 79 := ⟨by decide +kernel, rfl⟩
theorem e_X9_findLeast_79 : DC cX9_findLeast 79 (.aload_n 0) 1 80 := ⟨by decide +kernel, rfl⟩
theorem e_X9_findLeast_80 : DC cX9_findLeast 80 (.getfield 46) 3 83 := ⟨by decide +kernel, rfl⟩
theorem e_X9_findLeast_83 : DC cX9_findLeast 83 (.iload_n 1) 1 84 := ⟨by decide +kernel, rfl⟩
theorem e_X9_findLeast_84 : DC cX9_findLeast 84 (.iload 5) 2 86 := ⟨by decide +kernel, rfl⟩
theorem e_X9_findLeast_86 : DC cX9_findLeast 86 (.ixor) 1 87 := ⟨by decide +kernel, rfl⟩
theorem e_X9_findLeast_87 : DC cX9_findLeast 87 (.iaload) 1 88 := ⟨by decide +kernel, rfl⟩
theorem e_X9_findLeast_88 : DC cX9_findLeast 88 (.iadd) 1 89 := ⟨by decide +kernel, rfl⟩
theorem e_X9_findLeast_89 : DC cX9_findLeast 89 (.aload_n 0) 1 90 := ⟨by decide +kernel, rfl⟩
theorem e_X9_findLeast_90 : DC cX9_findLeast 90 (.getfield 46) 3 93 := ⟨by decide +kernel, rfl⟩
theorem e_X9_findLeast_93 : DC cX9_findLeast 93 (.iload_n 1) 1 94 := ⟨by decide +kernel, rfl⟩
theorem e_X9_findLeast_94 : DC cX9_findLeast 94 (.iaload) 1 95 := ⟨by decide +kernel, rfl⟩
theorem e_X9_findLeast_95 : DB cX9_findLeast 95 (.if_icmp .ge 34) (34) 3 98 129 := ⟨by decide +kernel, rfl, rfl⟩
theorem e_X9_findLeast_98 : DC cX9_findLeast 98 (.aload_n 0) 1 99 := ⟨by decide +kernel, rfl⟩
theorem e_X9_findLeast_99 : DC cX9_findLeast 99 (.getfield 46) 3 102 := ⟨by decide +kernel, rfl⟩
theorem e_X9_findLeast_102 : DC cX9_findLeast 102 (.iload_n 1) 1 103 := ⟨by decide +kernel, rfl⟩
theorem e_X9_findLeast_103 : DC cX9_findLeast 103 (.aload_n 0) 1 104 := ⟨by decide +kernel, rfl⟩
theorem e_X9_findLeast_104 : DC cX9_findLeast 104 (.getfield 43) 3 107 := ⟨by decide +kernel, rfl⟩
theorem e_X9_findLeast_107 : DC cX9_findLeast 107 (.iload 5) 2 109 := ⟨by decide +kernel, rfl⟩
theorem e_X9_findLeast_109 : DC cX9_findLeast 109 (.iaload) 1 110 := ⟨by decide +kernel, rfl⟩
theorem e_X9_findLeast_110 : DC cX9_findLeast 110 (.aload_n 0) 1 111 := ⟨by decide +kernel, rfl⟩
theorem e_X9_findLeast_111 : DC cX9_findLeast 111 (.getfield 46) 3 114 := ⟨by decide +kernel, rfl⟩
theorem e_X9_findLeast_114 : DC cX9_findLeast 114 (.iload_n 1) 1 115 := ⟨by decide +kernel, rfl⟩
theorem e_X9_findLeast_115 : DC cX9_findLeast 115 (.iload 5) 2 117 := ⟨by decide +kernel, rfl⟩
theorem e_X9_findLeast_117 : DC cX9_findLeast 117 (.ixor) 1 118 := ⟨by decide +kernel, rfl⟩
theorem e_X9_findLeast_118 : DC cX9_findLeast 118 (.iaload) 1 119 := ⟨by decide +kernel, rfl⟩
theorem e_X9_findLeast_119 : DC cX9_findLeast 119 (.iadd) 1 120 := ⟨by decide +kernel, rfl⟩
theorem e_X9_findLeast_120 : DC cX9_findLeast 120 (.iastore) 1 121 := ⟨by decide +kernel, rfl⟩
theorem e_X9_findLeast_121 : DC cX9_findLeast 121 (.aload_n 0) 1 122 := ⟨by decide +kernel, rfl⟩
theorem e_X9_findLeast_122 : DC cX9_findLeast 122 (.getfield 49) 3 125 := ⟨by decide +kernel, rfl⟩
theorem e_X9_findLeast_125 : DC cX9_findLeast 125 (.iload_n 1) 1 126 := ⟨by decide +kernel, rfl⟩
theorem e_X9_findLeast_126 : DC cX9_findLeast 126 (.iload 5) 2 128 := ⟨by decide +kernel, rfl⟩
theorem e_X9_findLeast_128 : DC cX9_findLeast 128 (.iastore) 1 129 := ⟨by decide +kernel, rfl⟩
theorem e_X9_findLeast_129 : DC cX9_findLeast 129 (.iinc 4 1) 3 132 := ⟨by decide +kernel, rfl⟩
theorem e_X9_findLeast_132 : DB cX9_findLeast 132 (.goto (-104)) (-104) 3 135 28 := ⟨by decide +kernel, rfl, rfl⟩
theorem e_X9_findLeast_135 : DC cX9_findLeast 135 (.return_) 1 136 := ⟨by decide +kernel, rfl⟩
noncomputable def m_X9_findLeast_129 (t_worths : Nat → Int) (t_leasts : Nat → Int) (t_firsts : Nat → Int) (v1 : Int) (v2 : Int) (v3 : Int) (v4 : Int) (ag : (Nat → Int) → (Nat → Int) → Int → Option ((Nat → Int) × (Nat → Int))) (k_135 : (Nat → Int) → (Nat → Int) → Int → Option ((Nat → Int) × (Nat → Int))) : Option ((Nat → Int) × (Nat → Int)) :=
  chk (inI (v4 + 1)) (ag t_leasts t_firsts (v4 + 1))

set_option maxRecDepth 10000 in
theorem g_X9_findLeast_129 {l : Launch} {E : EE} {b0 n : Nat} {h : AH} {a_t : Nat} {t_knotMany t_thereMany t_groupMany v1 v2 v3 v4 : Int} {t_worths t_leasts t_firsts : Nat → Int} {r : (Nat → Int) × (Nat → Int)} {ag : (Nat → Int) → (Nat → Int) → Int → Option ((Nat → Int) × (Nat → Int))} {k_135 : (Nat → Int) → (Nat → Int) → Int → Option ((Nat → Int) × (Nat → Int))} (ao : AO b0 n [a_t, (a_t + 15), (a_t + 16), (a_t + 17)]) (ok_t_worths : okA t_worths) (ok_t_leasts : okA t_leasts) (ok_t_firsts : okA t_firsts) (ok_v1 : inI v1) (ok_v2 : inI v2) (ok_v3 : inI v3) (ok_v4 : inI v4) (hag : ∀ (t_leasts_ : Nat → Int) (t_firsts_ : Nat → Int) (v4_ : Int), okA t_leasts_ → okA t_firsts_ → inI v4_ → ag t_leasts_ t_firsts_ v4_ = some r → G l E b0 M_X9_findLeast (fun _ => True) (ZM E b0 (none) (ov [a_t, (a_t + 15), (a_t + 16), (a_t + 17)] [.inr (9, fsX9 a_t t_knotMany t_thereMany t_groupMany), IA E 256 t_worths, IA E 256 r.1, IA E 256 r.2] h) n (okA r.1 ∧ okA r.2) 0 0) 0 0 n (ov [a_t, (a_t + 15), (a_t + 16), (a_t + 17)] [.inr (9, fsX9 a_t t_knotMany t_thereMany t_groupMany), IA E 256 t_worths, IA E 256 t_leasts_, IA E 256 t_firsts_] h) 28 [some (.ref a_t), some (vI v1), some (vI v2), some (vI v3), some (vI v4_), none, none] []) (hk_135 : ∀ (t_leasts_ : Nat → Int) (t_firsts_ : Nat → Int) (v4_ : Int), okA t_leasts_ → okA t_firsts_ → inI v4_ → k_135 t_leasts_ t_firsts_ v4_ = some r → G l E b0 M_X9_findLeast (fun _ => True) (ZM E b0 (none) (ov [a_t, (a_t + 15), (a_t + 16), (a_t + 17)] [.inr (9, fsX9 a_t t_knotMany t_thereMany t_groupMany), IA E 256 t_worths, IA E 256 r.1, IA E 256 r.2] h) n (okA r.1 ∧ okA r.2) 0 0) 0 0 n (ov [a_t, (a_t + 15), (a_t + 16), (a_t + 17)] [.inr (9, fsX9 a_t t_knotMany t_thereMany t_groupMany), IA E 256 t_worths, IA E 256 t_leasts_, IA E 256 t_firsts_] h) 135 [none, none, none, none, none, none, none] []) (hs : m_X9_findLeast_129 t_worths t_leasts t_firsts v1 v2 v3 v4 ag k_135 = some r) : G l E b0 M_X9_findLeast (fun _ => True) (ZM E b0 (none) (ov [a_t, (a_t + 15), (a_t + 16), (a_t + 17)] [.inr (9, fsX9 a_t t_knotMany t_thereMany t_groupMany), IA E 256 t_worths, IA E 256 r.1, IA E 256 r.2] h) n (okA r.1 ∧ okA r.2) 0 0) 0 0 n (ov [a_t, (a_t + 15), (a_t + 16), (a_t + 17)] [.inr (9, fsX9 a_t t_knotMany t_thereMany t_groupMany), IA E 256 t_worths, IA E 256 t_leasts, IA E 256 t_firsts] h) 129 [some (.ref a_t), some (vI v1), some (vI v2), some (vI v3), some (vI v4), none, none] [] := by
  rw [m_X9_findLeast_129] at hs
  refine g_iinc e_X9_findLeast_129 rfl st1_4 rfl ?_
  refine g_goto e_X9_findLeast_132 ?_
  obtain ⟨hc4, hs⟩ := chk_elim hs
  exact hag _ _ _ ok_t_leasts ok_t_firsts hc4 hs

noncomputable def m_X9_findLeast_65 (t_worths : Nat → Int) (t_leasts : Nat → Int) (t_firsts : Nat → Int) (v1 : Int) (v2 : Int) (v3 : Int) (v4 : Int) (v5 : Int) (s0 : Int) (ag : (Nat → Int) → (Nat → Int) → Int → Option ((Nat → Int) × (Nat → Int))) (k_135 : (Nat → Int) → (Nat → Int) → Int → Option ((Nat → Int) × (Nat → Int))) : Option ((Nat → Int) × (Nat → Int)) :=
  if s0 = 0 then (m_X9_findLeast_129 t_worths t_leasts t_firsts v1 v2 v3 v4 ag k_135) else (chk (inB v5 256) (chk (inB (bXor v1 v5) 256) (chk (inB v1 256) (chk (inI ((t_worths (Int.toNat v5)) + (t_leasts (Int.toNat (bXor v1 v5))))) (if (t_leasts (Int.toNat v1)) ≤ ((t_worths (Int.toNat v5)) + (t_leasts (Int.toNat (bXor v1 v5)))) then (m_X9_findLeast_129 t_worths t_leasts t_firsts v1 v2 v3 v4 ag k_135) else (chk (inB v5 256) (chk (inB (bXor v1 v5) 256) (chk (inB v1 256) (chk (inB v1 256) (m_X9_findLeast_129 t_worths (up t_leasts (Int.toNat v1) ((t_worths (Int.toNat v5)) + (t_leasts (Int.toNat (bXor v1 v5))))) (up t_firsts (Int.toNat v1) v5) v1 v2 v3 v4 ag k_135))))))))))

set_option maxRecDepth 10000 in
theorem g_X9_findLeast_65 {l : Launch} {E : EE} {b0 n : Nat} {h : AH} {a_t : Nat} {t_knotMany t_thereMany t_groupMany v1 v2 v3 v4 v5 s0 : Int} {t_worths t_leasts t_firsts : Nat → Int} {r : (Nat → Int) × (Nat → Int)} {ag : (Nat → Int) → (Nat → Int) → Int → Option ((Nat → Int) × (Nat → Int))} {k_135 : (Nat → Int) → (Nat → Int) → Int → Option ((Nat → Int) × (Nat → Int))} (ao : AO b0 n [a_t, (a_t + 15), (a_t + 16), (a_t + 17)]) (ok_t_worths : okA t_worths) (ok_t_leasts : okA t_leasts) (ok_t_firsts : okA t_firsts) (ok_v1 : inI v1) (ok_v2 : inI v2) (ok_v3 : inI v3) (ok_v4 : inI v4) (ok_v5 : inI v5) (ok_s0 : inZ s0) (hag : ∀ (t_leasts_ : Nat → Int) (t_firsts_ : Nat → Int) (v4_ : Int), okA t_leasts_ → okA t_firsts_ → inI v4_ → ag t_leasts_ t_firsts_ v4_ = some r → G l E b0 M_X9_findLeast (fun _ => True) (ZM E b0 (none) (ov [a_t, (a_t + 15), (a_t + 16), (a_t + 17)] [.inr (9, fsX9 a_t t_knotMany t_thereMany t_groupMany), IA E 256 t_worths, IA E 256 r.1, IA E 256 r.2] h) n (okA r.1 ∧ okA r.2) 0 0) 0 0 n (ov [a_t, (a_t + 15), (a_t + 16), (a_t + 17)] [.inr (9, fsX9 a_t t_knotMany t_thereMany t_groupMany), IA E 256 t_worths, IA E 256 t_leasts_, IA E 256 t_firsts_] h) 28 [some (.ref a_t), some (vI v1), some (vI v2), some (vI v3), some (vI v4_), none, none] []) (hk_135 : ∀ (t_leasts_ : Nat → Int) (t_firsts_ : Nat → Int) (v4_ : Int), okA t_leasts_ → okA t_firsts_ → inI v4_ → k_135 t_leasts_ t_firsts_ v4_ = some r → G l E b0 M_X9_findLeast (fun _ => True) (ZM E b0 (none) (ov [a_t, (a_t + 15), (a_t + 16), (a_t + 17)] [.inr (9, fsX9 a_t t_knotMany t_thereMany t_groupMany), IA E 256 t_worths, IA E 256 r.1, IA E 256 r.2] h) n (okA r.1 ∧ okA r.2) 0 0) 0 0 n (ov [a_t, (a_t + 15), (a_t + 16), (a_t + 17)] [.inr (9, fsX9 a_t t_knotMany t_thereMany t_groupMany), IA E 256 t_worths, IA E 256 t_leasts_, IA E 256 t_firsts_] h) 135 [none, none, none, none, none, none, none] []) (hs : m_X9_findLeast_65 t_worths t_leasts t_firsts v1 v2 v3 v4 v5 s0 ag k_135 = some r) : G l E b0 M_X9_findLeast (fun _ => True) (ZM E b0 (none) (ov [a_t, (a_t + 15), (a_t + 16), (a_t + 17)] [.inr (9, fsX9 a_t t_knotMany t_thereMany t_groupMany), IA E 256 t_worths, IA E 256 r.1, IA E 256 r.2] h) n (okA r.1 ∧ okA r.2) 0 0) 0 0 n (ov [a_t, (a_t + 15), (a_t + 16), (a_t + 17)] [.inr (9, fsX9 a_t t_knotMany t_thereMany t_groupMany), IA E 256 t_worths, IA E 256 t_leasts, IA E 256 t_firsts] h) 65 [some (.ref a_t), some (vI v1), some (vI v2), some (vI v3), some (vI v4), some (vI v5), none] [vI s0] := by
  rw [m_X9_findLeast_65] at hs
  refine g_istore e_X9_findLeast_65 st1_6 rfl ?_
  refine g_iload e_X9_findLeast_67 rfl ?_
  refine g_if_eq e_X9_findLeast_69 (inZ_I ok_s0) hs (fun c69 hs => ?_) (fun c69 hs => ?_)
  · exact g_mask [true, true, true, true, true, false, false] (g_X9_findLeast_129 ao ok_t_worths ok_t_leasts ok_t_firsts ok_v1 ok_v2 ok_v3 ok_v4 hag hk_135 hs)
  · refine g_aload_n e_X9_findLeast_72 rfl ?_
    refine g_get 0 10 ao rfl rfl fsX9_g10 fl_X9_43 e_X9_findLeast_73 ?_
    refine g_iload e_X9_findLeast_76 rfl ?_
    refine g_iald 1 ao rfl rfl (Nat.le_of_ble_eq_true rfl) e_X9_findLeast_78 hs (fun hi5 hs => ?_)
    refine g_aload_n e_X9_findLeast_79 rfl ?_
    refine g_get 0 11 ao rfl rfl fsX9_g11 fl_X9_46 e_X9_findLeast_80 ?_
    refine g_iload_n e_X9_findLeast_83 rfl ?_
    refine g_iload e_X9_findLeast_84 rfl ?_
    refine g_ixor e_X9_findLeast_86 ?_
    refine g_iald 2 ao rfl rfl (Nat.le_of_ble_eq_true rfl) e_X9_findLeast_87 hs (fun hi6 hs => ?_)
    refine g_iadd e_X9_findLeast_88 ?_
    refine g_aload_n e_X9_findLeast_89 rfl ?_
    refine g_get 0 11 ao rfl rfl fsX9_g11 fl_X9_46 e_X9_findLeast_90 ?_
    refine g_iload_n e_X9_findLeast_93 rfl ?_
    refine g_iald 2 ao rfl rfl (Nat.le_of_ble_eq_true rfl) e_X9_findLeast_94 hs (fun hi7 hs => ?_)
    obtain ⟨hc8, hs⟩ := chk_elim hs
    refine g_icmp_ge e_X9_findLeast_95 hc8 (ok_t_leasts _) hs (fun c95 hs => ?_) (fun c95 hs => ?_)
    · exact g_mask [true, true, true, true, true, false, false] (g_X9_findLeast_129 ao ok_t_worths ok_t_leasts ok_t_firsts ok_v1 ok_v2 ok_v3 ok_v4 hag hk_135 hs)
    · refine g_aload_n e_X9_findLeast_98 rfl ?_
      refine g_get 0 11 ao rfl rfl fsX9_g11 fl_X9_46 e_X9_findLeast_99 ?_
      refine g_iload_n e_X9_findLeast_102 rfl ?_
      refine g_aload_n e_X9_findLeast_103 rfl ?_
      refine g_get 0 10 ao rfl rfl fsX9_g10 fl_X9_43 e_X9_findLeast_104 ?_
      refine g_iload e_X9_findLeast_107 rfl ?_
      refine g_iald 1 ao rfl rfl (Nat.le_of_ble_eq_true rfl) e_X9_findLeast_109 hs (fun hi9 hs => ?_)
      refine g_aload_n e_X9_findLeast_110 rfl ?_
      refine g_get 0 11 ao rfl rfl fsX9_g11 fl_X9_46 e_X9_findLeast_111 ?_
      refine g_iload_n e_X9_findLeast_114 rfl ?_
      refine g_iload e_X9_findLeast_115 rfl ?_
      refine g_ixor e_X9_findLeast_117 ?_
      refine g_iald 2 ao rfl rfl (Nat.le_of_ble_eq_true rfl) e_X9_findLeast_118 hs (fun hi10 hs => ?_)
      refine g_iadd e_X9_findLeast_119 ?_
      refine g_iast 2 ao rfl rfl ls_2 (Nat.le_of_ble_eq_true rfl) e_X9_findLeast_120 hs (fun hi11 hs => ?_)
      refine g_aload_n e_X9_findLeast_121 rfl ?_
      refine g_get 0 12 ao rfl rfl fsX9_g12 fl_X9_49 e_X9_findLeast_122 ?_
      refine g_iload_n e_X9_findLeast_125 rfl ?_
      refine g_iload e_X9_findLeast_126 rfl ?_
      refine g_iast 3 ao rfl rfl ls_3 (Nat.le_of_ble_eq_true rfl) e_X9_findLeast_128 hs (fun hi12 hs => ?_)
      exact g_mask [true, true, true, true, true, false, false] (g_X9_findLeast_129 ao ok_t_worths (okA_up ok_t_leasts hc8) (okA_up ok_t_firsts ok_v5) ok_v1 ok_v2 ok_v3 ok_v4 hag hk_135 hs)

noncomputable def m_X9_findLeast_64 (t_worths : Nat → Int) (t_leasts : Nat → Int) (t_firsts : Nat → Int) (v1 : Int) (v2 : Int) (v3 : Int) (v4 : Int) (v5 : Int) (ag : (Nat → Int) → (Nat → Int) → Int → Option ((Nat → Int) × (Nat → Int))) (k_135 : (Nat → Int) → (Nat → Int) → Int → Option ((Nat → Int) × (Nat → Int))) : Option ((Nat → Int) × (Nat → Int)) :=
  m_X9_findLeast_65 t_worths t_leasts t_firsts v1 v2 v3 v4 v5 0 ag k_135

set_option maxRecDepth 10000 in
theorem g_X9_findLeast_64 {l : Launch} {E : EE} {b0 n : Nat} {h : AH} {a_t : Nat} {t_knotMany t_thereMany t_groupMany v1 v2 v3 v4 v5 : Int} {t_worths t_leasts t_firsts : Nat → Int} {r : (Nat → Int) × (Nat → Int)} {ag : (Nat → Int) → (Nat → Int) → Int → Option ((Nat → Int) × (Nat → Int))} {k_135 : (Nat → Int) → (Nat → Int) → Int → Option ((Nat → Int) × (Nat → Int))} (ao : AO b0 n [a_t, (a_t + 15), (a_t + 16), (a_t + 17)]) (ok_t_worths : okA t_worths) (ok_t_leasts : okA t_leasts) (ok_t_firsts : okA t_firsts) (ok_v1 : inI v1) (ok_v2 : inI v2) (ok_v3 : inI v3) (ok_v4 : inI v4) (ok_v5 : inI v5) (hag : ∀ (t_leasts_ : Nat → Int) (t_firsts_ : Nat → Int) (v4_ : Int), okA t_leasts_ → okA t_firsts_ → inI v4_ → ag t_leasts_ t_firsts_ v4_ = some r → G l E b0 M_X9_findLeast (fun _ => True) (ZM E b0 (none) (ov [a_t, (a_t + 15), (a_t + 16), (a_t + 17)] [.inr (9, fsX9 a_t t_knotMany t_thereMany t_groupMany), IA E 256 t_worths, IA E 256 r.1, IA E 256 r.2] h) n (okA r.1 ∧ okA r.2) 0 0) 0 0 n (ov [a_t, (a_t + 15), (a_t + 16), (a_t + 17)] [.inr (9, fsX9 a_t t_knotMany t_thereMany t_groupMany), IA E 256 t_worths, IA E 256 t_leasts_, IA E 256 t_firsts_] h) 28 [some (.ref a_t), some (vI v1), some (vI v2), some (vI v3), some (vI v4_), none, none] []) (hk_135 : ∀ (t_leasts_ : Nat → Int) (t_firsts_ : Nat → Int) (v4_ : Int), okA t_leasts_ → okA t_firsts_ → inI v4_ → k_135 t_leasts_ t_firsts_ v4_ = some r → G l E b0 M_X9_findLeast (fun _ => True) (ZM E b0 (none) (ov [a_t, (a_t + 15), (a_t + 16), (a_t + 17)] [.inr (9, fsX9 a_t t_knotMany t_thereMany t_groupMany), IA E 256 t_worths, IA E 256 r.1, IA E 256 r.2] h) n (okA r.1 ∧ okA r.2) 0 0) 0 0 n (ov [a_t, (a_t + 15), (a_t + 16), (a_t + 17)] [.inr (9, fsX9 a_t t_knotMany t_thereMany t_groupMany), IA E 256 t_worths, IA E 256 t_leasts_, IA E 256 t_firsts_] h) 135 [none, none, none, none, none, none, none] []) (hs : m_X9_findLeast_64 t_worths t_leasts t_firsts v1 v2 v3 v4 v5 ag k_135 = some r) : G l E b0 M_X9_findLeast (fun _ => True) (ZM E b0 (none) (ov [a_t, (a_t + 15), (a_t + 16), (a_t + 17)] [.inr (9, fsX9 a_t t_knotMany t_thereMany t_groupMany), IA E 256 t_worths, IA E 256 r.1, IA E 256 r.2] h) n (okA r.1 ∧ okA r.2) 0 0) 0 0 n (ov [a_t, (a_t + 15), (a_t + 16), (a_t + 17)] [.inr (9, fsX9 a_t t_knotMany t_thereMany t_groupMany), IA E 256 t_worths, IA E 256 t_leasts, IA E 256 t_firsts] h) 64 [some (.ref a_t), some (vI v1), some (vI v2), some (vI v3), some (vI v4), some (vI v5), none] [] := by
  rw [m_X9_findLeast_64] at hs
  refine g_iconst e_X9_findLeast_64 ?_
  exact g_X9_findLeast_65 ao ok_t_worths ok_t_leasts ok_t_firsts ok_v1 ok_v2 ok_v3 ok_v4 ok_v5 (by decide : inZ 0) hag hk_135 hs

noncomputable def m_X9_findLeast_28 (t_worths : Nat → Int) (v1 : Int) (v2 : Int) (v3 : Int) (k_135 : (Nat → Int) → (Nat → Int) → Int → Option ((Nat → Int) × (Nat → Int))) : Nat → (Nat → Int) → (Nat → Int) → Int → Option ((Nat → Int) × (Nat → Int))
  | 0, _, _, _ => none
  | F + 1, t_leasts, t_firsts, v4 => if v2 < v4 then (some (t_leasts, t_firsts)) else (if (bAnd v4 (bXor v2 (-1))) = 0 then (chk (inB (bOr v3 v4) 256) (if (t_worths (Int.toNat (bOr v3 v4))) = (-1) then (m_X9_findLeast_64 t_worths t_leasts t_firsts v1 v2 v3 v4 (bOr v3 v4) (m_X9_findLeast_28 t_worths v1 v2 v3 k_135 F) k_135) else (m_X9_findLeast_65 t_worths t_leasts t_firsts v1 v2 v3 v4 (bOr v3 v4) 1 (m_X9_findLeast_28 t_worths v1 v2 v3 k_135 F) k_135))) else (m_X9_findLeast_64 t_worths t_leasts t_firsts v1 v2 v3 v4 (bOr v3 v4) (m_X9_findLeast_28 t_worths v1 v2 v3 k_135 F) k_135))

set_option maxRecDepth 10000 in
theorem g_X9_findLeast_28 {l : Launch} {E : EE} {b0 n : Nat} {h : AH} {a_t : Nat} {t_knotMany t_thereMany t_groupMany v1 v2 v3 : Int} {t_worths : Nat → Int} {r : (Nat → Int) × (Nat → Int)} {k_135 : (Nat → Int) → (Nat → Int) → Int → Option ((Nat → Int) × (Nat → Int))} (ao : AO b0 n [a_t, (a_t + 15), (a_t + 16), (a_t + 17)]) (ok_t_worths : okA t_worths) (ok_v1 : inI v1) (ok_v2 : inI v2) (ok_v3 : inI v3) (hk_135 : ∀ (t_leasts_ : Nat → Int) (t_firsts_ : Nat → Int) (v4_ : Int), okA t_leasts_ → okA t_firsts_ → inI v4_ → k_135 t_leasts_ t_firsts_ v4_ = some r → G l E b0 M_X9_findLeast (fun _ => True) (ZM E b0 (none) (ov [a_t, (a_t + 15), (a_t + 16), (a_t + 17)] [.inr (9, fsX9 a_t t_knotMany t_thereMany t_groupMany), IA E 256 t_worths, IA E 256 r.1, IA E 256 r.2] h) n (okA r.1 ∧ okA r.2) 0 0) 0 0 n (ov [a_t, (a_t + 15), (a_t + 16), (a_t + 17)] [.inr (9, fsX9 a_t t_knotMany t_thereMany t_groupMany), IA E 256 t_worths, IA E 256 t_leasts_, IA E 256 t_firsts_] h) 135 [none, none, none, none, none, none, none] []) :
    ∀ (F : Nat) (t_leasts : Nat → Int) (t_firsts : Nat → Int) (v4 : Int), okA t_leasts → okA t_firsts → inI v4 → m_X9_findLeast_28 t_worths v1 v2 v3 k_135 F t_leasts t_firsts v4 = some r → G l E b0 M_X9_findLeast (fun _ => True) (ZM E b0 (none) (ov [a_t, (a_t + 15), (a_t + 16), (a_t + 17)] [.inr (9, fsX9 a_t t_knotMany t_thereMany t_groupMany), IA E 256 t_worths, IA E 256 r.1, IA E 256 r.2] h) n (okA r.1 ∧ okA r.2) 0 0) 0 0 n (ov [a_t, (a_t + 15), (a_t + 16), (a_t + 17)] [.inr (9, fsX9 a_t t_knotMany t_thereMany t_groupMany), IA E 256 t_worths, IA E 256 t_leasts, IA E 256 t_firsts] h) 28 [some (.ref a_t), some (vI v1), some (vI v2), some (vI v3), some (vI v4), none, none] [] := by
  intro F
  induction F with
  | zero =>
    intro t_leasts t_firsts v4 ok_t_leasts ok_t_firsts ok_v4 hs
    rw [m_X9_findLeast_28] at hs
    cases hs
  | succ F ih =>
    intro t_leasts t_firsts v4 ok_t_leasts ok_t_firsts ok_v4 hs
    rw [m_X9_findLeast_28] at hs
    refine g_iload e_X9_findLeast_28 rfl ?_
    refine g_iload_n e_X9_findLeast_30 rfl ?_
    refine g_icmp_gt e_X9_findLeast_31 ok_v4 ok_v2 hs (fun c31 hs => ?_) (fun c31 hs => ?_)
    · obtain rfl := Option.some.inj hs
      exact g_vret rfl ⟨ok_t_leasts, ok_t_firsts⟩ e_X9_findLeast_135
    · refine g_iload_n e_X9_findLeast_34 rfl ?_
      refine g_iload e_X9_findLeast_35 rfl ?_
      refine g_ior e_X9_findLeast_37 ?_
      refine g_istore e_X9_findLeast_38 st1_5 rfl ?_
      refine g_iload e_X9_findLeast_40 rfl ?_
      refine g_iload_n e_X9_findLeast_42 rfl ?_
      refine g_iconst e_X9_findLeast_43 ?_
      refine g_ixor e_X9_findLeast_44 ?_
      refine g_iand e_X9_findLeast_45 ?_
      refine g_if_ne e_X9_findLeast_46 (bAnd_I _ _) hs (fun c46 hs => ?_) (fun c46 hs => ?_)
      · refine g_aload_n e_X9_findLeast_49 rfl ?_
        refine g_get 0 10 ao rfl rfl fsX9_g10 fl_X9_43 e_X9_findLeast_50 ?_
        refine g_iload e_X9_findLeast_53 rfl ?_
        refine g_iald 1 ao rfl rfl (Nat.le_of_ble_eq_true rfl) e_X9_findLeast_55 hs (fun hi3 hs => ?_)
        refine g_iconst e_X9_findLeast_56 ?_
        refine g_icmp_eq e_X9_findLeast_57 (ok_t_worths _) (by decide : inI (-1)) hs (fun c57 hs => ?_) (fun c57 hs => ?_)
        · exact g_X9_findLeast_64 ao ok_t_worths ok_t_leasts ok_t_firsts ok_v1 ok_v2 ok_v3 ok_v4 (bOr_I _ _) ih hk_135 hs
        · refine g_iconst e_X9_findLeast_60 ?_
          refine g_goto e_X9_findLeast_61 ?_
          exact g_X9_findLeast_65 ao ok_t_worths ok_t_leasts ok_t_firsts ok_v1 ok_v2 ok_v3 ok_v4 (bOr_I _ _) (by decide : inZ 1) ih hk_135 hs
      · exact g_X9_findLeast_64 ao ok_t_worths ok_t_leasts ok_t_firsts ok_v1 ok_v2 ok_v3 ok_v4 (bOr_I _ _) ih hk_135 hs

noncomputable def m_X9_findLeast_135 (t_leasts : Nat → Int) (t_firsts : Nat → Int) : Option ((Nat → Int) × (Nat → Int)) :=
  some (t_leasts, t_firsts)

set_option maxRecDepth 10000 in
theorem g_X9_findLeast_135 {l : Launch} {E : EE} {b0 n : Nat} {h : AH} {a_t : Nat} {t_knotMany t_thereMany t_groupMany : Int} {t_worths t_leasts t_firsts : Nat → Int} {r : (Nat → Int) × (Nat → Int)} (ao : AO b0 n [a_t, (a_t + 15), (a_t + 16), (a_t + 17)]) (ok_t_worths : okA t_worths) (ok_t_leasts : okA t_leasts) (ok_t_firsts : okA t_firsts) (hs : m_X9_findLeast_135 t_leasts t_firsts = some r) : G l E b0 M_X9_findLeast (fun _ => True) (ZM E b0 (none) (ov [a_t, (a_t + 15), (a_t + 16), (a_t + 17)] [.inr (9, fsX9 a_t t_knotMany t_thereMany t_groupMany), IA E 256 t_worths, IA E 256 r.1, IA E 256 r.2] h) n (okA r.1 ∧ okA r.2) 0 0) 0 0 n (ov [a_t, (a_t + 15), (a_t + 16), (a_t + 17)] [.inr (9, fsX9 a_t t_knotMany t_thereMany t_groupMany), IA E 256 t_worths, IA E 256 t_leasts, IA E 256 t_firsts] h) 135 [none, none, none, none, none, none, none] [] := by
  rw [m_X9_findLeast_135] at hs
  obtain rfl := Option.some.inj hs
  exact g_vret rfl ⟨ok_t_leasts, ok_t_firsts⟩ e_X9_findLeast_135

noncomputable def m_X9_findLeast_0 (t_worths : Nat → Int) (t_leasts : Nat → Int) (t_firsts : Nat → Int) (v1 : Int) : Option ((Nat → Int) × (Nat → Int)) :=
  chk (inB 0 256) (chk (inB v1 256) (m_X9_findLeast_28 t_worths v1 (bAnd v1 (v1 - 1)) (bXor v1 (bAnd v1 (v1 - 1))) (fun t_leasts' t_firsts' v4' => m_X9_findLeast_135 t_leasts' t_firsts') FU (up (up t_leasts (Int.toNat 0) 0) (Int.toNat v1) 1073741824) t_firsts 0))

set_option maxRecDepth 10000 in
theorem g_X9_findLeast_0 {l : Launch} {E : EE} {b0 n : Nat} {h : AH} {a_t : Nat} {t_knotMany t_thereMany t_groupMany v1 : Int} {t_worths t_leasts t_firsts : Nat → Int} {r : (Nat → Int) × (Nat → Int)} (ao : AO b0 n [a_t, (a_t + 15), (a_t + 16), (a_t + 17)]) (ok_t_worths : okA t_worths) (ok_t_leasts : okA t_leasts) (ok_t_firsts : okA t_firsts) (ok_v1 : inI v1) (hs : m_X9_findLeast_0 t_worths t_leasts t_firsts v1 = some r) : G l E b0 M_X9_findLeast (fun _ => True) (ZM E b0 (none) (ov [a_t, (a_t + 15), (a_t + 16), (a_t + 17)] [.inr (9, fsX9 a_t t_knotMany t_thereMany t_groupMany), IA E 256 t_worths, IA E 256 r.1, IA E 256 r.2] h) n (okA r.1 ∧ okA r.2) 0 0) 0 0 n (ov [a_t, (a_t + 15), (a_t + 16), (a_t + 17)] [.inr (9, fsX9 a_t t_knotMany t_thereMany t_groupMany), IA E 256 t_worths, IA E 256 t_leasts, IA E 256 t_firsts] h) 0 [some (.ref a_t), some (vI v1), none, none, none, none, none] [] := by
  rw [m_X9_findLeast_0] at hs
  refine g_iload_n e_X9_findLeast_0 rfl ?_
  refine g_iload_n e_X9_findLeast_1 rfl ?_
  refine g_iconst e_X9_findLeast_2 ?_
  refine g_isub e_X9_findLeast_3 ?_
  refine g_iand e_X9_findLeast_4 ?_
  refine g_istore_n e_X9_findLeast_5 st1_2 rfl ?_
  refine g_iload_n e_X9_findLeast_6 rfl ?_
  refine g_iload_n e_X9_findLeast_7 rfl ?_
  refine g_ixor e_X9_findLeast_8 ?_
  refine g_istore_n e_X9_findLeast_9 st1_3 rfl ?_
  refine g_aload_n e_X9_findLeast_10 rfl ?_
  refine g_get 0 11 ao rfl rfl fsX9_g11 fl_X9_46 e_X9_findLeast_11 ?_
  refine g_iconst e_X9_findLeast_14 ?_
  refine g_iconst e_X9_findLeast_15 ?_
  refine g_iast 2 ao rfl rfl ls_2 (Nat.le_of_ble_eq_true rfl) e_X9_findLeast_16 hs (fun hi1 hs => ?_)
  refine g_aload_n e_X9_findLeast_17 rfl ?_
  refine g_get 0 11 ao rfl rfl fsX9_g11 fl_X9_46 e_X9_findLeast_18 ?_
  refine g_iload_n e_X9_findLeast_21 rfl ?_
  refine g_ldc (a := 1073741824) e_X9_findLeast_22 k_X9_136 ?_
  refine g_iast 2 ao rfl rfl ls_2 (Nat.le_of_ble_eq_true rfl) e_X9_findLeast_24 hs (fun hi2 hs => ?_)
  refine g_iconst e_X9_findLeast_25 ?_
  refine g_istore e_X9_findLeast_26 st1_4 rfl ?_
  exact g_X9_findLeast_28 ao ok_t_worths ok_v1 (bAnd_I _ _) (bXor_I _ _) (hk_135 := by
      intro t_leasts' t_firsts' v4' ok_t_leasts' ok_t_firsts' ok_v4' hs
      exact g_X9_findLeast_135 ao ok_t_worths ok_t_leasts' ok_t_firsts' hs) FU _ _ _ (okA_up (okA_up ok_t_leasts (by decide : inI 0)) (by decide : inI 1073741824)) ok_t_firsts (by decide : inI 0) hs

noncomputable def m_X9_findLeast (t_worths : Nat → Int) (t_leasts : Nat → Int) (t_firsts : Nat → Int) (v1 : Int) : Option ((Nat → Int) × (Nat → Int)) := m_X9_findLeast_0 t_worths t_leasts t_firsts v1

set_option maxRecDepth 10000 in
theorem ct_X9_findLeast {l : Launch} {E : EE} {b0 n : Nat} {h : AH} {a_t : Nat} {t_knotMany t_thereMany t_groupMany : Int} {t_worths t_leasts t_firsts : Nat → Int} {v1 : Int} (ao : AO b0 n [a_t, (a_t + 15), (a_t + 16), (a_t + 17)]) (hf : FA h [a_t, (a_t + 15), (a_t + 16), (a_t + 17)] [.inr (9, fsX9 a_t t_knotMany t_thereMany t_groupMany), IA E 256 t_worths, IA E 256 t_leasts, IA E 256 t_firsts]) (ok_t_worths : okA t_worths) (ok_t_leasts : okA t_leasts) (ok_t_firsts : okA t_firsts) (ok_v1 : inI v1) {r : (Nat → Int) × (Nat → Int)} (hm : m_X9_findLeast t_worths t_leasts t_firsts v1 = some r) : Ct l E b0 M_X9_findLeast 0 0 [.ref a_t, vI v1] h n (none) (ov [a_t, (a_t + 15), (a_t + 16), (a_t + 17)] [.inr (9, fsX9 a_t t_knotMany t_thereMany t_groupMany), IA E 256 t_worths, IA E 256 r.1, IA E 256 r.2] h) n (okA r.1 ∧ okA r.2) := by
  rw [m_X9_findLeast] at hm
  have hg : G l E b0 M_X9_findLeast (fun _ => True) (ZM E b0 (none) (ov [a_t, (a_t + 15), (a_t + 16), (a_t + 17)] [.inr (9, fsX9 a_t t_knotMany t_thereMany t_groupMany), IA E 256 t_worths, IA E 256 r.1, IA E 256 r.2] h) n (okA r.1 ∧ okA r.2) 0 0) 0 0 n (ov [a_t, (a_t + 15), (a_t + 16), (a_t + 17)] [.inr (9, fsX9 a_t t_knotMany t_thereMany t_groupMany), IA E 256 t_worths, IA E 256 t_leasts, IA E 256 t_firsts] h) 0 [some (.ref a_t), some (vI v1), none, none, none, none, none] [] := by
    have hs := hm
    exact g_X9_findLeast_0 ao ok_t_worths ok_t_leasts ok_t_firsts ok_v1 hs
  rw [FA_id hf] at hg
  exact Ct_of [some (.ref a_t), some (vI v1), none, none, none, none, none] ⟨by decide +kernel, rfl⟩ rfl (Nat.le_of_ble_eq_true rfl) hg

/-! ===== X9_nameGroups ===== -/
theorem e_X9_nameGroups_0 : DC cX9_nameGroups 0 (.aload_n 0) 1 1 := ⟨by decide +kernel, rfl⟩
theorem e_X9_nameGroups_1 : DC cX9_nameGroups 1 (.iload_n 1) 1 2 := ⟨by decide +kernel, rfl⟩
theorem e_X9_nameGroups_2 : DC cX9_nameGroups 2 (.putfield 137) 3 5 := ⟨by decide +kernel, rfl⟩
theorem e_X9_nameGroups_5 : DC cX9_nameGroups 5 (.iload_n 2) 1 6 := ⟨by decide +kernel, rfl⟩
theorem e_X9_nameGroups_6 : DC cX9_nameGroups 6 (.istore_n 3) 1 7 := ⟨by decide +kernel, rfl⟩
theorem e_X9_nameGroups_7 : DC cX9_nameGroups 7 (.iconst 0) 1 8 := ⟨by decide +kernel, rfl⟩
theorem e_X9_nameGroups_8 : DC cX9_nameGroups 8 (.istore 4) 2 10 := ⟨by decide +kernel, rfl⟩
theorem e_X9_nameGroups_10 : DC cX9_nameGroups 10 (.iload 4) 2 12 := ⟨by decide +kernel, rfl⟩
theorem e_X9_nameGroups_12 : DC cX9_nameGroups 12 (.iload_n 1) 1 13 := ⟨by decide +kernel, rfl⟩
theorem e_X9_nameGroups_13 : DB cX9_nameGroups 13 (.if_icmp .ge 62) (62) 3 16 75 := ⟨by decide +kernel, rfl, rfl⟩
theorem e_X9_nameGroups_16 : DC cX9_nameGroups 16 (.iload_n 3) 1 17 := ⟨by decide +kernel, rfl⟩
theorem e_X9_nameGroups_17 : DB cX9_nameGroups 17 (.ifCond .le 58) (58) 3 20 75 := ⟨by decide +kernel, rfl, rfl⟩
theorem e_X9_nameGroups_20 : DC cX9_nameGroups 20 (.aload_n 0) 1 21 := ⟨by decide +kernel, rfl⟩
theorem e_X9_nameGroups_21 : DC cX9_nameGroups 21 (.getfield 49) 3 24 := ⟨by decide +kernel, rfl⟩
theorem e_X9_nameGroups_24 : DC cX9_nameGroups 24 (.iload_n 3) 1 25 := ⟨by decide +kernel, rfl⟩
theorem e_X9_nameGroups_25 : DC cX9_nameGroups 25 (.iaload) 1 26 := ⟨by decide +kernel, rfl⟩
theorem e_X9_nameGroups_26 : DC cX9_nameGroups 26 (.istore 5) 2 28 := ⟨by decide +kernel, rfl⟩
theorem e_X9_nameGroups_28 : DC cX9_nameGroups 28 (.iconst 0) 1 29 := ⟨by decide +kernel, rfl⟩
theorem e_X9_nameGroups_29 : DC cX9_nameGroups 29 (.istore 6) 2 31 := ⟨by decide +kernel, rfl⟩
theorem e_X9_nameGroups_31 : DC cX9_nameGroups 31 (.iload 6) 2 33 := ⟨by decide +kernel, rfl⟩
theorem e_X9_nameGroups_33 : DC cX9_nameGroups 33 (.iload_n 1) 1 34 := ⟨by decide +kernel, rfl⟩
theorem e_X9_nameGroups_34 : DB cX9_nameGroups 34 (.if_icmp .ge 28) (28) 3 37 62 := ⟨by decide +kernel, rfl, rfl⟩
theorem e_X9_nameGroups_37 : DC cX9_nameGroups 37 (.iload 5) 2 39 := ⟨by decide +kernel, rfl⟩
theorem e_X9_nameGroups_39 : DC cX9_nameGroups 39 (.iload 6) 2 41 := ⟨by decide +kernel, rfl⟩
theorem e_X9_nameGroups_41 : DC cX9_nameGroups 41 (.ishr) 1 42 := ⟨by decide +kernel, rfl⟩
theorem e_X9_nameGroups_42 : DC cX9_nameGroups 42 (.iconst 1) 1 43 := ⟨by decide +kernel, rfl⟩
theorem e_X9_nameGroups_43 : DC cX9_nameGroups 43 (.iand) 1 44 := ⟨by decide +kernel, rfl⟩
theorem e_X9_nameGroups_44 : DB cX9_nameGroups 44 (.ifCond .eq 12) (12) 3 47 56 := ⟨by decide +kernel, rfl, rfl⟩
theorem e_X9_nameGroups_47 : DC cX9_nameGroups 47 (.aload_n 0) 1 48 := ⟨by decide +kernel, rfl⟩
theorem e_X9_nameGroups_48 : DC cX9_nameGroups 48 (.getfield 37) 3 51 := ⟨by decide +kernel, rfl⟩
theorem e_X9_nameGroups_51 : DC cX9_nameGroups 51 (.iload 6) 2 53 := ⟨by decide +kernel, rfl⟩
theorem e_X9_nameGroups_53 : DC cX9_nameGroups 53 (.iload 4) 2 55 := ⟨by decide +kernel, rfl⟩
theorem e_X9_nameGroups_55 : DC cX9_nameGroups 55 (.iastore) 1 56 := ⟨by decide +kernel, rfl⟩
theorem e_X9_nameGroups_56 : DC cX9_nameGroups 56 (.iinc 6 1) 3 59 := ⟨by decide +kernel, rfl⟩
theorem e_X9_nameGroups_59 : DB cX9_nameGroups 59 (.goto (-28)) (-28) 3 62 31 := ⟨by decide +kernel, rfl, rfl⟩
theorem e_X9_nameGroups_62 : DC cX9_nameGroups 62 (.iload_n 3) 1 63 := ⟨by decide +kernel, rfl⟩
theorem e_X9_nameGroups_63 : DC cX9_nameGroups 63 (.iload 5) 2 65 := ⟨by decide +kernel, rfl⟩
theorem e_X9_nameGroups_65 : DC cX9_nameGroups 65 (.iconst (-1)) 1 66 := ⟨by decide +kernel, rfl⟩
theorem e_X9_nameGroups_66 : DC cX9_nameGroups 66 (.ixor) 1 67 := ⟨by decide +kernel, rfl⟩
theorem e_X9_nameGroups_67 : DC cX9_nameGroups 67 (.iand) 1 68 := ⟨by decide +kernel, rfl⟩
theorem e_X9_nameGroups_68 : DC cX9_nameGroups 68 (.istore_n 3) 1 69 := ⟨by decide +kernel, rfl⟩
theorem e_X9_nameGroups_69 : DC cX9_nameGroups 69 (.iinc 4 1) 3 72 := ⟨by decide +kernel, rfl⟩
theorem e_X9_nameGroups_72 : DB cX9_nameGroups 72 (.goto (-62)) (-62) 3 75 10 := ⟨by decide +kernel, rfl, rfl⟩
theorem e_X9_nameGroups_75 : DC cX9_nameGroups 75 (.return_) 1 76 := ⟨by decide +kernel, rfl⟩
noncomputable def m_X9_nameGroups_56 (t_groups : Nat → Int) (v1 : Int) (v4 : Int) (v5 : Int) (v6 : Int) (ag : (Nat → Int) → Int → Option (Int × (Nat → Int))) (k_62 : (Nat → Int) → Int → Option (Int × (Nat → Int))) : Option (Int × (Nat → Int)) :=
  chk (inI (v6 + 1)) (ag t_groups (v6 + 1))

set_option maxRecDepth 10000 in
theorem g_X9_nameGroups_56 {l : Launch} {E : EE} {b0 n : Nat} {h : AH} {a_t : Nat} {t_knotMany t_thereMany t_groupMany v1 v3 v4 v5 v6 : Int} {t_groups t_firsts : Nat → Int} {r : Int × (Nat → Int)} {ag : (Nat → Int) → Int → Option (Int × (Nat → Int))} {k_62 : (Nat → Int) → Int → Option (Int × (Nat → Int))} (ao : AO b0 n [a_t, (a_t + 10), (a_t + 17)]) (ok_t_groupMany : inI t_groupMany) (ok_t_groups : okA t_groups) (ok_t_firsts : okA t_firsts) (ok_v1 : inI v1) (ok_v3 : inI v3) (ok_v4 : inI v4) (ok_v5 : inI v5) (ok_v6 : inI v6) (hag : ∀ (t_groups_ : Nat → Int) (v6_ : Int), okA t_groups_ → inI v6_ → ag t_groups_ v6_ = some r → G l E b0 M_X9_nameGroups (fun _ => True) (ZM E b0 (none) (ov [a_t, (a_t + 10), (a_t + 17)] [.inr (9, fsX9 a_t t_knotMany t_thereMany r.1), IA E 8 r.2, IA E 256 t_firsts] h) n (inI r.1 ∧ okA r.2) 0 0) 0 0 n (ov [a_t, (a_t + 10), (a_t + 17)] [.inr (9, fsX9 a_t t_knotMany t_thereMany t_groupMany), IA E 8 t_groups_, IA E 256 t_firsts] h) 31 [some (.ref a_t), some (vI v1), none, some (vI v3), some (vI v4), some (vI v5), some (vI v6_)] []) (hk_62 : ∀ (t_groups_ : Nat → Int) (v6_ : Int), okA t_groups_ → inI v6_ → k_62 t_groups_ v6_ = some r → G l E b0 M_X9_nameGroups (fun _ => True) (ZM E b0 (none) (ov [a_t, (a_t + 10), (a_t + 17)] [.inr (9, fsX9 a_t t_knotMany t_thereMany r.1), IA E 8 r.2, IA E 256 t_firsts] h) n (inI r.1 ∧ okA r.2) 0 0) 0 0 n (ov [a_t, (a_t + 10), (a_t + 17)] [.inr (9, fsX9 a_t t_knotMany t_thereMany t_groupMany), IA E 8 t_groups_, IA E 256 t_firsts] h) 62 [some (.ref a_t), some (vI v1), none, some (vI v3), some (vI v4), some (vI v5), none] []) (hs : m_X9_nameGroups_56 t_groups v1 v4 v5 v6 ag k_62 = some r) : G l E b0 M_X9_nameGroups (fun _ => True) (ZM E b0 (none) (ov [a_t, (a_t + 10), (a_t + 17)] [.inr (9, fsX9 a_t t_knotMany t_thereMany r.1), IA E 8 r.2, IA E 256 t_firsts] h) n (inI r.1 ∧ okA r.2) 0 0) 0 0 n (ov [a_t, (a_t + 10), (a_t + 17)] [.inr (9, fsX9 a_t t_knotMany t_thereMany t_groupMany), IA E 8 t_groups, IA E 256 t_firsts] h) 56 [some (.ref a_t), some (vI v1), none, some (vI v3), some (vI v4), some (vI v5), some (vI v6)] [] := by
  rw [m_X9_nameGroups_56] at hs
  refine g_iinc e_X9_nameGroups_56 rfl st1_6 rfl ?_
  refine g_goto e_X9_nameGroups_59 ?_
  obtain ⟨hc2, hs⟩ := chk_elim hs
  exact hag _ _ ok_t_groups hc2 hs

noncomputable def m_X9_nameGroups_31 (v1 : Int) (v4 : Int) (v5 : Int) (k_62 : (Nat → Int) → Int → Option (Int × (Nat → Int))) : Nat → (Nat → Int) → Int → Option (Int × (Nat → Int))
  | 0, _, _ => none
  | F + 1, t_groups, v6 => if v1 ≤ v6 then (k_62 t_groups v6) else (if (bAnd (bShr v5 v6) 1) = 0 then (m_X9_nameGroups_56 t_groups v1 v4 v5 v6 (m_X9_nameGroups_31 v1 v4 v5 k_62 F) k_62) else (chk (inB v6 8) (m_X9_nameGroups_56 (up t_groups (Int.toNat v6) v4) v1 v4 v5 v6 (m_X9_nameGroups_31 v1 v4 v5 k_62 F) k_62)))

set_option maxRecDepth 10000 in
theorem g_X9_nameGroups_31 {l : Launch} {E : EE} {b0 n : Nat} {h : AH} {a_t : Nat} {t_knotMany t_thereMany t_groupMany v1 v3 v4 v5 : Int} {t_firsts : Nat → Int} {r : Int × (Nat → Int)} {k_62 : (Nat → Int) → Int → Option (Int × (Nat → Int))} (ao : AO b0 n [a_t, (a_t + 10), (a_t + 17)]) (ok_t_groupMany : inI t_groupMany) (ok_t_firsts : okA t_firsts) (ok_v1 : inI v1) (ok_v3 : inI v3) (ok_v4 : inI v4) (ok_v5 : inI v5) (hk_62 : ∀ (t_groups_ : Nat → Int) (v6_ : Int), okA t_groups_ → inI v6_ → k_62 t_groups_ v6_ = some r → G l E b0 M_X9_nameGroups (fun _ => True) (ZM E b0 (none) (ov [a_t, (a_t + 10), (a_t + 17)] [.inr (9, fsX9 a_t t_knotMany t_thereMany r.1), IA E 8 r.2, IA E 256 t_firsts] h) n (inI r.1 ∧ okA r.2) 0 0) 0 0 n (ov [a_t, (a_t + 10), (a_t + 17)] [.inr (9, fsX9 a_t t_knotMany t_thereMany t_groupMany), IA E 8 t_groups_, IA E 256 t_firsts] h) 62 [some (.ref a_t), some (vI v1), none, some (vI v3), some (vI v4), some (vI v5), none] []) :
    ∀ (F : Nat) (t_groups : Nat → Int) (v6 : Int), okA t_groups → inI v6 → m_X9_nameGroups_31 v1 v4 v5 k_62 F t_groups v6 = some r → G l E b0 M_X9_nameGroups (fun _ => True) (ZM E b0 (none) (ov [a_t, (a_t + 10), (a_t + 17)] [.inr (9, fsX9 a_t t_knotMany t_thereMany r.1), IA E 8 r.2, IA E 256 t_firsts] h) n (inI r.1 ∧ okA r.2) 0 0) 0 0 n (ov [a_t, (a_t + 10), (a_t + 17)] [.inr (9, fsX9 a_t t_knotMany t_thereMany t_groupMany), IA E 8 t_groups, IA E 256 t_firsts] h) 31 [some (.ref a_t), some (vI v1), none, some (vI v3), some (vI v4), some (vI v5), some (vI v6)] [] := by
  intro F
  induction F with
  | zero =>
    intro t_groups v6 ok_t_groups ok_v6 hs
    rw [m_X9_nameGroups_31] at hs
    cases hs
  | succ F ih =>
    intro t_groups v6 ok_t_groups ok_v6 hs
    rw [m_X9_nameGroups_31] at hs
    refine g_iload e_X9_nameGroups_31 rfl ?_
    refine g_iload_n e_X9_nameGroups_33 rfl ?_
    refine g_icmp_ge e_X9_nameGroups_34 ok_v6 ok_v1 hs (fun c34 hs => ?_) (fun c34 hs => ?_)
    · exact g_mask [true, true, true, true, true, true, false] (hk_62 _ _ ok_t_groups ok_v6 hs)
    · refine g_iload e_X9_nameGroups_37 rfl ?_
      refine g_iload e_X9_nameGroups_39 rfl ?_
      refine g_ishr e_X9_nameGroups_41 ?_
      refine g_iconst e_X9_nameGroups_42 ?_
      refine g_iand e_X9_nameGroups_43 ?_
      refine g_if_eq e_X9_nameGroups_44 (bAnd_I _ _) hs (fun c44 hs => ?_) (fun c44 hs => ?_)
      · exact g_X9_nameGroups_56 ao ok_t_groupMany ok_t_groups ok_t_firsts ok_v1 ok_v3 ok_v4 ok_v5 ok_v6 ih hk_62 hs
      · refine g_aload_n e_X9_nameGroups_47 rfl ?_
        refine g_get 0 8 ao rfl rfl fsX9_g8 fl_X9_37 e_X9_nameGroups_48 ?_
        refine g_iload e_X9_nameGroups_51 rfl ?_
        refine g_iload e_X9_nameGroups_53 rfl ?_
        refine g_iast 1 ao rfl rfl ls_1 (Nat.le_of_ble_eq_true rfl) e_X9_nameGroups_55 hs (fun hi3 hs => ?_)
        exact g_X9_nameGroups_56 ao ok_t_groupMany (okA_up ok_t_groups ok_v4) ok_t_firsts ok_v1 ok_v3 ok_v4 ok_v5 ok_v6 ih hk_62 hs

noncomputable def m_X9_nameGroups_62 (t_groups : Nat → Int) (t_firsts : Nat → Int) (v1 : Int) (v3 : Int) (v4 : Int) (v5 : Int) (ag : (Nat → Int) → Int → Int → Option (Int × (Nat → Int))) (k_75 : (Nat → Int) → Int → Int → Option (Int × (Nat → Int))) : Option (Int × (Nat → Int)) :=
  chk (inI (v4 + 1)) (ag t_groups (bAnd v3 (bXor v5 (-1))) (v4 + 1))

set_option maxRecDepth 10000 in
theorem g_X9_nameGroups_62 {l : Launch} {E : EE} {b0 n : Nat} {h : AH} {a_t : Nat} {t_knotMany t_thereMany t_groupMany v1 v3 v4 v5 : Int} {t_groups t_firsts : Nat → Int} {r : Int × (Nat → Int)} {ag : (Nat → Int) → Int → Int → Option (Int × (Nat → Int))} {k_75 : (Nat → Int) → Int → Int → Option (Int × (Nat → Int))} (ao : AO b0 n [a_t, (a_t + 10), (a_t + 17)]) (ok_t_groupMany : inI t_groupMany) (ok_t_groups : okA t_groups) (ok_t_firsts : okA t_firsts) (ok_v1 : inI v1) (ok_v3 : inI v3) (ok_v4 : inI v4) (ok_v5 : inI v5) (hag : ∀ (t_groups_ : Nat → Int) (v3_ : Int) (v4_ : Int), okA t_groups_ → inI v3_ → inI v4_ → ag t_groups_ v3_ v4_ = some r → G l E b0 M_X9_nameGroups (fun _ => True) (ZM E b0 (none) (ov [a_t, (a_t + 10), (a_t + 17)] [.inr (9, fsX9 a_t t_knotMany t_thereMany r.1), IA E 8 r.2, IA E 256 t_firsts] h) n (inI r.1 ∧ okA r.2) 0 0) 0 0 n (ov [a_t, (a_t + 10), (a_t + 17)] [.inr (9, fsX9 a_t t_knotMany t_thereMany t_groupMany), IA E 8 t_groups_, IA E 256 t_firsts] h) 10 [some (.ref a_t), some (vI v1), none, some (vI v3_), some (vI v4_), none, none] []) (hk_75 : ∀ (t_groups_ : Nat → Int) (v3_ : Int) (v4_ : Int), okA t_groups_ → inI v3_ → inI v4_ → k_75 t_groups_ v3_ v4_ = some r → G l E b0 M_X9_nameGroups (fun _ => True) (ZM E b0 (none) (ov [a_t, (a_t + 10), (a_t + 17)] [.inr (9, fsX9 a_t t_knotMany t_thereMany r.1), IA E 8 r.2, IA E 256 t_firsts] h) n (inI r.1 ∧ okA r.2) 0 0) 0 0 n (ov [a_t, (a_t + 10), (a_t + 17)] [.inr (9, fsX9 a_t t_knotMany t_thereMany t_groupMany), IA E 8 t_groups_, IA E 256 t_firsts] h) 75 [none, none, none, none, none, none, none] []) (hs : m_X9_nameGroups_62 t_groups t_firsts v1 v3 v4 v5 ag k_75 = some r) : G l E b0 M_X9_nameGroups (fun _ => True) (ZM E b0 (none) (ov [a_t, (a_t + 10), (a_t + 17)] [.inr (9, fsX9 a_t t_knotMany t_thereMany r.1), IA E 8 r.2, IA E 256 t_firsts] h) n (inI r.1 ∧ okA r.2) 0 0) 0 0 n (ov [a_t, (a_t + 10), (a_t + 17)] [.inr (9, fsX9 a_t t_knotMany t_thereMany t_groupMany), IA E 8 t_groups, IA E 256 t_firsts] h) 62 [some (.ref a_t), some (vI v1), none, some (vI v3), some (vI v4), some (vI v5), none] [] := by
  rw [m_X9_nameGroups_62] at hs
  refine g_iload_n e_X9_nameGroups_62 rfl ?_
  refine g_iload e_X9_nameGroups_63 rfl ?_
  refine g_iconst e_X9_nameGroups_65 ?_
  refine g_ixor e_X9_nameGroups_66 ?_
  refine g_iand e_X9_nameGroups_67 ?_
  refine g_istore_n e_X9_nameGroups_68 st1_3 rfl ?_
  refine g_iinc e_X9_nameGroups_69 rfl st1_4 rfl ?_
  refine g_goto e_X9_nameGroups_72 ?_
  obtain ⟨hc4, hs⟩ := chk_elim hs
  exact g_mask [true, true, true, true, true, false, true] (hag _ _ _ ok_t_groups (bAnd_I _ _) hc4 hs)

noncomputable def m_X9_nameGroups_10 (t_firsts : Nat → Int) (v1 : Int) (k_75 : (Nat → Int) → Int → Int → Option (Int × (Nat → Int))) : Nat → (Nat → Int) → Int → Int → Option (Int × (Nat → Int))
  | 0, _, _, _ => none
  | F + 1, t_groups, v3, v4 => if v1 ≤ v4 then (k_75 t_groups v3 v4) else (if v3 ≤ 0 then (k_75 t_groups v3 v4) else (chk (inB v3 256) (m_X9_nameGroups_31 v1 v4 (t_firsts (Int.toNat v3)) (fun t_groups' v6' => m_X9_nameGroups_62 t_groups' t_firsts v1 v3 v4 (t_firsts (Int.toNat v3)) (m_X9_nameGroups_10 t_firsts v1 k_75 F) k_75) FU t_groups 0)))

set_option maxRecDepth 10000 in
theorem g_X9_nameGroups_10 {l : Launch} {E : EE} {b0 n : Nat} {h : AH} {a_t : Nat} {t_knotMany t_thereMany t_groupMany v1 : Int} {t_firsts : Nat → Int} {r : Int × (Nat → Int)} {k_75 : (Nat → Int) → Int → Int → Option (Int × (Nat → Int))} (ao : AO b0 n [a_t, (a_t + 10), (a_t + 17)]) (ok_t_groupMany : inI t_groupMany) (ok_t_firsts : okA t_firsts) (ok_v1 : inI v1) (hk_75 : ∀ (t_groups_ : Nat → Int) (v3_ : Int) (v4_ : Int), okA t_groups_ → inI v3_ → inI v4_ → k_75 t_groups_ v3_ v4_ = some r → G l E b0 M_X9_nameGroups (fun _ => True) (ZM E b0 (none) (ov [a_t, (a_t + 10), (a_t + 17)] [.inr (9, fsX9 a_t t_knotMany t_thereMany r.1), IA E 8 r.2, IA E 256 t_firsts] h) n (inI r.1 ∧ okA r.2) 0 0) 0 0 n (ov [a_t, (a_t + 10), (a_t + 17)] [.inr (9, fsX9 a_t t_knotMany t_thereMany t_groupMany), IA E 8 t_groups_, IA E 256 t_firsts] h) 75 [none, none, none, none, none, none, none] []) :
    ∀ (F : Nat) (t_groups : Nat → Int) (v3 : Int) (v4 : Int), okA t_groups → inI v3 → inI v4 → m_X9_nameGroups_10 t_firsts v1 k_75 F t_groups v3 v4 = some r → G l E b0 M_X9_nameGroups (fun _ => True) (ZM E b0 (none) (ov [a_t, (a_t + 10), (a_t + 17)] [.inr (9, fsX9 a_t t_knotMany t_thereMany r.1), IA E 8 r.2, IA E 256 t_firsts] h) n (inI r.1 ∧ okA r.2) 0 0) 0 0 n (ov [a_t, (a_t + 10), (a_t + 17)] [.inr (9, fsX9 a_t t_knotMany t_thereMany t_groupMany), IA E 8 t_groups, IA E 256 t_firsts] h) 10 [some (.ref a_t), some (vI v1), none, some (vI v3), some (vI v4), none, none] [] := by
  intro F
  induction F with
  | zero =>
    intro t_groups v3 v4 ok_t_groups ok_v3 ok_v4 hs
    rw [m_X9_nameGroups_10] at hs
    cases hs
  | succ F ih =>
    intro t_groups v3 v4 ok_t_groups ok_v3 ok_v4 hs
    rw [m_X9_nameGroups_10] at hs
    refine g_iload e_X9_nameGroups_10 rfl ?_
    refine g_iload_n e_X9_nameGroups_12 rfl ?_
    refine g_icmp_ge e_X9_nameGroups_13 ok_v4 ok_v1 hs (fun c13 hs => ?_) (fun c13 hs => ?_)
    · exact g_mask [false, false, true, false, false, true, true] (hk_75 _ _ _ ok_t_groups ok_v3 ok_v4 hs)
    · refine g_iload_n e_X9_nameGroups_16 rfl ?_
      refine g_if_le e_X9_nameGroups_17 ok_v3 hs (fun c17 hs => ?_) (fun c17 hs => ?_)
      · exact g_mask [false, false, true, false, false, true, true] (hk_75 _ _ _ ok_t_groups ok_v3 ok_v4 hs)
      · refine g_aload_n e_X9_nameGroups_20 rfl ?_
        refine g_get 0 12 ao rfl rfl fsX9_g12 fl_X9_49 e_X9_nameGroups_21 ?_
        refine g_iload_n e_X9_nameGroups_24 rfl ?_
        refine g_iald 2 ao rfl rfl (Nat.le_of_ble_eq_true rfl) e_X9_nameGroups_25 hs (fun hi1 hs => ?_)
        refine g_istore e_X9_nameGroups_26 st1_5 rfl ?_
        refine g_iconst e_X9_nameGroups_28 ?_
        refine g_istore e_X9_nameGroups_29 st1_6 rfl ?_
        exact g_X9_nameGroups_31 ao ok_t_groupMany ok_t_firsts ok_v1 ok_v3 ok_v4 (ok_t_firsts _) (hk_62 := by
      intro t_groups' v6' ok_t_groups' ok_v6' hs
      exact g_X9_nameGroups_62 ao ok_t_groupMany ok_t_groups' ok_t_firsts ok_v1 ok_v3 ok_v4 (ok_t_firsts _) ih hk_75 hs) FU _ _ ok_t_groups (by decide : inI 0) hs

noncomputable def m_X9_nameGroups_75 (t_groupMany : Int) (t_groups : Nat → Int) : Option (Int × (Nat → Int)) :=
  some (t_groupMany, t_groups)

set_option maxRecDepth 10000 in
theorem g_X9_nameGroups_75 {l : Launch} {E : EE} {b0 n : Nat} {h : AH} {a_t : Nat} {t_knotMany t_thereMany t_groupMany : Int} {t_groups t_firsts : Nat → Int} {r : Int × (Nat → Int)} (ao : AO b0 n [a_t, (a_t + 10), (a_t + 17)]) (ok_t_groupMany : inI t_groupMany) (ok_t_groups : okA t_groups) (ok_t_firsts : okA t_firsts) (hs : m_X9_nameGroups_75 t_groupMany t_groups = some r) : G l E b0 M_X9_nameGroups (fun _ => True) (ZM E b0 (none) (ov [a_t, (a_t + 10), (a_t + 17)] [.inr (9, fsX9 a_t t_knotMany t_thereMany r.1), IA E 8 r.2, IA E 256 t_firsts] h) n (inI r.1 ∧ okA r.2) 0 0) 0 0 n (ov [a_t, (a_t + 10), (a_t + 17)] [.inr (9, fsX9 a_t t_knotMany t_thereMany t_groupMany), IA E 8 t_groups, IA E 256 t_firsts] h) 75 [none, none, none, none, none, none, none] [] := by
  rw [m_X9_nameGroups_75] at hs
  obtain rfl := Option.some.inj hs
  exact g_vret rfl ⟨ok_t_groupMany, ok_t_groups⟩ e_X9_nameGroups_75

noncomputable def m_X9_nameGroups_0 (t_groupMany : Int) (t_groups : Nat → Int) (t_firsts : Nat → Int) (v1 : Int) (v2 : Int) : Option (Int × (Nat → Int)) :=
  m_X9_nameGroups_10 t_firsts v1 (fun t_groups' v3' v4' => m_X9_nameGroups_75 v1 t_groups') FU t_groups v2 0

set_option maxRecDepth 10000 in
theorem g_X9_nameGroups_0 {l : Launch} {E : EE} {b0 n : Nat} {h : AH} {a_t : Nat} {t_knotMany t_thereMany t_groupMany v1 v2 : Int} {t_groups t_firsts : Nat → Int} {r : Int × (Nat → Int)} (ao : AO b0 n [a_t, (a_t + 10), (a_t + 17)]) (ok_t_groupMany : inI t_groupMany) (ok_t_groups : okA t_groups) (ok_t_firsts : okA t_firsts) (ok_v1 : inI v1) (ok_v2 : inI v2) (hs : m_X9_nameGroups_0 t_groupMany t_groups t_firsts v1 v2 = some r) : G l E b0 M_X9_nameGroups (fun _ => True) (ZM E b0 (none) (ov [a_t, (a_t + 10), (a_t + 17)] [.inr (9, fsX9 a_t t_knotMany t_thereMany r.1), IA E 8 r.2, IA E 256 t_firsts] h) n (inI r.1 ∧ okA r.2) 0 0) 0 0 n (ov [a_t, (a_t + 10), (a_t + 17)] [.inr (9, fsX9 a_t t_knotMany t_thereMany t_groupMany), IA E 8 t_groups, IA E 256 t_firsts] h) 0 [some (.ref a_t), some (vI v1), some (vI v2), none, none, none, none] [] := by
  rw [m_X9_nameGroups_0] at hs
  refine g_aload_n e_X9_nameGroups_0 rfl ?_
  refine g_iload_n e_X9_nameGroups_1 rfl ?_
  refine g_put 0 13 ao rfl rfl fsX9_k13 fsX9_s13 ls_0 fw_X9_137 (fun h => by cases h) ⟨rfl, rfl⟩ e_X9_nameGroups_2 ?_
  refine g_iload_n e_X9_nameGroups_5 rfl ?_
  refine g_istore_n e_X9_nameGroups_6 st1_3 rfl ?_
  refine g_iconst e_X9_nameGroups_7 ?_
  refine g_istore e_X9_nameGroups_8 st1_4 rfl ?_
  exact g_mask [true, true, false, true, true, true, true] (g_X9_nameGroups_10 ao ok_v1 ok_t_firsts ok_v1 (hk_75 := by
      intro t_groups' v3' v4' ok_t_groups' ok_v3' ok_v4' hs
      exact g_X9_nameGroups_75 ao ok_v1 ok_t_groups' ok_t_firsts hs) FU _ _ _ ok_t_groups ok_v2 (by decide : inI 0) hs)

noncomputable def m_X9_nameGroups (t_groupMany : Int) (t_groups : Nat → Int) (t_firsts : Nat → Int) (v1 : Int) (v2 : Int) : Option (Int × (Nat → Int)) := m_X9_nameGroups_0 t_groupMany t_groups t_firsts v1 v2

set_option maxRecDepth 10000 in
theorem ct_X9_nameGroups {l : Launch} {E : EE} {b0 n : Nat} {h : AH} {a_t : Nat} {t_knotMany t_thereMany t_groupMany : Int} {t_groups t_firsts : Nat → Int} {v1 v2 : Int} (ao : AO b0 n [a_t, (a_t + 10), (a_t + 17)]) (hf : FA h [a_t, (a_t + 10), (a_t + 17)] [.inr (9, fsX9 a_t t_knotMany t_thereMany t_groupMany), IA E 8 t_groups, IA E 256 t_firsts]) (ok_t_groupMany : inI t_groupMany) (ok_t_groups : okA t_groups) (ok_t_firsts : okA t_firsts) (ok_v1 : inI v1) (ok_v2 : inI v2) {r : Int × (Nat → Int)} (hm : m_X9_nameGroups t_groupMany t_groups t_firsts v1 v2 = some r) : Ct l E b0 M_X9_nameGroups 0 0 [.ref a_t, vI v1, vI v2] h n (none) (ov [a_t, (a_t + 10), (a_t + 17)] [.inr (9, fsX9 a_t t_knotMany t_thereMany r.1), IA E 8 r.2, IA E 256 t_firsts] h) n (inI r.1 ∧ okA r.2) := by
  rw [m_X9_nameGroups] at hm
  have hg : G l E b0 M_X9_nameGroups (fun _ => True) (ZM E b0 (none) (ov [a_t, (a_t + 10), (a_t + 17)] [.inr (9, fsX9 a_t t_knotMany t_thereMany r.1), IA E 8 r.2, IA E 256 t_firsts] h) n (inI r.1 ∧ okA r.2) 0 0) 0 0 n (ov [a_t, (a_t + 10), (a_t + 17)] [.inr (9, fsX9 a_t t_knotMany t_thereMany t_groupMany), IA E 8 t_groups, IA E 256 t_firsts] h) 0 [some (.ref a_t), some (vI v1), some (vI v2), none, none, none, none] [] := by
    have hs := hm
    exact g_X9_nameGroups_0 ao ok_t_groupMany ok_t_groups ok_t_firsts ok_v1 ok_v2 hs
  rw [FA_id hf] at hg
  exact Ct_of [some (.ref a_t), some (vI v1), some (vI v2), none, none, none, none] ⟨by decide +kernel, rfl⟩ rfl (Nat.le_of_ble_eq_true rfl) hg

/-! ===== X9_isKnot ===== -/
theorem e_X9_isKnot_0 : DC cX9_isKnot 0 (.iload_n 1) 1 1 := ⟨by decide +kernel, rfl⟩
theorem e_X9_isKnot_1 : DC cX9_isKnot 1 (.iconst 0) 1 2 := ⟨by decide +kernel, rfl⟩
theorem e_X9_isKnot_2 : DC cX9_isKnot 2 (.aload_n 0) 1 3 := ⟨by decide +kernel, rfl⟩
theorem e_X9_isKnot_3 : DC cX9_isKnot 3 (.getfield 52) 3 6 := ⟨by decide +kernel, rfl⟩
theorem e_X9_isKnot_6 : DC cX9_isKnot 6 (.iconst 1) 1 7 := ⟨by decide +kernel, rfl⟩
theorem e_X9_isKnot_7 : DC cX9_isKnot 7 (.isub) 1 8 := ⟨by decide +kernel, rfl⟩
theorem e_X9_isKnot_8 : DC cX9_isKnot 8 (.invokestatic 56) 3 11 := ⟨by decide +kernel, rfl⟩
theorem e_X9_isKnot_11 : DC cX9_isKnot 11 (.ireturn) 1 12 := ⟨by decide +kernel, rfl⟩
noncomputable def m_X9_isKnot_0 (t_knotMany : Int) (v1 : Int) : Option (Int) :=
  chk (inI (t_knotMany - 1)) ((m_X10_within v1 0 (t_knotMany - 1)).bind (fun y2 => some (y2)))

set_option maxRecDepth 10000 in
theorem g_X9_isKnot_0 {l : Launch} {E : EE} {b0 n : Nat} {h : AH} {a_t : Nat} {t_knotMany t_thereMany t_groupMany v1 : Int} {r : Int} (ao : AO b0 n [a_t]) (ok_t_knotMany : inI t_knotMany) (ok_v1 : inI v1) (hs : m_X9_isKnot_0 t_knotMany v1 = some r) : G l E b0 M_X9_isKnot (fun _ => True) (ZM E b0 (some (vI r)) (ov [a_t] [.inr (9, fsX9 a_t t_knotMany t_thereMany t_groupMany)] h) n (inZ r) 0 0) 0 0 n (ov [a_t] [.inr (9, fsX9 a_t t_knotMany t_thereMany t_groupMany)] h) 0 [some (.ref a_t), some (vI v1)] [] := by
  rw [m_X9_isKnot_0] at hs
  refine g_iload_n e_X9_isKnot_0 rfl ?_
  refine g_iconst e_X9_isKnot_1 ?_
  refine g_aload_n e_X9_isKnot_2 rfl ?_
  refine g_get 0 5 ao rfl rfl fsX9_g5 fl_X9_52 e_X9_isKnot_3 ?_
  refine g_iconst e_X9_isKnot_6 ?_
  refine g_isub e_X9_isKnot_7 ?_
  obtain ⟨hc1, hs⟩ := chk_elim hs
  obtain ⟨y2, hy2, hs⟩ := bind_elim hs
  refine g_callSr [vI v1, vI 0, vI (t_knotMany - 1)] cs_X9_56 ⟨rfl, rfl, Nat.le_of_ble_eq_true rfl, Nat.le_of_ble_eq_true rfl⟩ (ct_X10_within ⟨List.nodup_nil, fun i a h => by simp at h⟩ (fun i a e h => by simp at h) ok_v1 (by decide : inI 0) hc1 hy2) e_X9_isKnot_8 rfl rfl (Nat.le_of_ble_eq_true rfl) ⟨Nat.le_refl _, Nat.le_refl _⟩ (fun Py2 => ?_)
  obtain rfl := Option.some.inj hs
  exact g_zret rfl Py2 Py2 e_X9_isKnot_11

noncomputable def m_X9_isKnot (t_knotMany : Int) (v1 : Int) : Option (Int) := m_X9_isKnot_0 t_knotMany v1

set_option maxRecDepth 10000 in
theorem ct_X9_isKnot {l : Launch} {E : EE} {b0 n : Nat} {h : AH} {a_t : Nat} {t_knotMany t_thereMany t_groupMany : Int} {v1 : Int} (ao : AO b0 n [a_t]) (hf : FA h [a_t] [.inr (9, fsX9 a_t t_knotMany t_thereMany t_groupMany)]) (ok_t_knotMany : inI t_knotMany) (ok_v1 : inI v1) {r : Int} (hm : m_X9_isKnot t_knotMany v1 = some r) : Ct l E b0 M_X9_isKnot 0 0 [.ref a_t, vI v1] h n (some (vI r)) h n (inZ r) := by
  rw [m_X9_isKnot] at hm
  have hg : G l E b0 M_X9_isKnot (fun _ => True) (ZM E b0 (some (vI r)) (ov [a_t] [.inr (9, fsX9 a_t t_knotMany t_thereMany t_groupMany)] h) n (inZ r) 0 0) 0 0 n (ov [a_t] [.inr (9, fsX9 a_t t_knotMany t_thereMany t_groupMany)] h) 0 [some (.ref a_t), some (vI v1)] [] := by
    have hs := hm
    exact g_X9_isKnot_0 ao ok_t_knotMany ok_v1 hs
  rw [FA_id hf] at hg
  exact Ct_of [some (.ref a_t), some (vI v1)] ⟨by decide +kernel, rfl⟩ rfl (Nat.le_of_ble_eq_true rfl) hg

/-! ===== X9_addUp ===== -/
theorem e_X9_addUp_0 : DC cX9_addUp 0 (.aload_n 0) 1 1 := ⟨by decide +kernel, rfl⟩
theorem e_X9_addUp_1 : DC cX9_addUp 1 (.getfield 40) 3 4 := ⟨by decide +kernel, rfl⟩
theorem e_X9_addUp_4 : DC cX9_addUp 4 (.invokevirtual 130) 3 7 := ⟨by decide +kernel, rfl⟩
theorem e_X9_addUp_7 : DC cX9_addUp 7 (.aload_n 0) 1 8 := ⟨by decide +kernel, rfl⟩
theorem e_X9_addUp_8 : DC cX9_addUp 8 (.getfield 40) 3 11 := ⟨by decide +kernel, rfl⟩
theorem e_X9_addUp_11 : DC cX9_addUp 11 (.iconst 0) 1 12 := ⟨by decide +kernel, rfl⟩
theorem e_X9_addUp_12 : DC cX9_addUp 12 (.iconst 0) 1 13 := ⟨by decide +kernel, rfl⟩
theorem e_X9_addUp_13 : DC cX9_addUp 13 (.iconst 0) 1 14 := ⟨by decide +kernel, rfl⟩
theorem e_X9_addUp_14 : DC cX9_addUp 14 (.invokevirtual 77) 3 17 := ⟨by decide +kernel, rfl⟩
theorem e_X9_addUp_17 : DC cX9_addUp 17 (.iconst 1) 1 18 := ⟨by decide +kernel, rfl⟩
theorem e_X9_addUp_18 : DC cX9_addUp 18 (.istore 4) 2 20 := ⟨by decide +kernel, rfl⟩
theorem e_X9_addUp_20 : DC cX9_addUp 20 (.iload 4) 2 22 := ⟨by decide +kernel, rfl⟩
theorem e_X9_addUp_22 : DC cX9_addUp 22 (.iload_n 3) 1 23 := ⟨by decide +kernel, rfl⟩
theorem e_X9_addUp_23 : DB cX9_addUp 23 (.if_icmp .ge 144) (144) 3 26 167 := ⟨by decide +kernel, rfl, rfl⟩
theorem e_X9_addUp_26 : DC cX9_addUp 26 (.iload 4) 2 28 := ⟨by decide +kernel, rfl⟩
theorem e_X9_addUp_28 : DC cX9_addUp 28 (.iload_n 2) 1 29 := ⟨by decide +kernel, rfl⟩
theorem e_X9_addUp_29 : DC cX9_addUp 29 (.invokestatic 133) 3 32 := ⟨by decide +kernel, rfl⟩
theorem e_X9_addUp_32 : DC cX9_addUp 32 (.istore 5) 2 34 := ⟨by decide +kernel, rfl⟩
theorem e_X9_addUp_34 : DC cX9_addUp 34 (.aload_n 0) 1 35 := ⟨by decide +kernel, rfl⟩
theorem e_X9_addUp_35 : DC cX9_addUp 35 (.getfield 34) 3 38 := ⟨by decide +kernel, rfl⟩
theorem e_X9_addUp_38 : DC cX9_addUp 38 (.iload 5) 2 40 := ⟨by decide +kernel, rfl⟩
theorem e_X9_addUp_40 : DC cX9_addUp 40 (.iaload) 1 41 := ⟨by decide +kernel, rfl⟩
theorem e_X9_addUp_41 : DC cX9_addUp 41 (.istore 6) 2 43 := ⟨by decide +kernel, rfl⟩
theorem e_X9_addUp_43 : DC cX9_addUp 43 (.aload_n 0) 1 44 := ⟨by decide +kernel, rfl⟩
theorem e_X9_addUp_44 : DC cX9_addUp 44 (.getfield 15) 3 47 := ⟨by decide +kernel, rfl⟩
theorem e_X9_addUp_47 : DC cX9_addUp 47 (.iload 6) 2 49 := ⟨by decide +kernel, rfl⟩
theorem e_X9_addUp_49 : DC cX9_addUp 49 (.iaload) 1 50 := ⟨by decide +kernel, rfl⟩
theorem e_X9_addUp_50 : DC cX9_addUp 50 (.iload_n 1) 1 51 := ⟨by decide +kernel, rfl⟩
theorem e_X9_addUp_51 : DB cX9_addUp 51 (.if_icmp .ne 7) (7) 3 54 58 := ⟨by decide +kernel, rfl, rfl⟩
theorem e_X9_addUp_54 : DC cX9_addUp 54 (.iconst 1) 1 55 := ⟨by decide +kernel, rfl⟩
theorem e_X9_addUp_55 : DB cX9_addUp 55 (.goto 4) (4) 3 58 59 := ⟨by decide +kernel, rfl, rfl⟩
theorem e_X9_addUp_58 : DC cX9_addUp 58 (.iconst (-1)) 1 59 := ⟨by decide +kernel, rfl⟩
theorem e_X9_addUp_59 : DC cX9_addUp 59 (.istore 7) 2 61 := ⟨by decide +kernel, rfl⟩
theorem e_X9_addUp_61 : DC cX9_addUp 61 (.iload 4) 2 63 := ⟨by decide +kernel, rfl⟩
theorem e_X9_addUp_63 : DC cX9_addUp 63 (.iload 4) 2 65 := ⟨by decide +kernel, rfl⟩
theorem e_X9_addUp_65 : DC cX9_addUp 65 (.iconst 1) 1 66 := ⟨by decide +kernel, rfl⟩
theorem e_X9_addUp_66 : DC cX9_addUp 66 (.isub) 1 67 := ⟨by decide +kernel, rfl⟩
theorem e_X9_addUp_67 : DC cX9_addUp 67 (.iand) 1 68 := ⟨by decide +kernel, rfl⟩
theorem e_X9_addUp_68 : DC cX9_addUp 68 (.istore 8) 2 70 := ⟨by decide +kernel, rfl⟩
theorem e_X9_addUp_70 : DC cX9_addUp 70 (.aload_n 0) 1 71 := ⟨by decide +kernel, rfl⟩
theorem e_X9_addUp_71 : DC cX9_addUp 71 (.getfield 40) 3 74 := ⟨by decide +kernel, rfl⟩
theorem e_X9_addUp_74 : DC cX9_addUp 74 (.iload 8) 2 76 := ⟨by decide +kernel, rfl⟩
theorem e_X9_addUp_76 : DC cX9_addUp 76 (.iconst 0) 1 77 := ⟨by decide +kernel, rfl⟩
theorem e_X9_addUp_77 : DC cX9_addUp 77 (.invokevirtual 87) 3 80 := ⟨by decide +kernel, rfl⟩
theorem e_X9_addUp_80 : DC cX9_addUp 80 (.iload 7) 2 82 := ⟨by decide +kernel, rfl⟩
theorem e_X9_addUp_82 : DC cX9_addUp 82 (.aload_n 0) 1 83 := ⟨by decide +kernel, rfl⟩
theorem e_X9_addUp_83 : DC cX9_addUp 83 (.getfield 27) 3 86 := ⟨by decide +kernel, rfl⟩
theorem e_X9_addUp_86 : DC cX9_addUp 86 (.iload 6) 2 88 := ⟨by decide +kernel, rfl⟩
theorem e_X9_addUp_88 : DC cX9_addUp 88 (.iconst 0) 1 89 := ⟨by decide +kernel, rfl⟩
theorem e_X9_addUp_89 : DC cX9_addUp 89 (.invokevirtual 87) 3 92 := ⟨by decide +kernel, rfl⟩
theorem e_X9_addUp_92 : DC cX9_addUp 92 (.imul) 1 93 := ⟨by decide +kernel, rfl⟩
theorem e_X9_addUp_93 : DC cX9_addUp 93 (.iadd) 1 94 := ⟨by decide +kernel, rfl⟩
theorem e_X9_addUp_94 : DC cX9_addUp 94 (.istore 9) 2 96 := ⟨by decide +kernel, rfl⟩
theorem e_X9_addUp_96 : DC cX9_addUp 96 (.aload_n 0) 1 97 := ⟨by decide +kernel, rfl⟩
theorem e_X9_addUp_97 : DC cX9_addUp 97 (.getfield 40) 3 100 := ⟨by decide +kernel, rfl⟩
theorem e_X9_addUp_100 : DC cX9_addUp 100 (.iload 8) 2 102 := ⟨by decide +kernel, rfl⟩
theorem e_X9_addUp_102 : DC cX9_addUp 102 (.iconst 1) 1 103 := ⟨by decide +kernel, rfl⟩
theorem e_X9_addUp_103 : DC cX9_addUp 103 (.invokevirtual 87) 3 106 := ⟨by decide +kernel, rfl⟩
theorem e_X9_addUp_106 : DC cX9_addUp 106 (.iload 7) 2 108 := ⟨by decide +kernel, rfl⟩
theorem e_X9_addUp_108 : DC cX9_addUp 108 (.aload_n 0) 1 109 := ⟨by decide +kernel, rfl⟩
theorem e_X9_addUp_109 : DC cX9_addUp 109 (.getfield 27) 3 112 := ⟨by decide +kernel, rfl⟩
theorem e_X9_addUp_112 : DC cX9_addUp 112 (.iload 6) 2 114 := ⟨by decide +kernel, rfl⟩
theorem e_X9_addUp_114 : DC cX9_addUp 114 (.iconst 1) 1 115 := ⟨by decide +kernel, rfl⟩
theorem e_X9_addUp_115 : DC cX9_addUp 115 (.invokevirtual 87) 3 118 := ⟨by decide +kernel, rfl⟩
theorem e_X9_addUp_118 : DC cX9_addUp 118 (.imul) 1 119 := ⟨by decide +kernel, rfl⟩
theorem e_X9_addUp_119 : DC cX9_addUp 119 (.iadd) 1 120 := ⟨by decide +kernel, rfl⟩
theorem e_X9_addUp_120 : DC cX9_addUp 120 (.istore 10) 2 122 := ⟨by decide +kernel, rfl⟩
theorem e_X9_addUp_122 : DC cX9_addUp 122 (.aload_n 0) 1 123 := ⟨by decide +kernel, rfl⟩
theorem e_X9_addUp_123 : DC cX9_addUp 123 (.getfield 40) 3 126 := ⟨by decide +kernel, rfl⟩
theorem e_X9_addUp_126 : DC cX9_addUp 126 (.iload 8) 2 128 := ⟨by decide +kernel, rfl⟩
theorem e_X9_addUp_128 : DC cX9_addUp 128 (.iconst 2) 1 129 := ⟨by decide +kernel, rfl⟩
theorem e_X9_addUp_129 : DC cX9_addUp 129 (.invokevirtual 87) 3 132 := ⟨by decide +kernel, rfl⟩
theorem e_X9_addUp_132 : DC cX9_addUp 132 (.iload 7) 2 134 := ⟨by decide +kernel, rfl⟩
theorem e_X9_addUp_134 : DC cX9_addUp 134 (.aload_n 0) 1 135 := ⟨by decide +kernel, rfl⟩
theorem e_X9_addUp_135 : DC cX9_addUp 135 (.getfield 27) 3 138 := ⟨by decide +kernel, rfl⟩
theorem e_X9_addUp_138 : DC cX9_addUp 138 (.iload 6) 2 140 := ⟨by decide +kernel, rfl⟩
theorem e_X9_addUp_140 : DC cX9_addUp 140 (.iconst 2) 1 141 := ⟨by decide +kernel, rfl⟩
theorem e_X9_addUp_141 : DC cX9_addUp 141 (.invokevirtual 87) 3 144 := ⟨by decide +kernel, rfl⟩
theorem e_X9_addUp_144 : DC cX9_addUp 144 (.imul) 1 145 := ⟨by decide +kernel, rfl⟩
theorem e_X9_addUp_145 : DC cX9_addUp 145 (.iadd) 1 146 := ⟨by decide +kernel, rfl⟩
theorem e_X9_addUp_146 : DC cX9_addUp 146 (.istore 11) 2 148 := ⟨by decide +kernel, rfl⟩
theorem e_X9_addUp_148 : DC cX9_addUp 148 (.aload_n 0) 1 149 := ⟨by decide +kernel, rfl⟩
theorem e_X9_addUp_149 : DC cX9_addUp 149 (.getfield 40) 3 152 := ⟨by decide +kernel, rfl⟩
theorem e_X9_addUp_152 : DC cX9_addUp 152 (.iload 9) 2 154 := ⟨by decide +kernel, rfl⟩
theorem e_X9_addUp_154 : DC cX9_addUp 154 (.iload 10) 2 156 := ⟨by decide +kernel, rfl⟩
theorem e_X9_addUp_156 : DC cX9_addUp 156 (.iload 11) 2 158 := ⟨by decide +kernel, rfl⟩
theorem e_X9_addUp_158 : DC cX9_addUp 158 (.invokevirtual 77) 3 161 := ⟨by decide +kernel, rfl⟩
theorem e_X9_addUp_161 : DC cX9_addUp 161 (.iinc 4 1) 3 164 := ⟨by decide +kernel, rfl⟩
theorem e_X9_addUp_164 : DB cX9_addUp 164 (.goto (-144)) (-144) 3 167 20 := ⟨by decide +kernel, rfl, rfl⟩
theorem e_X9_addUp_167 : DC cX9_addUp 167 (.return_) 1 168 := ⟨by decide +kernel, rfl⟩
noncomputable def m_X9_addUp_59 (t_froms : Nat → Int) (t_steps_many : Int) (t_steps_xs : Nat → Int) (t_steps_ys : Nat → Int) (t_steps_zs : Nat → Int) (t_chosen : Nat → Int) (t_sums_many : Int) (t_sums_xs : Nat → Int) (t_sums_ys : Nat → Int) (t_sums_zs : Nat → Int) (v1 : Int) (v2 : Int) (v3 : Int) (v4 : Int) (v6 : Int) (s0 : Int) (ag : Int → (Nat → Int) → (Nat → Int) → (Nat → Int) → Int → Option (Int × (Nat → Int) × (Nat → Int) × (Nat → Int))) (k_167 : Int → (Nat → Int) → (Nat → Int) → (Nat → Int) → Int → Option (Int × (Nat → Int) × (Nat → Int) × (Nat → Int))) : Option (Int × (Nat → Int) × (Nat → Int) × (Nat → Int)) :=
  (m_X8_partOf 256 t_sums_many t_sums_xs t_sums_ys t_sums_zs (bAnd v4 (v4 - 1)) 0).bind (fun y6 => (m_X8_partOf 120 t_steps_many t_steps_xs t_steps_ys t_steps_zs v6 0).bind (fun y7 => (m_X8_partOf 256 t_sums_many t_sums_xs t_sums_ys t_sums_zs (bAnd v4 (v4 - 1)) 1).bind (fun y8 => (m_X8_partOf 120 t_steps_many t_steps_xs t_steps_ys t_steps_zs v6 1).bind (fun y9 => (m_X8_partOf 256 t_sums_many t_sums_xs t_sums_ys t_sums_zs (bAnd v4 (v4 - 1)) 2).bind (fun y10 => (m_X8_partOf 120 t_steps_many t_steps_xs t_steps_ys t_steps_zs v6 2).bind (fun y11 => chk (inI (y6 + (s0 * y7))) (chk (inI (y8 + (s0 * y9))) (chk (inI (y10 + (s0 * y11))) ((m_X8_append 256 t_sums_many t_sums_xs t_sums_ys t_sums_zs (y6 + (s0 * y7)) (y8 + (s0 * y9)) (y10 + (s0 * y11))).bind (fun y15 => chk (inI (v4 + 1)) (ag y15.1 y15.2.1 y15.2.2.1 y15.2.2.2 (v4 + 1))))))))))))

set_option maxRecDepth 10000 in
theorem g_X9_addUp_59 {l : Launch} {E : EE} {b0 n : Nat} {h : AH} {a_t : Nat} {t_knotMany t_thereMany t_groupMany t_steps_many t_sums_many v1 v2 v3 v4 v6 s0 : Int} {t_froms t_steps_xs t_steps_ys t_steps_zs t_chosen t_sums_xs t_sums_ys t_sums_zs : Nat → Int} {r : Int × (Nat → Int) × (Nat → Int) × (Nat → Int)} {ag : Int → (Nat → Int) → (Nat → Int) → (Nat → Int) → Int → Option (Int × (Nat → Int) × (Nat → Int) × (Nat → Int))} {k_167 : Int → (Nat → Int) → (Nat → Int) → (Nat → Int) → Int → Option (Int × (Nat → Int) × (Nat → Int) × (Nat → Int))} (ao : AO b0 n [a_t, (a_t + 2), (a_t + 4), (a_t + 5), (a_t + 6), (a_t + 7), (a_t + 9), (a_t + 11), (a_t + 12), (a_t + 13), (a_t + 14)]) (ok_t_froms : okA t_froms) (ok_t_steps_many : inI t_steps_many) (ok_t_steps_xs : okA t_steps_xs) (ok_t_steps_ys : okA t_steps_ys) (ok_t_steps_zs : okA t_steps_zs) (ok_t_chosen : okA t_chosen) (ok_t_sums_many : inI t_sums_many) (ok_t_sums_xs : okA t_sums_xs) (ok_t_sums_ys : okA t_sums_ys) (ok_t_sums_zs : okA t_sums_zs) (ok_v1 : inI v1) (ok_v2 : inI v2) (ok_v3 : inI v3) (ok_v4 : inI v4) (ok_v6 : inI v6) (ok_s0 : inI s0) (hag : ∀ (t_sums_many_ : Int) (t_sums_xs_ : Nat → Int) (t_sums_ys_ : Nat → Int) (t_sums_zs_ : Nat → Int) (v4_ : Int), inI t_sums_many_ → okA t_sums_xs_ → okA t_sums_ys_ → okA t_sums_zs_ → inI v4_ → ag t_sums_many_ t_sums_xs_ t_sums_ys_ t_sums_zs_ v4_ = some r → G l E b0 M_X9_addUp (fun _ => True) (ZM E b0 (none) (ov [a_t, (a_t + 2), (a_t + 4), (a_t + 5), (a_t + 6), (a_t + 7), (a_t + 9), (a_t + 11), (a_t + 12), (a_t + 13), (a_t + 14)] [.inr (9, fsX9 a_t t_knotMany t_thereMany t_groupMany), IA E 120 t_froms, .inr (8, fsX8 (a_t + 4) t_steps_many), IA E 120 t_steps_xs, IA E 120 t_steps_ys, IA E 120 t_steps_zs, IA E 8 t_chosen, .inr (8, fsX8 (a_t + 11) r.1), IA E 256 r.2.1, IA E 256 r.2.2.1, IA E 256 r.2.2.2] h) n (inI r.1 ∧ okA r.2.1 ∧ okA r.2.2.1 ∧ okA r.2.2.2) 0 0) 0 0 n (ov [a_t, (a_t + 2), (a_t + 4), (a_t + 5), (a_t + 6), (a_t + 7), (a_t + 9), (a_t + 11), (a_t + 12), (a_t + 13), (a_t + 14)] [.inr (9, fsX9 a_t t_knotMany t_thereMany t_groupMany), IA E 120 t_froms, .inr (8, fsX8 (a_t + 4) t_steps_many), IA E 120 t_steps_xs, IA E 120 t_steps_ys, IA E 120 t_steps_zs, IA E 8 t_chosen, .inr (8, fsX8 (a_t + 11) t_sums_many_), IA E 256 t_sums_xs_, IA E 256 t_sums_ys_, IA E 256 t_sums_zs_] h) 20 [some (.ref a_t), some (vI v1), some (vI v2), some (vI v3), some (vI v4_), none, none, none, none, none, none, none] []) (hk_167 : ∀ (t_sums_many_ : Int) (t_sums_xs_ : Nat → Int) (t_sums_ys_ : Nat → Int) (t_sums_zs_ : Nat → Int) (v4_ : Int), inI t_sums_many_ → okA t_sums_xs_ → okA t_sums_ys_ → okA t_sums_zs_ → inI v4_ → k_167 t_sums_many_ t_sums_xs_ t_sums_ys_ t_sums_zs_ v4_ = some r → G l E b0 M_X9_addUp (fun _ => True) (ZM E b0 (none) (ov [a_t, (a_t + 2), (a_t + 4), (a_t + 5), (a_t + 6), (a_t + 7), (a_t + 9), (a_t + 11), (a_t + 12), (a_t + 13), (a_t + 14)] [.inr (9, fsX9 a_t t_knotMany t_thereMany t_groupMany), IA E 120 t_froms, .inr (8, fsX8 (a_t + 4) t_steps_many), IA E 120 t_steps_xs, IA E 120 t_steps_ys, IA E 120 t_steps_zs, IA E 8 t_chosen, .inr (8, fsX8 (a_t + 11) r.1), IA E 256 r.2.1, IA E 256 r.2.2.1, IA E 256 r.2.2.2] h) n (inI r.1 ∧ okA r.2.1 ∧ okA r.2.2.1 ∧ okA r.2.2.2) 0 0) 0 0 n (ov [a_t, (a_t + 2), (a_t + 4), (a_t + 5), (a_t + 6), (a_t + 7), (a_t + 9), (a_t + 11), (a_t + 12), (a_t + 13), (a_t + 14)] [.inr (9, fsX9 a_t t_knotMany t_thereMany t_groupMany), IA E 120 t_froms, .inr (8, fsX8 (a_t + 4) t_steps_many), IA E 120 t_steps_xs, IA E 120 t_steps_ys, IA E 120 t_steps_zs, IA E 8 t_chosen, .inr (8, fsX8 (a_t + 11) t_sums_many_), IA E 256 t_sums_xs_, IA E 256 t_sums_ys_, IA E 256 t_sums_zs_] h) 167 [none, none, none, none, none, none, none, none, none, none, none, none] []) (hs : m_X9_addUp_59 t_froms t_steps_many t_steps_xs t_steps_ys t_steps_zs t_chosen t_sums_many t_sums_xs t_sums_ys t_sums_zs v1 v2 v3 v4 v6 s0 ag k_167 = some r) : G l E b0 M_X9_addUp (fun _ => True) (ZM E b0 (none) (ov [a_t, (a_t + 2), (a_t + 4), (a_t + 5), (a_t + 6), (a_t + 7), (a_t + 9), (a_t + 11), (a_t + 12), (a_t + 13), (a_t + 14)] [.inr (9, fsX9 a_t t_knotMany t_thereMany t_groupMany), IA E 120 t_froms, .inr (8, fsX8 (a_t + 4) t_steps_many), IA E 120 t_steps_xs, IA E 120 t_steps_ys, IA E 120 t_steps_zs, IA E 8 t_chosen, .inr (8, fsX8 (a_t + 11) r.1), IA E 256 r.2.1, IA E 256 r.2.2.1, IA E 256 r.2.2.2] h) n (inI r.1 ∧ okA r.2.1 ∧ okA r.2.2.1 ∧ okA r.2.2.2) 0 0) 0 0 n (ov [a_t, (a_t + 2), (a_t + 4), (a_t + 5), (a_t + 6), (a_t + 7), (a_t + 9), (a_t + 11), (a_t + 12), (a_t + 13), (a_t + 14)] [.inr (9, fsX9 a_t t_knotMany t_thereMany t_groupMany), IA E 120 t_froms, .inr (8, fsX8 (a_t + 4) t_steps_many), IA E 120 t_steps_xs, IA E 120 t_steps_ys, IA E 120 t_steps_zs, IA E 8 t_chosen, .inr (8, fsX8 (a_t + 11) t_sums_many), IA E 256 t_sums_xs, IA E 256 t_sums_ys, IA E 256 t_sums_zs] h) 59 [some (.ref a_t), some (vI v1), some (vI v2), some (vI v3), some (vI v4), none, some (vI v6), none, none, none, none, none] [vI s0] := by
  rw [m_X9_addUp_59] at hs
  refine g_istore e_X9_addUp_59 st1_7 rfl ?_
  refine g_iload e_X9_addUp_61 rfl ?_
  refine g_iload e_X9_addUp_63 rfl ?_
  refine g_iconst e_X9_addUp_65 ?_
  refine g_isub e_X9_addUp_66 ?_
  refine g_iand e_X9_addUp_67 ?_
  refine g_istore e_X9_addUp_68 st1_8 rfl ?_
  refine g_aload_n e_X9_addUp_70 rfl ?_
  refine g_get 0 9 ao rfl rfl fsX9_g9 fl_X9_40 e_X9_addUp_71 ?_
  refine g_iload e_X9_addUp_74 rfl ?_
  refine g_iconst e_X9_addUp_76 ?_
  obtain ⟨y6, hy6, hs⟩ := bind_elim hs
  refine g_callVr [vI (bAnd v4 (v4 - 1)), vI 0] cv_X9_87 ⟨rfl, rfl, Nat.le_of_ble_eq_true rfl, Nat.le_of_ble_eq_true rfl⟩ (ct_X8_partOf (AO_call [7, 8, 9, 10] ao (by decide) rfl) (by omega) (FA_call [7, 8, 9, 10] ao.1 rfl rfl) ok_t_sums_many ok_t_sums_xs ok_t_sums_ys ok_t_sums_zs (bAnd_I _ _) (by decide : inI 0) hy6) e_X9_addUp_77 (ao.2 7 _ rfl) (ov_get 7 ao.1 rfl rfl) rfl rfl rfl (Nat.le_of_ble_eq_true rfl) ⟨Nat.le_refl _, Nat.le_refl _⟩ (fun Py6 => ?_)
  refine g_iload e_X9_addUp_80 rfl ?_
  refine g_aload_n e_X9_addUp_82 rfl ?_
  refine g_get 0 3 ao rfl rfl fsX9_g3 fl_X9_27 e_X9_addUp_83 ?_
  refine g_iload e_X9_addUp_86 rfl ?_
  refine g_iconst e_X9_addUp_88 ?_
  obtain ⟨y7, hy7, hs⟩ := bind_elim hs
  refine g_callVr [vI v6, vI 0] cv_X9_87 ⟨rfl, rfl, Nat.le_of_ble_eq_true rfl, Nat.le_of_ble_eq_true rfl⟩ (ct_X8_partOf (AO_call [2, 3, 4, 5] ao (by decide) rfl) (by omega) (FA_call [2, 3, 4, 5] ao.1 rfl rfl) ok_t_steps_many ok_t_steps_xs ok_t_steps_ys ok_t_steps_zs ok_v6 (by decide : inI 0) hy7) e_X9_addUp_89 (ao.2 2 _ rfl) (ov_get 2 ao.1 rfl rfl) rfl rfl rfl (Nat.le_of_ble_eq_true rfl) ⟨Nat.le_refl _, Nat.le_refl _⟩ (fun Py7 => ?_)
  refine g_imul e_X9_addUp_92 ?_
  refine g_iadd e_X9_addUp_93 ?_
  refine g_istore e_X9_addUp_94 st1_9 rfl ?_
  refine g_aload_n e_X9_addUp_96 rfl ?_
  refine g_get 0 9 ao rfl rfl fsX9_g9 fl_X9_40 e_X9_addUp_97 ?_
  refine g_iload e_X9_addUp_100 rfl ?_
  refine g_iconst e_X9_addUp_102 ?_
  obtain ⟨y8, hy8, hs⟩ := bind_elim hs
  refine g_callVr [vI (bAnd v4 (v4 - 1)), vI 1] cv_X9_87 ⟨rfl, rfl, Nat.le_of_ble_eq_true rfl, Nat.le_of_ble_eq_true rfl⟩ (ct_X8_partOf (AO_call [7, 8, 9, 10] ao (by decide) rfl) (by omega) (FA_call [7, 8, 9, 10] ao.1 rfl rfl) ok_t_sums_many ok_t_sums_xs ok_t_sums_ys ok_t_sums_zs (bAnd_I _ _) (by decide : inI 1) hy8) e_X9_addUp_103 (ao.2 7 _ rfl) (ov_get 7 ao.1 rfl rfl) rfl rfl rfl (Nat.le_of_ble_eq_true rfl) ⟨Nat.le_refl _, Nat.le_refl _⟩ (fun Py8 => ?_)
  refine g_iload e_X9_addUp_106 rfl ?_
  refine g_aload_n e_X9_addUp_108 rfl ?_
  refine g_get 0 3 ao rfl rfl fsX9_g3 fl_X9_27 e_X9_addUp_109 ?_
  refine g_iload e_X9_addUp_112 rfl ?_
  refine g_iconst e_X9_addUp_114 ?_
  obtain ⟨y9, hy9, hs⟩ := bind_elim hs
  refine g_callVr [vI v6, vI 1] cv_X9_87 ⟨rfl, rfl, Nat.le_of_ble_eq_true rfl, Nat.le_of_ble_eq_true rfl⟩ (ct_X8_partOf (AO_call [2, 3, 4, 5] ao (by decide) rfl) (by omega) (FA_call [2, 3, 4, 5] ao.1 rfl rfl) ok_t_steps_many ok_t_steps_xs ok_t_steps_ys ok_t_steps_zs ok_v6 (by decide : inI 1) hy9) e_X9_addUp_115 (ao.2 2 _ rfl) (ov_get 2 ao.1 rfl rfl) rfl rfl rfl (Nat.le_of_ble_eq_true rfl) ⟨Nat.le_refl _, Nat.le_refl _⟩ (fun Py9 => ?_)
  refine g_imul e_X9_addUp_118 ?_
  refine g_iadd e_X9_addUp_119 ?_
  refine g_istore e_X9_addUp_120 st1_10 rfl ?_
  refine g_aload_n e_X9_addUp_122 rfl ?_
  refine g_get 0 9 ao rfl rfl fsX9_g9 fl_X9_40 e_X9_addUp_123 ?_
  refine g_iload e_X9_addUp_126 rfl ?_
  refine g_iconst e_X9_addUp_128 ?_
  obtain ⟨y10, hy10, hs⟩ := bind_elim hs
  refine g_callVr [vI (bAnd v4 (v4 - 1)), vI 2] cv_X9_87 ⟨rfl, rfl, Nat.le_of_ble_eq_true rfl, Nat.le_of_ble_eq_true rfl⟩ (ct_X8_partOf (AO_call [7, 8, 9, 10] ao (by decide) rfl) (by omega) (FA_call [7, 8, 9, 10] ao.1 rfl rfl) ok_t_sums_many ok_t_sums_xs ok_t_sums_ys ok_t_sums_zs (bAnd_I _ _) (by decide : inI 2) hy10) e_X9_addUp_129 (ao.2 7 _ rfl) (ov_get 7 ao.1 rfl rfl) rfl rfl rfl (Nat.le_of_ble_eq_true rfl) ⟨Nat.le_refl _, Nat.le_refl _⟩ (fun Py10 => ?_)
  refine g_iload e_X9_addUp_132 rfl ?_
  refine g_aload_n e_X9_addUp_134 rfl ?_
  refine g_get 0 3 ao rfl rfl fsX9_g3 fl_X9_27 e_X9_addUp_135 ?_
  refine g_iload e_X9_addUp_138 rfl ?_
  refine g_iconst e_X9_addUp_140 ?_
  obtain ⟨y11, hy11, hs⟩ := bind_elim hs
  refine g_callVr [vI v6, vI 2] cv_X9_87 ⟨rfl, rfl, Nat.le_of_ble_eq_true rfl, Nat.le_of_ble_eq_true rfl⟩ (ct_X8_partOf (AO_call [2, 3, 4, 5] ao (by decide) rfl) (by omega) (FA_call [2, 3, 4, 5] ao.1 rfl rfl) ok_t_steps_many ok_t_steps_xs ok_t_steps_ys ok_t_steps_zs ok_v6 (by decide : inI 2) hy11) e_X9_addUp_141 (ao.2 2 _ rfl) (ov_get 2 ao.1 rfl rfl) rfl rfl rfl (Nat.le_of_ble_eq_true rfl) ⟨Nat.le_refl _, Nat.le_refl _⟩ (fun Py11 => ?_)
  refine g_imul e_X9_addUp_144 ?_
  refine g_iadd e_X9_addUp_145 ?_
  refine g_istore e_X9_addUp_146 st1_11 rfl ?_
  refine g_aload_n e_X9_addUp_148 rfl ?_
  refine g_get 0 9 ao rfl rfl fsX9_g9 fl_X9_40 e_X9_addUp_149 ?_
  refine g_iload e_X9_addUp_152 rfl ?_
  refine g_iload e_X9_addUp_154 rfl ?_
  refine g_iload e_X9_addUp_156 rfl ?_
  obtain ⟨hc12, hs⟩ := chk_elim hs
  obtain ⟨hc13, hs⟩ := chk_elim hs
  obtain ⟨hc14, hs⟩ := chk_elim hs
  obtain ⟨y15, hy15, hs⟩ := bind_elim hs
  refine g_callVv [vI (y6 + (s0 * y7)), vI (y8 + (s0 * y9)), vI (y10 + (s0 * y11))] cv_X9_77 ⟨rfl, rfl, Nat.le_of_ble_eq_true rfl, Nat.le_of_ble_eq_true rfl⟩ (Ct_heap (ct_X8_append (AO_call [7, 8, 9, 10] ao (by decide) rfl) (by omega) (FA_call [7, 8, 9, 10] ao.1 rfl rfl) ok_t_sums_many ok_t_sums_xs ok_t_sums_ys ok_t_sums_zs hc12 hc13 hc14 hy15) (ov_call (esn := [.inr (9, fsX9 a_t t_knotMany t_thereMany t_groupMany), IA E 120 t_froms, .inr (8, fsX8 (a_t + 4) t_steps_many), IA E 120 t_steps_xs, IA E 120 t_steps_ys, IA E 120 t_steps_zs, IA E 8 t_chosen, .inr (8, fsX8 (a_t + 11) y15.1), IA E 256 y15.2.1, IA E 256 y15.2.2.1, IA E 256 y15.2.2.2]) [7, 8, 9, 10] ao.1 rfl rfl rfl rfl)) e_X9_addUp_158 (ao.2 7 _ rfl) (ov_get 7 ao.1 rfl rfl) rfl rfl rfl (Nat.le_of_ble_eq_true rfl) ⟨Nat.le_refl _, Nat.le_refl _⟩ (fun Py15 => ?_)
  refine g_iinc e_X9_addUp_161 rfl st1_4 rfl ?_
  refine g_goto e_X9_addUp_164 ?_
  obtain ⟨hc16, hs⟩ := chk_elim hs
  exact g_mask [true, true, true, true, true, true, false, false, false, false, false, false] (hag _ _ _ _ _ Py15.1 Py15.2.1 Py15.2.2.1 Py15.2.2.2 hc16 hs)

noncomputable def m_X9_addUp_20 (t_froms : Nat → Int) (t_steps_many : Int) (t_steps_xs : Nat → Int) (t_steps_ys : Nat → Int) (t_steps_zs : Nat → Int) (t_chosen : Nat → Int) (v1 : Int) (v2 : Int) (v3 : Int) (k_167 : Int → (Nat → Int) → (Nat → Int) → (Nat → Int) → Int → Option (Int × (Nat → Int) × (Nat → Int) × (Nat → Int))) : Nat → Int → (Nat → Int) → (Nat → Int) → (Nat → Int) → Int → Option (Int × (Nat → Int) × (Nat → Int) × (Nat → Int))
  | 0, _, _, _, _, _ => none
  | F + 1, t_sums_many, t_sums_xs, t_sums_ys, t_sums_zs, v4 => if v3 ≤ v4 then (some (t_sums_many, t_sums_xs, t_sums_ys, t_sums_zs)) else ((m_X9_lowestOf v4 v2).bind (fun y3 => chk (inB y3 8) (chk (inB (t_chosen (Int.toNat y3)) 120) (if (t_froms (Int.toNat (t_chosen (Int.toNat y3)))) = v1 then (m_X9_addUp_59 t_froms t_steps_many t_steps_xs t_steps_ys t_steps_zs t_chosen t_sums_many t_sums_xs t_sums_ys t_sums_zs v1 v2 v3 v4 (t_chosen (Int.toNat y3)) 1 (m_X9_addUp_20 t_froms t_steps_many t_steps_xs t_steps_ys t_steps_zs t_chosen v1 v2 v3 k_167 F) k_167) else (m_X9_addUp_59 t_froms t_steps_many t_steps_xs t_steps_ys t_steps_zs t_chosen t_sums_many t_sums_xs t_sums_ys t_sums_zs v1 v2 v3 v4 (t_chosen (Int.toNat y3)) (-1) (m_X9_addUp_20 t_froms t_steps_many t_steps_xs t_steps_ys t_steps_zs t_chosen v1 v2 v3 k_167 F) k_167)))))

set_option maxRecDepth 10000 in
theorem g_X9_addUp_20 {l : Launch} {E : EE} {b0 n : Nat} {h : AH} {a_t : Nat} {t_knotMany t_thereMany t_groupMany t_steps_many v1 v2 v3 : Int} {t_froms t_steps_xs t_steps_ys t_steps_zs t_chosen : Nat → Int} {r : Int × (Nat → Int) × (Nat → Int) × (Nat → Int)} {k_167 : Int → (Nat → Int) → (Nat → Int) → (Nat → Int) → Int → Option (Int × (Nat → Int) × (Nat → Int) × (Nat → Int))} (ao : AO b0 n [a_t, (a_t + 2), (a_t + 4), (a_t + 5), (a_t + 6), (a_t + 7), (a_t + 9), (a_t + 11), (a_t + 12), (a_t + 13), (a_t + 14)]) (ok_t_froms : okA t_froms) (ok_t_steps_many : inI t_steps_many) (ok_t_steps_xs : okA t_steps_xs) (ok_t_steps_ys : okA t_steps_ys) (ok_t_steps_zs : okA t_steps_zs) (ok_t_chosen : okA t_chosen) (ok_v1 : inI v1) (ok_v2 : inI v2) (ok_v3 : inI v3) (hk_167 : ∀ (t_sums_many_ : Int) (t_sums_xs_ : Nat → Int) (t_sums_ys_ : Nat → Int) (t_sums_zs_ : Nat → Int) (v4_ : Int), inI t_sums_many_ → okA t_sums_xs_ → okA t_sums_ys_ → okA t_sums_zs_ → inI v4_ → k_167 t_sums_many_ t_sums_xs_ t_sums_ys_ t_sums_zs_ v4_ = some r → G l E b0 M_X9_addUp (fun _ => True) (ZM E b0 (none) (ov [a_t, (a_t + 2), (a_t + 4), (a_t + 5), (a_t + 6), (a_t + 7), (a_t + 9), (a_t + 11), (a_t + 12), (a_t + 13), (a_t + 14)] [.inr (9, fsX9 a_t t_knotMany t_thereMany t_groupMany), IA E 120 t_froms, .inr (8, fsX8 (a_t + 4) t_steps_many), IA E 120 t_steps_xs, IA E 120 t_steps_ys, IA E 120 t_steps_zs, IA E 8 t_chosen, .inr (8, fsX8 (a_t + 11) r.1), IA E 256 r.2.1, IA E 256 r.2.2.1, IA E 256 r.2.2.2] h) n (inI r.1 ∧ okA r.2.1 ∧ okA r.2.2.1 ∧ okA r.2.2.2) 0 0) 0 0 n (ov [a_t, (a_t + 2), (a_t + 4), (a_t + 5), (a_t + 6), (a_t + 7), (a_t + 9), (a_t + 11), (a_t + 12), (a_t + 13), (a_t + 14)] [.inr (9, fsX9 a_t t_knotMany t_thereMany t_groupMany), IA E 120 t_froms, .inr (8, fsX8 (a_t + 4) t_steps_many), IA E 120 t_steps_xs, IA E 120 t_steps_ys, IA E 120 t_steps_zs, IA E 8 t_chosen, .inr (8, fsX8 (a_t + 11) t_sums_many_), IA E 256 t_sums_xs_, IA E 256 t_sums_ys_, IA E 256 t_sums_zs_] h) 167 [none, none, none, none, none, none, none, none, none, none, none, none] []) :
    ∀ (F : Nat) (t_sums_many : Int) (t_sums_xs : Nat → Int) (t_sums_ys : Nat → Int) (t_sums_zs : Nat → Int) (v4 : Int), inI t_sums_many → okA t_sums_xs → okA t_sums_ys → okA t_sums_zs → inI v4 → m_X9_addUp_20 t_froms t_steps_many t_steps_xs t_steps_ys t_steps_zs t_chosen v1 v2 v3 k_167 F t_sums_many t_sums_xs t_sums_ys t_sums_zs v4 = some r → G l E b0 M_X9_addUp (fun _ => True) (ZM E b0 (none) (ov [a_t, (a_t + 2), (a_t + 4), (a_t + 5), (a_t + 6), (a_t + 7), (a_t + 9), (a_t + 11), (a_t + 12), (a_t + 13), (a_t + 14)] [.inr (9, fsX9 a_t t_knotMany t_thereMany t_groupMany), IA E 120 t_froms, .inr (8, fsX8 (a_t + 4) t_steps_many), IA E 120 t_steps_xs, IA E 120 t_steps_ys, IA E 120 t_steps_zs, IA E 8 t_chosen, .inr (8, fsX8 (a_t + 11) r.1), IA E 256 r.2.1, IA E 256 r.2.2.1, IA E 256 r.2.2.2] h) n (inI r.1 ∧ okA r.2.1 ∧ okA r.2.2.1 ∧ okA r.2.2.2) 0 0) 0 0 n (ov [a_t, (a_t + 2), (a_t + 4), (a_t + 5), (a_t + 6), (a_t + 7), (a_t + 9), (a_t + 11), (a_t + 12), (a_t + 13), (a_t + 14)] [.inr (9, fsX9 a_t t_knotMany t_thereMany t_groupMany), IA E 120 t_froms, .inr (8, fsX8 (a_t + 4) t_steps_many), IA E 120 t_steps_xs, IA E 120 t_steps_ys, IA E 120 t_steps_zs, IA E 8 t_chosen, .inr (8, fsX8 (a_t + 11) t_sums_many), IA E 256 t_sums_xs, IA E 256 t_sums_ys, IA E 256 t_sums_zs] h) 20 [some (.ref a_t), some (vI v1), some (vI v2), some (vI v3), some (vI v4), none, none, none, none, none, none, none] [] := by
  intro F
  induction F with
  | zero =>
    intro t_sums_many t_sums_xs t_sums_ys t_sums_zs v4 ok_t_sums_many ok_t_sums_xs ok_t_sums_ys ok_t_sums_zs ok_v4 hs
    rw [m_X9_addUp_20] at hs
    cases hs
  | succ F ih =>
    intro t_sums_many t_sums_xs t_sums_ys t_sums_zs v4 ok_t_sums_many ok_t_sums_xs ok_t_sums_ys ok_t_sums_zs ok_v4 hs
    rw [m_X9_addUp_20] at hs
    refine g_iload e_X9_addUp_20 rfl ?_
    refine g_iload_n e_X9_addUp_22 rfl ?_
    refine g_icmp_ge e_X9_addUp_23 ok_v4 ok_v3 hs (fun c23 hs => ?_) (fun c23 hs => ?_)
    · obtain rfl := Option.some.inj hs
      exact g_vret rfl ⟨ok_t_sums_many, ok_t_sums_xs, ok_t_sums_ys, ok_t_sums_zs⟩ e_X9_addUp_167
    · refine g_iload e_X9_addUp_26 rfl ?_
      refine g_iload_n e_X9_addUp_28 rfl ?_
      obtain ⟨y3, hy3, hs⟩ := bind_elim hs
      refine g_callSr [vI v4, vI v2] cs_X9_133 ⟨rfl, rfl, Nat.le_of_ble_eq_true rfl, Nat.le_of_ble_eq_true rfl⟩ (ct_X9_lowestOf ⟨List.nodup_nil, fun i a h => by simp at h⟩ (fun i a e h => by simp at h) ok_v4 ok_v2 hy3) e_X9_addUp_29 rfl rfl (Nat.le_of_ble_eq_true rfl) ⟨Nat.le_refl _, Nat.le_refl _⟩ (fun Py3 => ?_)
      refine g_istore e_X9_addUp_32 st1_5 rfl ?_
      refine g_aload_n e_X9_addUp_34 rfl ?_
      refine g_get 0 7 ao rfl rfl fsX9_g7 fl_X9_34 e_X9_addUp_35 ?_
      refine g_iload e_X9_addUp_38 rfl ?_
      refine g_iald 6 ao rfl rfl (Nat.le_of_ble_eq_true rfl) e_X9_addUp_40 hs (fun hi4 hs => ?_)
      refine g_istore e_X9_addUp_41 st1_6 rfl ?_
      refine g_aload_n e_X9_addUp_43 rfl ?_
      refine g_get 0 1 ao rfl rfl fsX9_g1 fl_X9_15 e_X9_addUp_44 ?_
      refine g_iload e_X9_addUp_47 rfl ?_
      refine g_iald 1 ao rfl rfl (Nat.le_of_ble_eq_true rfl) e_X9_addUp_49 hs (fun hi5 hs => ?_)
      refine g_iload_n e_X9_addUp_50 rfl ?_
      refine g_icmp_ne e_X9_addUp_51 (ok_t_froms _) ok_v1 hs (fun c51 hs => ?_) (fun c51 hs => ?_)
      · refine g_iconst e_X9_addUp_54 ?_
        refine g_goto e_X9_addUp_55 ?_
        exact g_mask [true, true, true, true, true, false, true, true, true, true, true, true] (g_X9_addUp_59 ao ok_t_froms ok_t_steps_many ok_t_steps_xs ok_t_steps_ys ok_t_steps_zs ok_t_chosen ok_t_sums_many ok_t_sums_xs ok_t_sums_ys ok_t_sums_zs ok_v1 ok_v2 ok_v3 ok_v4 (ok_t_chosen _) (by decide : inI 1) ih hk_167 hs)
      · refine g_iconst e_X9_addUp_58 ?_
        exact g_mask [true, true, true, true, true, false, true, true, true, true, true, true] (g_X9_addUp_59 ao ok_t_froms ok_t_steps_many ok_t_steps_xs ok_t_steps_ys ok_t_steps_zs ok_t_chosen ok_t_sums_many ok_t_sums_xs ok_t_sums_ys ok_t_sums_zs ok_v1 ok_v2 ok_v3 ok_v4 (ok_t_chosen _) (by decide : inI (-1)) ih hk_167 hs)

noncomputable def m_X9_addUp_167 (t_sums_many : Int) (t_sums_xs : Nat → Int) (t_sums_ys : Nat → Int) (t_sums_zs : Nat → Int) : Option (Int × (Nat → Int) × (Nat → Int) × (Nat → Int)) :=
  some (t_sums_many, t_sums_xs, t_sums_ys, t_sums_zs)

set_option maxRecDepth 10000 in
theorem g_X9_addUp_167 {l : Launch} {E : EE} {b0 n : Nat} {h : AH} {a_t : Nat} {t_knotMany t_thereMany t_groupMany t_steps_many t_sums_many : Int} {t_froms t_steps_xs t_steps_ys t_steps_zs t_chosen t_sums_xs t_sums_ys t_sums_zs : Nat → Int} {r : Int × (Nat → Int) × (Nat → Int) × (Nat → Int)} (ao : AO b0 n [a_t, (a_t + 2), (a_t + 4), (a_t + 5), (a_t + 6), (a_t + 7), (a_t + 9), (a_t + 11), (a_t + 12), (a_t + 13), (a_t + 14)]) (ok_t_froms : okA t_froms) (ok_t_steps_many : inI t_steps_many) (ok_t_steps_xs : okA t_steps_xs) (ok_t_steps_ys : okA t_steps_ys) (ok_t_steps_zs : okA t_steps_zs) (ok_t_chosen : okA t_chosen) (ok_t_sums_many : inI t_sums_many) (ok_t_sums_xs : okA t_sums_xs) (ok_t_sums_ys : okA t_sums_ys) (ok_t_sums_zs : okA t_sums_zs) (hs : m_X9_addUp_167 t_sums_many t_sums_xs t_sums_ys t_sums_zs = some r) : G l E b0 M_X9_addUp (fun _ => True) (ZM E b0 (none) (ov [a_t, (a_t + 2), (a_t + 4), (a_t + 5), (a_t + 6), (a_t + 7), (a_t + 9), (a_t + 11), (a_t + 12), (a_t + 13), (a_t + 14)] [.inr (9, fsX9 a_t t_knotMany t_thereMany t_groupMany), IA E 120 t_froms, .inr (8, fsX8 (a_t + 4) t_steps_many), IA E 120 t_steps_xs, IA E 120 t_steps_ys, IA E 120 t_steps_zs, IA E 8 t_chosen, .inr (8, fsX8 (a_t + 11) r.1), IA E 256 r.2.1, IA E 256 r.2.2.1, IA E 256 r.2.2.2] h) n (inI r.1 ∧ okA r.2.1 ∧ okA r.2.2.1 ∧ okA r.2.2.2) 0 0) 0 0 n (ov [a_t, (a_t + 2), (a_t + 4), (a_t + 5), (a_t + 6), (a_t + 7), (a_t + 9), (a_t + 11), (a_t + 12), (a_t + 13), (a_t + 14)] [.inr (9, fsX9 a_t t_knotMany t_thereMany t_groupMany), IA E 120 t_froms, .inr (8, fsX8 (a_t + 4) t_steps_many), IA E 120 t_steps_xs, IA E 120 t_steps_ys, IA E 120 t_steps_zs, IA E 8 t_chosen, .inr (8, fsX8 (a_t + 11) t_sums_many), IA E 256 t_sums_xs, IA E 256 t_sums_ys, IA E 256 t_sums_zs] h) 167 [none, none, none, none, none, none, none, none, none, none, none, none] [] := by
  rw [m_X9_addUp_167] at hs
  obtain rfl := Option.some.inj hs
  exact g_vret rfl ⟨ok_t_sums_many, ok_t_sums_xs, ok_t_sums_ys, ok_t_sums_zs⟩ e_X9_addUp_167

noncomputable def m_X9_addUp_0 (t_froms : Nat → Int) (t_steps_many : Int) (t_steps_xs : Nat → Int) (t_steps_ys : Nat → Int) (t_steps_zs : Nat → Int) (t_chosen : Nat → Int) (t_sums_many : Int) (t_sums_xs : Nat → Int) (t_sums_ys : Nat → Int) (t_sums_zs : Nat → Int) (v1 : Int) (v2 : Int) (v3 : Int) : Option (Int × (Nat → Int) × (Nat → Int) × (Nat → Int)) :=
  (m_X8_drop t_sums_many).bind (fun y1 => (m_X8_append 256 y1 t_sums_xs t_sums_ys t_sums_zs 0 0 0).bind (fun y2 => m_X9_addUp_20 t_froms t_steps_many t_steps_xs t_steps_ys t_steps_zs t_chosen v1 v2 v3 (fun t_sums_many' t_sums_xs' t_sums_ys' t_sums_zs' v4' => m_X9_addUp_167 t_sums_many' t_sums_xs' t_sums_ys' t_sums_zs') FU y2.1 y2.2.1 y2.2.2.1 y2.2.2.2 1))

set_option maxRecDepth 10000 in
theorem g_X9_addUp_0 {l : Launch} {E : EE} {b0 n : Nat} {h : AH} {a_t : Nat} {t_knotMany t_thereMany t_groupMany t_steps_many t_sums_many v1 v2 v3 : Int} {t_froms t_steps_xs t_steps_ys t_steps_zs t_chosen t_sums_xs t_sums_ys t_sums_zs : Nat → Int} {r : Int × (Nat → Int) × (Nat → Int) × (Nat → Int)} (ao : AO b0 n [a_t, (a_t + 2), (a_t + 4), (a_t + 5), (a_t + 6), (a_t + 7), (a_t + 9), (a_t + 11), (a_t + 12), (a_t + 13), (a_t + 14)]) (ok_t_froms : okA t_froms) (ok_t_steps_many : inI t_steps_many) (ok_t_steps_xs : okA t_steps_xs) (ok_t_steps_ys : okA t_steps_ys) (ok_t_steps_zs : okA t_steps_zs) (ok_t_chosen : okA t_chosen) (ok_t_sums_many : inI t_sums_many) (ok_t_sums_xs : okA t_sums_xs) (ok_t_sums_ys : okA t_sums_ys) (ok_t_sums_zs : okA t_sums_zs) (ok_v1 : inI v1) (ok_v2 : inI v2) (ok_v3 : inI v3) (hs : m_X9_addUp_0 t_froms t_steps_many t_steps_xs t_steps_ys t_steps_zs t_chosen t_sums_many t_sums_xs t_sums_ys t_sums_zs v1 v2 v3 = some r) : G l E b0 M_X9_addUp (fun _ => True) (ZM E b0 (none) (ov [a_t, (a_t + 2), (a_t + 4), (a_t + 5), (a_t + 6), (a_t + 7), (a_t + 9), (a_t + 11), (a_t + 12), (a_t + 13), (a_t + 14)] [.inr (9, fsX9 a_t t_knotMany t_thereMany t_groupMany), IA E 120 t_froms, .inr (8, fsX8 (a_t + 4) t_steps_many), IA E 120 t_steps_xs, IA E 120 t_steps_ys, IA E 120 t_steps_zs, IA E 8 t_chosen, .inr (8, fsX8 (a_t + 11) r.1), IA E 256 r.2.1, IA E 256 r.2.2.1, IA E 256 r.2.2.2] h) n (inI r.1 ∧ okA r.2.1 ∧ okA r.2.2.1 ∧ okA r.2.2.2) 0 0) 0 0 n (ov [a_t, (a_t + 2), (a_t + 4), (a_t + 5), (a_t + 6), (a_t + 7), (a_t + 9), (a_t + 11), (a_t + 12), (a_t + 13), (a_t + 14)] [.inr (9, fsX9 a_t t_knotMany t_thereMany t_groupMany), IA E 120 t_froms, .inr (8, fsX8 (a_t + 4) t_steps_many), IA E 120 t_steps_xs, IA E 120 t_steps_ys, IA E 120 t_steps_zs, IA E 8 t_chosen, .inr (8, fsX8 (a_t + 11) t_sums_many), IA E 256 t_sums_xs, IA E 256 t_sums_ys, IA E 256 t_sums_zs] h) 0 [some (.ref a_t), some (vI v1), some (vI v2), some (vI v3), none, none, none, none, none, none, none, none] [] := by
  rw [m_X9_addUp_0] at hs
  refine g_aload_n e_X9_addUp_0 rfl ?_
  refine g_get 0 9 ao rfl rfl fsX9_g9 fl_X9_40 e_X9_addUp_1 ?_
  obtain ⟨y1, hy1, hs⟩ := bind_elim hs
  refine g_callVv [] cv_X9_130 ⟨rfl, rfl, Nat.le_of_ble_eq_true rfl, Nat.le_of_ble_eq_true rfl⟩ (Ct_heap (ct_X8_drop (AO_call [7] ao (by decide) rfl) (FA_call [7] ao.1 rfl rfl) ok_t_sums_many hy1) (ov_call (esn := [.inr (9, fsX9 a_t t_knotMany t_thereMany t_groupMany), IA E 120 t_froms, .inr (8, fsX8 (a_t + 4) t_steps_many), IA E 120 t_steps_xs, IA E 120 t_steps_ys, IA E 120 t_steps_zs, IA E 8 t_chosen, .inr (8, fsX8 (a_t + 11) y1), IA E 256 t_sums_xs, IA E 256 t_sums_ys, IA E 256 t_sums_zs]) [7] ao.1 rfl rfl rfl rfl)) e_X9_addUp_4 (ao.2 7 _ rfl) (ov_get 7 ao.1 rfl rfl) rfl rfl rfl (Nat.le_of_ble_eq_true rfl) ⟨Nat.le_refl _, Nat.le_refl _⟩ (fun Py1 => ?_)
  refine g_aload_n e_X9_addUp_7 rfl ?_
  refine g_get 0 9 ao rfl rfl fsX9_g9 fl_X9_40 e_X9_addUp_8 ?_
  refine g_iconst e_X9_addUp_11 ?_
  refine g_iconst e_X9_addUp_12 ?_
  refine g_iconst e_X9_addUp_13 ?_
  obtain ⟨y2, hy2, hs⟩ := bind_elim hs
  refine g_callVv [vI 0, vI 0, vI 0] cv_X9_77 ⟨rfl, rfl, Nat.le_of_ble_eq_true rfl, Nat.le_of_ble_eq_true rfl⟩ (Ct_heap (ct_X8_append (AO_call [7, 8, 9, 10] ao (by decide) rfl) (by omega) (FA_call [7, 8, 9, 10] ao.1 rfl rfl) Py1 ok_t_sums_xs ok_t_sums_ys ok_t_sums_zs (by decide : inI 0) (by decide : inI 0) (by decide : inI 0) hy2) (ov_call (esn := [.inr (9, fsX9 a_t t_knotMany t_thereMany t_groupMany), IA E 120 t_froms, .inr (8, fsX8 (a_t + 4) t_steps_many), IA E 120 t_steps_xs, IA E 120 t_steps_ys, IA E 120 t_steps_zs, IA E 8 t_chosen, .inr (8, fsX8 (a_t + 11) y2.1), IA E 256 y2.2.1, IA E 256 y2.2.2.1, IA E 256 y2.2.2.2]) [7, 8, 9, 10] ao.1 rfl rfl rfl rfl)) e_X9_addUp_14 (ao.2 7 _ rfl) (ov_get 7 ao.1 rfl rfl) rfl rfl rfl (Nat.le_of_ble_eq_true rfl) ⟨Nat.le_refl _, Nat.le_refl _⟩ (fun Py2 => ?_)
  refine g_iconst e_X9_addUp_17 ?_
  refine g_istore e_X9_addUp_18 st1_4 rfl ?_
  exact g_X9_addUp_20 ao ok_t_froms ok_t_steps_many ok_t_steps_xs ok_t_steps_ys ok_t_steps_zs ok_t_chosen ok_v1 ok_v2 ok_v3 (hk_167 := by
      intro t_sums_many' t_sums_xs' t_sums_ys' t_sums_zs' v4' ok_t_sums_many' ok_t_sums_xs' ok_t_sums_ys' ok_t_sums_zs' ok_v4' hs
      exact g_X9_addUp_167 ao ok_t_froms ok_t_steps_many ok_t_steps_xs ok_t_steps_ys ok_t_steps_zs ok_t_chosen ok_t_sums_many' ok_t_sums_xs' ok_t_sums_ys' ok_t_sums_zs' hs) FU _ _ _ _ _ Py2.1 Py2.2.1 Py2.2.2.1 Py2.2.2.2 (by decide : inI 1) hs

noncomputable def m_X9_addUp (t_froms : Nat → Int) (t_steps_many : Int) (t_steps_xs : Nat → Int) (t_steps_ys : Nat → Int) (t_steps_zs : Nat → Int) (t_chosen : Nat → Int) (t_sums_many : Int) (t_sums_xs : Nat → Int) (t_sums_ys : Nat → Int) (t_sums_zs : Nat → Int) (v1 : Int) (v2 : Int) (v3 : Int) : Option (Int × (Nat → Int) × (Nat → Int) × (Nat → Int)) := m_X9_addUp_0 t_froms t_steps_many t_steps_xs t_steps_ys t_steps_zs t_chosen t_sums_many t_sums_xs t_sums_ys t_sums_zs v1 v2 v3

set_option maxRecDepth 10000 in
theorem ct_X9_addUp {l : Launch} {E : EE} {b0 n : Nat} {h : AH} {a_t : Nat} {t_knotMany t_thereMany t_groupMany t_steps_many t_sums_many : Int} {t_froms t_steps_xs t_steps_ys t_steps_zs t_chosen t_sums_xs t_sums_ys t_sums_zs : Nat → Int} {v1 v2 v3 : Int} (ao : AO b0 n [a_t, (a_t + 2), (a_t + 4), (a_t + 5), (a_t + 6), (a_t + 7), (a_t + 9), (a_t + 11), (a_t + 12), (a_t + 13), (a_t + 14)]) (hf : FA h [a_t, (a_t + 2), (a_t + 4), (a_t + 5), (a_t + 6), (a_t + 7), (a_t + 9), (a_t + 11), (a_t + 12), (a_t + 13), (a_t + 14)] [.inr (9, fsX9 a_t t_knotMany t_thereMany t_groupMany), IA E 120 t_froms, .inr (8, fsX8 (a_t + 4) t_steps_many), IA E 120 t_steps_xs, IA E 120 t_steps_ys, IA E 120 t_steps_zs, IA E 8 t_chosen, .inr (8, fsX8 (a_t + 11) t_sums_many), IA E 256 t_sums_xs, IA E 256 t_sums_ys, IA E 256 t_sums_zs]) (ok_t_froms : okA t_froms) (ok_t_steps_many : inI t_steps_many) (ok_t_steps_xs : okA t_steps_xs) (ok_t_steps_ys : okA t_steps_ys) (ok_t_steps_zs : okA t_steps_zs) (ok_t_chosen : okA t_chosen) (ok_t_sums_many : inI t_sums_many) (ok_t_sums_xs : okA t_sums_xs) (ok_t_sums_ys : okA t_sums_ys) (ok_t_sums_zs : okA t_sums_zs) (ok_v1 : inI v1) (ok_v2 : inI v2) (ok_v3 : inI v3) {r : Int × (Nat → Int) × (Nat → Int) × (Nat → Int)} (hm : m_X9_addUp t_froms t_steps_many t_steps_xs t_steps_ys t_steps_zs t_chosen t_sums_many t_sums_xs t_sums_ys t_sums_zs v1 v2 v3 = some r) : Ct l E b0 M_X9_addUp 0 0 [.ref a_t, vI v1, vI v2, vI v3] h n (none) (ov [a_t, (a_t + 2), (a_t + 4), (a_t + 5), (a_t + 6), (a_t + 7), (a_t + 9), (a_t + 11), (a_t + 12), (a_t + 13), (a_t + 14)] [.inr (9, fsX9 a_t t_knotMany t_thereMany t_groupMany), IA E 120 t_froms, .inr (8, fsX8 (a_t + 4) t_steps_many), IA E 120 t_steps_xs, IA E 120 t_steps_ys, IA E 120 t_steps_zs, IA E 8 t_chosen, .inr (8, fsX8 (a_t + 11) r.1), IA E 256 r.2.1, IA E 256 r.2.2.1, IA E 256 r.2.2.2] h) n (inI r.1 ∧ okA r.2.1 ∧ okA r.2.2.1 ∧ okA r.2.2.2) := by
  rw [m_X9_addUp] at hm
  have hg : G l E b0 M_X9_addUp (fun _ => True) (ZM E b0 (none) (ov [a_t, (a_t + 2), (a_t + 4), (a_t + 5), (a_t + 6), (a_t + 7), (a_t + 9), (a_t + 11), (a_t + 12), (a_t + 13), (a_t + 14)] [.inr (9, fsX9 a_t t_knotMany t_thereMany t_groupMany), IA E 120 t_froms, .inr (8, fsX8 (a_t + 4) t_steps_many), IA E 120 t_steps_xs, IA E 120 t_steps_ys, IA E 120 t_steps_zs, IA E 8 t_chosen, .inr (8, fsX8 (a_t + 11) r.1), IA E 256 r.2.1, IA E 256 r.2.2.1, IA E 256 r.2.2.2] h) n (inI r.1 ∧ okA r.2.1 ∧ okA r.2.2.1 ∧ okA r.2.2.2) 0 0) 0 0 n (ov [a_t, (a_t + 2), (a_t + 4), (a_t + 5), (a_t + 6), (a_t + 7), (a_t + 9), (a_t + 11), (a_t + 12), (a_t + 13), (a_t + 14)] [.inr (9, fsX9 a_t t_knotMany t_thereMany t_groupMany), IA E 120 t_froms, .inr (8, fsX8 (a_t + 4) t_steps_many), IA E 120 t_steps_xs, IA E 120 t_steps_ys, IA E 120 t_steps_zs, IA E 8 t_chosen, .inr (8, fsX8 (a_t + 11) t_sums_many), IA E 256 t_sums_xs, IA E 256 t_sums_ys, IA E 256 t_sums_zs] h) 0 [some (.ref a_t), some (vI v1), some (vI v2), some (vI v3), none, none, none, none, none, none, none, none] [] := by
    have hs := hm
    exact g_X9_addUp_0 ao ok_t_froms ok_t_steps_many ok_t_steps_xs ok_t_steps_ys ok_t_steps_zs ok_t_chosen ok_t_sums_many ok_t_sums_xs ok_t_sums_ys ok_t_sums_zs ok_v1 ok_v2 ok_v3 hs
  rw [FA_id hf] at hg
  exact Ct_of [some (.ref a_t), some (vI v1), some (vI v2), some (vI v3), none, none, none, none, none, none, none, none] ⟨by decide +kernel, rfl⟩ rfl (Nat.le_of_ble_eq_true rfl) hg

/-! ===== X9_groupOf ===== -/
theorem e_X9_groupOf_0 : DC cX9_groupOf 0 (.iload_n 1) 1 1 := ⟨by decide +kernel, rfl⟩
theorem e_X9_groupOf_1 : DC cX9_groupOf 1 (.iconst 0) 1 2 := ⟨by decide +kernel, rfl⟩
theorem e_X9_groupOf_2 : DC cX9_groupOf 2 (.aload_n 0) 1 3 := ⟨by decide +kernel, rfl⟩
theorem e_X9_groupOf_3 : DC cX9_groupOf 3 (.getfield 137) 3 6 := ⟨by decide +kernel, rfl⟩
theorem e_X9_groupOf_6 : DC cX9_groupOf 6 (.iconst 1) 1 7 := ⟨by decide +kernel, rfl⟩
theorem e_X9_groupOf_7 : DC cX9_groupOf 7 (.isub) 1 8 := ⟨by decide +kernel, rfl⟩
theorem e_X9_groupOf_8 : DC cX9_groupOf 8 (.invokestatic 56) 3 11 := ⟨by decide +kernel, rfl⟩
theorem e_X9_groupOf_11 : DB cX9_groupOf 11 (.ifCond .eq 12) (12) 3 14 23 := ⟨by decide +kernel, rfl, rfl⟩
theorem e_X9_groupOf_14 : DC cX9_groupOf 14 (.aload_n 0) 1 15 := ⟨by decide +kernel, rfl⟩
theorem e_X9_groupOf_15 : DC cX9_groupOf 15 (.getfield 37) 3 18 := ⟨by decide +kernel, rfl⟩
theorem e_X9_groupOf_18 : DC cX9_groupOf 18 (.iload_n 1) 1 19 := ⟨by decide +kernel, rfl⟩
theorem e_X9_groupOf_19 : DC cX9_groupOf 19 (.iaload) 1 20 := ⟨by decide +kernel, rfl⟩
theorem e_X9_groupOf_20 : DB cX9_groupOf 20 (.goto 4) (4) 3 23 24 := ⟨by decide +kernel, rfl, rfl⟩
theorem e_X9_groupOf_23 : DC cX9_groupOf 23 (.iconst (-1)) 1 24 := ⟨by decide +kernel, rfl⟩
theorem e_X9_groupOf_24 : DC cX9_groupOf 24 (.ireturn) 1 25 := ⟨by decide +kernel, rfl⟩
noncomputable def m_X9_groupOf_0 (t_groupMany : Int) (t_groups : Nat → Int) (v1 : Int) : Option (Int) :=
  chk (inI (t_groupMany - 1)) ((m_X10_within v1 0 (t_groupMany - 1)).bind (fun y2 => if y2 = 0 then (some ((-1))) else (chk (inB v1 8) (some (t_groups (Int.toNat v1))))))

set_option maxRecDepth 10000 in
theorem g_X9_groupOf_0 {l : Launch} {E : EE} {b0 n : Nat} {h : AH} {a_t : Nat} {t_knotMany t_thereMany t_groupMany v1 : Int} {t_groups : Nat → Int} {r : Int} (ao : AO b0 n [a_t, (a_t + 10)]) (ok_t_groupMany : inI t_groupMany) (ok_t_groups : okA t_groups) (ok_v1 : inI v1) (hs : m_X9_groupOf_0 t_groupMany t_groups v1 = some r) : G l E b0 M_X9_groupOf (fun _ => True) (ZM E b0 (some (vI r)) (ov [a_t, (a_t + 10)] [.inr (9, fsX9 a_t t_knotMany t_thereMany t_groupMany), IA E 8 t_groups] h) n (inI r) 0 0) 0 0 n (ov [a_t, (a_t + 10)] [.inr (9, fsX9 a_t t_knotMany t_thereMany t_groupMany), IA E 8 t_groups] h) 0 [some (.ref a_t), some (vI v1)] [] := by
  rw [m_X9_groupOf_0] at hs
  refine g_iload_n e_X9_groupOf_0 rfl ?_
  refine g_iconst e_X9_groupOf_1 ?_
  refine g_aload_n e_X9_groupOf_2 rfl ?_
  refine g_get 0 13 ao rfl rfl fsX9_g13 fl_X9_137 e_X9_groupOf_3 ?_
  refine g_iconst e_X9_groupOf_6 ?_
  refine g_isub e_X9_groupOf_7 ?_
  obtain ⟨hc1, hs⟩ := chk_elim hs
  obtain ⟨y2, hy2, hs⟩ := bind_elim hs
  refine g_callSr [vI v1, vI 0, vI (t_groupMany - 1)] cs_X9_56 ⟨rfl, rfl, Nat.le_of_ble_eq_true rfl, Nat.le_of_ble_eq_true rfl⟩ (ct_X10_within ⟨List.nodup_nil, fun i a h => by simp at h⟩ (fun i a e h => by simp at h) ok_v1 (by decide : inI 0) hc1 hy2) e_X9_groupOf_8 rfl rfl (Nat.le_of_ble_eq_true rfl) ⟨Nat.le_refl _, Nat.le_refl _⟩ (fun Py2 => ?_)
  refine g_if_eq e_X9_groupOf_11 (inZ_I Py2) hs (fun c11 hs => ?_) (fun c11 hs => ?_)
  · refine g_iconst e_X9_groupOf_23 ?_
    obtain rfl := Option.some.inj hs
    exact g_iret rfl (by decide : inI (-1)) e_X9_groupOf_24
  · refine g_aload_n e_X9_groupOf_14 rfl ?_
    refine g_get 0 8 ao rfl rfl fsX9_g8 fl_X9_37 e_X9_groupOf_15 ?_
    refine g_iload_n e_X9_groupOf_18 rfl ?_
    refine g_iald 1 ao rfl rfl (Nat.le_of_ble_eq_true rfl) e_X9_groupOf_19 hs (fun hi3 hs => ?_)
    refine g_goto e_X9_groupOf_20 ?_
    obtain rfl := Option.some.inj hs
    exact g_iret rfl (ok_t_groups _) e_X9_groupOf_24

noncomputable def m_X9_groupOf (t_groupMany : Int) (t_groups : Nat → Int) (v1 : Int) : Option (Int) := m_X9_groupOf_0 t_groupMany t_groups v1

set_option maxRecDepth 10000 in
theorem ct_X9_groupOf {l : Launch} {E : EE} {b0 n : Nat} {h : AH} {a_t : Nat} {t_knotMany t_thereMany t_groupMany : Int} {t_groups : Nat → Int} {v1 : Int} (ao : AO b0 n [a_t, (a_t + 10)]) (hf : FA h [a_t, (a_t + 10)] [.inr (9, fsX9 a_t t_knotMany t_thereMany t_groupMany), IA E 8 t_groups]) (ok_t_groupMany : inI t_groupMany) (ok_t_groups : okA t_groups) (ok_v1 : inI v1) {r : Int} (hm : m_X9_groupOf t_groupMany t_groups v1 = some r) : Ct l E b0 M_X9_groupOf 0 0 [.ref a_t, vI v1] h n (some (vI r)) h n (inI r) := by
  rw [m_X9_groupOf] at hm
  have hg : G l E b0 M_X9_groupOf (fun _ => True) (ZM E b0 (some (vI r)) (ov [a_t, (a_t + 10)] [.inr (9, fsX9 a_t t_knotMany t_thereMany t_groupMany), IA E 8 t_groups] h) n (inI r) 0 0) 0 0 n (ov [a_t, (a_t + 10)] [.inr (9, fsX9 a_t t_knotMany t_thereMany t_groupMany), IA E 8 t_groups] h) 0 [some (.ref a_t), some (vI v1)] [] := by
    have hs := hm
    exact g_X9_groupOf_0 ao ok_t_groupMany ok_t_groups ok_v1 hs
  rw [FA_id hf] at hg
  exact Ct_of [some (.ref a_t), some (vI v1)] ⟨by decide +kernel, rfl⟩ rfl (Nat.le_of_ble_eq_true rfl) hg

/-! ===== X9_isStepPart ===== -/
theorem e_X9_isStepPart_0 : DC cX9_isStepPart 0 (.iload_n 0) 1 1 := ⟨by decide +kernel, rfl⟩
theorem e_X9_isStepPart_1 : DC cX9_isStepPart 1 (.bipush (-99)) 2 3 := ⟨by decide +kernel, rfl⟩
theorem e_X9_isStepPart_3 : DC cX9_isStepPart 3 (.bipush 99) 2 5 := ⟨by decide +kernel, rfl⟩
theorem e_X9_isStepPart_5 : DC cX9_isStepPart 5 (.invokestatic 56) 3 8 := ⟨by decide +kernel, rfl⟩
theorem e_X9_isStepPart_8 : DC cX9_isStepPart 8 (.ireturn) 1 9 := ⟨by decide +kernel, rfl⟩
noncomputable def m_X9_isStepPart_0 (v0 : Int) : Option (Int) :=
  (m_X10_within v0 (-99) 99).bind (fun y1 => some (y1))

set_option maxRecDepth 10000 in
theorem g_X9_isStepPart_0 {l : Launch} {E : EE} {b0 n : Nat} {h : AH} {v0 : Int} {r : Int} (ao : AO b0 n []) (ok_v0 : inI v0) (hs : m_X9_isStepPart_0 v0 = some r) : G l E b0 M_X9_isStepPart (fun _ => True) (ZM E b0 (some (vI r)) (ov [] [] h) n (inZ r) 0 0) 0 0 n (ov [] [] h) 0 [some (vI v0)] [] := by
  rw [m_X9_isStepPart_0] at hs
  refine g_iload_n e_X9_isStepPart_0 rfl ?_
  refine g_bipush e_X9_isStepPart_1 bp_m99 ?_
  refine g_bipush e_X9_isStepPart_3 bp_99 ?_
  obtain ⟨y1, hy1, hs⟩ := bind_elim hs
  refine g_callSr [vI v0, vI (-99), vI 99] cs_X9_56 ⟨rfl, rfl, Nat.le_of_ble_eq_true rfl, Nat.le_of_ble_eq_true rfl⟩ (ct_X10_within ⟨List.nodup_nil, fun i a h => by simp at h⟩ (fun i a e h => by simp at h) ok_v0 (by decide : inI (-99)) (by decide : inI 99) hy1) e_X9_isStepPart_5 rfl rfl (Nat.le_of_ble_eq_true rfl) ⟨Nat.le_refl _, Nat.le_refl _⟩ (fun Py1 => ?_)
  obtain rfl := Option.some.inj hs
  exact g_zret rfl Py1 Py1 e_X9_isStepPart_8

noncomputable def m_X9_isStepPart (v0 : Int) : Option (Int) := m_X9_isStepPart_0 v0

set_option maxRecDepth 10000 in
theorem ct_X9_isStepPart {l : Launch} {E : EE} {b0 n : Nat} {h : AH} {v0 : Int} (ao : AO b0 n []) (hf : FA h [] []) (ok_v0 : inI v0) {r : Int} (hm : m_X9_isStepPart v0 = some r) : Ct l E b0 M_X9_isStepPart 0 0 [vI v0] h n (some (vI r)) h n (inZ r) := by
  rw [m_X9_isStepPart] at hm
  have hg : G l E b0 M_X9_isStepPart (fun _ => True) (ZM E b0 (some (vI r)) (ov [] [] h) n (inZ r) 0 0) 0 0 n (ov [] [] h) 0 [some (vI v0)] [] := by
    have hs := hm
    exact g_X9_isStepPart_0 ao ok_v0 hs
  rw [FA_id hf] at hg
  exact Ct_of [some (vI v0)] ⟨by decide +kernel, rfl⟩ rfl (Nat.le_of_ble_eq_true rfl) hg

/-! ===== X9_newLine ===== -/
theorem e_X9_newLine_0 : DC cX9_newLine 0 (.aload_n 0) 1 1 := ⟨by decide +kernel, rfl⟩
theorem e_X9_newLine_1 : DC cX9_newLine 1 (.getfield 27) 3 4 := ⟨by decide +kernel, rfl⟩
theorem e_X9_newLine_4 : DC cX9_newLine 4 (.invokevirtual 64) 3 7 := ⟨by decide +kernel, rfl⟩
theorem e_X9_newLine_7 : DB cX9_newLine 7 (.ifCond .ne 24) (24) 3 10 31 := ⟨by decide +kernel, rfl, rfl⟩
theorem e_X9_newLine_10 : DC cX9_newLine 10 (.aload_n 0) 1 11 := ⟨by decide +kernel, rfl⟩
theorem e_X9_newLine_11 : DC cX9_newLine 11 (.iload_n 1) 1 12 := ⟨by decide +kernel, rfl⟩
theorem e_X9_newLine_12 : DC cX9_newLine 12 (.invokevirtual 68) 3 15 := ⟨by decide +kernel, rfl⟩
theorem e_X9_newLine_15 : DB cX9_newLine 15 (.ifCond .eq 16) (16) 3 18 31 := ⟨by decide +kernel, rfl, rfl⟩
theorem e_X9_newLine_18 : DC cX9_newLine 18 (.aload_n 0) 1 19 := ⟨by decide +kernel, rfl⟩
theorem e_X9_newLine_19 : DC cX9_newLine 19 (.iload_n 2) 1 20 := ⟨by decide +kernel, rfl⟩
theorem e_X9_newLine_20 : DC cX9_newLine 20 (.invokevirtual 68) 3 23 := ⟨by decide +kernel, rfl⟩
theorem e_X9_newLine_23 : DB cX9_newLine 23 (.ifCond .eq 8) (8) 3 26 31 := ⟨by decide +kernel, rfl, rfl⟩
theorem e_X9_newLine_26 : DC cX9_newLine 26 (.iload_n 1) 1 27 := ⟨by decide +kernel, rfl⟩
theorem e_X9_newLine_27 : DC cX9_newLine 27 (.iload_n 2) 1 28 := ⟨by decide +kernel, rfl⟩
theorem e_X9_newLine_28 : DB cX9_newLine 28 (.if_icmp .ne 5) (5) 3 31 33 := ⟨by decide +kernel, rfl, rfl⟩
theorem e_X9_newLine_31 : DC cX9_newLine 31 (.iconst (-1)) 1 32 := ⟨by decide +kernel, rfl⟩
theorem e_X9_newLine_32 : DC cX9_newLine 32 (.ireturn) 1 33 := ⟨by decide +kernel, rfl⟩
theorem e_X9_newLine_33 : DC cX9_newLine 33 (.iload_n 3) 1 34 := ⟨by decide +kernel, rfl⟩
theorem e_X9_newLine_34 : DC cX9_newLine 34 (.invokestatic 71) 3 37 := ⟨by decide +kernel, rfl⟩
theorem e_X9_newLine_37 : DB cX9_newLine 37 (.ifCond .eq 33) (33) 3 40 70 := ⟨by decide +kernel, rfl, rfl⟩
theorem e_X9_newLine_40 : DC cX9_newLine 40 (.iload 4) 2 42 := ⟨by decide +kernel, rfl⟩
theorem e_X9_newLine_42 : DC cX9_newLine 42 (.invokestatic 71) 3 45 := ⟨by decide +kernel, rfl⟩
theorem e_X9_newLine_45 : DB cX9_newLine 45 (.ifCond .eq 25) (25) 3 48 70 := ⟨by decide +kernel, rfl, rfl⟩
theorem e_X9_newLine_48 : DC cX9_newLine 48 (.iload 5) 2 50 := ⟨by decide +kernel, rfl⟩
theorem e_X9_newLine_50 : DC cX9_newLine 50 (.invokestatic 71) 3 53 := ⟨by decide +kernel, rfl⟩
theorem e_X9_newLine_53 : DB cX9_newLine 53 (.ifCond .eq 17) (17) 3 56 70 := ⟨by decide +kernel, rfl, rfl⟩
theorem e_X9_newLine_56 : DC cX9_newLine 56 (.iload_n 3) 1 57 := ⟨by decide +kernel, rfl⟩
theorem e_X9_newLine_57 : DB cX9_newLine 57 (.ifCond .ne 15) (15) 3 60 72 := ⟨by decide +kernel, rfl, rfl⟩
theorem e_X9_newLine_60 : DC cX9_newLine 60 (.iload 4) 2 62 := ⟨by decide +kernel, rfl⟩
theorem e_X9_newLine_62 : DB cX9_newLine 62 (.ifCond .ne 10) (10) 3 65 72 := ⟨by decide +kernel, rfl, rfl⟩
theorem e_X9_newLine_65 : DC cX9_newLine 65 (.iload 5) 2 67 := ⟨by decide +kernel, rfl⟩
theorem e_X9_newLine_67 : DB cX9_newLine 67 (.ifCond .ne 5) (5) 3 70 72 := ⟨by decide +kernel, rfl, rfl⟩
theorem e_X9_newLine_70 : DC cX9_newLine 70 (.iconst (-1)) 1 71 := ⟨by decide +kernel, rfl⟩
theorem e_X9_newLine_71 : DC cX9_newLine 71 (.ireturn) 1 72 := ⟨by decide +kernel, rfl⟩
theorem e_X9_newLine_72 : DC cX9_newLine 72 (.aload_n 0) 1 73 := ⟨by decide +kernel, rfl⟩
theorem e_X9_newLine_73 : DC cX9_newLine 73 (.getfield 27) 3 76 := ⟨by decide +kernel, rfl⟩
theorem e_X9_newLine_76 : DC cX9_newLine 76 (.getfield 74) 3 79 := ⟨by decide +kernel, rfl⟩
theorem e_X9_newLine_79 : DC cX9_newLine 79 (.istore 6) 2 81 := ⟨by decide +kernel, rfl⟩
theorem e_X9_newLine_81 : DC cX9_newLine 81 (.aload_n 0) 1 82 := ⟨by decide +kernel, rfl⟩
theorem e_X9_newLine_82 : DC cX9_newLine 82 (.getfield 27) 3 85 := ⟨by decide +kernel, rfl⟩
theorem e_X9_newLine_85 : DC cX9_newLine 85 (.iload_n 3) 1 86 := ⟨by decide +kernel, rfl⟩
theorem e_X9_newLine_86 : DC cX9_newLine 86 (.iload 4) 2 88 := ⟨by decide +kernel, rfl⟩
theorem e_X9_newLine_88 : DC cX9_newLine 88 (.iload 5) 2 90 := ⟨by decide +kernel, rfl⟩
theorem e_X9_newLine_90 : DC cX9_newLine 90 (.invokevirtual 77) 3 93 := ⟨by decide +kernel, rfl⟩
theorem e_X9_newLine_93 : DC cX9_newLine 93 (.aload_n 0) 1 94 := ⟨by decide +kernel, rfl⟩
theorem e_X9_newLine_94 : DC cX9_newLine 94 (.getfield 15) 3 97 := ⟨by decide +kernel, rfl⟩
theorem e_X9_newLine_97 : DC cX9_newLine 97 (.iload 6) 2 99 := ⟨by decide +kernel, rfl⟩
theorem e_X9_newLine_99 : DC cX9_newLine 99 (.iload_n 1) 1 100 := ⟨by decide +kernel, rfl⟩
theorem e_X9_newLine_100 : DC cX9_newLine 100 (.iastore) 1 101 := ⟨by decide +kernel, rfl⟩
theorem e_X9_newLine_101 : DC cX9_newLine 101 (.aload_n 0) 1 102 := ⟨by decide +kernel, rfl⟩
theorem e_X9_newLine_102 : DC cX9_newLine 102 (.getfield 19) 3 105 := ⟨by decide +kernel, rfl⟩
theorem e_X9_newLine_105 : DC cX9_newLine 105 (.iload 6) 2 107 := ⟨by decide +kernel, rfl⟩
theorem e_X9_newLine_107 : DC cX9_newLine 107 (.iload_n 2) 1 108 := ⟨by decide +kernel, rfl⟩
theorem e_X9_newLine_108 : DC cX9_newLine 108 (.iastore) 1 109 := ⟨by decide +kernel, rfl⟩
theorem e_X9_newLine_109 : DC cX9_newLine 109 (.aload_n 0) 1 110 := ⟨by decide +kernel, rfl⟩
theorem e_X9_newLine_110 : DC cX9_newLine 110 (.getfield 31) 3 113 := ⟨by decide +kernel, rfl⟩
theorem e_X9_newLine_113 : DC cX9_newLine 113 (.iload 6) 2 115 := ⟨by decide +kernel, rfl⟩
theorem e_X9_newLine_115 : DC cX9_newLine 115 (.iconst 1) 1 116 := ⟨by decide +kernel, rfl⟩
theorem e_X9_newLine_116 : DC cX9_newLine 116 (.bastore) 1 117 := ⟨by decide +kernel, rfl⟩
theorem e_X9_newLine_117 : DC cX9_newLine 117 (.aload_n 0) 1 118 := ⟨by decide +kernel, rfl⟩
theorem e_X9_newLine_118 : DC cX9_newLine 118 (.dup) 1 119 := ⟨by decide +kernel, rfl⟩
theorem e_X9_newLine_119 : DC cX9_newLine 119 (.getfield 81) 3 122 := ⟨by decide +kernel, rfl⟩
theorem e_X9_newLine_122 : DC cX9_newLine 122 (.iconst 1) 1 123 := ⟨by decide +kernel, rfl⟩
theorem e_X9_newLine_123 : DC cX9_newLine 123 (.iadd) 1 124 := ⟨by decide +kernel, rfl⟩
theorem e_X9_newLine_124 : DC cX9_newLine 124 (.putfield 81) 3 127 := ⟨by decide +kernel, rfl⟩
theorem e_X9_newLine_127 : DC cX9_newLine 127 (.iload 6) 2 129 := ⟨by decide +kernel, rfl⟩
theorem e_X9_newLine_129 : DC cX9_newLine 129 (.ireturn) 1 130 := ⟨by decide +kernel, rfl⟩
noncomputable def m_X9_newLine_72 (t_thereMany : Int) (t_froms : Nat → Int) (t_tos : Nat → Int) (t_steps_many : Int) (t_steps_xs : Nat → Int) (t_steps_ys : Nat → Int) (t_steps_zs : Nat → Int) (t_there : Nat → Int) (v1 : Int) (v2 : Int) (v3 : Int) (v4 : Int) (v5 : Int) : Option (Int × Int × (Nat → Int) × (Nat → Int) × Int × (Nat → Int) × (Nat → Int) × (Nat → Int) × (Nat → Int)) :=
  (m_X8_append 120 t_steps_many t_steps_xs t_steps_ys t_steps_zs v3 v4 v5).bind (fun y7 => chk (inB t_steps_many 120) (chk (inB t_steps_many 120) (chk (inB t_steps_many 120) (chk (inI (t_thereMany + 1)) (some (t_steps_many, t_thereMany + 1, up t_froms (Int.toNat t_steps_many) v1, up t_tos (Int.toNat t_steps_many) v2, y7.1, y7.2.1, y7.2.2.1, y7.2.2.2, up t_there (Int.toNat t_steps_many) 1))))))

set_option maxRecDepth 10000 in
theorem g_X9_newLine_72 {l : Launch} {E : EE} {b0 n : Nat} {h : AH} {a_t : Nat} {t_knotMany t_thereMany t_groupMany t_steps_many v1 v2 v3 v4 v5 : Int} {t_froms t_tos t_steps_xs t_steps_ys t_steps_zs t_there : Nat → Int} {r : Int × Int × (Nat → Int) × (Nat → Int) × Int × (Nat → Int) × (Nat → Int) × (Nat → Int) × (Nat → Int)} (ao : AO b0 n [a_t, (a_t + 2), (a_t + 3), (a_t + 4), (a_t + 5), (a_t + 6), (a_t + 7), (a_t + 8)]) (ok_t_knotMany : inI t_knotMany) (ok_t_thereMany : inI t_thereMany) (ok_t_froms : okA t_froms) (ok_t_tos : okA t_tos) (ok_t_steps_many : inI t_steps_many) (ok_t_steps_xs : okA t_steps_xs) (ok_t_steps_ys : okA t_steps_ys) (ok_t_steps_zs : okA t_steps_zs) (ok_t_there : okZ t_there) (ok_v1 : inI v1) (ok_v2 : inI v2) (ok_v3 : inI v3) (ok_v4 : inI v4) (ok_v5 : inI v5) (hs : m_X9_newLine_72 t_thereMany t_froms t_tos t_steps_many t_steps_xs t_steps_ys t_steps_zs t_there v1 v2 v3 v4 v5 = some r) : G l E b0 M_X9_newLine (fun _ => True) (ZM E b0 (some (vI r.1)) (ov [a_t, (a_t + 2), (a_t + 3), (a_t + 4), (a_t + 5), (a_t + 6), (a_t + 7), (a_t + 8)] [.inr (9, fsX9 a_t t_knotMany r.2.1 t_groupMany), IA E 120 r.2.2.1, IA E 120 r.2.2.2.1, .inr (8, fsX8 (a_t + 4) r.2.2.2.2.1), IA E 120 r.2.2.2.2.2.1, IA E 120 r.2.2.2.2.2.2.1, IA E 120 r.2.2.2.2.2.2.2.1, ZA E 120 r.2.2.2.2.2.2.2.2] h) n (inI r.1 ∧ inI r.2.1 ∧ okA r.2.2.1 ∧ okA r.2.2.2.1 ∧ inI r.2.2.2.2.1 ∧ okA r.2.2.2.2.2.1 ∧ okA r.2.2.2.2.2.2.1 ∧ okA r.2.2.2.2.2.2.2.1 ∧ okZ r.2.2.2.2.2.2.2.2) 0 0) 0 0 n (ov [a_t, (a_t + 2), (a_t + 3), (a_t + 4), (a_t + 5), (a_t + 6), (a_t + 7), (a_t + 8)] [.inr (9, fsX9 a_t t_knotMany t_thereMany t_groupMany), IA E 120 t_froms, IA E 120 t_tos, .inr (8, fsX8 (a_t + 4) t_steps_many), IA E 120 t_steps_xs, IA E 120 t_steps_ys, IA E 120 t_steps_zs, ZA E 120 t_there] h) 72 [some (.ref a_t), some (vI v1), some (vI v2), some (vI v3), some (vI v4), some (vI v5), none] [] := by
  rw [m_X9_newLine_72] at hs
  refine g_aload_n e_X9_newLine_72 rfl ?_
  refine g_get 0 3 ao rfl rfl fsX9_g3 fl_X9_27 e_X9_newLine_73 ?_
  refine g_get 3 3 ao rfl rfl fsX8_g3 fl_X9_74 e_X9_newLine_76 ?_
  refine g_istore e_X9_newLine_79 st1_6 rfl ?_
  refine g_aload_n e_X9_newLine_81 rfl ?_
  refine g_get 0 3 ao rfl rfl fsX9_g3 fl_X9_27 e_X9_newLine_82 ?_
  refine g_iload_n e_X9_newLine_85 rfl ?_
  refine g_iload e_X9_newLine_86 rfl ?_
  refine g_iload e_X9_newLine_88 rfl ?_
  obtain ⟨y7, hy7, hs⟩ := bind_elim hs
  refine g_callVv [vI v3, vI v4, vI v5] cv_X9_77 ⟨rfl, rfl, Nat.le_of_ble_eq_true rfl, Nat.le_of_ble_eq_true rfl⟩ (Ct_heap (ct_X8_append (AO_call [3, 4, 5, 6] ao (by decide) rfl) (by omega) (FA_call [3, 4, 5, 6] ao.1 rfl rfl) ok_t_steps_many ok_t_steps_xs ok_t_steps_ys ok_t_steps_zs ok_v3 ok_v4 ok_v5 hy7) (ov_call (esn := [.inr (9, fsX9 a_t t_knotMany t_thereMany t_groupMany), IA E 120 t_froms, IA E 120 t_tos, .inr (8, fsX8 (a_t + 4) y7.1), IA E 120 y7.2.1, IA E 120 y7.2.2.1, IA E 120 y7.2.2.2, ZA E 120 t_there]) [3, 4, 5, 6] ao.1 rfl rfl rfl rfl)) e_X9_newLine_90 (ao.2 3 _ rfl) (ov_get 3 ao.1 rfl rfl) rfl rfl rfl (Nat.le_of_ble_eq_true rfl) ⟨Nat.le_refl _, Nat.le_refl _⟩ (fun Py7 => ?_)
  refine g_aload_n e_X9_newLine_93 rfl ?_
  refine g_get 0 1 ao rfl rfl fsX9_g1 fl_X9_15 e_X9_newLine_94 ?_
  refine g_iload e_X9_newLine_97 rfl ?_
  refine g_iload_n e_X9_newLine_99 rfl ?_
  refine g_iast 1 ao rfl rfl ls_1 (Nat.le_of_ble_eq_true rfl) e_X9_newLine_100 hs (fun hi8 hs => ?_)
  refine g_aload_n e_X9_newLine_101 rfl ?_
  refine g_get 0 2 ao rfl rfl fsX9_g2 fl_X9_19 e_X9_newLine_102 ?_
  refine g_iload e_X9_newLine_105 rfl ?_
  refine g_iload_n e_X9_newLine_107 rfl ?_
  refine g_iast 2 ao rfl rfl ls_2 (Nat.le_of_ble_eq_true rfl) e_X9_newLine_108 hs (fun hi9 hs => ?_)
  refine g_aload_n e_X9_newLine_109 rfl ?_
  refine g_get 0 4 ao rfl rfl fsX9_g4 fl_X9_31 e_X9_newLine_110 ?_
  refine g_iload e_X9_newLine_113 rfl ?_
  refine g_iconst e_X9_newLine_115 ?_
  refine g_zast 7 ao rfl rfl ls_7 (Nat.le_of_ble_eq_true rfl) (by decide : inZ 1) e_X9_newLine_116 hs (fun hi10 hs => ?_)
  refine g_aload_n e_X9_newLine_117 rfl ?_
  refine g_dup e_X9_newLine_118 rfl ?_
  refine g_get 0 6 ao rfl rfl fsX9_g6 fl_X9_81 e_X9_newLine_119 ?_
  refine g_iconst e_X9_newLine_122 ?_
  refine g_iadd e_X9_newLine_123 ?_
  obtain ⟨hc11, hs⟩ := chk_elim hs
  refine g_put 0 6 ao rfl rfl fsX9_k6 fsX9_s6 ls_0 fw_X9_81 (fun h => by cases h) ⟨rfl, rfl⟩ e_X9_newLine_124 ?_
  refine g_iload e_X9_newLine_127 rfl ?_
  obtain rfl := Option.some.inj hs
  exact g_iret rfl ⟨ok_t_steps_many, hc11, (okA_up ok_t_froms ok_v1), (okA_up ok_t_tos ok_v2), Py7.1, Py7.2.1, Py7.2.2.1, Py7.2.2.2, (okZ_up ok_t_there (by decide : inZ 1))⟩ e_X9_newLine_129

noncomputable def m_X9_newLine_0 (t_knotMany : Int) (t_thereMany : Int) (t_froms : Nat → Int) (t_tos : Nat → Int) (t_steps_many : Int) (t_steps_xs : Nat → Int) (t_steps_ys : Nat → Int) (t_steps_zs : Nat → Int) (t_there : Nat → Int) (v1 : Int) (v2 : Int) (v3 : Int) (v4 : Int) (v5 : Int) : Option (Int × Int × (Nat → Int) × (Nat → Int) × Int × (Nat → Int) × (Nat → Int) × (Nat → Int) × (Nat → Int)) :=
  (m_X8_isFull 120 t_steps_many).bind (fun y1 => if y1 = 0 then ((m_X9_isKnot t_knotMany v1).bind (fun y2 => if y2 = 0 then (some ((-1), t_thereMany, t_froms, t_tos, t_steps_many, t_steps_xs, t_steps_ys, t_steps_zs, t_there)) else ((m_X9_isKnot t_knotMany v2).bind (fun y3 => if y3 = 0 then (some ((-1), t_thereMany, t_froms, t_tos, t_steps_many, t_steps_xs, t_steps_ys, t_steps_zs, t_there)) else (if v1 = v2 then (some ((-1), t_thereMany, t_froms, t_tos, t_steps_many, t_steps_xs, t_steps_ys, t_steps_zs, t_there)) else ((m_X9_isStepPart v3).bind (fun y4 => if y4 = 0 then (some ((-1), t_thereMany, t_froms, t_tos, t_steps_many, t_steps_xs, t_steps_ys, t_steps_zs, t_there)) else ((m_X9_isStepPart v4).bind (fun y5 => if y5 = 0 then (some ((-1), t_thereMany, t_froms, t_tos, t_steps_many, t_steps_xs, t_steps_ys, t_steps_zs, t_there)) else ((m_X9_isStepPart v5).bind (fun y6 => if y6 = 0 then (some ((-1), t_thereMany, t_froms, t_tos, t_steps_many, t_steps_xs, t_steps_ys, t_steps_zs, t_there)) else (if v3 = 0 then (if v4 = 0 then (if v5 = 0 then (some ((-1), t_thereMany, t_froms, t_tos, t_steps_many, t_steps_xs, t_steps_ys, t_steps_zs, t_there)) else (m_X9_newLine_72 t_thereMany t_froms t_tos t_steps_many t_steps_xs t_steps_ys t_steps_zs t_there v1 v2 v3 v4 v5)) else (m_X9_newLine_72 t_thereMany t_froms t_tos t_steps_many t_steps_xs t_steps_ys t_steps_zs t_there v1 v2 v3 v4 v5)) else (m_X9_newLine_72 t_thereMany t_froms t_tos t_steps_many t_steps_xs t_steps_ys t_steps_zs t_there v1 v2 v3 v4 v5))))))))))))) else (some ((-1), t_thereMany, t_froms, t_tos, t_steps_many, t_steps_xs, t_steps_ys, t_steps_zs, t_there)))

set_option maxRecDepth 10000 in
theorem g_X9_newLine_0 {l : Launch} {E : EE} {b0 n : Nat} {h : AH} {a_t : Nat} {t_knotMany t_thereMany t_groupMany t_steps_many v1 v2 v3 v4 v5 : Int} {t_froms t_tos t_steps_xs t_steps_ys t_steps_zs t_there : Nat → Int} {r : Int × Int × (Nat → Int) × (Nat → Int) × Int × (Nat → Int) × (Nat → Int) × (Nat → Int) × (Nat → Int)} (ao : AO b0 n [a_t, (a_t + 2), (a_t + 3), (a_t + 4), (a_t + 5), (a_t + 6), (a_t + 7), (a_t + 8)]) (ok_t_knotMany : inI t_knotMany) (ok_t_thereMany : inI t_thereMany) (ok_t_froms : okA t_froms) (ok_t_tos : okA t_tos) (ok_t_steps_many : inI t_steps_many) (ok_t_steps_xs : okA t_steps_xs) (ok_t_steps_ys : okA t_steps_ys) (ok_t_steps_zs : okA t_steps_zs) (ok_t_there : okZ t_there) (ok_v1 : inI v1) (ok_v2 : inI v2) (ok_v3 : inI v3) (ok_v4 : inI v4) (ok_v5 : inI v5) (hs : m_X9_newLine_0 t_knotMany t_thereMany t_froms t_tos t_steps_many t_steps_xs t_steps_ys t_steps_zs t_there v1 v2 v3 v4 v5 = some r) : G l E b0 M_X9_newLine (fun _ => True) (ZM E b0 (some (vI r.1)) (ov [a_t, (a_t + 2), (a_t + 3), (a_t + 4), (a_t + 5), (a_t + 6), (a_t + 7), (a_t + 8)] [.inr (9, fsX9 a_t t_knotMany r.2.1 t_groupMany), IA E 120 r.2.2.1, IA E 120 r.2.2.2.1, .inr (8, fsX8 (a_t + 4) r.2.2.2.2.1), IA E 120 r.2.2.2.2.2.1, IA E 120 r.2.2.2.2.2.2.1, IA E 120 r.2.2.2.2.2.2.2.1, ZA E 120 r.2.2.2.2.2.2.2.2] h) n (inI r.1 ∧ inI r.2.1 ∧ okA r.2.2.1 ∧ okA r.2.2.2.1 ∧ inI r.2.2.2.2.1 ∧ okA r.2.2.2.2.2.1 ∧ okA r.2.2.2.2.2.2.1 ∧ okA r.2.2.2.2.2.2.2.1 ∧ okZ r.2.2.2.2.2.2.2.2) 0 0) 0 0 n (ov [a_t, (a_t + 2), (a_t + 3), (a_t + 4), (a_t + 5), (a_t + 6), (a_t + 7), (a_t + 8)] [.inr (9, fsX9 a_t t_knotMany t_thereMany t_groupMany), IA E 120 t_froms, IA E 120 t_tos, .inr (8, fsX8 (a_t + 4) t_steps_many), IA E 120 t_steps_xs, IA E 120 t_steps_ys, IA E 120 t_steps_zs, ZA E 120 t_there] h) 0 [some (.ref a_t), some (vI v1), some (vI v2), some (vI v3), some (vI v4), some (vI v5), none] [] := by
  rw [m_X9_newLine_0] at hs
  refine g_aload_n e_X9_newLine_0 rfl ?_
  refine g_get 0 3 ao rfl rfl fsX9_g3 fl_X9_27 e_X9_newLine_1 ?_
  obtain ⟨y1, hy1, hs⟩ := bind_elim hs
  refine g_callVr [] cv_X9_64 ⟨rfl, rfl, Nat.le_of_ble_eq_true rfl, Nat.le_of_ble_eq_true rfl⟩ (ct_X8_isFull (AO_call [3, 4] ao (by decide) rfl) (by omega) (FA_call [3, 4] ao.1 rfl rfl) ok_t_steps_many hy1) e_X9_newLine_4 (ao.2 3 _ rfl) (ov_get 3 ao.1 rfl rfl) rfl rfl rfl (Nat.le_of_ble_eq_true rfl) ⟨Nat.le_refl _, Nat.le_refl _⟩ (fun Py1 => ?_)
  refine g_if_ne e_X9_newLine_7 (inZ_I Py1) hs (fun c7 hs => ?_) (fun c7 hs => ?_)
  · refine g_aload_n e_X9_newLine_10 rfl ?_
    refine g_iload_n e_X9_newLine_11 rfl ?_
    obtain ⟨y2, hy2, hs⟩ := bind_elim hs
    refine g_callVr [vI v1] cv_X9_68 ⟨rfl, rfl, Nat.le_of_ble_eq_true rfl, Nat.le_of_ble_eq_true rfl⟩ (ct_X9_isKnot (AO_call [0] ao (by decide) rfl) (FA_call [0] ao.1 rfl rfl) ok_t_knotMany ok_v1 hy2) e_X9_newLine_12 (ao.2 0 _ rfl) (ov_get 0 ao.1 rfl rfl) rfl rfl rfl (Nat.le_of_ble_eq_true rfl) ⟨Nat.le_refl _, Nat.le_refl _⟩ (fun Py2 => ?_)
    refine g_if_eq e_X9_newLine_15 (inZ_I Py2) hs (fun c15 hs => ?_) (fun c15 hs => ?_)
    · refine g_iconst e_X9_newLine_31 ?_
      obtain rfl := Option.some.inj hs
      exact g_iret rfl ⟨(by decide : inI (-1)), ok_t_thereMany, ok_t_froms, ok_t_tos, ok_t_steps_many, ok_t_steps_xs, ok_t_steps_ys, ok_t_steps_zs, ok_t_there⟩ e_X9_newLine_32
    · refine g_aload_n e_X9_newLine_18 rfl ?_
      refine g_iload_n e_X9_newLine_19 rfl ?_
      obtain ⟨y3, hy3, hs⟩ := bind_elim hs
      refine g_callVr [vI v2] cv_X9_68 ⟨rfl, rfl, Nat.le_of_ble_eq_true rfl, Nat.le_of_ble_eq_true rfl⟩ (ct_X9_isKnot (AO_call [0] ao (by decide) rfl) (FA_call [0] ao.1 rfl rfl) ok_t_knotMany ok_v2 hy3) e_X9_newLine_20 (ao.2 0 _ rfl) (ov_get 0 ao.1 rfl rfl) rfl rfl rfl (Nat.le_of_ble_eq_true rfl) ⟨Nat.le_refl _, Nat.le_refl _⟩ (fun Py3 => ?_)
      refine g_if_eq e_X9_newLine_23 (inZ_I Py3) hs (fun c23 hs => ?_) (fun c23 hs => ?_)
      · refine g_iconst e_X9_newLine_31 ?_
        obtain rfl := Option.some.inj hs
        exact g_iret rfl ⟨(by decide : inI (-1)), ok_t_thereMany, ok_t_froms, ok_t_tos, ok_t_steps_many, ok_t_steps_xs, ok_t_steps_ys, ok_t_steps_zs, ok_t_there⟩ e_X9_newLine_32
      · refine g_iload_n e_X9_newLine_26 rfl ?_
        refine g_iload_n e_X9_newLine_27 rfl ?_
        refine g_icmp_ne e_X9_newLine_28 ok_v1 ok_v2 hs (fun c28 hs => ?_) (fun c28 hs => ?_)
        · refine g_iconst e_X9_newLine_31 ?_
          obtain rfl := Option.some.inj hs
          exact g_iret rfl ⟨(by decide : inI (-1)), ok_t_thereMany, ok_t_froms, ok_t_tos, ok_t_steps_many, ok_t_steps_xs, ok_t_steps_ys, ok_t_steps_zs, ok_t_there⟩ e_X9_newLine_32
        · refine g_iload_n e_X9_newLine_33 rfl ?_
          obtain ⟨y4, hy4, hs⟩ := bind_elim hs
          refine g_callSr [vI v3] cs_X9_71 ⟨rfl, rfl, Nat.le_of_ble_eq_true rfl, Nat.le_of_ble_eq_true rfl⟩ (ct_X9_isStepPart ⟨List.nodup_nil, fun i a h => by simp at h⟩ (fun i a e h => by simp at h) ok_v3 hy4) e_X9_newLine_34 rfl rfl (Nat.le_of_ble_eq_true rfl) ⟨Nat.le_refl _, Nat.le_refl _⟩ (fun Py4 => ?_)
          refine g_if_eq e_X9_newLine_37 (inZ_I Py4) hs (fun c37 hs => ?_) (fun c37 hs => ?_)
          · refine g_iconst e_X9_newLine_70 ?_
            obtain rfl := Option.some.inj hs
            exact g_iret rfl ⟨(by decide : inI (-1)), ok_t_thereMany, ok_t_froms, ok_t_tos, ok_t_steps_many, ok_t_steps_xs, ok_t_steps_ys, ok_t_steps_zs, ok_t_there⟩ e_X9_newLine_71
          · refine g_iload e_X9_newLine_40 rfl ?_
            obtain ⟨y5, hy5, hs⟩ := bind_elim hs
            refine g_callSr [vI v4] cs_X9_71 ⟨rfl, rfl, Nat.le_of_ble_eq_true rfl, Nat.le_of_ble_eq_true rfl⟩ (ct_X9_isStepPart ⟨List.nodup_nil, fun i a h => by simp at h⟩ (fun i a e h => by simp at h) ok_v4 hy5) e_X9_newLine_42 rfl rfl (Nat.le_of_ble_eq_true rfl) ⟨Nat.le_refl _, Nat.le_refl _⟩ (fun Py5 => ?_)
            refine g_if_eq e_X9_newLine_45 (inZ_I Py5) hs (fun c45 hs => ?_) (fun c45 hs => ?_)
            · refine g_iconst e_X9_newLine_70 ?_
              obtain rfl := Option.some.inj hs
              exact g_iret rfl ⟨(by decide : inI (-1)), ok_t_thereMany, ok_t_froms, ok_t_tos, ok_t_steps_many, ok_t_steps_xs, ok_t_steps_ys, ok_t_steps_zs, ok_t_there⟩ e_X9_newLine_71
            · refine g_iload e_X9_newLine_48 rfl ?_
              obtain ⟨y6, hy6, hs⟩ := bind_elim hs
              refine g_callSr [vI v5] cs_X9_71 ⟨rfl, rfl, Nat.le_of_ble_eq_true rfl, Nat.le_of_ble_eq_true rfl⟩ (ct_X9_isStepPart ⟨List.nodup_nil, fun i a h => by simp at h⟩ (fun i a e h => by simp at h) ok_v5 hy6) e_X9_newLine_50 rfl rfl (Nat.le_of_ble_eq_true rfl) ⟨Nat.le_refl _, Nat.le_refl _⟩ (fun Py6 => ?_)
              refine g_if_eq e_X9_newLine_53 (inZ_I Py6) hs (fun c53 hs => ?_) (fun c53 hs => ?_)
              · refine g_iconst e_X9_newLine_70 ?_
                obtain rfl := Option.some.inj hs
                exact g_iret rfl ⟨(by decide : inI (-1)), ok_t_thereMany, ok_t_froms, ok_t_tos, ok_t_steps_many, ok_t_steps_xs, ok_t_steps_ys, ok_t_steps_zs, ok_t_there⟩ e_X9_newLine_71
              · refine g_iload_n e_X9_newLine_56 rfl ?_
                refine g_if_ne e_X9_newLine_57 ok_v3 hs (fun c57 hs => ?_) (fun c57 hs => ?_)
                · refine g_iload e_X9_newLine_60 rfl ?_
                  refine g_if_ne e_X9_newLine_62 ok_v4 hs (fun c62 hs => ?_) (fun c62 hs => ?_)
                  · refine g_iload e_X9_newLine_65 rfl ?_
                    refine g_if_ne e_X9_newLine_67 ok_v5 hs (fun c67 hs => ?_) (fun c67 hs => ?_)
                    · refine g_iconst e_X9_newLine_70 ?_
                      obtain rfl := Option.some.inj hs
                      exact g_iret rfl ⟨(by decide : inI (-1)), ok_t_thereMany, ok_t_froms, ok_t_tos, ok_t_steps_many, ok_t_steps_xs, ok_t_steps_ys, ok_t_steps_zs, ok_t_there⟩ e_X9_newLine_71
                    · exact g_X9_newLine_72 ao ok_t_knotMany ok_t_thereMany ok_t_froms ok_t_tos ok_t_steps_many ok_t_steps_xs ok_t_steps_ys ok_t_steps_zs ok_t_there ok_v1 ok_v2 ok_v3 ok_v4 ok_v5 hs
                  · exact g_X9_newLine_72 ao ok_t_knotMany ok_t_thereMany ok_t_froms ok_t_tos ok_t_steps_many ok_t_steps_xs ok_t_steps_ys ok_t_steps_zs ok_t_there ok_v1 ok_v2 ok_v3 ok_v4 ok_v5 hs
                · exact g_X9_newLine_72 ao ok_t_knotMany ok_t_thereMany ok_t_froms ok_t_tos ok_t_steps_many ok_t_steps_xs ok_t_steps_ys ok_t_steps_zs ok_t_there ok_v1 ok_v2 ok_v3 ok_v4 ok_v5 hs
  · refine g_iconst e_X9_newLine_31 ?_
    obtain rfl := Option.some.inj hs
    exact g_iret rfl ⟨(by decide : inI (-1)), ok_t_thereMany, ok_t_froms, ok_t_tos, ok_t_steps_many, ok_t_steps_xs, ok_t_steps_ys, ok_t_steps_zs, ok_t_there⟩ e_X9_newLine_32

noncomputable def m_X9_newLine (t_knotMany : Int) (t_thereMany : Int) (t_froms : Nat → Int) (t_tos : Nat → Int) (t_steps_many : Int) (t_steps_xs : Nat → Int) (t_steps_ys : Nat → Int) (t_steps_zs : Nat → Int) (t_there : Nat → Int) (v1 : Int) (v2 : Int) (v3 : Int) (v4 : Int) (v5 : Int) : Option (Int × Int × (Nat → Int) × (Nat → Int) × Int × (Nat → Int) × (Nat → Int) × (Nat → Int) × (Nat → Int)) := m_X9_newLine_0 t_knotMany t_thereMany t_froms t_tos t_steps_many t_steps_xs t_steps_ys t_steps_zs t_there v1 v2 v3 v4 v5

set_option maxRecDepth 10000 in
theorem ct_X9_newLine {l : Launch} {E : EE} {b0 n : Nat} {h : AH} {a_t : Nat} {t_knotMany t_thereMany t_groupMany t_steps_many : Int} {t_froms t_tos t_steps_xs t_steps_ys t_steps_zs t_there : Nat → Int} {v1 v2 v3 v4 v5 : Int} (ao : AO b0 n [a_t, (a_t + 2), (a_t + 3), (a_t + 4), (a_t + 5), (a_t + 6), (a_t + 7), (a_t + 8)]) (hf : FA h [a_t, (a_t + 2), (a_t + 3), (a_t + 4), (a_t + 5), (a_t + 6), (a_t + 7), (a_t + 8)] [.inr (9, fsX9 a_t t_knotMany t_thereMany t_groupMany), IA E 120 t_froms, IA E 120 t_tos, .inr (8, fsX8 (a_t + 4) t_steps_many), IA E 120 t_steps_xs, IA E 120 t_steps_ys, IA E 120 t_steps_zs, ZA E 120 t_there]) (ok_t_knotMany : inI t_knotMany) (ok_t_thereMany : inI t_thereMany) (ok_t_froms : okA t_froms) (ok_t_tos : okA t_tos) (ok_t_steps_many : inI t_steps_many) (ok_t_steps_xs : okA t_steps_xs) (ok_t_steps_ys : okA t_steps_ys) (ok_t_steps_zs : okA t_steps_zs) (ok_t_there : okZ t_there) (ok_v1 : inI v1) (ok_v2 : inI v2) (ok_v3 : inI v3) (ok_v4 : inI v4) (ok_v5 : inI v5) {r : Int × Int × (Nat → Int) × (Nat → Int) × Int × (Nat → Int) × (Nat → Int) × (Nat → Int) × (Nat → Int)} (hm : m_X9_newLine t_knotMany t_thereMany t_froms t_tos t_steps_many t_steps_xs t_steps_ys t_steps_zs t_there v1 v2 v3 v4 v5 = some r) : Ct l E b0 M_X9_newLine 0 0 [.ref a_t, vI v1, vI v2, vI v3, vI v4, vI v5] h n (some (vI r.1)) (ov [a_t, (a_t + 2), (a_t + 3), (a_t + 4), (a_t + 5), (a_t + 6), (a_t + 7), (a_t + 8)] [.inr (9, fsX9 a_t t_knotMany r.2.1 t_groupMany), IA E 120 r.2.2.1, IA E 120 r.2.2.2.1, .inr (8, fsX8 (a_t + 4) r.2.2.2.2.1), IA E 120 r.2.2.2.2.2.1, IA E 120 r.2.2.2.2.2.2.1, IA E 120 r.2.2.2.2.2.2.2.1, ZA E 120 r.2.2.2.2.2.2.2.2] h) n (inI r.1 ∧ inI r.2.1 ∧ okA r.2.2.1 ∧ okA r.2.2.2.1 ∧ inI r.2.2.2.2.1 ∧ okA r.2.2.2.2.2.1 ∧ okA r.2.2.2.2.2.2.1 ∧ okA r.2.2.2.2.2.2.2.1 ∧ okZ r.2.2.2.2.2.2.2.2) := by
  rw [m_X9_newLine] at hm
  have hg : G l E b0 M_X9_newLine (fun _ => True) (ZM E b0 (some (vI r.1)) (ov [a_t, (a_t + 2), (a_t + 3), (a_t + 4), (a_t + 5), (a_t + 6), (a_t + 7), (a_t + 8)] [.inr (9, fsX9 a_t t_knotMany r.2.1 t_groupMany), IA E 120 r.2.2.1, IA E 120 r.2.2.2.1, .inr (8, fsX8 (a_t + 4) r.2.2.2.2.1), IA E 120 r.2.2.2.2.2.1, IA E 120 r.2.2.2.2.2.2.1, IA E 120 r.2.2.2.2.2.2.2.1, ZA E 120 r.2.2.2.2.2.2.2.2] h) n (inI r.1 ∧ inI r.2.1 ∧ okA r.2.2.1 ∧ okA r.2.2.2.1 ∧ inI r.2.2.2.2.1 ∧ okA r.2.2.2.2.2.1 ∧ okA r.2.2.2.2.2.2.1 ∧ okA r.2.2.2.2.2.2.2.1 ∧ okZ r.2.2.2.2.2.2.2.2) 0 0) 0 0 n (ov [a_t, (a_t + 2), (a_t + 3), (a_t + 4), (a_t + 5), (a_t + 6), (a_t + 7), (a_t + 8)] [.inr (9, fsX9 a_t t_knotMany t_thereMany t_groupMany), IA E 120 t_froms, IA E 120 t_tos, .inr (8, fsX8 (a_t + 4) t_steps_many), IA E 120 t_steps_xs, IA E 120 t_steps_ys, IA E 120 t_steps_zs, ZA E 120 t_there] h) 0 [some (.ref a_t), some (vI v1), some (vI v2), some (vI v3), some (vI v4), some (vI v5), none] [] := by
    have hs := hm
    exact g_X9_newLine_0 ao ok_t_knotMany ok_t_thereMany ok_t_froms ok_t_tos ok_t_steps_many ok_t_steps_xs ok_t_steps_ys ok_t_steps_zs ok_t_there ok_v1 ok_v2 ok_v3 ok_v4 ok_v5 hs
  rw [FA_id hf] at hg
  exact Ct_of [some (.ref a_t), some (vI v1), some (vI v2), some (vI v3), some (vI v4), some (vI v5), none] ⟨by decide +kernel, rfl⟩ rfl (Nat.le_of_ble_eq_true rfl) hg

/-! ===== X9_joinLines ===== -/
theorem e_X9_joinLines_0 : DC cX9_joinLines 0 (.aload_n 0) 1 1 := ⟨by decide +kernel, rfl⟩
theorem e_X9_joinLines_1 : DC cX9_joinLines 1 (.iload_n 1) 1 2 := ⟨by decide +kernel, rfl⟩
theorem e_X9_joinLines_2 : DC cX9_joinLines 2 (.invokevirtual 84) 3 5 := ⟨by decide +kernel, rfl⟩
theorem e_X9_joinLines_5 : DB cX9_joinLines 5 (.ifCond .eq 16) (16) 3 8 21 := ⟨by decide +kernel, rfl, rfl⟩
theorem e_X9_joinLines_8 : DC cX9_joinLines 8 (.aload_n 0) 1 9 := ⟨by decide +kernel, rfl⟩
theorem e_X9_joinLines_9 : DC cX9_joinLines 9 (.iload_n 2) 1 10 := ⟨by decide +kernel, rfl⟩
theorem e_X9_joinLines_10 : DC cX9_joinLines 10 (.invokevirtual 84) 3 13 := ⟨by decide +kernel, rfl⟩
theorem e_X9_joinLines_13 : DB cX9_joinLines 13 (.ifCond .eq 8) (8) 3 16 21 := ⟨by decide +kernel, rfl, rfl⟩
theorem e_X9_joinLines_16 : DC cX9_joinLines 16 (.iload_n 1) 1 17 := ⟨by decide +kernel, rfl⟩
theorem e_X9_joinLines_17 : DC cX9_joinLines 17 (.iload_n 2) 1 18 := ⟨by decide +kernel, rfl⟩
theorem e_X9_joinLines_18 : DB cX9_joinLines 18 (.if_icmp .ne 5) (5) 3 21 23 := ⟨by decide +kernel, rfl, rfl⟩
theorem e_X9_joinLines_21 : DC cX9_joinLines 21 (.iconst (-1)) 1 22 := ⟨by decide +kernel, rfl⟩
theorem e_X9_joinLines_22 : DC cX9_joinLines 22 (.ireturn) 1 23 := ⟨by decide +kernel, rfl⟩
theorem e_X9_joinLines_23 : DC cX9_joinLines 23 (.aload_n 0) 1 24 := ⟨by decide +kernel, rfl⟩
theorem e_X9_joinLines_24 : DC cX9_joinLines 24 (.getfield 15) 3 27 := ⟨by decide +kernel, rfl⟩
theorem e_X9_joinLines_27 : DC cX9_joinLines 27 (.iload_n 1) 1 28 := ⟨by decide +kernel, rfl⟩
theorem e_X9_joinLines_28 : DC cX9_joinLines 28 (.iaload) 1 29 := ⟨by decide +kernel, rfl⟩
theorem e_X9_joinLines_29 : DC cX9_joinLines 29 (.aload_n 0) 1 30 := ⟨by decide +kernel, rfl⟩
theorem e_X9_joinLines_30 : DC cX9_joinLines 30 (.getfield 15) 3 33 := ⟨by decide +kernel, rfl⟩
theorem e_X9_joinLines_33 : DC cX9_joinLines 33 (.iload_n 2) 1 34 := ⟨by decide +kernel, rfl⟩
theorem e_X9_joinLines_34 : DC cX9_joinLines 34 (.iaload) 1 35 := ⟨by decide +kernel, rfl⟩
theorem e_X9_joinLines_35 : DB cX9_joinLines 35 (.if_icmp .ne 22) (22) 3 38 57 := ⟨by decide +kernel, rfl, rfl⟩
theorem e_X9_joinLines_38 : DC cX9_joinLines 38 (.aload_n 0) 1 39 := ⟨by decide +kernel, rfl⟩
theorem e_X9_joinLines_39 : DC cX9_joinLines 39 (.getfield 19) 3 42 := ⟨by decide +kernel, rfl⟩
theorem e_X9_joinLines_42 : DC cX9_joinLines 42 (.iload_n 1) 1 43 := ⟨by decide +kernel, rfl⟩
theorem e_X9_joinLines_43 : DC cX9_joinLines 43 (.iaload) 1 44 := ⟨by decide +kernel, rfl⟩
theorem e_X9_joinLines_44 : DC cX9_joinLines 44 (.aload_n 0) 1 45 := ⟨by decide +kernel, rfl⟩
theorem e_X9_joinLines_45 : DC cX9_joinLines 45 (.getfield 19) 3 48 := ⟨by decide +kernel, rfl⟩
theorem e_X9_joinLines_48 : DC cX9_joinLines 48 (.iload_n 2) 1 49 := ⟨by decide +kernel, rfl⟩
theorem e_X9_joinLines_49 : DC cX9_joinLines 49 (.iaload) 1 50 := ⟨by decide +kernel, rfl⟩
theorem e_X9_joinLines_50 : DB cX9_joinLines 50 (.if_icmp .ne 7) (7) 3 53 57 := ⟨by decide +kernel, rfl, rfl⟩
theorem e_X9_joinLines_53 : DC cX9_joinLines 53 (.iconst 1) 1 54 := ⟨by decide +kernel, rfl⟩
theorem e_X9_joinLines_54 : DB cX9_joinLines 54 (.goto 4) (4) 3 57 58 := ⟨by decide +kernel, rfl, rfl⟩
theorem e_X9_joinLines_57 : DC cX9_joinLines 57 (.iconst 0) 1 58 := ⟨by decide +kernel, rfl⟩
theorem e_X9_joinLines_58 : DC cX9_joinLines 58 (.istore_n 3) 1 59 := ⟨by decide +kernel, rfl⟩
theorem e_X9_joinLines_59 : DC cX9_joinLines 59 (.aload_n 0) 1 60 := ⟨by decide +kernel, rfl⟩
theorem e_X9_joinLines_60 : DC cX9_joinLines 60 (.getfield 15) 3 63 := ⟨by decide +kernel, rfl⟩
theorem e_X9_joinLines_63 : DC cX9_joinLines 63 (.iload_n 1) 1 64 := ⟨by decide +kernel, rfl⟩
theorem e_X9_joinLines_64 : DC cX9_joinLines 64 (.iaload) 1 65 := ⟨by decide +kernel, rfl⟩
theorem e_X9_joinLines_65 : DC cX9_joinLines 65 (.aload_n 0) 1 66 := ⟨by decide +kernel, rfl⟩
theorem e_X9_joinLines_66 : DC cX9_joinLines 66 (.getfield 19) 3 69 := ⟨by decide +kernel, rfl⟩
theorem e_X9_joinLines_69 : DC cX9_joinLines 69 (.iload_n 2) 1 70 := ⟨by decide +kernel, rfl⟩
theorem e_X9_joinLines_70 : DC cX9_joinLines 70 (.iaload) 1 71 := ⟨by decide +kernel, rfl⟩
theorem e_X9_joinLines_71 : DB cX9_joinLines 71 (.if_icmp .ne 22) (22) 3 74 93 := ⟨by decide +kernel, rfl, rfl⟩
theorem e_X9_joinLines_74 : DC cX9_joinLines 74 (.aload_n 0) 1 75 := ⟨by decide +kernel, rfl⟩
theorem e_X9_joinLines_75 : DC cX9_joinLines 75 (.getfield 19) 3 78 := ⟨by decide +kernel, rfl⟩
theorem e_X9_joinLines_78 : DC cX9_joinLines 78 (.iload_n 1) 1 79 := ⟨by decide +kernel, rfl⟩
theorem e_X9_joinLines_79 : DC cX9_joinLines 79 (.iaload) 1 80 := ⟨by decide +kernel, rfl⟩
theorem e_X9_joinLines_80 : DC cX9_joinLines 80 (.aload_n 0) 1 81 := ⟨by decide +kernel, rfl⟩
theorem e_X9_joinLines_81 : DC cX9_joinLines 81 (.getfield 15) 3 84 := ⟨by decide +kernel, rfl⟩
theorem e_X9_joinLines_84 : DC cX9_joinLines 84 (.iload_n 2) 1 85 := ⟨by decide +kernel, rfl⟩
theorem e_X9_joinLines_85 : DC cX9_joinLines 85 (.iaload) 1 86 := ⟨by decide +kernel, rfl⟩
theorem e_X9_joinLines_86 : DB cX9_joinLines 86 (.if_icmp .ne 7) (7) 3 89 93 := ⟨by decide +kernel, rfl, rfl⟩
theorem e_X9_joinLines_89 : DC cX9_joinLines 89 (.iconst 1) 1 90 := ⟨by decide +kernel, rfl⟩
theorem e_X9_joinLines_90 : DB cX9_joinLines 90 (.goto 4) (4) 3 93 94 := ⟨by decide +kernel, rfl, rfl⟩
theorem e_X9_joinLines_93 : DC cX9_joinLines 93 (.iconst 0) 1 94 := ⟨by decide +kernel, rfl⟩
theorem e_X9_joinLines_94 : DC cX9_joinLines 94 (.istore 4) 2 96 := ⟨by decide +kernel, rfl⟩
theorem e_X9_joinLines_96 : DC cX9_joinLines 96 (.iload_n 3) 1 97 := ⟨by decide +kernel, rfl⟩
theorem e_X9_joinLines_97 : DB cX9_joinLines 97 (.ifCond .ne 10) (10) 3 100 107 := ⟨by decide +kernel, rfl, rfl⟩
theorem e_X9_joinLines_100 : DC cX9_joinLines 100 (.iload 4) 2 102 := ⟨by decide +kernel, rfl⟩
theorem e_X9_joinLines_102 : DB cX9_joinLines 102 (.ifCond .ne 5) (5) 3 105 107 := ⟨by decide +kernel, rfl, rfl⟩
theorem e_X9_joinLines_105 : DC cX9_joinLines 105 (.iconst (-1)) 1 106 := ⟨by decide +kernel, rfl⟩
theorem e_X9_joinLines_106 : DC cX9_joinLines 106 (.ireturn) 1 107 := ⟨by decide +kernel, rfl⟩
theorem e_X9_joinLines_107 : DC cX9_joinLines 107 (.iload_n 3) 1 108 := ⟨by decide +kernel, rfl⟩
theorem e_X9_joinLines_108 : DB cX9_joinLines 108 (.ifCond .eq 7) (7) 3 111 115 := ⟨by decide +kernel, rfl, rfl⟩
theorem e_X9_joinLines_111 : DC cX9_joinLines 111 (.iconst 1) 1 112 := ⟨by decide +kernel, rfl⟩
theorem e_X9_joinLines_112 : DB cX9_joinLines 112 (.goto 4) (4) 3 115 116 := ⟨by decide +kernel, rfl, rfl⟩
theorem e_X9_joinLines_115 : DC cX9_joinLines 115 (.iconst (-1)) 1 116 := ⟨by decide +kernel, rfl⟩
theorem e_X9_joinLines_116 : DC cX9_joinLines 116 (.istore 5) 2 118 := ⟨by decide +kernel, rfl⟩
theorem e_X9_joinLines_118 : DC cX9_joinLines 118 (.aload_n 0) 1 119 := ⟨by decide +kernel, rfl⟩
theorem e_X9_joinLines_119 : DC cX9_joinLines 119 (.getfield 27) 3 122 := ⟨by decide +kernel, rfl⟩
theorem e_X9_joinLines_122 : DC cX9_joinLines 122 (.iload_n 1) 1 123 := ⟨by decide +kernel, rfl⟩
theorem e_X9_joinLines_123 : DC cX9_joinLines 123 (.iconst 0) 1 124 := ⟨by decide +kernel, rfl⟩
theorem e_X9_joinLines_124 : DC cX9_joinLines 124 (.invokevirtual 87) 3 127 := ⟨by decide +kernel, rfl⟩
theorem e_X9_joinLines_127 : DC cX9_joinLines 127 (.iload 5) 2 129 := ⟨by decide +kernel, rfl⟩
theorem e_X9_joinLines_129 : DC cX9_joinLines 129 (.aload_n 0) 1 130 := ⟨by decide +kernel, rfl⟩
theorem e_X9_joinLines_130 : DC cX9_joinLines 130 (.getfield 27) 3 133 := ⟨by decide +kernel, rfl⟩
theorem e_X9_joinLines_133 : DC cX9_joinLines 133 (.iload_n 2) 1 134 := ⟨by decide +kernel, rfl⟩
theorem e_X9_joinLines_134 : DC cX9_joinLines 134 (.iconst 0) 1 135 := ⟨by decide +kernel, rfl⟩
theorem e_X9_joinLines_135 : DC cX9_joinLines 135 (.invokevirtual 87) 3 138 := ⟨by decide +kernel, rfl⟩
theorem e_X9_joinLines_138 : DC cX9_joinLines 138 (.imul) 1 139 := ⟨by decide +kernel, rfl⟩
theorem e_X9_joinLines_139 : DC cX9_joinLines 139 (.iadd) 1 140 := ⟨by decide +kernel, rfl⟩
theorem e_X9_joinLines_140 : DC cX9_joinLines 140 (.istore 6) 2 142 := ⟨by decide +kernel, rfl⟩
theorem e_X9_joinLines_142 : DC cX9_joinLines 142 (.aload_n 0) 1 143 := ⟨by decide +kernel, rfl⟩
theorem e_X9_joinLines_143 : DC cX9_joinLines 143 (.getfield 27) 3 146 := ⟨by decide +kernel, rfl⟩
theorem e_X9_joinLines_146 : DC cX9_joinLines 146 (.iload_n 1) 1 147 := ⟨by decide +kernel, rfl⟩
theorem e_X9_joinLines_147 : DC cX9_joinLines 147 (.iconst 1) 1 148 := ⟨by decide +kernel, rfl⟩
theorem e_X9_joinLines_148 : DC cX9_joinLines 148 (.invokevirtual 87) 3 151 := ⟨by decide +kernel, rfl⟩
theorem e_X9_joinLines_151 : DC cX9_joinLines 151 (.iload 5) 2 153 := ⟨by decide +kernel, rfl⟩
theorem e_X9_joinLines_153 : DC cX9_joinLines 153 (.aload_n 0) 1 154 := ⟨by decide +kernel, rfl⟩
theorem e_X9_joinLines_154 : DC cX9_joinLines 154 (.getfield 27) 3 157 := ⟨by decide +kernel, rfl⟩
theorem e_X9_joinLines_157 : DC cX9_joinLines 157 (.iload_n 2) 1 158 := ⟨by decide +kernel, rfl⟩
theorem e_X9_joinLines_158 : DC cX9_joinLines 158 (.iconst 1) 1 159 := ⟨by decide +kernel, rfl⟩
theorem e_X9_joinLines_159 : DC cX9_joinLines 159 (.invokevirtual 87) 3 162 := ⟨by decide +kernel, rfl⟩
theorem e_X9_joinLines_162 : DC cX9_joinLines 162 (.imul) 1 163 := ⟨by decide +kernel, rfl⟩
theorem e_X9_joinLines_163 : DC cX9_joinLines 163 (.iadd) 1 164 := ⟨by decide +kernel, rfl⟩
theorem e_X9_joinLines_164 : DC cX9_joinLines 164 (.istore 7) 2 166 := ⟨by decide +kernel, rfl⟩
theorem e_X9_joinLines_166 : DC cX9_joinLines 166 (.aload_n 0) 1 167 := ⟨by decide +kernel, rfl⟩
theorem e_X9_joinLines_167 : DC cX9_joinLines 167 (.getfield 27) 3 170 := ⟨by decide +kernel, rfl⟩
theorem e_X9_joinLines_170 : DC cX9_joinLines 170 (.iload_n 1) 1 171 := ⟨by decide +kernel, rfl⟩
theorem e_X9_joinLines_171 : DC cX9_joinLines 171 (.iconst 2) 1 172 := ⟨by decide +kernel, rfl⟩
theorem e_X9_joinLines_172 : DC cX9_joinLines 172 (.invokevirtual 87) 3 175 := ⟨by decide +kernel, rfl⟩
theorem e_X9_joinLines_175 : DC cX9_joinLines 175 (.iload 5) 2 177 := ⟨by decide +kernel, rfl⟩
theorem e_X9_joinLines_177 : DC cX9_joinLines 177 (.aload_n 0) 1 178 := ⟨by decide +kernel, rfl⟩
theorem e_X9_joinLines_178 : DC cX9_joinLines 178 (.getfield 27) 3 181 := ⟨by decide +kernel, rfl⟩
theorem e_X9_joinLines_181 : DC cX9_joinLines 181 (.iload_n 2) 1 182 := ⟨by decide +kernel, rfl⟩
theorem e_X9_joinLines_182 : DC cX9_joinLines 182 (.iconst 2) 1 183 := ⟨by decide +kernel, rfl⟩
theorem e_X9_joinLines_183 : DC cX9_joinLines 183 (.invokevirtual 87) 3 186 := ⟨by decide +kernel, rfl⟩
theorem e_X9_joinLines_186 : DC cX9_joinLines 186 (.imul) 1 187 := ⟨by decide +kernel, rfl⟩
theorem e_X9_joinLines_187 : DC cX9_joinLines 187 (.iadd) 1 188 := ⟨by decide +kernel, rfl⟩
theorem e_X9_joinLines_188 : DC cX9_joinLines 188 (.istore 8) 2 190 := ⟨by decide +kernel, rfl⟩
theorem e_X9_joinLines_190 : DC cX9_joinLines 190 (.iload 6) 2 192 := ⟨by decide +kernel, rfl⟩
theorem e_X9_joinLines_192 : DC cX9_joinLines 192 (.invokestatic 71) 3 195 := ⟨by decide +kernel, rfl⟩
theorem e_X9_joinLines_195 : DB cX9_joinLines 195 (.ifCond .eq 19) (19) 3 198 214 := ⟨by decide +kernel, rfl, rfl⟩
theorem e_X9_joinLines_198 : DC cX9_joinLines 198 (.iload 7) 2 200 := ⟨by decide +kernel, rfl⟩
theorem e_X9_joinLines_200 : DC cX9_joinLines 200 (.invokestatic 71) 3 203 := ⟨by decide +kernel, rfl⟩
theorem e_X9_joinLines_203 : DB cX9_joinLines 203 (.ifCond .eq 11) (11) 3 206 214 := ⟨by decide +kernel, rfl, rfl⟩
theorem e_X9_joinLines_206 : DC cX9_joinLines 206 (.iload 8) 2 208 := ⟨by decide +kernel, rfl⟩
theorem e_X9_joinLines_208 : DC cX9_joinLines 208 (.invokestatic 71) 3 211 := ⟨by decide +kernel, rfl⟩
theorem e_X9_joinLines_211 : DB cX9_joinLines 211 (.ifCond .ne 6) (6) 3 214 217 := ⟨by decide +kernel, rfl, rfl⟩
theorem e_X9_joinLines_214 : DC cX9_joinLines 214 (.bipush (-2)) 2 216 := ⟨by decide +kernel, rfl⟩
theorem e_X9_joinLines_216 : DC cX9_joinLines 216 (.ireturn) 1 217 := ⟨by decide +kernel, rfl⟩
theorem e_X9_joinLines_217 : DC cX9_joinLines 217 (.iload 6) 2 219 := ⟨by decide +kernel, rfl⟩
theorem e_X9_joinLines_219 : DC cX9_joinLines 219 (.iload 6) 2 221 := ⟨by decide +kernel, rfl⟩
theorem e_X9_joinLines_221 : DC cX9_joinLines 221 (.imul) 1 222 := ⟨by decide +kernel, rfl⟩
theorem e_X9_joinLines_222 : DC cX9_joinLines 222 (.iload 7) 2 224 := ⟨by decide +kernel, rfl⟩
theorem e_X9_joinLines_224 : DC cX9_joinLines 224 (.iload 7) 2 226 := ⟨by decide +kernel, rfl⟩
theorem e_X9_joinLines_226 : DC cX9_joinLines 226 (.imul) 1 227 := ⟨by decide +kernel, rfl⟩
theorem e_X9_joinLines_227 : DC cX9_joinLines 227 (.iadd) 1 228 := ⟨by decide +kernel, rfl⟩
theorem e_X9_joinLines_228 : DC cX9_joinLines 228 (.iload 8) 2 230 := ⟨by decide +kernel, rfl⟩
theorem e_X9_joinLines_230 : DC cX9_joinLines 230 (.iload 8) 2 232 := ⟨by decide +kernel, rfl⟩
theorem e_X9_joinLines_232 : DC cX9_joinLines 232 (.imul) 1 233 := ⟨by decide +kernel, rfl⟩
theorem e_X9_joinLines_233 : DC cX9_joinLines 233 (.iadd) 1 234 := ⟨by decide +kernel, rfl⟩
theorem e_X9_joinLines_234 : DC cX9_joinLines 234 (.istore 9) 2 236 := ⟨by decide +kernel, rfl⟩
theorem e_X9_joinLines_236 : DC cX9_joinLines 236 (.iload 9) 2 238 := ⟨by decide +kernel, rfl⟩
theorem e_X9_joinLines_238 : DC cX9_joinLines 238 (.aload_n 0) 1 239 := ⟨by decide +kernel, rfl⟩
theorem e_X9_joinLines_239 : DC cX9_joinLines 239 (.getfield 27) 3 242 := ⟨by decide +kernel, rfl⟩
theorem e_X9_joinLines_242 : DC cX9_joinLines 242 (.iload_n 1) 1 243 := ⟨by decide +kernel, rfl⟩
theorem e_X9_joinLines_243 : DC cX9_joinLines 243 (.invokevirtual 91) 3 246 := ⟨by decide +kernel, rfl⟩
theorem e_X9_joinLines_246 : DC cX9_joinLines 246 (.aload_n 0) 1 247 := ⟨by decide +kernel, rfl⟩
theorem e_X9_joinLines_247 : DC cX9_joinLines 247 (.getfield 27) 3 250 := ⟨by decide +kernel, rfl⟩
theorem e_X9_joinLines_250 : DC cX9_joinLines 250 (.iload_n 2) 1 251 := ⟨by decide +kernel, rfl⟩
theorem e_X9_joinLines_251 : DC cX9_joinLines 251 (.invokevirtual 91) 3 254 := ⟨by decide +kernel, rfl⟩
theorem e_X9_joinLines_254 : DC cX9_joinLines 254 (.iadd) 1 255 := ⟨by decide +kernel, rfl⟩
theorem e_X9_joinLines_255 : DB cX9_joinLines 255 (.if_icmp .lt 5) (5) 3 258 260 := ⟨by decide +kernel, rfl, rfl⟩
theorem e_X9_joinLines_258 : DC cX9_joinLines 258 (.iconst 0) 1 259 := ⟨by decide +kernel, rfl⟩
theorem e_X9_joinLines_259 : DC cX9_joinLines 259 (.ireturn) 1 260 := ⟨by decide +kernel, rfl⟩
theorem e_X9_joinLines_260 : DC cX9_joinLines 260 (.aload_n 0) 1 261 := ⟨by decide +kernel, rfl⟩
theorem e_X9_joinLines_261 : DC cX9_joinLines 261 (.getfield 27) 3 264 := ⟨by decide +kernel, rfl⟩
theorem e_X9_joinLines_264 : DC cX9_joinLines 264 (.iload_n 1) 1 265 := ⟨by decide +kernel, rfl⟩
theorem e_X9_joinLines_265 : DC cX9_joinLines 265 (.iload 6) 2 267 := ⟨by decide +kernel, rfl⟩
theorem e_X9_joinLines_267 : DC cX9_joinLines 267 (.iload 7) 2 269 := ⟨by decide +kernel, rfl⟩
theorem e_X9_joinLines_269 : DC cX9_joinLines 269 (.iload 8) 2 271 := ⟨by decide +kernel, rfl⟩
theorem e_X9_joinLines_271 : DC cX9_joinLines 271 (.invokevirtual 98) 3 274 := ⟨by decide +kernel, rfl⟩
theorem e_X9_joinLines_274 : DC cX9_joinLines 274 (.aload_n 0) 1 275 := ⟨by decide +kernel, rfl⟩
theorem e_X9_joinLines_275 : DC cX9_joinLines 275 (.iload_n 2) 1 276 := ⟨by decide +kernel, rfl⟩
theorem e_X9_joinLines_276 : DC cX9_joinLines 276 (.invokevirtual 102) 3 279 := ⟨by decide +kernel, rfl⟩
theorem e_X9_joinLines_279 : DC cX9_joinLines 279 (.iload 9) 2 281 := ⟨by decide +kernel, rfl⟩
theorem e_X9_joinLines_281 : DB cX9_joinLines 281 (.ifCond .ne 8) (8) 3 284 289 := ⟨by decide +kernel, rfl, rfl⟩
theorem e_X9_joinLines_284 : DC cX9_joinLines 284 (.aload_n 0) 1 285 := ⟨by decide +kernel, rfl⟩
theorem e_X9_joinLines_285 : DC cX9_joinLines 285 (.iload_n 1) 1 286 := ⟨by decide +kernel, rfl⟩
theorem e_X9_joinLines_286 : DC cX9_joinLines 286 (.invokevirtual 102) 3 289 := ⟨by decide +kernel, rfl⟩
theorem e_X9_joinLines_289 : DC cX9_joinLines 289 (.iconst 1) 1 290 := ⟨by decide +kernel, rfl⟩
theorem e_X9_joinLines_290 : DC cX9_joinLines 290 (.ireturn) 1 291 := ⟨by decide +kernel, rfl⟩
noncomputable def m_X9_joinLines_116 (t_thereMany : Int) (t_steps_many : Int) (t_steps_xs : Nat → Int) (t_steps_ys : Nat → Int) (t_steps_zs : Nat → Int) (t_there : Nat → Int) (v1 : Int) (v2 : Int) (s0 : Int) : Option (Int × Int × (Nat → Int) × (Nat → Int) × (Nat → Int) × (Nat → Int)) :=
  (m_X8_partOf 120 t_steps_many t_steps_xs t_steps_ys t_steps_zs v1 0).bind (fun y11 => (m_X8_partOf 120 t_steps_many t_steps_xs t_steps_ys t_steps_zs v2 0).bind (fun y12 => (m_X8_partOf 120 t_steps_many t_steps_xs t_steps_ys t_steps_zs v1 1).bind (fun y13 => (m_X8_partOf 120 t_steps_many t_steps_xs t_steps_ys t_steps_zs v2 1).bind (fun y14 => (m_X8_partOf 120 t_steps_many t_steps_xs t_steps_ys t_steps_zs v1 2).bind (fun y15 => (m_X8_partOf 120 t_steps_many t_steps_xs t_steps_ys t_steps_zs v2 2).bind (fun y16 => chk (inI (y11 + (s0 * y12))) ((m_X9_isStepPart (y11 + (s0 * y12))).bind (fun y18 => if y18 = 0 then (some ((-2), t_thereMany, t_steps_xs, t_steps_ys, t_steps_zs, t_there)) else (chk (inI (y13 + (s0 * y14))) ((m_X9_isStepPart (y13 + (s0 * y14))).bind (fun y20 => if y20 = 0 then (some ((-2), t_thereMany, t_steps_xs, t_steps_ys, t_steps_zs, t_there)) else (chk (inI (y15 + (s0 * y16))) ((m_X9_isStepPart (y15 + (s0 * y16))).bind (fun y22 => if y22 = 0 then (some ((-2), t_thereMany, t_steps_xs, t_steps_ys, t_steps_zs, t_there)) else ((m_X8_worthOf 120 t_steps_many t_steps_xs t_steps_ys t_steps_zs v1).bind (fun y23 => (m_X8_worthOf 120 t_steps_many t_steps_xs t_steps_ys t_steps_zs v2).bind (fun y24 => chk (inI ((((y11 + (s0 * y12)) * (y11 + (s0 * y12))) + ((y13 + (s0 * y14)) * (y13 + (s0 * y14)))) + ((y15 + (s0 * y16)) * (y15 + (s0 * y16))))) (chk (inI (y23 + y24)) (if ((((y11 + (s0 * y12)) * (y11 + (s0 * y12))) + ((y13 + (s0 * y14)) * (y13 + (s0 * y14)))) + ((y15 + (s0 * y16)) * (y15 + (s0 * y16)))) < (y23 + y24) then ((m_X8_change 120 t_steps_many t_steps_xs t_steps_ys t_steps_zs v1 (y11 + (s0 * y12)) (y13 + (s0 * y14)) (y15 + (s0 * y16))).bind (fun y27 => (m_X9_remove t_thereMany t_steps_many t_there v2).bind (fun y28 => if ((((y11 + (s0 * y12)) * (y11 + (s0 * y12))) + ((y13 + (s0 * y14)) * (y13 + (s0 * y14)))) + ((y15 + (s0 * y16)) * (y15 + (s0 * y16)))) = 0 then ((m_X9_remove y28.1 t_steps_many y28.2 v1).bind (fun y29 => some (1, y29.1, y27.1, y27.2.1, y27.2.2, y29.2))) else (some (1, y28.1, y27.1, y27.2.1, y27.2.2, y28.2))))) else (some (0, t_thereMany, t_steps_xs, t_steps_ys, t_steps_zs, t_there)))))))))))))))))))))

set_option maxRecDepth 10000 in
theorem g_X9_joinLines_116 {l : Launch} {E : EE} {b0 n : Nat} {h : AH} {a_t : Nat} {t_knotMany t_thereMany t_groupMany t_steps_many v1 v2 s0 : Int} {t_froms t_tos t_steps_xs t_steps_ys t_steps_zs t_there : Nat → Int} {r : Int × Int × (Nat → Int) × (Nat → Int) × (Nat → Int) × (Nat → Int)} (ao : AO b0 n [a_t, (a_t + 2), (a_t + 3), (a_t + 4), (a_t + 5), (a_t + 6), (a_t + 7), (a_t + 8)]) (ok_t_thereMany : inI t_thereMany) (ok_t_froms : okA t_froms) (ok_t_tos : okA t_tos) (ok_t_steps_many : inI t_steps_many) (ok_t_steps_xs : okA t_steps_xs) (ok_t_steps_ys : okA t_steps_ys) (ok_t_steps_zs : okA t_steps_zs) (ok_t_there : okZ t_there) (ok_v1 : inI v1) (ok_v2 : inI v2) (ok_s0 : inI s0) (hs : m_X9_joinLines_116 t_thereMany t_steps_many t_steps_xs t_steps_ys t_steps_zs t_there v1 v2 s0 = some r) : G l E b0 M_X9_joinLines (fun _ => True) (ZM E b0 (some (vI r.1)) (ov [a_t, (a_t + 2), (a_t + 3), (a_t + 4), (a_t + 5), (a_t + 6), (a_t + 7), (a_t + 8)] [.inr (9, fsX9 a_t t_knotMany r.2.1 t_groupMany), IA E 120 t_froms, IA E 120 t_tos, .inr (8, fsX8 (a_t + 4) t_steps_many), IA E 120 r.2.2.1, IA E 120 r.2.2.2.1, IA E 120 r.2.2.2.2.1, ZA E 120 r.2.2.2.2.2] h) n (inI r.1 ∧ inI r.2.1 ∧ okA r.2.2.1 ∧ okA r.2.2.2.1 ∧ okA r.2.2.2.2.1 ∧ okZ r.2.2.2.2.2) 0 0) 0 0 n (ov [a_t, (a_t + 2), (a_t + 3), (a_t + 4), (a_t + 5), (a_t + 6), (a_t + 7), (a_t + 8)] [.inr (9, fsX9 a_t t_knotMany t_thereMany t_groupMany), IA E 120 t_froms, IA E 120 t_tos, .inr (8, fsX8 (a_t + 4) t_steps_many), IA E 120 t_steps_xs, IA E 120 t_steps_ys, IA E 120 t_steps_zs, ZA E 120 t_there] h) 116 [some (.ref a_t), some (vI v1), some (vI v2), none, none, none, none, none, none, none] [vI s0] := by
  rw [m_X9_joinLines_116] at hs
  refine g_istore e_X9_joinLines_116 st1_5 rfl ?_
  refine g_aload_n e_X9_joinLines_118 rfl ?_
  refine g_get 0 3 ao rfl rfl fsX9_g3 fl_X9_27 e_X9_joinLines_119 ?_
  refine g_iload_n e_X9_joinLines_122 rfl ?_
  refine g_iconst e_X9_joinLines_123 ?_
  obtain ⟨y11, hy11, hs⟩ := bind_elim hs
  refine g_callVr [vI v1, vI 0] cv_X9_87 ⟨rfl, rfl, Nat.le_of_ble_eq_true rfl, Nat.le_of_ble_eq_true rfl⟩ (ct_X8_partOf (AO_call [3, 4, 5, 6] ao (by decide) rfl) (by omega) (FA_call [3, 4, 5, 6] ao.1 rfl rfl) ok_t_steps_many ok_t_steps_xs ok_t_steps_ys ok_t_steps_zs ok_v1 (by decide : inI 0) hy11) e_X9_joinLines_124 (ao.2 3 _ rfl) (ov_get 3 ao.1 rfl rfl) rfl rfl rfl (Nat.le_of_ble_eq_true rfl) ⟨Nat.le_refl _, Nat.le_refl _⟩ (fun Py11 => ?_)
  refine g_iload e_X9_joinLines_127 rfl ?_
  refine g_aload_n e_X9_joinLines_129 rfl ?_
  refine g_get 0 3 ao rfl rfl fsX9_g3 fl_X9_27 e_X9_joinLines_130 ?_
  refine g_iload_n e_X9_joinLines_133 rfl ?_
  refine g_iconst e_X9_joinLines_134 ?_
  obtain ⟨y12, hy12, hs⟩ := bind_elim hs
  refine g_callVr [vI v2, vI 0] cv_X9_87 ⟨rfl, rfl, Nat.le_of_ble_eq_true rfl, Nat.le_of_ble_eq_true rfl⟩ (ct_X8_partOf (AO_call [3, 4, 5, 6] ao (by decide) rfl) (by omega) (FA_call [3, 4, 5, 6] ao.1 rfl rfl) ok_t_steps_many ok_t_steps_xs ok_t_steps_ys ok_t_steps_zs ok_v2 (by decide : inI 0) hy12) e_X9_joinLines_135 (ao.2 3 _ rfl) (ov_get 3 ao.1 rfl rfl) rfl rfl rfl (Nat.le_of_ble_eq_true rfl) ⟨Nat.le_refl _, Nat.le_refl _⟩ (fun Py12 => ?_)
  refine g_imul e_X9_joinLines_138 ?_
  refine g_iadd e_X9_joinLines_139 ?_
  refine g_istore e_X9_joinLines_140 st1_6 rfl ?_
  refine g_aload_n e_X9_joinLines_142 rfl ?_
  refine g_get 0 3 ao rfl rfl fsX9_g3 fl_X9_27 e_X9_joinLines_143 ?_
  refine g_iload_n e_X9_joinLines_146 rfl ?_
  refine g_iconst e_X9_joinLines_147 ?_
  obtain ⟨y13, hy13, hs⟩ := bind_elim hs
  refine g_callVr [vI v1, vI 1] cv_X9_87 ⟨rfl, rfl, Nat.le_of_ble_eq_true rfl, Nat.le_of_ble_eq_true rfl⟩ (ct_X8_partOf (AO_call [3, 4, 5, 6] ao (by decide) rfl) (by omega) (FA_call [3, 4, 5, 6] ao.1 rfl rfl) ok_t_steps_many ok_t_steps_xs ok_t_steps_ys ok_t_steps_zs ok_v1 (by decide : inI 1) hy13) e_X9_joinLines_148 (ao.2 3 _ rfl) (ov_get 3 ao.1 rfl rfl) rfl rfl rfl (Nat.le_of_ble_eq_true rfl) ⟨Nat.le_refl _, Nat.le_refl _⟩ (fun Py13 => ?_)
  refine g_iload e_X9_joinLines_151 rfl ?_
  refine g_aload_n e_X9_joinLines_153 rfl ?_
  refine g_get 0 3 ao rfl rfl fsX9_g3 fl_X9_27 e_X9_joinLines_154 ?_
  refine g_iload_n e_X9_joinLines_157 rfl ?_
  refine g_iconst e_X9_joinLines_158 ?_
  obtain ⟨y14, hy14, hs⟩ := bind_elim hs
  refine g_callVr [vI v2, vI 1] cv_X9_87 ⟨rfl, rfl, Nat.le_of_ble_eq_true rfl, Nat.le_of_ble_eq_true rfl⟩ (ct_X8_partOf (AO_call [3, 4, 5, 6] ao (by decide) rfl) (by omega) (FA_call [3, 4, 5, 6] ao.1 rfl rfl) ok_t_steps_many ok_t_steps_xs ok_t_steps_ys ok_t_steps_zs ok_v2 (by decide : inI 1) hy14) e_X9_joinLines_159 (ao.2 3 _ rfl) (ov_get 3 ao.1 rfl rfl) rfl rfl rfl (Nat.le_of_ble_eq_true rfl) ⟨Nat.le_refl _, Nat.le_refl _⟩ (fun Py14 => ?_)
  refine g_imul e_X9_joinLines_162 ?_
  refine g_iadd e_X9_joinLines_163 ?_
  refine g_istore e_X9_joinLines_164 st1_7 rfl ?_
  refine g_aload_n e_X9_joinLines_166 rfl ?_
  refine g_get 0 3 ao rfl rfl fsX9_g3 fl_X9_27 e_X9_joinLines_167 ?_
  refine g_iload_n e_X9_joinLines_170 rfl ?_
  refine g_iconst e_X9_joinLines_171 ?_
  obtain ⟨y15, hy15, hs⟩ := bind_elim hs
  refine g_callVr [vI v1, vI 2] cv_X9_87 ⟨rfl, rfl, Nat.le_of_ble_eq_true rfl, Nat.le_of_ble_eq_true rfl⟩ (ct_X8_partOf (AO_call [3, 4, 5, 6] ao (by decide) rfl) (by omega) (FA_call [3, 4, 5, 6] ao.1 rfl rfl) ok_t_steps_many ok_t_steps_xs ok_t_steps_ys ok_t_steps_zs ok_v1 (by decide : inI 2) hy15) e_X9_joinLines_172 (ao.2 3 _ rfl) (ov_get 3 ao.1 rfl rfl) rfl rfl rfl (Nat.le_of_ble_eq_true rfl) ⟨Nat.le_refl _, Nat.le_refl _⟩ (fun Py15 => ?_)
  refine g_iload e_X9_joinLines_175 rfl ?_
  refine g_aload_n e_X9_joinLines_177 rfl ?_
  refine g_get 0 3 ao rfl rfl fsX9_g3 fl_X9_27 e_X9_joinLines_178 ?_
  refine g_iload_n e_X9_joinLines_181 rfl ?_
  refine g_iconst e_X9_joinLines_182 ?_
  obtain ⟨y16, hy16, hs⟩ := bind_elim hs
  refine g_callVr [vI v2, vI 2] cv_X9_87 ⟨rfl, rfl, Nat.le_of_ble_eq_true rfl, Nat.le_of_ble_eq_true rfl⟩ (ct_X8_partOf (AO_call [3, 4, 5, 6] ao (by decide) rfl) (by omega) (FA_call [3, 4, 5, 6] ao.1 rfl rfl) ok_t_steps_many ok_t_steps_xs ok_t_steps_ys ok_t_steps_zs ok_v2 (by decide : inI 2) hy16) e_X9_joinLines_183 (ao.2 3 _ rfl) (ov_get 3 ao.1 rfl rfl) rfl rfl rfl (Nat.le_of_ble_eq_true rfl) ⟨Nat.le_refl _, Nat.le_refl _⟩ (fun Py16 => ?_)
  refine g_imul e_X9_joinLines_186 ?_
  refine g_iadd e_X9_joinLines_187 ?_
  refine g_istore e_X9_joinLines_188 st1_8 rfl ?_
  refine g_iload e_X9_joinLines_190 rfl ?_
  obtain ⟨hc17, hs⟩ := chk_elim hs
  obtain ⟨y18, hy18, hs⟩ := bind_elim hs
  refine g_callSr [vI (y11 + (s0 * y12))] cs_X9_71 ⟨rfl, rfl, Nat.le_of_ble_eq_true rfl, Nat.le_of_ble_eq_true rfl⟩ (ct_X9_isStepPart ⟨List.nodup_nil, fun i a h => by simp at h⟩ (fun i a e h => by simp at h) hc17 hy18) e_X9_joinLines_192 rfl rfl (Nat.le_of_ble_eq_true rfl) ⟨Nat.le_refl _, Nat.le_refl _⟩ (fun Py18 => ?_)
  refine g_if_eq e_X9_joinLines_195 (inZ_I Py18) hs (fun c195 hs => ?_) (fun c195 hs => ?_)
  · refine g_bipush e_X9_joinLines_214 bp_m2 ?_
    obtain rfl := Option.some.inj hs
    exact g_iret rfl ⟨(by decide : inI (-2)), ok_t_thereMany, ok_t_steps_xs, ok_t_steps_ys, ok_t_steps_zs, ok_t_there⟩ e_X9_joinLines_216
  · refine g_iload e_X9_joinLines_198 rfl ?_
    obtain ⟨hc19, hs⟩ := chk_elim hs
    obtain ⟨y20, hy20, hs⟩ := bind_elim hs
    refine g_callSr [vI (y13 + (s0 * y14))] cs_X9_71 ⟨rfl, rfl, Nat.le_of_ble_eq_true rfl, Nat.le_of_ble_eq_true rfl⟩ (ct_X9_isStepPart ⟨List.nodup_nil, fun i a h => by simp at h⟩ (fun i a e h => by simp at h) hc19 hy20) e_X9_joinLines_200 rfl rfl (Nat.le_of_ble_eq_true rfl) ⟨Nat.le_refl _, Nat.le_refl _⟩ (fun Py20 => ?_)
    refine g_if_eq e_X9_joinLines_203 (inZ_I Py20) hs (fun c203 hs => ?_) (fun c203 hs => ?_)
    · refine g_bipush e_X9_joinLines_214 bp_m2 ?_
      obtain rfl := Option.some.inj hs
      exact g_iret rfl ⟨(by decide : inI (-2)), ok_t_thereMany, ok_t_steps_xs, ok_t_steps_ys, ok_t_steps_zs, ok_t_there⟩ e_X9_joinLines_216
    · refine g_iload e_X9_joinLines_206 rfl ?_
      obtain ⟨hc21, hs⟩ := chk_elim hs
      obtain ⟨y22, hy22, hs⟩ := bind_elim hs
      refine g_callSr [vI (y15 + (s0 * y16))] cs_X9_71 ⟨rfl, rfl, Nat.le_of_ble_eq_true rfl, Nat.le_of_ble_eq_true rfl⟩ (ct_X9_isStepPart ⟨List.nodup_nil, fun i a h => by simp at h⟩ (fun i a e h => by simp at h) hc21 hy22) e_X9_joinLines_208 rfl rfl (Nat.le_of_ble_eq_true rfl) ⟨Nat.le_refl _, Nat.le_refl _⟩ (fun Py22 => ?_)
      refine g_if_ne e_X9_joinLines_211 (inZ_I Py22) hs (fun c211 hs => ?_) (fun c211 hs => ?_)
      · refine g_bipush e_X9_joinLines_214 bp_m2 ?_
        obtain rfl := Option.some.inj hs
        exact g_iret rfl ⟨(by decide : inI (-2)), ok_t_thereMany, ok_t_steps_xs, ok_t_steps_ys, ok_t_steps_zs, ok_t_there⟩ e_X9_joinLines_216
      · refine g_iload e_X9_joinLines_217 rfl ?_
        refine g_iload e_X9_joinLines_219 rfl ?_
        refine g_imul e_X9_joinLines_221 ?_
        refine g_iload e_X9_joinLines_222 rfl ?_
        refine g_iload e_X9_joinLines_224 rfl ?_
        refine g_imul e_X9_joinLines_226 ?_
        refine g_iadd e_X9_joinLines_227 ?_
        refine g_iload e_X9_joinLines_228 rfl ?_
        refine g_iload e_X9_joinLines_230 rfl ?_
        refine g_imul e_X9_joinLines_232 ?_
        refine g_iadd e_X9_joinLines_233 ?_
        refine g_istore e_X9_joinLines_234 st1_9 rfl ?_
        refine g_iload e_X9_joinLines_236 rfl ?_
        refine g_aload_n e_X9_joinLines_238 rfl ?_
        refine g_get 0 3 ao rfl rfl fsX9_g3 fl_X9_27 e_X9_joinLines_239 ?_
        refine g_iload_n e_X9_joinLines_242 rfl ?_
        obtain ⟨y23, hy23, hs⟩ := bind_elim hs
        refine g_callVr [vI v1] cv_X9_91 ⟨rfl, rfl, Nat.le_of_ble_eq_true rfl, Nat.le_of_ble_eq_true rfl⟩ (ct_X8_worthOf (AO_call [3, 4, 5, 6] ao (by decide) rfl) (by omega) (FA_call [3, 4, 5, 6] ao.1 rfl rfl) ok_t_steps_many ok_t_steps_xs ok_t_steps_ys ok_t_steps_zs ok_v1 hy23) e_X9_joinLines_243 (ao.2 3 _ rfl) (ov_get 3 ao.1 rfl rfl) rfl rfl rfl (Nat.le_of_ble_eq_true rfl) ⟨Nat.le_refl _, Nat.le_refl _⟩ (fun Py23 => ?_)
        refine g_aload_n e_X9_joinLines_246 rfl ?_
        refine g_get 0 3 ao rfl rfl fsX9_g3 fl_X9_27 e_X9_joinLines_247 ?_
        refine g_iload_n e_X9_joinLines_250 rfl ?_
        obtain ⟨y24, hy24, hs⟩ := bind_elim hs
        refine g_callVr [vI v2] cv_X9_91 ⟨rfl, rfl, Nat.le_of_ble_eq_true rfl, Nat.le_of_ble_eq_true rfl⟩ (ct_X8_worthOf (AO_call [3, 4, 5, 6] ao (by decide) rfl) (by omega) (FA_call [3, 4, 5, 6] ao.1 rfl rfl) ok_t_steps_many ok_t_steps_xs ok_t_steps_ys ok_t_steps_zs ok_v2 hy24) e_X9_joinLines_251 (ao.2 3 _ rfl) (ov_get 3 ao.1 rfl rfl) rfl rfl rfl (Nat.le_of_ble_eq_true rfl) ⟨Nat.le_refl _, Nat.le_refl _⟩ (fun Py24 => ?_)
        refine g_iadd e_X9_joinLines_254 ?_
        obtain ⟨hc25, hs⟩ := chk_elim hs
        obtain ⟨hc26, hs⟩ := chk_elim hs
        refine g_icmp_lt e_X9_joinLines_255 hc25 hc26 hs (fun c255 hs => ?_) (fun c255 hs => ?_)
        · refine g_aload_n e_X9_joinLines_260 rfl ?_
          refine g_get 0 3 ao rfl rfl fsX9_g3 fl_X9_27 e_X9_joinLines_261 ?_
          refine g_iload_n e_X9_joinLines_264 rfl ?_
          refine g_iload e_X9_joinLines_265 rfl ?_
          refine g_iload e_X9_joinLines_267 rfl ?_
          refine g_iload e_X9_joinLines_269 rfl ?_
          obtain ⟨y27, hy27, hs⟩ := bind_elim hs
          refine g_callVv [vI v1, vI (y11 + (s0 * y12)), vI (y13 + (s0 * y14)), vI (y15 + (s0 * y16))] cv_X9_98 ⟨rfl, rfl, Nat.le_of_ble_eq_true rfl, Nat.le_of_ble_eq_true rfl⟩ (Ct_heap (ct_X8_change (AO_call [3, 4, 5, 6] ao (by decide) rfl) (by omega) (FA_call [3, 4, 5, 6] ao.1 rfl rfl) ok_t_steps_many ok_t_steps_xs ok_t_steps_ys ok_t_steps_zs ok_v1 hc17 hc19 hc21 hy27) (ov_call (esn := [.inr (9, fsX9 a_t t_knotMany t_thereMany t_groupMany), IA E 120 t_froms, IA E 120 t_tos, .inr (8, fsX8 (a_t + 4) t_steps_many), IA E 120 y27.1, IA E 120 y27.2.1, IA E 120 y27.2.2, ZA E 120 t_there]) [3, 4, 5, 6] ao.1 rfl rfl rfl rfl)) e_X9_joinLines_271 (ao.2 3 _ rfl) (ov_get 3 ao.1 rfl rfl) rfl rfl rfl (Nat.le_of_ble_eq_true rfl) ⟨Nat.le_refl _, Nat.le_refl _⟩ (fun Py27 => ?_)
          refine g_aload_n e_X9_joinLines_274 rfl ?_
          refine g_iload_n e_X9_joinLines_275 rfl ?_
          obtain ⟨y28, hy28, hs⟩ := bind_elim hs
          refine g_callVv [vI v2] cv_X9_102 ⟨rfl, rfl, Nat.le_of_ble_eq_true rfl, Nat.le_of_ble_eq_true rfl⟩ (Ct_heap (ct_X9_remove (AO_call [0, 3, 7] ao (by decide) rfl) (FA_call [0, 3, 7] ao.1 rfl rfl) ok_t_thereMany ok_t_steps_many ok_t_there ok_v2 hy28) (ov_call (esn := [.inr (9, fsX9 a_t t_knotMany y28.1 t_groupMany), IA E 120 t_froms, IA E 120 t_tos, .inr (8, fsX8 (a_t + 4) t_steps_many), IA E 120 y27.1, IA E 120 y27.2.1, IA E 120 y27.2.2, ZA E 120 y28.2]) [0, 3, 7] ao.1 rfl rfl rfl rfl)) e_X9_joinLines_276 (ao.2 0 _ rfl) (ov_get 0 ao.1 rfl rfl) rfl rfl rfl (Nat.le_of_ble_eq_true rfl) ⟨Nat.le_refl _, Nat.le_refl _⟩ (fun Py28 => ?_)
          refine g_iload e_X9_joinLines_279 rfl ?_
          refine g_if_ne e_X9_joinLines_281 hc25 hs (fun c281 hs => ?_) (fun c281 hs => ?_)
          · refine g_aload_n e_X9_joinLines_284 rfl ?_
            refine g_iload_n e_X9_joinLines_285 rfl ?_
            obtain ⟨y29, hy29, hs⟩ := bind_elim hs
            refine g_callVv [vI v1] cv_X9_102 ⟨rfl, rfl, Nat.le_of_ble_eq_true rfl, Nat.le_of_ble_eq_true rfl⟩ (Ct_heap (ct_X9_remove (AO_call [0, 3, 7] ao (by decide) rfl) (FA_call [0, 3, 7] ao.1 rfl rfl) Py28.1 ok_t_steps_many Py28.2 ok_v1 hy29) (ov_call (esn := [.inr (9, fsX9 a_t t_knotMany y29.1 t_groupMany), IA E 120 t_froms, IA E 120 t_tos, .inr (8, fsX8 (a_t + 4) t_steps_many), IA E 120 y27.1, IA E 120 y27.2.1, IA E 120 y27.2.2, ZA E 120 y29.2]) [0, 3, 7] ao.1 rfl rfl rfl rfl)) e_X9_joinLines_286 (ao.2 0 _ rfl) (ov_get 0 ao.1 rfl rfl) rfl rfl rfl (Nat.le_of_ble_eq_true rfl) ⟨Nat.le_refl _, Nat.le_refl _⟩ (fun Py29 => ?_)
            refine g_iconst e_X9_joinLines_289 ?_
            obtain rfl := Option.some.inj hs
            exact g_iret rfl ⟨(by decide : inI 1), Py29.1, Py27.1, Py27.2.1, Py27.2.2, Py29.2⟩ e_X9_joinLines_290
          · refine g_iconst e_X9_joinLines_289 ?_
            obtain rfl := Option.some.inj hs
            exact g_iret rfl ⟨(by decide : inI 1), Py28.1, Py27.1, Py27.2.1, Py27.2.2, Py28.2⟩ e_X9_joinLines_290
        · refine g_iconst e_X9_joinLines_258 ?_
          obtain rfl := Option.some.inj hs
          exact g_iret rfl ⟨(by decide : inI 0), ok_t_thereMany, ok_t_steps_xs, ok_t_steps_ys, ok_t_steps_zs, ok_t_there⟩ e_X9_joinLines_259

noncomputable def m_X9_joinLines_107 (t_thereMany : Int) (t_steps_many : Int) (t_steps_xs : Nat → Int) (t_steps_ys : Nat → Int) (t_steps_zs : Nat → Int) (t_there : Nat → Int) (v1 : Int) (v2 : Int) (v3 : Int) : Option (Int × Int × (Nat → Int) × (Nat → Int) × (Nat → Int) × (Nat → Int)) :=
  if v3 = 0 then (m_X9_joinLines_116 t_thereMany t_steps_many t_steps_xs t_steps_ys t_steps_zs t_there v1 v2 (-1)) else (m_X9_joinLines_116 t_thereMany t_steps_many t_steps_xs t_steps_ys t_steps_zs t_there v1 v2 1)

set_option maxRecDepth 10000 in
theorem g_X9_joinLines_107 {l : Launch} {E : EE} {b0 n : Nat} {h : AH} {a_t : Nat} {t_knotMany t_thereMany t_groupMany t_steps_many v1 v2 v3 : Int} {t_froms t_tos t_steps_xs t_steps_ys t_steps_zs t_there : Nat → Int} {r : Int × Int × (Nat → Int) × (Nat → Int) × (Nat → Int) × (Nat → Int)} (ao : AO b0 n [a_t, (a_t + 2), (a_t + 3), (a_t + 4), (a_t + 5), (a_t + 6), (a_t + 7), (a_t + 8)]) (ok_t_thereMany : inI t_thereMany) (ok_t_froms : okA t_froms) (ok_t_tos : okA t_tos) (ok_t_steps_many : inI t_steps_many) (ok_t_steps_xs : okA t_steps_xs) (ok_t_steps_ys : okA t_steps_ys) (ok_t_steps_zs : okA t_steps_zs) (ok_t_there : okZ t_there) (ok_v1 : inI v1) (ok_v2 : inI v2) (ok_v3 : inZ v3) (hs : m_X9_joinLines_107 t_thereMany t_steps_many t_steps_xs t_steps_ys t_steps_zs t_there v1 v2 v3 = some r) : G l E b0 M_X9_joinLines (fun _ => True) (ZM E b0 (some (vI r.1)) (ov [a_t, (a_t + 2), (a_t + 3), (a_t + 4), (a_t + 5), (a_t + 6), (a_t + 7), (a_t + 8)] [.inr (9, fsX9 a_t t_knotMany r.2.1 t_groupMany), IA E 120 t_froms, IA E 120 t_tos, .inr (8, fsX8 (a_t + 4) t_steps_many), IA E 120 r.2.2.1, IA E 120 r.2.2.2.1, IA E 120 r.2.2.2.2.1, ZA E 120 r.2.2.2.2.2] h) n (inI r.1 ∧ inI r.2.1 ∧ okA r.2.2.1 ∧ okA r.2.2.2.1 ∧ okA r.2.2.2.2.1 ∧ okZ r.2.2.2.2.2) 0 0) 0 0 n (ov [a_t, (a_t + 2), (a_t + 3), (a_t + 4), (a_t + 5), (a_t + 6), (a_t + 7), (a_t + 8)] [.inr (9, fsX9 a_t t_knotMany t_thereMany t_groupMany), IA E 120 t_froms, IA E 120 t_tos, .inr (8, fsX8 (a_t + 4) t_steps_many), IA E 120 t_steps_xs, IA E 120 t_steps_ys, IA E 120 t_steps_zs, ZA E 120 t_there] h) 107 [some (.ref a_t), some (vI v1), some (vI v2), some (vI v3), none, none, none, none, none, none] [] := by
  rw [m_X9_joinLines_107] at hs
  refine g_iload_n e_X9_joinLines_107 rfl ?_
  refine g_if_eq e_X9_joinLines_108 (inZ_I ok_v3) hs (fun c108 hs => ?_) (fun c108 hs => ?_)
  · refine g_iconst e_X9_joinLines_115 ?_
    exact g_mask [true, true, true, false, true, true, true, true, true, true] (g_X9_joinLines_116 ao ok_t_thereMany ok_t_froms ok_t_tos ok_t_steps_many ok_t_steps_xs ok_t_steps_ys ok_t_steps_zs ok_t_there ok_v1 ok_v2 (by decide : inI (-1)) hs)
  · refine g_iconst e_X9_joinLines_111 ?_
    refine g_goto e_X9_joinLines_112 ?_
    exact g_mask [true, true, true, false, true, true, true, true, true, true] (g_X9_joinLines_116 ao ok_t_thereMany ok_t_froms ok_t_tos ok_t_steps_many ok_t_steps_xs ok_t_steps_ys ok_t_steps_zs ok_t_there ok_v1 ok_v2 (by decide : inI 1) hs)

noncomputable def m_X9_joinLines_94 (t_thereMany : Int) (t_steps_many : Int) (t_steps_xs : Nat → Int) (t_steps_ys : Nat → Int) (t_steps_zs : Nat → Int) (t_there : Nat → Int) (v1 : Int) (v2 : Int) (v3 : Int) (s0 : Int) : Option (Int × Int × (Nat → Int) × (Nat → Int) × (Nat → Int) × (Nat → Int)) :=
  if v3 = 0 then (if s0 = 0 then (some ((-1), t_thereMany, t_steps_xs, t_steps_ys, t_steps_zs, t_there)) else (m_X9_joinLines_107 t_thereMany t_steps_many t_steps_xs t_steps_ys t_steps_zs t_there v1 v2 v3)) else (m_X9_joinLines_107 t_thereMany t_steps_many t_steps_xs t_steps_ys t_steps_zs t_there v1 v2 v3)

set_option maxRecDepth 10000 in
theorem g_X9_joinLines_94 {l : Launch} {E : EE} {b0 n : Nat} {h : AH} {a_t : Nat} {t_knotMany t_thereMany t_groupMany t_steps_many v1 v2 v3 s0 : Int} {t_froms t_tos t_steps_xs t_steps_ys t_steps_zs t_there : Nat → Int} {r : Int × Int × (Nat → Int) × (Nat → Int) × (Nat → Int) × (Nat → Int)} (ao : AO b0 n [a_t, (a_t + 2), (a_t + 3), (a_t + 4), (a_t + 5), (a_t + 6), (a_t + 7), (a_t + 8)]) (ok_t_thereMany : inI t_thereMany) (ok_t_froms : okA t_froms) (ok_t_tos : okA t_tos) (ok_t_steps_many : inI t_steps_many) (ok_t_steps_xs : okA t_steps_xs) (ok_t_steps_ys : okA t_steps_ys) (ok_t_steps_zs : okA t_steps_zs) (ok_t_there : okZ t_there) (ok_v1 : inI v1) (ok_v2 : inI v2) (ok_v3 : inZ v3) (ok_s0 : inZ s0) (hs : m_X9_joinLines_94 t_thereMany t_steps_many t_steps_xs t_steps_ys t_steps_zs t_there v1 v2 v3 s0 = some r) : G l E b0 M_X9_joinLines (fun _ => True) (ZM E b0 (some (vI r.1)) (ov [a_t, (a_t + 2), (a_t + 3), (a_t + 4), (a_t + 5), (a_t + 6), (a_t + 7), (a_t + 8)] [.inr (9, fsX9 a_t t_knotMany r.2.1 t_groupMany), IA E 120 t_froms, IA E 120 t_tos, .inr (8, fsX8 (a_t + 4) t_steps_many), IA E 120 r.2.2.1, IA E 120 r.2.2.2.1, IA E 120 r.2.2.2.2.1, ZA E 120 r.2.2.2.2.2] h) n (inI r.1 ∧ inI r.2.1 ∧ okA r.2.2.1 ∧ okA r.2.2.2.1 ∧ okA r.2.2.2.2.1 ∧ okZ r.2.2.2.2.2) 0 0) 0 0 n (ov [a_t, (a_t + 2), (a_t + 3), (a_t + 4), (a_t + 5), (a_t + 6), (a_t + 7), (a_t + 8)] [.inr (9, fsX9 a_t t_knotMany t_thereMany t_groupMany), IA E 120 t_froms, IA E 120 t_tos, .inr (8, fsX8 (a_t + 4) t_steps_many), IA E 120 t_steps_xs, IA E 120 t_steps_ys, IA E 120 t_steps_zs, ZA E 120 t_there] h) 94 [some (.ref a_t), some (vI v1), some (vI v2), some (vI v3), none, none, none, none, none, none] [vI s0] := by
  rw [m_X9_joinLines_94] at hs
  refine g_istore e_X9_joinLines_94 st1_4 rfl ?_
  refine g_iload_n e_X9_joinLines_96 rfl ?_
  refine g_if_ne e_X9_joinLines_97 (inZ_I ok_v3) hs (fun c97 hs => ?_) (fun c97 hs => ?_)
  · refine g_iload e_X9_joinLines_100 rfl ?_
    refine g_if_ne e_X9_joinLines_102 (inZ_I ok_s0) hs (fun c102 hs => ?_) (fun c102 hs => ?_)
    · refine g_iconst e_X9_joinLines_105 ?_
      obtain rfl := Option.some.inj hs
      exact g_iret rfl ⟨(by decide : inI (-1)), ok_t_thereMany, ok_t_steps_xs, ok_t_steps_ys, ok_t_steps_zs, ok_t_there⟩ e_X9_joinLines_106
    · exact g_mask [true, true, true, true, false, true, true, true, true, true] (g_X9_joinLines_107 ao ok_t_thereMany ok_t_froms ok_t_tos ok_t_steps_many ok_t_steps_xs ok_t_steps_ys ok_t_steps_zs ok_t_there ok_v1 ok_v2 ok_v3 hs)
  · exact g_mask [true, true, true, true, false, true, true, true, true, true] (g_X9_joinLines_107 ao ok_t_thereMany ok_t_froms ok_t_tos ok_t_steps_many ok_t_steps_xs ok_t_steps_ys ok_t_steps_zs ok_t_there ok_v1 ok_v2 ok_v3 hs)

noncomputable def m_X9_joinLines_93 (t_thereMany : Int) (t_steps_many : Int) (t_steps_xs : Nat → Int) (t_steps_ys : Nat → Int) (t_steps_zs : Nat → Int) (t_there : Nat → Int) (v1 : Int) (v2 : Int) (v3 : Int) : Option (Int × Int × (Nat → Int) × (Nat → Int) × (Nat → Int) × (Nat → Int)) :=
  m_X9_joinLines_94 t_thereMany t_steps_many t_steps_xs t_steps_ys t_steps_zs t_there v1 v2 v3 0

set_option maxRecDepth 10000 in
theorem g_X9_joinLines_93 {l : Launch} {E : EE} {b0 n : Nat} {h : AH} {a_t : Nat} {t_knotMany t_thereMany t_groupMany t_steps_many v1 v2 v3 : Int} {t_froms t_tos t_steps_xs t_steps_ys t_steps_zs t_there : Nat → Int} {r : Int × Int × (Nat → Int) × (Nat → Int) × (Nat → Int) × (Nat → Int)} (ao : AO b0 n [a_t, (a_t + 2), (a_t + 3), (a_t + 4), (a_t + 5), (a_t + 6), (a_t + 7), (a_t + 8)]) (ok_t_thereMany : inI t_thereMany) (ok_t_froms : okA t_froms) (ok_t_tos : okA t_tos) (ok_t_steps_many : inI t_steps_many) (ok_t_steps_xs : okA t_steps_xs) (ok_t_steps_ys : okA t_steps_ys) (ok_t_steps_zs : okA t_steps_zs) (ok_t_there : okZ t_there) (ok_v1 : inI v1) (ok_v2 : inI v2) (ok_v3 : inZ v3) (hs : m_X9_joinLines_93 t_thereMany t_steps_many t_steps_xs t_steps_ys t_steps_zs t_there v1 v2 v3 = some r) : G l E b0 M_X9_joinLines (fun _ => True) (ZM E b0 (some (vI r.1)) (ov [a_t, (a_t + 2), (a_t + 3), (a_t + 4), (a_t + 5), (a_t + 6), (a_t + 7), (a_t + 8)] [.inr (9, fsX9 a_t t_knotMany r.2.1 t_groupMany), IA E 120 t_froms, IA E 120 t_tos, .inr (8, fsX8 (a_t + 4) t_steps_many), IA E 120 r.2.2.1, IA E 120 r.2.2.2.1, IA E 120 r.2.2.2.2.1, ZA E 120 r.2.2.2.2.2] h) n (inI r.1 ∧ inI r.2.1 ∧ okA r.2.2.1 ∧ okA r.2.2.2.1 ∧ okA r.2.2.2.2.1 ∧ okZ r.2.2.2.2.2) 0 0) 0 0 n (ov [a_t, (a_t + 2), (a_t + 3), (a_t + 4), (a_t + 5), (a_t + 6), (a_t + 7), (a_t + 8)] [.inr (9, fsX9 a_t t_knotMany t_thereMany t_groupMany), IA E 120 t_froms, IA E 120 t_tos, .inr (8, fsX8 (a_t + 4) t_steps_many), IA E 120 t_steps_xs, IA E 120 t_steps_ys, IA E 120 t_steps_zs, ZA E 120 t_there] h) 93 [some (.ref a_t), some (vI v1), some (vI v2), some (vI v3), none, none, none, none, none, none] [] := by
  rw [m_X9_joinLines_93] at hs
  refine g_iconst e_X9_joinLines_93 ?_
  exact g_X9_joinLines_94 ao ok_t_thereMany ok_t_froms ok_t_tos ok_t_steps_many ok_t_steps_xs ok_t_steps_ys ok_t_steps_zs ok_t_there ok_v1 ok_v2 ok_v3 (by decide : inZ 0) hs

noncomputable def m_X9_joinLines_58 (t_thereMany : Int) (t_froms : Nat → Int) (t_tos : Nat → Int) (t_steps_many : Int) (t_steps_xs : Nat → Int) (t_steps_ys : Nat → Int) (t_steps_zs : Nat → Int) (t_there : Nat → Int) (v1 : Int) (v2 : Int) (s0 : Int) : Option (Int × Int × (Nat → Int) × (Nat → Int) × (Nat → Int) × (Nat → Int)) :=
  chk (inB v1 120) (chk (inB v2 120) (if (t_froms (Int.toNat v1)) = (t_tos (Int.toNat v2)) then (chk (inB v1 120) (chk (inB v2 120) (if (t_tos (Int.toNat v1)) = (t_froms (Int.toNat v2)) then (m_X9_joinLines_94 t_thereMany t_steps_many t_steps_xs t_steps_ys t_steps_zs t_there v1 v2 s0 1) else (m_X9_joinLines_93 t_thereMany t_steps_many t_steps_xs t_steps_ys t_steps_zs t_there v1 v2 s0)))) else (m_X9_joinLines_93 t_thereMany t_steps_many t_steps_xs t_steps_ys t_steps_zs t_there v1 v2 s0)))

set_option maxRecDepth 10000 in
theorem g_X9_joinLines_58 {l : Launch} {E : EE} {b0 n : Nat} {h : AH} {a_t : Nat} {t_knotMany t_thereMany t_groupMany t_steps_many v1 v2 s0 : Int} {t_froms t_tos t_steps_xs t_steps_ys t_steps_zs t_there : Nat → Int} {r : Int × Int × (Nat → Int) × (Nat → Int) × (Nat → Int) × (Nat → Int)} (ao : AO b0 n [a_t, (a_t + 2), (a_t + 3), (a_t + 4), (a_t + 5), (a_t + 6), (a_t + 7), (a_t + 8)]) (ok_t_thereMany : inI t_thereMany) (ok_t_froms : okA t_froms) (ok_t_tos : okA t_tos) (ok_t_steps_many : inI t_steps_many) (ok_t_steps_xs : okA t_steps_xs) (ok_t_steps_ys : okA t_steps_ys) (ok_t_steps_zs : okA t_steps_zs) (ok_t_there : okZ t_there) (ok_v1 : inI v1) (ok_v2 : inI v2) (ok_s0 : inZ s0) (hs : m_X9_joinLines_58 t_thereMany t_froms t_tos t_steps_many t_steps_xs t_steps_ys t_steps_zs t_there v1 v2 s0 = some r) : G l E b0 M_X9_joinLines (fun _ => True) (ZM E b0 (some (vI r.1)) (ov [a_t, (a_t + 2), (a_t + 3), (a_t + 4), (a_t + 5), (a_t + 6), (a_t + 7), (a_t + 8)] [.inr (9, fsX9 a_t t_knotMany r.2.1 t_groupMany), IA E 120 t_froms, IA E 120 t_tos, .inr (8, fsX8 (a_t + 4) t_steps_many), IA E 120 r.2.2.1, IA E 120 r.2.2.2.1, IA E 120 r.2.2.2.2.1, ZA E 120 r.2.2.2.2.2] h) n (inI r.1 ∧ inI r.2.1 ∧ okA r.2.2.1 ∧ okA r.2.2.2.1 ∧ okA r.2.2.2.2.1 ∧ okZ r.2.2.2.2.2) 0 0) 0 0 n (ov [a_t, (a_t + 2), (a_t + 3), (a_t + 4), (a_t + 5), (a_t + 6), (a_t + 7), (a_t + 8)] [.inr (9, fsX9 a_t t_knotMany t_thereMany t_groupMany), IA E 120 t_froms, IA E 120 t_tos, .inr (8, fsX8 (a_t + 4) t_steps_many), IA E 120 t_steps_xs, IA E 120 t_steps_ys, IA E 120 t_steps_zs, ZA E 120 t_there] h) 58 [some (.ref a_t), some (vI v1), some (vI v2), none, none, none, none, none, none, none] [vI s0] := by
  rw [m_X9_joinLines_58] at hs
  refine g_istore_n e_X9_joinLines_58 st1_3 rfl ?_
  refine g_aload_n e_X9_joinLines_59 rfl ?_
  refine g_get 0 1 ao rfl rfl fsX9_g1 fl_X9_15 e_X9_joinLines_60 ?_
  refine g_iload_n e_X9_joinLines_63 rfl ?_
  refine g_iald 1 ao rfl rfl (Nat.le_of_ble_eq_true rfl) e_X9_joinLines_64 hs (fun hi7 hs => ?_)
  refine g_aload_n e_X9_joinLines_65 rfl ?_
  refine g_get 0 2 ao rfl rfl fsX9_g2 fl_X9_19 e_X9_joinLines_66 ?_
  refine g_iload_n e_X9_joinLines_69 rfl ?_
  refine g_iald 2 ao rfl rfl (Nat.le_of_ble_eq_true rfl) e_X9_joinLines_70 hs (fun hi8 hs => ?_)
  refine g_icmp_ne e_X9_joinLines_71 (ok_t_froms _) (ok_t_tos _) hs (fun c71 hs => ?_) (fun c71 hs => ?_)
  · refine g_aload_n e_X9_joinLines_74 rfl ?_
    refine g_get 0 2 ao rfl rfl fsX9_g2 fl_X9_19 e_X9_joinLines_75 ?_
    refine g_iload_n e_X9_joinLines_78 rfl ?_
    refine g_iald 2 ao rfl rfl (Nat.le_of_ble_eq_true rfl) e_X9_joinLines_79 hs (fun hi9 hs => ?_)
    refine g_aload_n e_X9_joinLines_80 rfl ?_
    refine g_get 0 1 ao rfl rfl fsX9_g1 fl_X9_15 e_X9_joinLines_81 ?_
    refine g_iload_n e_X9_joinLines_84 rfl ?_
    refine g_iald 1 ao rfl rfl (Nat.le_of_ble_eq_true rfl) e_X9_joinLines_85 hs (fun hi10 hs => ?_)
    refine g_icmp_ne e_X9_joinLines_86 (ok_t_tos _) (ok_t_froms _) hs (fun c86 hs => ?_) (fun c86 hs => ?_)
    · refine g_iconst e_X9_joinLines_89 ?_
      refine g_goto e_X9_joinLines_90 ?_
      exact g_X9_joinLines_94 ao ok_t_thereMany ok_t_froms ok_t_tos ok_t_steps_many ok_t_steps_xs ok_t_steps_ys ok_t_steps_zs ok_t_there ok_v1 ok_v2 ok_s0 (by decide : inZ 1) hs
    · exact g_X9_joinLines_93 ao ok_t_thereMany ok_t_froms ok_t_tos ok_t_steps_many ok_t_steps_xs ok_t_steps_ys ok_t_steps_zs ok_t_there ok_v1 ok_v2 ok_s0 hs
  · exact g_X9_joinLines_93 ao ok_t_thereMany ok_t_froms ok_t_tos ok_t_steps_many ok_t_steps_xs ok_t_steps_ys ok_t_steps_zs ok_t_there ok_v1 ok_v2 ok_s0 hs

noncomputable def m_X9_joinLines_57 (t_thereMany : Int) (t_froms : Nat → Int) (t_tos : Nat → Int) (t_steps_many : Int) (t_steps_xs : Nat → Int) (t_steps_ys : Nat → Int) (t_steps_zs : Nat → Int) (t_there : Nat → Int) (v1 : Int) (v2 : Int) : Option (Int × Int × (Nat → Int) × (Nat → Int) × (Nat → Int) × (Nat → Int)) :=
  m_X9_joinLines_58 t_thereMany t_froms t_tos t_steps_many t_steps_xs t_steps_ys t_steps_zs t_there v1 v2 0

set_option maxRecDepth 10000 in
theorem g_X9_joinLines_57 {l : Launch} {E : EE} {b0 n : Nat} {h : AH} {a_t : Nat} {t_knotMany t_thereMany t_groupMany t_steps_many v1 v2 : Int} {t_froms t_tos t_steps_xs t_steps_ys t_steps_zs t_there : Nat → Int} {r : Int × Int × (Nat → Int) × (Nat → Int) × (Nat → Int) × (Nat → Int)} (ao : AO b0 n [a_t, (a_t + 2), (a_t + 3), (a_t + 4), (a_t + 5), (a_t + 6), (a_t + 7), (a_t + 8)]) (ok_t_thereMany : inI t_thereMany) (ok_t_froms : okA t_froms) (ok_t_tos : okA t_tos) (ok_t_steps_many : inI t_steps_many) (ok_t_steps_xs : okA t_steps_xs) (ok_t_steps_ys : okA t_steps_ys) (ok_t_steps_zs : okA t_steps_zs) (ok_t_there : okZ t_there) (ok_v1 : inI v1) (ok_v2 : inI v2) (hs : m_X9_joinLines_57 t_thereMany t_froms t_tos t_steps_many t_steps_xs t_steps_ys t_steps_zs t_there v1 v2 = some r) : G l E b0 M_X9_joinLines (fun _ => True) (ZM E b0 (some (vI r.1)) (ov [a_t, (a_t + 2), (a_t + 3), (a_t + 4), (a_t + 5), (a_t + 6), (a_t + 7), (a_t + 8)] [.inr (9, fsX9 a_t t_knotMany r.2.1 t_groupMany), IA E 120 t_froms, IA E 120 t_tos, .inr (8, fsX8 (a_t + 4) t_steps_many), IA E 120 r.2.2.1, IA E 120 r.2.2.2.1, IA E 120 r.2.2.2.2.1, ZA E 120 r.2.2.2.2.2] h) n (inI r.1 ∧ inI r.2.1 ∧ okA r.2.2.1 ∧ okA r.2.2.2.1 ∧ okA r.2.2.2.2.1 ∧ okZ r.2.2.2.2.2) 0 0) 0 0 n (ov [a_t, (a_t + 2), (a_t + 3), (a_t + 4), (a_t + 5), (a_t + 6), (a_t + 7), (a_t + 8)] [.inr (9, fsX9 a_t t_knotMany t_thereMany t_groupMany), IA E 120 t_froms, IA E 120 t_tos, .inr (8, fsX8 (a_t + 4) t_steps_many), IA E 120 t_steps_xs, IA E 120 t_steps_ys, IA E 120 t_steps_zs, ZA E 120 t_there] h) 57 [some (.ref a_t), some (vI v1), some (vI v2), none, none, none, none, none, none, none] [] := by
  rw [m_X9_joinLines_57] at hs
  refine g_iconst e_X9_joinLines_57 ?_
  exact g_X9_joinLines_58 ao ok_t_thereMany ok_t_froms ok_t_tos ok_t_steps_many ok_t_steps_xs ok_t_steps_ys ok_t_steps_zs ok_t_there ok_v1 ok_v2 (by decide : inZ 0) hs

noncomputable def m_X9_joinLines_0 (t_thereMany : Int) (t_froms : Nat → Int) (t_tos : Nat → Int) (t_steps_many : Int) (t_steps_xs : Nat → Int) (t_steps_ys : Nat → Int) (t_steps_zs : Nat → Int) (t_there : Nat → Int) (v1 : Int) (v2 : Int) : Option (Int × Int × (Nat → Int) × (Nat → Int) × (Nat → Int) × (Nat → Int)) :=
  (m_X9_isThere t_steps_many t_there v1).bind (fun y1 => if y1 = 0 then (some ((-1), t_thereMany, t_steps_xs, t_steps_ys, t_steps_zs, t_there)) else ((m_X9_isThere t_steps_many t_there v2).bind (fun y2 => if y2 = 0 then (some ((-1), t_thereMany, t_steps_xs, t_steps_ys, t_steps_zs, t_there)) else (if v1 = v2 then (some ((-1), t_thereMany, t_steps_xs, t_steps_ys, t_steps_zs, t_there)) else (chk (inB v1 120) (chk (inB v2 120) (if (t_froms (Int.toNat v1)) = (t_froms (Int.toNat v2)) then (chk (inB v1 120) (chk (inB v2 120) (if (t_tos (Int.toNat v1)) = (t_tos (Int.toNat v2)) then (m_X9_joinLines_58 t_thereMany t_froms t_tos t_steps_many t_steps_xs t_steps_ys t_steps_zs t_there v1 v2 1) else (m_X9_joinLines_57 t_thereMany t_froms t_tos t_steps_many t_steps_xs t_steps_ys t_steps_zs t_there v1 v2)))) else (m_X9_joinLines_57 t_thereMany t_froms t_tos t_steps_many t_steps_xs t_steps_ys t_steps_zs t_there v1 v2))))))))

set_option maxRecDepth 10000 in
theorem g_X9_joinLines_0 {l : Launch} {E : EE} {b0 n : Nat} {h : AH} {a_t : Nat} {t_knotMany t_thereMany t_groupMany t_steps_many v1 v2 : Int} {t_froms t_tos t_steps_xs t_steps_ys t_steps_zs t_there : Nat → Int} {r : Int × Int × (Nat → Int) × (Nat → Int) × (Nat → Int) × (Nat → Int)} (ao : AO b0 n [a_t, (a_t + 2), (a_t + 3), (a_t + 4), (a_t + 5), (a_t + 6), (a_t + 7), (a_t + 8)]) (ok_t_thereMany : inI t_thereMany) (ok_t_froms : okA t_froms) (ok_t_tos : okA t_tos) (ok_t_steps_many : inI t_steps_many) (ok_t_steps_xs : okA t_steps_xs) (ok_t_steps_ys : okA t_steps_ys) (ok_t_steps_zs : okA t_steps_zs) (ok_t_there : okZ t_there) (ok_v1 : inI v1) (ok_v2 : inI v2) (hs : m_X9_joinLines_0 t_thereMany t_froms t_tos t_steps_many t_steps_xs t_steps_ys t_steps_zs t_there v1 v2 = some r) : G l E b0 M_X9_joinLines (fun _ => True) (ZM E b0 (some (vI r.1)) (ov [a_t, (a_t + 2), (a_t + 3), (a_t + 4), (a_t + 5), (a_t + 6), (a_t + 7), (a_t + 8)] [.inr (9, fsX9 a_t t_knotMany r.2.1 t_groupMany), IA E 120 t_froms, IA E 120 t_tos, .inr (8, fsX8 (a_t + 4) t_steps_many), IA E 120 r.2.2.1, IA E 120 r.2.2.2.1, IA E 120 r.2.2.2.2.1, ZA E 120 r.2.2.2.2.2] h) n (inI r.1 ∧ inI r.2.1 ∧ okA r.2.2.1 ∧ okA r.2.2.2.1 ∧ okA r.2.2.2.2.1 ∧ okZ r.2.2.2.2.2) 0 0) 0 0 n (ov [a_t, (a_t + 2), (a_t + 3), (a_t + 4), (a_t + 5), (a_t + 6), (a_t + 7), (a_t + 8)] [.inr (9, fsX9 a_t t_knotMany t_thereMany t_groupMany), IA E 120 t_froms, IA E 120 t_tos, .inr (8, fsX8 (a_t + 4) t_steps_many), IA E 120 t_steps_xs, IA E 120 t_steps_ys, IA E 120 t_steps_zs, ZA E 120 t_there] h) 0 [some (.ref a_t), some (vI v1), some (vI v2), none, none, none, none, none, none, none] [] := by
  rw [m_X9_joinLines_0] at hs
  refine g_aload_n e_X9_joinLines_0 rfl ?_
  refine g_iload_n e_X9_joinLines_1 rfl ?_
  obtain ⟨y1, hy1, hs⟩ := bind_elim hs
  refine g_callVr [vI v1] cv_X9_84 ⟨rfl, rfl, Nat.le_of_ble_eq_true rfl, Nat.le_of_ble_eq_true rfl⟩ (ct_X9_isThere (AO_call [0, 3, 7] ao (by decide) rfl) (FA_call [0, 3, 7] ao.1 rfl rfl) ok_t_steps_many ok_t_there ok_v1 hy1) e_X9_joinLines_2 (ao.2 0 _ rfl) (ov_get 0 ao.1 rfl rfl) rfl rfl rfl (Nat.le_of_ble_eq_true rfl) ⟨Nat.le_refl _, Nat.le_refl _⟩ (fun Py1 => ?_)
  refine g_if_eq e_X9_joinLines_5 (inZ_I Py1) hs (fun c5 hs => ?_) (fun c5 hs => ?_)
  · refine g_iconst e_X9_joinLines_21 ?_
    obtain rfl := Option.some.inj hs
    exact g_iret rfl ⟨(by decide : inI (-1)), ok_t_thereMany, ok_t_steps_xs, ok_t_steps_ys, ok_t_steps_zs, ok_t_there⟩ e_X9_joinLines_22
  · refine g_aload_n e_X9_joinLines_8 rfl ?_
    refine g_iload_n e_X9_joinLines_9 rfl ?_
    obtain ⟨y2, hy2, hs⟩ := bind_elim hs
    refine g_callVr [vI v2] cv_X9_84 ⟨rfl, rfl, Nat.le_of_ble_eq_true rfl, Nat.le_of_ble_eq_true rfl⟩ (ct_X9_isThere (AO_call [0, 3, 7] ao (by decide) rfl) (FA_call [0, 3, 7] ao.1 rfl rfl) ok_t_steps_many ok_t_there ok_v2 hy2) e_X9_joinLines_10 (ao.2 0 _ rfl) (ov_get 0 ao.1 rfl rfl) rfl rfl rfl (Nat.le_of_ble_eq_true rfl) ⟨Nat.le_refl _, Nat.le_refl _⟩ (fun Py2 => ?_)
    refine g_if_eq e_X9_joinLines_13 (inZ_I Py2) hs (fun c13 hs => ?_) (fun c13 hs => ?_)
    · refine g_iconst e_X9_joinLines_21 ?_
      obtain rfl := Option.some.inj hs
      exact g_iret rfl ⟨(by decide : inI (-1)), ok_t_thereMany, ok_t_steps_xs, ok_t_steps_ys, ok_t_steps_zs, ok_t_there⟩ e_X9_joinLines_22
    · refine g_iload_n e_X9_joinLines_16 rfl ?_
      refine g_iload_n e_X9_joinLines_17 rfl ?_
      refine g_icmp_ne e_X9_joinLines_18 ok_v1 ok_v2 hs (fun c18 hs => ?_) (fun c18 hs => ?_)
      · refine g_iconst e_X9_joinLines_21 ?_
        obtain rfl := Option.some.inj hs
        exact g_iret rfl ⟨(by decide : inI (-1)), ok_t_thereMany, ok_t_steps_xs, ok_t_steps_ys, ok_t_steps_zs, ok_t_there⟩ e_X9_joinLines_22
      · refine g_aload_n e_X9_joinLines_23 rfl ?_
        refine g_get 0 1 ao rfl rfl fsX9_g1 fl_X9_15 e_X9_joinLines_24 ?_
        refine g_iload_n e_X9_joinLines_27 rfl ?_
        refine g_iald 1 ao rfl rfl (Nat.le_of_ble_eq_true rfl) e_X9_joinLines_28 hs (fun hi3 hs => ?_)
        refine g_aload_n e_X9_joinLines_29 rfl ?_
        refine g_get 0 1 ao rfl rfl fsX9_g1 fl_X9_15 e_X9_joinLines_30 ?_
        refine g_iload_n e_X9_joinLines_33 rfl ?_
        refine g_iald 1 ao rfl rfl (Nat.le_of_ble_eq_true rfl) e_X9_joinLines_34 hs (fun hi4 hs => ?_)
        refine g_icmp_ne e_X9_joinLines_35 (ok_t_froms _) (ok_t_froms _) hs (fun c35 hs => ?_) (fun c35 hs => ?_)
        · refine g_aload_n e_X9_joinLines_38 rfl ?_
          refine g_get 0 2 ao rfl rfl fsX9_g2 fl_X9_19 e_X9_joinLines_39 ?_
          refine g_iload_n e_X9_joinLines_42 rfl ?_
          refine g_iald 2 ao rfl rfl (Nat.le_of_ble_eq_true rfl) e_X9_joinLines_43 hs (fun hi5 hs => ?_)
          refine g_aload_n e_X9_joinLines_44 rfl ?_
          refine g_get 0 2 ao rfl rfl fsX9_g2 fl_X9_19 e_X9_joinLines_45 ?_
          refine g_iload_n e_X9_joinLines_48 rfl ?_
          refine g_iald 2 ao rfl rfl (Nat.le_of_ble_eq_true rfl) e_X9_joinLines_49 hs (fun hi6 hs => ?_)
          refine g_icmp_ne e_X9_joinLines_50 (ok_t_tos _) (ok_t_tos _) hs (fun c50 hs => ?_) (fun c50 hs => ?_)
          · refine g_iconst e_X9_joinLines_53 ?_
            refine g_goto e_X9_joinLines_54 ?_
            exact g_X9_joinLines_58 ao ok_t_thereMany ok_t_froms ok_t_tos ok_t_steps_many ok_t_steps_xs ok_t_steps_ys ok_t_steps_zs ok_t_there ok_v1 ok_v2 (by decide : inZ 1) hs
          · exact g_X9_joinLines_57 ao ok_t_thereMany ok_t_froms ok_t_tos ok_t_steps_many ok_t_steps_xs ok_t_steps_ys ok_t_steps_zs ok_t_there ok_v1 ok_v2 hs
        · exact g_X9_joinLines_57 ao ok_t_thereMany ok_t_froms ok_t_tos ok_t_steps_many ok_t_steps_xs ok_t_steps_ys ok_t_steps_zs ok_t_there ok_v1 ok_v2 hs

noncomputable def m_X9_joinLines (t_thereMany : Int) (t_froms : Nat → Int) (t_tos : Nat → Int) (t_steps_many : Int) (t_steps_xs : Nat → Int) (t_steps_ys : Nat → Int) (t_steps_zs : Nat → Int) (t_there : Nat → Int) (v1 : Int) (v2 : Int) : Option (Int × Int × (Nat → Int) × (Nat → Int) × (Nat → Int) × (Nat → Int)) := m_X9_joinLines_0 t_thereMany t_froms t_tos t_steps_many t_steps_xs t_steps_ys t_steps_zs t_there v1 v2

set_option maxRecDepth 10000 in
theorem ct_X9_joinLines {l : Launch} {E : EE} {b0 n : Nat} {h : AH} {a_t : Nat} {t_knotMany t_thereMany t_groupMany t_steps_many : Int} {t_froms t_tos t_steps_xs t_steps_ys t_steps_zs t_there : Nat → Int} {v1 v2 : Int} (ao : AO b0 n [a_t, (a_t + 2), (a_t + 3), (a_t + 4), (a_t + 5), (a_t + 6), (a_t + 7), (a_t + 8)]) (hf : FA h [a_t, (a_t + 2), (a_t + 3), (a_t + 4), (a_t + 5), (a_t + 6), (a_t + 7), (a_t + 8)] [.inr (9, fsX9 a_t t_knotMany t_thereMany t_groupMany), IA E 120 t_froms, IA E 120 t_tos, .inr (8, fsX8 (a_t + 4) t_steps_many), IA E 120 t_steps_xs, IA E 120 t_steps_ys, IA E 120 t_steps_zs, ZA E 120 t_there]) (ok_t_thereMany : inI t_thereMany) (ok_t_froms : okA t_froms) (ok_t_tos : okA t_tos) (ok_t_steps_many : inI t_steps_many) (ok_t_steps_xs : okA t_steps_xs) (ok_t_steps_ys : okA t_steps_ys) (ok_t_steps_zs : okA t_steps_zs) (ok_t_there : okZ t_there) (ok_v1 : inI v1) (ok_v2 : inI v2) {r : Int × Int × (Nat → Int) × (Nat → Int) × (Nat → Int) × (Nat → Int)} (hm : m_X9_joinLines t_thereMany t_froms t_tos t_steps_many t_steps_xs t_steps_ys t_steps_zs t_there v1 v2 = some r) : Ct l E b0 M_X9_joinLines 0 0 [.ref a_t, vI v1, vI v2] h n (some (vI r.1)) (ov [a_t, (a_t + 2), (a_t + 3), (a_t + 4), (a_t + 5), (a_t + 6), (a_t + 7), (a_t + 8)] [.inr (9, fsX9 a_t t_knotMany r.2.1 t_groupMany), IA E 120 t_froms, IA E 120 t_tos, .inr (8, fsX8 (a_t + 4) t_steps_many), IA E 120 r.2.2.1, IA E 120 r.2.2.2.1, IA E 120 r.2.2.2.2.1, ZA E 120 r.2.2.2.2.2] h) n (inI r.1 ∧ inI r.2.1 ∧ okA r.2.2.1 ∧ okA r.2.2.2.1 ∧ okA r.2.2.2.2.1 ∧ okZ r.2.2.2.2.2) := by
  rw [m_X9_joinLines] at hm
  have hg : G l E b0 M_X9_joinLines (fun _ => True) (ZM E b0 (some (vI r.1)) (ov [a_t, (a_t + 2), (a_t + 3), (a_t + 4), (a_t + 5), (a_t + 6), (a_t + 7), (a_t + 8)] [.inr (9, fsX9 a_t t_knotMany r.2.1 t_groupMany), IA E 120 t_froms, IA E 120 t_tos, .inr (8, fsX8 (a_t + 4) t_steps_many), IA E 120 r.2.2.1, IA E 120 r.2.2.2.1, IA E 120 r.2.2.2.2.1, ZA E 120 r.2.2.2.2.2] h) n (inI r.1 ∧ inI r.2.1 ∧ okA r.2.2.1 ∧ okA r.2.2.2.1 ∧ okA r.2.2.2.2.1 ∧ okZ r.2.2.2.2.2) 0 0) 0 0 n (ov [a_t, (a_t + 2), (a_t + 3), (a_t + 4), (a_t + 5), (a_t + 6), (a_t + 7), (a_t + 8)] [.inr (9, fsX9 a_t t_knotMany t_thereMany t_groupMany), IA E 120 t_froms, IA E 120 t_tos, .inr (8, fsX8 (a_t + 4) t_steps_many), IA E 120 t_steps_xs, IA E 120 t_steps_ys, IA E 120 t_steps_zs, ZA E 120 t_there] h) 0 [some (.ref a_t), some (vI v1), some (vI v2), none, none, none, none, none, none, none] [] := by
    have hs := hm
    exact g_X9_joinLines_0 ao ok_t_thereMany ok_t_froms ok_t_tos ok_t_steps_many ok_t_steps_xs ok_t_steps_ys ok_t_steps_zs ok_t_there ok_v1 ok_v2 hs
  rw [FA_id hf] at hg
  exact Ct_of [some (.ref a_t), some (vI v1), some (vI v2), none, none, none, none, none, none, none] ⟨by decide +kernel, rfl⟩ rfl (Nat.le_of_ble_eq_true rfl) hg

/-! ===== X9_splitLine ===== -/
theorem e_X9_splitLine_0 : DC cX9_splitLine 0 (.aload_n 0) 1 1 := ⟨by decide +kernel, rfl⟩
theorem e_X9_splitLine_1 : DC cX9_splitLine 1 (.iload_n 2) 1 2 := ⟨by decide +kernel, rfl⟩
theorem e_X9_splitLine_2 : DC cX9_splitLine 2 (.invokevirtual 84) 3 5 := ⟨by decide +kernel, rfl⟩
theorem e_X9_splitLine_5 : DB cX9_splitLine 5 (.ifCond .eq 21) (21) 3 8 26 := ⟨by decide +kernel, rfl, rfl⟩
theorem e_X9_splitLine_8 : DC cX9_splitLine 8 (.aload_n 1) 1 9 := ⟨by decide +kernel, rfl⟩
theorem e_X9_splitLine_9 : DC cX9_splitLine 9 (.iload_n 3) 1 10 := ⟨by decide +kernel, rfl⟩
theorem e_X9_splitLine_10 : DC cX9_splitLine 10 (.invokevirtual 60) 3 13 := ⟨by decide +kernel, rfl⟩
theorem e_X9_splitLine_13 : DB cX9_splitLine 13 (.ifCond .eq 13) (13) 3 16 26 := ⟨by decide +kernel, rfl, rfl⟩
theorem e_X9_splitLine_16 : DC cX9_splitLine 16 (.aload_n 0) 1 17 := ⟨by decide +kernel, rfl⟩
theorem e_X9_splitLine_17 : DC cX9_splitLine 17 (.getfield 27) 3 20 := ⟨by decide +kernel, rfl⟩
theorem e_X9_splitLine_20 : DC cX9_splitLine 20 (.invokevirtual 64) 3 23 := ⟨by decide +kernel, rfl⟩
theorem e_X9_splitLine_23 : DB cX9_splitLine 23 (.ifCond .eq 5) (5) 3 26 28 := ⟨by decide +kernel, rfl, rfl⟩
theorem e_X9_splitLine_26 : DC cX9_splitLine 26 (.iconst (-1)) 1 27 := ⟨by decide +kernel, rfl⟩
theorem e_X9_splitLine_27 : DC cX9_splitLine 27 (.ireturn) 1 28 := ⟨by decide +kernel, rfl⟩
theorem e_X9_splitLine_28 : DC cX9_splitLine 28 (.iload 4) 2 30 := ⟨by decide +kernel, rfl⟩
theorem e_X9_splitLine_30 : DB cX9_splitLine 30 (.ifCond .eq 7) (7) 3 33 37 := ⟨by decide +kernel, rfl, rfl⟩
theorem e_X9_splitLine_33 : DC cX9_splitLine 33 (.iconst (-1)) 1 34 := ⟨by decide +kernel, rfl⟩
theorem e_X9_splitLine_34 : DB cX9_splitLine 34 (.goto 4) (4) 3 37 38 := ⟨by decide +kernel, rfl, rfl⟩
theorem e_X9_splitLine_37 : DC cX9_splitLine 37 (.iconst 1) 1 38 := ⟨by decide +kernel, rfl⟩
theorem e_X9_splitLine_38 : DC cX9_splitLine 38 (.istore 5) 2 40 := ⟨by decide +kernel, rfl⟩
theorem e_X9_splitLine_40 : DC cX9_splitLine 40 (.iload 5) 2 42 := ⟨by decide +kernel, rfl⟩
theorem e_X9_splitLine_42 : DC cX9_splitLine 42 (.aload_n 1) 1 43 := ⟨by decide +kernel, rfl⟩
theorem e_X9_splitLine_43 : DC cX9_splitLine 43 (.iload_n 3) 1 44 := ⟨by decide +kernel, rfl⟩
theorem e_X9_splitLine_44 : DC cX9_splitLine 44 (.iconst 0) 1 45 := ⟨by decide +kernel, rfl⟩
theorem e_X9_splitLine_45 : DC cX9_splitLine 45 (.invokevirtual 87) 3 48 := ⟨by decide +kernel, rfl⟩
theorem e_X9_splitLine_48 : DC cX9_splitLine 48 (.imul) 1 49 := ⟨by decide +kernel, rfl⟩
theorem e_X9_splitLine_49 : DC cX9_splitLine 49 (.istore 6) 2 51 := ⟨by decide +kernel, rfl⟩
theorem e_X9_splitLine_51 : DC cX9_splitLine 51 (.iload 5) 2 53 := ⟨by decide +kernel, rfl⟩
theorem e_X9_splitLine_53 : DC cX9_splitLine 53 (.aload_n 1) 1 54 := ⟨by decide +kernel, rfl⟩
theorem e_X9_splitLine_54 : DC cX9_splitLine 54 (.iload_n 3) 1 55 := ⟨by decide +kernel, rfl⟩
theorem e_X9_splitLine_55 : DC cX9_splitLine 55 (.iconst 1) 1 56 := ⟨by decide +kernel, rfl⟩
theorem e_X9_splitLine_56 : DC cX9_splitLine 56 (.invokevirtual 87) 3 59 := ⟨by decide +kernel, rfl⟩
theorem e_X9_splitLine_59 : DC cX9_splitLine 59 (.imul) 1 60 := ⟨by decide +kernel, rfl⟩
theorem e_X9_splitLine_60 : DC cX9_splitLine 60 (.istore 7) 2 62 := ⟨by decide +kernel, rfl⟩
theorem e_X9_splitLine_62 : DC cX9_splitLine 62 (.iload 5) 2 64 := ⟨by decide +kernel, rfl⟩
theorem e_X9_splitLine_64 : DC cX9_splitLine 64 (.aload_n 1) 1 65 := ⟨by decide +kernel, rfl⟩
theorem e_X9_splitLine_65 : DC cX9_splitLine 65 (.iload_n 3) 1 66 := ⟨by decide +kernel, rfl⟩
theorem e_X9_splitLine_66 : DC cX9_splitLine 66 (.iconst 2) 1 67 := ⟨by decide +kernel, rfl⟩
theorem e_X9_splitLine_67 : DC cX9_splitLine 67 (.invokevirtual 87) 3 70 := ⟨by decide +kernel, rfl⟩
theorem e_X9_splitLine_70 : DC cX9_splitLine 70 (.imul) 1 71 := ⟨by decide +kernel, rfl⟩
theorem e_X9_splitLine_71 : DC cX9_splitLine 71 (.istore 8) 2 73 := ⟨by decide +kernel, rfl⟩
theorem e_X9_splitLine_73 : DC cX9_splitLine 73 (.aload_n 0) 1 74 := ⟨by decide +kernel, rfl⟩
theorem e_X9_splitLine_74 : DC cX9_splitLine 74 (.getfield 27) 3 77 := ⟨by decide +kernel, rfl⟩
theorem e_X9_splitLine_77 : DC cX9_splitLine 77 (.iload_n 2) 1 78 := ⟨by decide +kernel, rfl⟩
theorem e_X9_splitLine_78 : DC cX9_splitLine 78 (.iconst 0) 1 79 := ⟨by decide +kernel, rfl⟩
theorem e_X9_splitLine_79 : DC cX9_splitLine 79 (.invokevirtual 87) 3 82 := ⟨by decide +kernel, rfl⟩
theorem e_X9_splitLine_82 : DC cX9_splitLine 82 (.iload 6) 2 84 := ⟨by decide +kernel, rfl⟩
theorem e_X9_splitLine_84 : DC cX9_splitLine 84 (.isub) 1 85 := ⟨by decide +kernel, rfl⟩
theorem e_X9_splitLine_85 : DC cX9_splitLine 85 (.istore 9) 2 87 := ⟨by decide +kernel, rfl⟩
theorem e_X9_splitLine_87 : DC cX9_splitLine 87 (.aload_n 0) 1 88 := ⟨by decide +kernel, rfl⟩
theorem e_X9_splitLine_88 : DC cX9_splitLine 88 (.getfield 27) 3 91 := ⟨by decide +kernel, rfl⟩
theorem e_X9_splitLine_91 : DC cX9_splitLine 91 (.iload_n 2) 1 92 := ⟨by decide +kernel, rfl⟩
theorem e_X9_splitLine_92 : DC cX9_splitLine 92 (.iconst 1) 1 93 := ⟨by decide +kernel, rfl⟩
theorem e_X9_splitLine_93 : DC cX9_splitLine 93 (.invokevirtual 87) 3 96 := ⟨by decide +kernel, rfl⟩
theorem e_X9_splitLine_96 : DC cX9_splitLine 96 (.iload 7) 2 98 := ⟨by decide +kernel, rfl⟩
theorem e_X9_splitLine_98 : DC cX9_splitLine 98 (.isub) 1 99 := ⟨by decide +kernel, rfl⟩
theorem e_X9_splitLine_99 : DC cX9_splitLine 99 (.istore 10) 2 101 := ⟨by decide +kernel, rfl⟩
theorem e_X9_splitLine_101 : DC cX9_splitLine 101 (.aload_n 0) 1 102 := ⟨by decide +kernel, rfl⟩
theorem e_X9_splitLine_102 : DC cX9_splitLine 102 (.getfield 27) 3 105 := ⟨by decide +kernel, rfl⟩
theorem e_X9_splitLine_105 : DC cX9_splitLine 105 (.iload_n 2) 1 106 := ⟨by decide +kernel, rfl⟩
theorem e_X9_splitLine_106 : DC cX9_splitLine 106 (.iconst 2) 1 107 := ⟨by decide +kernel, rfl⟩
theorem e_X9_splitLine_107 : DC cX9_splitLine 107 (.invokevirtual 87) 3 110 := ⟨by decide +kernel, rfl⟩
theorem e_X9_splitLine_110 : DC cX9_splitLine 110 (.iload 8) 2 112 := ⟨by decide +kernel, rfl⟩
theorem e_X9_splitLine_112 : DC cX9_splitLine 112 (.isub) 1 113 := ⟨by decide +kernel, rfl⟩
theorem e_X9_splitLine_113 : DC cX9_splitLine 113 (.istore 11) 2 115 := ⟨by decide +kernel, rfl⟩
theorem e_X9_splitLine_115 : DC cX9_splitLine 115 (.aload_n 1) 1 116 := ⟨by decide +kernel, rfl⟩
theorem e_X9_splitLine_116 : DC cX9_splitLine 116 (.iload 9) 2 118 := ⟨by decide +kernel, rfl⟩
theorem e_X9_splitLine_118 : DC cX9_splitLine 118 (.iload 10) 2 120 := ⟨by decide +kernel, rfl⟩
theorem e_X9_splitLine_120 : DC cX9_splitLine 120 (.iload 11) 2 122 := ⟨by decide +kernel, rfl⟩
theorem e_X9_splitLine_122 : DC cX9_splitLine 122 (.invokevirtual 105) 3 125 := ⟨by decide +kernel, rfl⟩
theorem e_X9_splitLine_125 : DB cX9_splitLine 125 (.ifCond .ne 6) (6) 3 128 131 := ⟨by decide +kernel, rfl, rfl⟩
theorem e_X9_splitLine_128 : DC cX9_splitLine 128 (.bipush (-2)) 2 130 := ⟨by decide +kernel, rfl⟩
theorem e_X9_splitLine_130 : DC cX9_splitLine 130 (.ireturn) 1 131 := ⟨by decide +kernel, rfl⟩
theorem e_X9_splitLine_131 : DC cX9_splitLine 131 (.aload_n 1) 1 132 := ⟨by decide +kernel, rfl⟩
theorem e_X9_splitLine_132 : DC cX9_splitLine 132 (.iload_n 3) 1 133 := ⟨by decide +kernel, rfl⟩
theorem e_X9_splitLine_133 : DC cX9_splitLine 133 (.invokevirtual 91) 3 136 := ⟨by decide +kernel, rfl⟩
theorem e_X9_splitLine_136 : DC cX9_splitLine 136 (.iload 9) 2 138 := ⟨by decide +kernel, rfl⟩
theorem e_X9_splitLine_138 : DC cX9_splitLine 138 (.iload 9) 2 140 := ⟨by decide +kernel, rfl⟩
theorem e_X9_splitLine_140 : DC cX9_splitLine 140 (.imul) 1 141 := ⟨by decide +kernel, rfl⟩
theorem e_X9_splitLine_141 : DC cX9_splitLine 141 (.iadd) 1 142 := ⟨by decide +kernel, rfl⟩
theorem e_X9_splitLine_142 : DC cX9_splitLine 142 (.iload 10) 2 144 := ⟨by decide +kernel, rfl⟩
theorem e_X9_splitLine_144 : DC cX9_splitLine 144 (.iload 10) 2 146 := ⟨by decide +kernel, rfl⟩
theorem e_X9_splitLine_146 : DC cX9_splitLine 146 (.imul) 1 147 := ⟨by decide +kernel, rfl⟩
theorem e_X9_splitLine_147 : DC cX9_splitLine 147 (.iadd) 1 148 := ⟨by decide +kernel, rfl⟩
theorem e_X9_splitLine_148 : DC cX9_splitLine 148 (.iload 11) 2 150 := ⟨by decide +kernel, rfl⟩
theorem e_X9_splitLine_150 : DC cX9_splitLine 150 (.iload 11) 2 152 := ⟨by decide +kernel, rfl⟩
theorem e_X9_splitLine_152 : DC cX9_splitLine 152 (.imul) 1 153 := ⟨by decide +kernel, rfl⟩
theorem e_X9_splitLine_153 : DC cX9_splitLine 153 (.iadd) 1 154 := ⟨by decide +kernel, rfl⟩
theorem e_X9_splitLine_154 : DC cX9_splitLine 154 (.aload_n 0) 1 155 := ⟨by decide +kernel, rfl⟩
theorem e_X9_splitLine_155 : DC cX9_splitLine 155 (.getfield 27) 3 158 := ⟨by decide +kernel, rfl⟩
theorem e_X9_splitLine_158 : DC cX9_splitLine 158 (.iload_n 2) 1 159 := ⟨by decide +kernel, rfl⟩
theorem e_X9_splitLine_159 : DC cX9_splitLine 159 (.invokevirtual 91) 3 162 := ⟨by decide +kernel, rfl⟩
theorem e_X9_splitLine_162 : DB cX9_splitLine 162 (.if_icmp .lt 6) (6) 3 165 168 := ⟨by decide +kernel, rfl, rfl⟩
theorem e_X9_splitLine_165 : DC cX9_splitLine 165 (.bipush (-2)) 2 167 := ⟨by decide +kernel, rfl⟩
theorem e_X9_splitLine_167 : DC cX9_splitLine 167 (.ireturn) 1 168 := ⟨by decide +kernel, rfl⟩
theorem e_X9_splitLine_168 : DC cX9_splitLine 168 (.aload_n 0) 1 169 := ⟨by decide +kernel, rfl⟩
theorem e_X9_splitLine_169 : DC cX9_splitLine 169 (.getfield 27) 3 172 := ⟨by decide +kernel, rfl⟩
theorem e_X9_splitLine_172 : DC cX9_splitLine 172 (.iload_n 2) 1 173 := ⟨by decide +kernel, rfl⟩
theorem e_X9_splitLine_173 : DC cX9_splitLine 173 (.iload 6) 2 175 := ⟨by decide +kernel, rfl⟩
theorem e_X9_splitLine_175 : DC cX9_splitLine 175 (.iload 7) 2 177 := ⟨by decide +kernel, rfl⟩
theorem e_X9_splitLine_177 : DC cX9_splitLine 177 (.iload 8) 2 179 := ⟨by decide +kernel, rfl⟩
theorem e_X9_splitLine_179 : DC cX9_splitLine 179 (.invokevirtual 98) 3 182 := ⟨by decide +kernel, rfl⟩
theorem e_X9_splitLine_182 : DC cX9_splitLine 182 (.aload_n 0) 1 183 := ⟨by decide +kernel, rfl⟩
theorem e_X9_splitLine_183 : DC cX9_splitLine 183 (.aload_n 0) 1 184 := ⟨by decide +kernel, rfl⟩
theorem e_X9_splitLine_184 : DC cX9_splitLine 184 (.getfield 15) 3 187 := ⟨by decide +kernel, rfl⟩
theorem e_X9_splitLine_187 : DC cX9_splitLine 187 (.iload_n 2) 1 188 := ⟨by decide +kernel, rfl⟩
theorem e_X9_splitLine_188 : DC cX9_splitLine 188 (.iaload) 1 189 := ⟨by decide +kernel, rfl⟩
theorem e_X9_splitLine_189 : DC cX9_splitLine 189 (.aload_n 0) 1 190 := ⟨by decide +kernel, rfl⟩
theorem e_X9_splitLine_190 : DC cX9_splitLine 190 (.getfield 19) 3 193 := ⟨by decide +kernel, rfl⟩
theorem e_X9_splitLine_193 : DC cX9_splitLine 193 (.iload_n 2) 1 194 := ⟨by decide +kernel, rfl⟩
theorem e_X9_splitLine_194 : DC cX9_splitLine 194 (.iaload) 1 195 := ⟨by decide +kernel, rfl⟩
theorem e_X9_splitLine_195 : DC cX9_splitLine 195 (.iload 9) 2 197 := ⟨by decide +kernel, rfl⟩
theorem e_X9_splitLine_197 : DC cX9_splitLine 197 (.iload 10) 2 199 := ⟨by decide +kernel, rfl⟩
theorem e_X9_splitLine_199 : DC cX9_splitLine 199 (.iload 11) 2 201 := ⟨by decide +kernel, rfl⟩
theorem e_X9_splitLine_201 : DC cX9_splitLine 201 (.invokevirtual 108) 3 204 := ⟨by decide +kernel, rfl⟩
theorem e_X9_splitLine_204 : DC cX9_splitLine 204 (.ireturn) 1 205 := ⟨by decide +kernel, rfl⟩
noncomputable def m_X9_splitLine_38 (N_p1 : Nat) (t_knotMany : Int) (t_thereMany : Int) (t_froms : Nat → Int) (t_tos : Nat → Int) (t_steps_many : Int) (t_steps_xs : Nat → Int) (t_steps_ys : Nat → Int) (t_steps_zs : Nat → Int) (t_there : Nat → Int) (p1_many : Int) (p1_xs : Nat → Int) (p1_ys : Nat → Int) (p1_zs : Nat → Int) (v2 : Int) (v3 : Int) (s0 : Int) : Option (Int × Int × (Nat → Int) × (Nat → Int) × Int × (Nat → Int) × (Nat → Int) × (Nat → Int) × (Nat → Int)) :=
  (m_X8_partOf N_p1 p1_many p1_xs p1_ys p1_zs v3 0).bind (fun y4 => (m_X8_partOf N_p1 p1_many p1_xs p1_ys p1_zs v3 1).bind (fun y5 => (m_X8_partOf N_p1 p1_many p1_xs p1_ys p1_zs v3 2).bind (fun y6 => (m_X8_partOf 120 t_steps_many t_steps_xs t_steps_ys t_steps_zs v2 0).bind (fun y7 => (m_X8_partOf 120 t_steps_many t_steps_xs t_steps_ys t_steps_zs v2 1).bind (fun y8 => (m_X8_partOf 120 t_steps_many t_steps_xs t_steps_ys t_steps_zs v2 2).bind (fun y9 => chk (inI (y7 - (s0 * y4))) (chk (inI (y8 - (s0 * y5))) (chk (inI (y9 - (s0 * y6))) ((m_X8_haveEitherWay N_p1 p1_many p1_xs p1_ys p1_zs (y7 - (s0 * y4)) (y8 - (s0 * y5)) (y9 - (s0 * y6))).bind (fun y13 => if y13 = 0 then (some ((-2), t_thereMany, t_froms, t_tos, t_steps_many, t_steps_xs, t_steps_ys, t_steps_zs, t_there)) else ((m_X8_worthOf N_p1 p1_many p1_xs p1_ys p1_zs v3).bind (fun y14 => (m_X8_worthOf 120 t_steps_many t_steps_xs t_steps_ys t_steps_zs v2).bind (fun y15 => chk (inI (((y14 + ((y7 - (s0 * y4)) * (y7 - (s0 * y4)))) + ((y8 - (s0 * y5)) * (y8 - (s0 * y5)))) + ((y9 - (s0 * y6)) * (y9 - (s0 * y6))))) (if (((y14 + ((y7 - (s0 * y4)) * (y7 - (s0 * y4)))) + ((y8 - (s0 * y5)) * (y8 - (s0 * y5)))) + ((y9 - (s0 * y6)) * (y9 - (s0 * y6)))) < y15 then (chk (inI (s0 * y4)) (chk (inI (s0 * y5)) (chk (inI (s0 * y6)) ((m_X8_change 120 t_steps_many t_steps_xs t_steps_ys t_steps_zs v2 (s0 * y4) (s0 * y5) (s0 * y6)).bind (fun y20 => chk (inB v2 120) (chk (inB v2 120) ((m_X9_newLine t_knotMany t_thereMany t_froms t_tos t_steps_many y20.1 y20.2.1 y20.2.2 t_there (t_froms (Int.toNat v2)) (t_tos (Int.toNat v2)) (y7 - (s0 * y4)) (y8 - (s0 * y5)) (y9 - (s0 * y6))).bind (fun y23 => some (y23.1, y23.2.1, y23.2.2.1, y23.2.2.2.1, y23.2.2.2.2.1, y23.2.2.2.2.2.1, y23.2.2.2.2.2.2.1, y23.2.2.2.2.2.2.2.1, y23.2.2.2.2.2.2.2.2))))))))) else (some ((-2), t_thereMany, t_froms, t_tos, t_steps_many, t_steps_xs, t_steps_ys, t_steps_zs, t_there))))))))))))))))

set_option maxRecDepth 10000 in
theorem g_X9_splitLine_38 {l : Launch} {E : EE} {b0 n : Nat} {h : AH} {a_t a_p1 : Nat} {N_p1 : Nat} {t_knotMany t_thereMany t_groupMany t_steps_many p1_many v2 v3 s0 : Int} {t_froms t_tos t_steps_xs t_steps_ys t_steps_zs t_there p1_xs p1_ys p1_zs : Nat → Int} {r : Int × Int × (Nat → Int) × (Nat → Int) × Int × (Nat → Int) × (Nat → Int) × (Nat → Int) × (Nat → Int)} (ao : AO b0 n [a_t, (a_t + 2), (a_t + 3), (a_t + 4), (a_t + 5), (a_t + 6), (a_t + 7), (a_t + 8), a_p1, (a_p1 + 1), (a_p1 + 2), (a_p1 + 3)]) (hN_p1 : N_p1 ≤ 100000) (ok_t_knotMany : inI t_knotMany) (ok_t_thereMany : inI t_thereMany) (ok_t_froms : okA t_froms) (ok_t_tos : okA t_tos) (ok_t_steps_many : inI t_steps_many) (ok_t_steps_xs : okA t_steps_xs) (ok_t_steps_ys : okA t_steps_ys) (ok_t_steps_zs : okA t_steps_zs) (ok_t_there : okZ t_there) (ok_p1_many : inI p1_many) (ok_p1_xs : okA p1_xs) (ok_p1_ys : okA p1_ys) (ok_p1_zs : okA p1_zs) (ok_v2 : inI v2) (ok_v3 : inI v3) (ok_s0 : inI s0) (hs : m_X9_splitLine_38 N_p1 t_knotMany t_thereMany t_froms t_tos t_steps_many t_steps_xs t_steps_ys t_steps_zs t_there p1_many p1_xs p1_ys p1_zs v2 v3 s0 = some r) : G l E b0 M_X9_splitLine (fun _ => True) (ZM E b0 (some (vI r.1)) (ov [a_t, (a_t + 2), (a_t + 3), (a_t + 4), (a_t + 5), (a_t + 6), (a_t + 7), (a_t + 8), a_p1, (a_p1 + 1), (a_p1 + 2), (a_p1 + 3)] [.inr (9, fsX9 a_t t_knotMany r.2.1 t_groupMany), IA E 120 r.2.2.1, IA E 120 r.2.2.2.1, .inr (8, fsX8 (a_t + 4) r.2.2.2.2.1), IA E 120 r.2.2.2.2.2.1, IA E 120 r.2.2.2.2.2.2.1, IA E 120 r.2.2.2.2.2.2.2.1, ZA E 120 r.2.2.2.2.2.2.2.2, .inr (8, fsX8 a_p1 p1_many), IA E N_p1 p1_xs, IA E N_p1 p1_ys, IA E N_p1 p1_zs] h) n (inI r.1 ∧ inI r.2.1 ∧ okA r.2.2.1 ∧ okA r.2.2.2.1 ∧ inI r.2.2.2.2.1 ∧ okA r.2.2.2.2.2.1 ∧ okA r.2.2.2.2.2.2.1 ∧ okA r.2.2.2.2.2.2.2.1 ∧ okZ r.2.2.2.2.2.2.2.2) 0 0) 0 0 n (ov [a_t, (a_t + 2), (a_t + 3), (a_t + 4), (a_t + 5), (a_t + 6), (a_t + 7), (a_t + 8), a_p1, (a_p1 + 1), (a_p1 + 2), (a_p1 + 3)] [.inr (9, fsX9 a_t t_knotMany t_thereMany t_groupMany), IA E 120 t_froms, IA E 120 t_tos, .inr (8, fsX8 (a_t + 4) t_steps_many), IA E 120 t_steps_xs, IA E 120 t_steps_ys, IA E 120 t_steps_zs, ZA E 120 t_there, .inr (8, fsX8 a_p1 p1_many), IA E N_p1 p1_xs, IA E N_p1 p1_ys, IA E N_p1 p1_zs] h) 38 [some (.ref a_t), some (.ref a_p1), some (vI v2), some (vI v3), none, none, none, none, none, none, none, none] [vI s0] := by
  rw [m_X9_splitLine_38] at hs
  refine g_istore e_X9_splitLine_38 st1_5 rfl ?_
  refine g_iload e_X9_splitLine_40 rfl ?_
  refine g_aload_n e_X9_splitLine_42 rfl ?_
  refine g_iload_n e_X9_splitLine_43 rfl ?_
  refine g_iconst e_X9_splitLine_44 ?_
  obtain ⟨y4, hy4, hs⟩ := bind_elim hs
  refine g_callVr [vI v3, vI 0] cv_X9_87 ⟨rfl, rfl, Nat.le_of_ble_eq_true rfl, Nat.le_of_ble_eq_true rfl⟩ (ct_X8_partOf (AO_call [8, 9, 10, 11] ao (by decide) rfl) hN_p1 (FA_call [8, 9, 10, 11] ao.1 rfl rfl) ok_p1_many ok_p1_xs ok_p1_ys ok_p1_zs ok_v3 (by decide : inI 0) hy4) e_X9_splitLine_45 (ao.2 8 _ rfl) (ov_get 8 ao.1 rfl rfl) rfl rfl rfl (Nat.le_of_ble_eq_true rfl) ⟨Nat.le_refl _, Nat.le_refl _⟩ (fun Py4 => ?_)
  refine g_imul e_X9_splitLine_48 ?_
  refine g_istore e_X9_splitLine_49 st1_6 rfl ?_
  refine g_iload e_X9_splitLine_51 rfl ?_
  refine g_aload_n e_X9_splitLine_53 rfl ?_
  refine g_iload_n e_X9_splitLine_54 rfl ?_
  refine g_iconst e_X9_splitLine_55 ?_
  obtain ⟨y5, hy5, hs⟩ := bind_elim hs
  refine g_callVr [vI v3, vI 1] cv_X9_87 ⟨rfl, rfl, Nat.le_of_ble_eq_true rfl, Nat.le_of_ble_eq_true rfl⟩ (ct_X8_partOf (AO_call [8, 9, 10, 11] ao (by decide) rfl) hN_p1 (FA_call [8, 9, 10, 11] ao.1 rfl rfl) ok_p1_many ok_p1_xs ok_p1_ys ok_p1_zs ok_v3 (by decide : inI 1) hy5) e_X9_splitLine_56 (ao.2 8 _ rfl) (ov_get 8 ao.1 rfl rfl) rfl rfl rfl (Nat.le_of_ble_eq_true rfl) ⟨Nat.le_refl _, Nat.le_refl _⟩ (fun Py5 => ?_)
  refine g_imul e_X9_splitLine_59 ?_
  refine g_istore e_X9_splitLine_60 st1_7 rfl ?_
  refine g_iload e_X9_splitLine_62 rfl ?_
  refine g_aload_n e_X9_splitLine_64 rfl ?_
  refine g_iload_n e_X9_splitLine_65 rfl ?_
  refine g_iconst e_X9_splitLine_66 ?_
  obtain ⟨y6, hy6, hs⟩ := bind_elim hs
  refine g_callVr [vI v3, vI 2] cv_X9_87 ⟨rfl, rfl, Nat.le_of_ble_eq_true rfl, Nat.le_of_ble_eq_true rfl⟩ (ct_X8_partOf (AO_call [8, 9, 10, 11] ao (by decide) rfl) hN_p1 (FA_call [8, 9, 10, 11] ao.1 rfl rfl) ok_p1_many ok_p1_xs ok_p1_ys ok_p1_zs ok_v3 (by decide : inI 2) hy6) e_X9_splitLine_67 (ao.2 8 _ rfl) (ov_get 8 ao.1 rfl rfl) rfl rfl rfl (Nat.le_of_ble_eq_true rfl) ⟨Nat.le_refl _, Nat.le_refl _⟩ (fun Py6 => ?_)
  refine g_imul e_X9_splitLine_70 ?_
  refine g_istore e_X9_splitLine_71 st1_8 rfl ?_
  refine g_aload_n e_X9_splitLine_73 rfl ?_
  refine g_get 0 3 ao rfl rfl fsX9_g3 fl_X9_27 e_X9_splitLine_74 ?_
  refine g_iload_n e_X9_splitLine_77 rfl ?_
  refine g_iconst e_X9_splitLine_78 ?_
  obtain ⟨y7, hy7, hs⟩ := bind_elim hs
  refine g_callVr [vI v2, vI 0] cv_X9_87 ⟨rfl, rfl, Nat.le_of_ble_eq_true rfl, Nat.le_of_ble_eq_true rfl⟩ (ct_X8_partOf (AO_call [3, 4, 5, 6] ao (by decide) rfl) (by omega) (FA_call [3, 4, 5, 6] ao.1 rfl rfl) ok_t_steps_many ok_t_steps_xs ok_t_steps_ys ok_t_steps_zs ok_v2 (by decide : inI 0) hy7) e_X9_splitLine_79 (ao.2 3 _ rfl) (ov_get 3 ao.1 rfl rfl) rfl rfl rfl (Nat.le_of_ble_eq_true rfl) ⟨Nat.le_refl _, Nat.le_refl _⟩ (fun Py7 => ?_)
  refine g_iload e_X9_splitLine_82 rfl ?_
  refine g_isub e_X9_splitLine_84 ?_
  refine g_istore e_X9_splitLine_85 st1_9 rfl ?_
  refine g_aload_n e_X9_splitLine_87 rfl ?_
  refine g_get 0 3 ao rfl rfl fsX9_g3 fl_X9_27 e_X9_splitLine_88 ?_
  refine g_iload_n e_X9_splitLine_91 rfl ?_
  refine g_iconst e_X9_splitLine_92 ?_
  obtain ⟨y8, hy8, hs⟩ := bind_elim hs
  refine g_callVr [vI v2, vI 1] cv_X9_87 ⟨rfl, rfl, Nat.le_of_ble_eq_true rfl, Nat.le_of_ble_eq_true rfl⟩ (ct_X8_partOf (AO_call [3, 4, 5, 6] ao (by decide) rfl) (by omega) (FA_call [3, 4, 5, 6] ao.1 rfl rfl) ok_t_steps_many ok_t_steps_xs ok_t_steps_ys ok_t_steps_zs ok_v2 (by decide : inI 1) hy8) e_X9_splitLine_93 (ao.2 3 _ rfl) (ov_get 3 ao.1 rfl rfl) rfl rfl rfl (Nat.le_of_ble_eq_true rfl) ⟨Nat.le_refl _, Nat.le_refl _⟩ (fun Py8 => ?_)
  refine g_iload e_X9_splitLine_96 rfl ?_
  refine g_isub e_X9_splitLine_98 ?_
  refine g_istore e_X9_splitLine_99 st1_10 rfl ?_
  refine g_aload_n e_X9_splitLine_101 rfl ?_
  refine g_get 0 3 ao rfl rfl fsX9_g3 fl_X9_27 e_X9_splitLine_102 ?_
  refine g_iload_n e_X9_splitLine_105 rfl ?_
  refine g_iconst e_X9_splitLine_106 ?_
  obtain ⟨y9, hy9, hs⟩ := bind_elim hs
  refine g_callVr [vI v2, vI 2] cv_X9_87 ⟨rfl, rfl, Nat.le_of_ble_eq_true rfl, Nat.le_of_ble_eq_true rfl⟩ (ct_X8_partOf (AO_call [3, 4, 5, 6] ao (by decide) rfl) (by omega) (FA_call [3, 4, 5, 6] ao.1 rfl rfl) ok_t_steps_many ok_t_steps_xs ok_t_steps_ys ok_t_steps_zs ok_v2 (by decide : inI 2) hy9) e_X9_splitLine_107 (ao.2 3 _ rfl) (ov_get 3 ao.1 rfl rfl) rfl rfl rfl (Nat.le_of_ble_eq_true rfl) ⟨Nat.le_refl _, Nat.le_refl _⟩ (fun Py9 => ?_)
  refine g_iload e_X9_splitLine_110 rfl ?_
  refine g_isub e_X9_splitLine_112 ?_
  refine g_istore e_X9_splitLine_113 st1_11 rfl ?_
  refine g_aload_n e_X9_splitLine_115 rfl ?_
  refine g_iload e_X9_splitLine_116 rfl ?_
  refine g_iload e_X9_splitLine_118 rfl ?_
  refine g_iload e_X9_splitLine_120 rfl ?_
  obtain ⟨hc10, hs⟩ := chk_elim hs
  obtain ⟨hc11, hs⟩ := chk_elim hs
  obtain ⟨hc12, hs⟩ := chk_elim hs
  obtain ⟨y13, hy13, hs⟩ := bind_elim hs
  refine g_callVr [vI (y7 - (s0 * y4)), vI (y8 - (s0 * y5)), vI (y9 - (s0 * y6))] cv_X9_105 ⟨rfl, rfl, Nat.le_of_ble_eq_true rfl, Nat.le_of_ble_eq_true rfl⟩ (ct_X8_haveEitherWay (AO_call [8, 9, 10, 11] ao (by decide) rfl) hN_p1 (FA_call [8, 9, 10, 11] ao.1 rfl rfl) ok_p1_many ok_p1_xs ok_p1_ys ok_p1_zs hc10 hc11 hc12 hy13) e_X9_splitLine_122 (ao.2 8 _ rfl) (ov_get 8 ao.1 rfl rfl) rfl rfl rfl (Nat.le_of_ble_eq_true rfl) ⟨Nat.le_refl _, Nat.le_refl _⟩ (fun Py13 => ?_)
  refine g_if_ne e_X9_splitLine_125 (inZ_I Py13) hs (fun c125 hs => ?_) (fun c125 hs => ?_)
  · refine g_bipush e_X9_splitLine_128 bp_m2 ?_
    obtain rfl := Option.some.inj hs
    exact g_iret rfl ⟨(by decide : inI (-2)), ok_t_thereMany, ok_t_froms, ok_t_tos, ok_t_steps_many, ok_t_steps_xs, ok_t_steps_ys, ok_t_steps_zs, ok_t_there⟩ e_X9_splitLine_130
  · refine g_aload_n e_X9_splitLine_131 rfl ?_
    refine g_iload_n e_X9_splitLine_132 rfl ?_
    obtain ⟨y14, hy14, hs⟩ := bind_elim hs
    refine g_callVr [vI v3] cv_X9_91 ⟨rfl, rfl, Nat.le_of_ble_eq_true rfl, Nat.le_of_ble_eq_true rfl⟩ (ct_X8_worthOf (AO_call [8, 9, 10, 11] ao (by decide) rfl) hN_p1 (FA_call [8, 9, 10, 11] ao.1 rfl rfl) ok_p1_many ok_p1_xs ok_p1_ys ok_p1_zs ok_v3 hy14) e_X9_splitLine_133 (ao.2 8 _ rfl) (ov_get 8 ao.1 rfl rfl) rfl rfl rfl (Nat.le_of_ble_eq_true rfl) ⟨Nat.le_refl _, Nat.le_refl _⟩ (fun Py14 => ?_)
    refine g_iload e_X9_splitLine_136 rfl ?_
    refine g_iload e_X9_splitLine_138 rfl ?_
    refine g_imul e_X9_splitLine_140 ?_
    refine g_iadd e_X9_splitLine_141 ?_
    refine g_iload e_X9_splitLine_142 rfl ?_
    refine g_iload e_X9_splitLine_144 rfl ?_
    refine g_imul e_X9_splitLine_146 ?_
    refine g_iadd e_X9_splitLine_147 ?_
    refine g_iload e_X9_splitLine_148 rfl ?_
    refine g_iload e_X9_splitLine_150 rfl ?_
    refine g_imul e_X9_splitLine_152 ?_
    refine g_iadd e_X9_splitLine_153 ?_
    refine g_aload_n e_X9_splitLine_154 rfl ?_
    refine g_get 0 3 ao rfl rfl fsX9_g3 fl_X9_27 e_X9_splitLine_155 ?_
    refine g_iload_n e_X9_splitLine_158 rfl ?_
    obtain ⟨y15, hy15, hs⟩ := bind_elim hs
    refine g_callVr [vI v2] cv_X9_91 ⟨rfl, rfl, Nat.le_of_ble_eq_true rfl, Nat.le_of_ble_eq_true rfl⟩ (ct_X8_worthOf (AO_call [3, 4, 5, 6] ao (by decide) rfl) (by omega) (FA_call [3, 4, 5, 6] ao.1 rfl rfl) ok_t_steps_many ok_t_steps_xs ok_t_steps_ys ok_t_steps_zs ok_v2 hy15) e_X9_splitLine_159 (ao.2 3 _ rfl) (ov_get 3 ao.1 rfl rfl) rfl rfl rfl (Nat.le_of_ble_eq_true rfl) ⟨Nat.le_refl _, Nat.le_refl _⟩ (fun Py15 => ?_)
    obtain ⟨hc16, hs⟩ := chk_elim hs
    refine g_icmp_lt e_X9_splitLine_162 hc16 Py15 hs (fun c162 hs => ?_) (fun c162 hs => ?_)
    · refine g_aload_n e_X9_splitLine_168 rfl ?_
      refine g_get 0 3 ao rfl rfl fsX9_g3 fl_X9_27 e_X9_splitLine_169 ?_
      refine g_iload_n e_X9_splitLine_172 rfl ?_
      refine g_iload e_X9_splitLine_173 rfl ?_
      refine g_iload e_X9_splitLine_175 rfl ?_
      refine g_iload e_X9_splitLine_177 rfl ?_
      obtain ⟨hc17, hs⟩ := chk_elim hs
      obtain ⟨hc18, hs⟩ := chk_elim hs
      obtain ⟨hc19, hs⟩ := chk_elim hs
      obtain ⟨y20, hy20, hs⟩ := bind_elim hs
      refine g_callVv [vI v2, vI (s0 * y4), vI (s0 * y5), vI (s0 * y6)] cv_X9_98 ⟨rfl, rfl, Nat.le_of_ble_eq_true rfl, Nat.le_of_ble_eq_true rfl⟩ (Ct_heap (ct_X8_change (AO_call [3, 4, 5, 6] ao (by decide) rfl) (by omega) (FA_call [3, 4, 5, 6] ao.1 rfl rfl) ok_t_steps_many ok_t_steps_xs ok_t_steps_ys ok_t_steps_zs ok_v2 hc17 hc18 hc19 hy20) (ov_call (esn := [.inr (9, fsX9 a_t t_knotMany t_thereMany t_groupMany), IA E 120 t_froms, IA E 120 t_tos, .inr (8, fsX8 (a_t + 4) t_steps_many), IA E 120 y20.1, IA E 120 y20.2.1, IA E 120 y20.2.2, ZA E 120 t_there, .inr (8, fsX8 a_p1 p1_many), IA E N_p1 p1_xs, IA E N_p1 p1_ys, IA E N_p1 p1_zs]) [3, 4, 5, 6] ao.1 rfl rfl rfl rfl)) e_X9_splitLine_179 (ao.2 3 _ rfl) (ov_get 3 ao.1 rfl rfl) rfl rfl rfl (Nat.le_of_ble_eq_true rfl) ⟨Nat.le_refl _, Nat.le_refl _⟩ (fun Py20 => ?_)
      refine g_aload_n e_X9_splitLine_182 rfl ?_
      refine g_aload_n e_X9_splitLine_183 rfl ?_
      refine g_get 0 1 ao rfl rfl fsX9_g1 fl_X9_15 e_X9_splitLine_184 ?_
      refine g_iload_n e_X9_splitLine_187 rfl ?_
      refine g_iald 1 ao rfl rfl (Nat.le_of_ble_eq_true rfl) e_X9_splitLine_188 hs (fun hi21 hs => ?_)
      refine g_aload_n e_X9_splitLine_189 rfl ?_
      refine g_get 0 2 ao rfl rfl fsX9_g2 fl_X9_19 e_X9_splitLine_190 ?_
      refine g_iload_n e_X9_splitLine_193 rfl ?_
      refine g_iald 2 ao rfl rfl (Nat.le_of_ble_eq_true rfl) e_X9_splitLine_194 hs (fun hi22 hs => ?_)
      refine g_iload e_X9_splitLine_195 rfl ?_
      refine g_iload e_X9_splitLine_197 rfl ?_
      refine g_iload e_X9_splitLine_199 rfl ?_
      obtain ⟨y23, hy23, hs⟩ := bind_elim hs
      refine g_callVr [vI (t_froms (Int.toNat v2)), vI (t_tos (Int.toNat v2)), vI (y7 - (s0 * y4)), vI (y8 - (s0 * y5)), vI (y9 - (s0 * y6))] cv_X9_108 ⟨rfl, rfl, Nat.le_of_ble_eq_true rfl, Nat.le_of_ble_eq_true rfl⟩ (Ct_heap (ct_X9_newLine (AO_call [0, 1, 2, 3, 4, 5, 6, 7] ao (by decide) rfl) (FA_call [0, 1, 2, 3, 4, 5, 6, 7] ao.1 rfl rfl) ok_t_knotMany ok_t_thereMany ok_t_froms ok_t_tos ok_t_steps_many Py20.1 Py20.2.1 Py20.2.2 ok_t_there (ok_t_froms _) (ok_t_tos _) hc10 hc11 hc12 hy23) (ov_call (esn := [.inr (9, fsX9 a_t t_knotMany y23.2.1 t_groupMany), IA E 120 y23.2.2.1, IA E 120 y23.2.2.2.1, .inr (8, fsX8 (a_t + 4) y23.2.2.2.2.1), IA E 120 y23.2.2.2.2.2.1, IA E 120 y23.2.2.2.2.2.2.1, IA E 120 y23.2.2.2.2.2.2.2.1, ZA E 120 y23.2.2.2.2.2.2.2.2, .inr (8, fsX8 a_p1 p1_many), IA E N_p1 p1_xs, IA E N_p1 p1_ys, IA E N_p1 p1_zs]) [0, 1, 2, 3, 4, 5, 6, 7] ao.1 rfl rfl rfl rfl)) e_X9_splitLine_201 (ao.2 0 _ rfl) (ov_get 0 ao.1 rfl rfl) rfl rfl rfl (Nat.le_of_ble_eq_true rfl) ⟨Nat.le_refl _, Nat.le_refl _⟩ (fun Py23 => ?_)
      obtain rfl := Option.some.inj hs
      exact g_iret rfl ⟨Py23.1, Py23.2.1, Py23.2.2.1, Py23.2.2.2.1, Py23.2.2.2.2.1, Py23.2.2.2.2.2.1, Py23.2.2.2.2.2.2.1, Py23.2.2.2.2.2.2.2.1, Py23.2.2.2.2.2.2.2.2⟩ e_X9_splitLine_204
    · refine g_bipush e_X9_splitLine_165 bp_m2 ?_
      obtain rfl := Option.some.inj hs
      exact g_iret rfl ⟨(by decide : inI (-2)), ok_t_thereMany, ok_t_froms, ok_t_tos, ok_t_steps_many, ok_t_steps_xs, ok_t_steps_ys, ok_t_steps_zs, ok_t_there⟩ e_X9_splitLine_167

noncomputable def m_X9_splitLine_0 (N_p1 : Nat) (t_knotMany : Int) (t_thereMany : Int) (t_froms : Nat → Int) (t_tos : Nat → Int) (t_steps_many : Int) (t_steps_xs : Nat → Int) (t_steps_ys : Nat → Int) (t_steps_zs : Nat → Int) (t_there : Nat → Int) (p1_many : Int) (p1_xs : Nat → Int) (p1_ys : Nat → Int) (p1_zs : Nat → Int) (v2 : Int) (v3 : Int) (v4 : Int) : Option (Int × Int × (Nat → Int) × (Nat → Int) × Int × (Nat → Int) × (Nat → Int) × (Nat → Int) × (Nat → Int)) :=
  (m_X9_isThere t_steps_many t_there v2).bind (fun y1 => if y1 = 0 then (some ((-1), t_thereMany, t_froms, t_tos, t_steps_many, t_steps_xs, t_steps_ys, t_steps_zs, t_there)) else ((m_X8_has p1_many v3).bind (fun y2 => if y2 = 0 then (some ((-1), t_thereMany, t_froms, t_tos, t_steps_many, t_steps_xs, t_steps_ys, t_steps_zs, t_there)) else ((m_X8_isFull 120 t_steps_many).bind (fun y3 => if y3 = 0 then (if v4 = 0 then (m_X9_splitLine_38 N_p1 t_knotMany t_thereMany t_froms t_tos t_steps_many t_steps_xs t_steps_ys t_steps_zs t_there p1_many p1_xs p1_ys p1_zs v2 v3 1) else (m_X9_splitLine_38 N_p1 t_knotMany t_thereMany t_froms t_tos t_steps_many t_steps_xs t_steps_ys t_steps_zs t_there p1_many p1_xs p1_ys p1_zs v2 v3 (-1))) else (some ((-1), t_thereMany, t_froms, t_tos, t_steps_many, t_steps_xs, t_steps_ys, t_steps_zs, t_there)))))))

set_option maxRecDepth 10000 in
theorem g_X9_splitLine_0 {l : Launch} {E : EE} {b0 n : Nat} {h : AH} {a_t a_p1 : Nat} {N_p1 : Nat} {t_knotMany t_thereMany t_groupMany t_steps_many p1_many v2 v3 v4 : Int} {t_froms t_tos t_steps_xs t_steps_ys t_steps_zs t_there p1_xs p1_ys p1_zs : Nat → Int} {r : Int × Int × (Nat → Int) × (Nat → Int) × Int × (Nat → Int) × (Nat → Int) × (Nat → Int) × (Nat → Int)} (ao : AO b0 n [a_t, (a_t + 2), (a_t + 3), (a_t + 4), (a_t + 5), (a_t + 6), (a_t + 7), (a_t + 8), a_p1, (a_p1 + 1), (a_p1 + 2), (a_p1 + 3)]) (hN_p1 : N_p1 ≤ 100000) (ok_t_knotMany : inI t_knotMany) (ok_t_thereMany : inI t_thereMany) (ok_t_froms : okA t_froms) (ok_t_tos : okA t_tos) (ok_t_steps_many : inI t_steps_many) (ok_t_steps_xs : okA t_steps_xs) (ok_t_steps_ys : okA t_steps_ys) (ok_t_steps_zs : okA t_steps_zs) (ok_t_there : okZ t_there) (ok_p1_many : inI p1_many) (ok_p1_xs : okA p1_xs) (ok_p1_ys : okA p1_ys) (ok_p1_zs : okA p1_zs) (ok_v2 : inI v2) (ok_v3 : inI v3) (ok_v4 : inZ v4) (hs : m_X9_splitLine_0 N_p1 t_knotMany t_thereMany t_froms t_tos t_steps_many t_steps_xs t_steps_ys t_steps_zs t_there p1_many p1_xs p1_ys p1_zs v2 v3 v4 = some r) : G l E b0 M_X9_splitLine (fun _ => True) (ZM E b0 (some (vI r.1)) (ov [a_t, (a_t + 2), (a_t + 3), (a_t + 4), (a_t + 5), (a_t + 6), (a_t + 7), (a_t + 8), a_p1, (a_p1 + 1), (a_p1 + 2), (a_p1 + 3)] [.inr (9, fsX9 a_t t_knotMany r.2.1 t_groupMany), IA E 120 r.2.2.1, IA E 120 r.2.2.2.1, .inr (8, fsX8 (a_t + 4) r.2.2.2.2.1), IA E 120 r.2.2.2.2.2.1, IA E 120 r.2.2.2.2.2.2.1, IA E 120 r.2.2.2.2.2.2.2.1, ZA E 120 r.2.2.2.2.2.2.2.2, .inr (8, fsX8 a_p1 p1_many), IA E N_p1 p1_xs, IA E N_p1 p1_ys, IA E N_p1 p1_zs] h) n (inI r.1 ∧ inI r.2.1 ∧ okA r.2.2.1 ∧ okA r.2.2.2.1 ∧ inI r.2.2.2.2.1 ∧ okA r.2.2.2.2.2.1 ∧ okA r.2.2.2.2.2.2.1 ∧ okA r.2.2.2.2.2.2.2.1 ∧ okZ r.2.2.2.2.2.2.2.2) 0 0) 0 0 n (ov [a_t, (a_t + 2), (a_t + 3), (a_t + 4), (a_t + 5), (a_t + 6), (a_t + 7), (a_t + 8), a_p1, (a_p1 + 1), (a_p1 + 2), (a_p1 + 3)] [.inr (9, fsX9 a_t t_knotMany t_thereMany t_groupMany), IA E 120 t_froms, IA E 120 t_tos, .inr (8, fsX8 (a_t + 4) t_steps_many), IA E 120 t_steps_xs, IA E 120 t_steps_ys, IA E 120 t_steps_zs, ZA E 120 t_there, .inr (8, fsX8 a_p1 p1_many), IA E N_p1 p1_xs, IA E N_p1 p1_ys, IA E N_p1 p1_zs] h) 0 [some (.ref a_t), some (.ref a_p1), some (vI v2), some (vI v3), some (vI v4), none, none, none, none, none, none, none] [] := by
  rw [m_X9_splitLine_0] at hs
  refine g_aload_n e_X9_splitLine_0 rfl ?_
  refine g_iload_n e_X9_splitLine_1 rfl ?_
  obtain ⟨y1, hy1, hs⟩ := bind_elim hs
  refine g_callVr [vI v2] cv_X9_84 ⟨rfl, rfl, Nat.le_of_ble_eq_true rfl, Nat.le_of_ble_eq_true rfl⟩ (ct_X9_isThere (AO_call [0, 3, 7] ao (by decide) rfl) (FA_call [0, 3, 7] ao.1 rfl rfl) ok_t_steps_many ok_t_there ok_v2 hy1) e_X9_splitLine_2 (ao.2 0 _ rfl) (ov_get 0 ao.1 rfl rfl) rfl rfl rfl (Nat.le_of_ble_eq_true rfl) ⟨Nat.le_refl _, Nat.le_refl _⟩ (fun Py1 => ?_)
  refine g_if_eq e_X9_splitLine_5 (inZ_I Py1) hs (fun c5 hs => ?_) (fun c5 hs => ?_)
  · refine g_iconst e_X9_splitLine_26 ?_
    obtain rfl := Option.some.inj hs
    exact g_iret rfl ⟨(by decide : inI (-1)), ok_t_thereMany, ok_t_froms, ok_t_tos, ok_t_steps_many, ok_t_steps_xs, ok_t_steps_ys, ok_t_steps_zs, ok_t_there⟩ e_X9_splitLine_27
  · refine g_aload_n e_X9_splitLine_8 rfl ?_
    refine g_iload_n e_X9_splitLine_9 rfl ?_
    obtain ⟨y2, hy2, hs⟩ := bind_elim hs
    refine g_callVr [vI v3] cv_X9_60 ⟨rfl, rfl, Nat.le_of_ble_eq_true rfl, Nat.le_of_ble_eq_true rfl⟩ (ct_X8_has (AO_call [8] ao (by decide) rfl) (FA_call [8] ao.1 rfl rfl) ok_p1_many ok_v3 hy2) e_X9_splitLine_10 (ao.2 8 _ rfl) (ov_get 8 ao.1 rfl rfl) rfl rfl rfl (Nat.le_of_ble_eq_true rfl) ⟨Nat.le_refl _, Nat.le_refl _⟩ (fun Py2 => ?_)
    refine g_if_eq e_X9_splitLine_13 (inZ_I Py2) hs (fun c13 hs => ?_) (fun c13 hs => ?_)
    · refine g_iconst e_X9_splitLine_26 ?_
      obtain rfl := Option.some.inj hs
      exact g_iret rfl ⟨(by decide : inI (-1)), ok_t_thereMany, ok_t_froms, ok_t_tos, ok_t_steps_many, ok_t_steps_xs, ok_t_steps_ys, ok_t_steps_zs, ok_t_there⟩ e_X9_splitLine_27
    · refine g_aload_n e_X9_splitLine_16 rfl ?_
      refine g_get 0 3 ao rfl rfl fsX9_g3 fl_X9_27 e_X9_splitLine_17 ?_
      obtain ⟨y3, hy3, hs⟩ := bind_elim hs
      refine g_callVr [] cv_X9_64 ⟨rfl, rfl, Nat.le_of_ble_eq_true rfl, Nat.le_of_ble_eq_true rfl⟩ (ct_X8_isFull (AO_call [3, 4] ao (by decide) rfl) (by omega) (FA_call [3, 4] ao.1 rfl rfl) ok_t_steps_many hy3) e_X9_splitLine_20 (ao.2 3 _ rfl) (ov_get 3 ao.1 rfl rfl) rfl rfl rfl (Nat.le_of_ble_eq_true rfl) ⟨Nat.le_refl _, Nat.le_refl _⟩ (fun Py3 => ?_)
      refine g_if_eq e_X9_splitLine_23 (inZ_I Py3) hs (fun c23 hs => ?_) (fun c23 hs => ?_)
      · refine g_iload e_X9_splitLine_28 rfl ?_
        refine g_if_eq e_X9_splitLine_30 (inZ_I ok_v4) hs (fun c30 hs => ?_) (fun c30 hs => ?_)
        · refine g_iconst e_X9_splitLine_37 ?_
          exact g_mask [true, true, true, true, false, true, true, true, true, true, true, true] (g_X9_splitLine_38 ao hN_p1 ok_t_knotMany ok_t_thereMany ok_t_froms ok_t_tos ok_t_steps_many ok_t_steps_xs ok_t_steps_ys ok_t_steps_zs ok_t_there ok_p1_many ok_p1_xs ok_p1_ys ok_p1_zs ok_v2 ok_v3 (by decide : inI 1) hs)
        · refine g_iconst e_X9_splitLine_33 ?_
          refine g_goto e_X9_splitLine_34 ?_
          exact g_mask [true, true, true, true, false, true, true, true, true, true, true, true] (g_X9_splitLine_38 ao hN_p1 ok_t_knotMany ok_t_thereMany ok_t_froms ok_t_tos ok_t_steps_many ok_t_steps_xs ok_t_steps_ys ok_t_steps_zs ok_t_there ok_p1_many ok_p1_xs ok_p1_ys ok_p1_zs ok_v2 ok_v3 (by decide : inI (-1)) hs)
      · refine g_iconst e_X9_splitLine_26 ?_
        obtain rfl := Option.some.inj hs
        exact g_iret rfl ⟨(by decide : inI (-1)), ok_t_thereMany, ok_t_froms, ok_t_tos, ok_t_steps_many, ok_t_steps_xs, ok_t_steps_ys, ok_t_steps_zs, ok_t_there⟩ e_X9_splitLine_27

noncomputable def m_X9_splitLine (N_p1 : Nat) (t_knotMany : Int) (t_thereMany : Int) (t_froms : Nat → Int) (t_tos : Nat → Int) (t_steps_many : Int) (t_steps_xs : Nat → Int) (t_steps_ys : Nat → Int) (t_steps_zs : Nat → Int) (t_there : Nat → Int) (p1_many : Int) (p1_xs : Nat → Int) (p1_ys : Nat → Int) (p1_zs : Nat → Int) (v2 : Int) (v3 : Int) (v4 : Int) : Option (Int × Int × (Nat → Int) × (Nat → Int) × Int × (Nat → Int) × (Nat → Int) × (Nat → Int) × (Nat → Int)) := m_X9_splitLine_0 N_p1 t_knotMany t_thereMany t_froms t_tos t_steps_many t_steps_xs t_steps_ys t_steps_zs t_there p1_many p1_xs p1_ys p1_zs v2 v3 v4

set_option maxRecDepth 10000 in
theorem ct_X9_splitLine {l : Launch} {E : EE} {b0 n : Nat} {h : AH} {a_t a_p1 : Nat} {N_p1 : Nat} {t_knotMany t_thereMany t_groupMany t_steps_many p1_many : Int} {t_froms t_tos t_steps_xs t_steps_ys t_steps_zs t_there p1_xs p1_ys p1_zs : Nat → Int} {v2 v3 v4 : Int} (ao : AO b0 n [a_t, (a_t + 2), (a_t + 3), (a_t + 4), (a_t + 5), (a_t + 6), (a_t + 7), (a_t + 8), a_p1, (a_p1 + 1), (a_p1 + 2), (a_p1 + 3)]) (hN_p1 : N_p1 ≤ 100000) (hf : FA h [a_t, (a_t + 2), (a_t + 3), (a_t + 4), (a_t + 5), (a_t + 6), (a_t + 7), (a_t + 8), a_p1, (a_p1 + 1), (a_p1 + 2), (a_p1 + 3)] [.inr (9, fsX9 a_t t_knotMany t_thereMany t_groupMany), IA E 120 t_froms, IA E 120 t_tos, .inr (8, fsX8 (a_t + 4) t_steps_many), IA E 120 t_steps_xs, IA E 120 t_steps_ys, IA E 120 t_steps_zs, ZA E 120 t_there, .inr (8, fsX8 a_p1 p1_many), IA E N_p1 p1_xs, IA E N_p1 p1_ys, IA E N_p1 p1_zs]) (ok_t_knotMany : inI t_knotMany) (ok_t_thereMany : inI t_thereMany) (ok_t_froms : okA t_froms) (ok_t_tos : okA t_tos) (ok_t_steps_many : inI t_steps_many) (ok_t_steps_xs : okA t_steps_xs) (ok_t_steps_ys : okA t_steps_ys) (ok_t_steps_zs : okA t_steps_zs) (ok_t_there : okZ t_there) (ok_p1_many : inI p1_many) (ok_p1_xs : okA p1_xs) (ok_p1_ys : okA p1_ys) (ok_p1_zs : okA p1_zs) (ok_v2 : inI v2) (ok_v3 : inI v3) (ok_v4 : inZ v4) {r : Int × Int × (Nat → Int) × (Nat → Int) × Int × (Nat → Int) × (Nat → Int) × (Nat → Int) × (Nat → Int)} (hm : m_X9_splitLine N_p1 t_knotMany t_thereMany t_froms t_tos t_steps_many t_steps_xs t_steps_ys t_steps_zs t_there p1_many p1_xs p1_ys p1_zs v2 v3 v4 = some r) : Ct l E b0 M_X9_splitLine 0 0 [.ref a_t, .ref a_p1, vI v2, vI v3, vI v4] h n (some (vI r.1)) (ov [a_t, (a_t + 2), (a_t + 3), (a_t + 4), (a_t + 5), (a_t + 6), (a_t + 7), (a_t + 8), a_p1, (a_p1 + 1), (a_p1 + 2), (a_p1 + 3)] [.inr (9, fsX9 a_t t_knotMany r.2.1 t_groupMany), IA E 120 r.2.2.1, IA E 120 r.2.2.2.1, .inr (8, fsX8 (a_t + 4) r.2.2.2.2.1), IA E 120 r.2.2.2.2.2.1, IA E 120 r.2.2.2.2.2.2.1, IA E 120 r.2.2.2.2.2.2.2.1, ZA E 120 r.2.2.2.2.2.2.2.2, .inr (8, fsX8 a_p1 p1_many), IA E N_p1 p1_xs, IA E N_p1 p1_ys, IA E N_p1 p1_zs] h) n (inI r.1 ∧ inI r.2.1 ∧ okA r.2.2.1 ∧ okA r.2.2.2.1 ∧ inI r.2.2.2.2.1 ∧ okA r.2.2.2.2.2.1 ∧ okA r.2.2.2.2.2.2.1 ∧ okA r.2.2.2.2.2.2.2.1 ∧ okZ r.2.2.2.2.2.2.2.2) := by
  rw [m_X9_splitLine] at hm
  have hg : G l E b0 M_X9_splitLine (fun _ => True) (ZM E b0 (some (vI r.1)) (ov [a_t, (a_t + 2), (a_t + 3), (a_t + 4), (a_t + 5), (a_t + 6), (a_t + 7), (a_t + 8), a_p1, (a_p1 + 1), (a_p1 + 2), (a_p1 + 3)] [.inr (9, fsX9 a_t t_knotMany r.2.1 t_groupMany), IA E 120 r.2.2.1, IA E 120 r.2.2.2.1, .inr (8, fsX8 (a_t + 4) r.2.2.2.2.1), IA E 120 r.2.2.2.2.2.1, IA E 120 r.2.2.2.2.2.2.1, IA E 120 r.2.2.2.2.2.2.2.1, ZA E 120 r.2.2.2.2.2.2.2.2, .inr (8, fsX8 a_p1 p1_many), IA E N_p1 p1_xs, IA E N_p1 p1_ys, IA E N_p1 p1_zs] h) n (inI r.1 ∧ inI r.2.1 ∧ okA r.2.2.1 ∧ okA r.2.2.2.1 ∧ inI r.2.2.2.2.1 ∧ okA r.2.2.2.2.2.1 ∧ okA r.2.2.2.2.2.2.1 ∧ okA r.2.2.2.2.2.2.2.1 ∧ okZ r.2.2.2.2.2.2.2.2) 0 0) 0 0 n (ov [a_t, (a_t + 2), (a_t + 3), (a_t + 4), (a_t + 5), (a_t + 6), (a_t + 7), (a_t + 8), a_p1, (a_p1 + 1), (a_p1 + 2), (a_p1 + 3)] [.inr (9, fsX9 a_t t_knotMany t_thereMany t_groupMany), IA E 120 t_froms, IA E 120 t_tos, .inr (8, fsX8 (a_t + 4) t_steps_many), IA E 120 t_steps_xs, IA E 120 t_steps_ys, IA E 120 t_steps_zs, ZA E 120 t_there, .inr (8, fsX8 a_p1 p1_many), IA E N_p1 p1_xs, IA E N_p1 p1_ys, IA E N_p1 p1_zs] h) 0 [some (.ref a_t), some (.ref a_p1), some (vI v2), some (vI v3), some (vI v4), none, none, none, none, none, none, none] [] := by
    have hs := hm
    exact g_X9_splitLine_0 ao hN_p1 ok_t_knotMany ok_t_thereMany ok_t_froms ok_t_tos ok_t_steps_many ok_t_steps_xs ok_t_steps_ys ok_t_steps_zs ok_t_there ok_p1_many ok_p1_xs ok_p1_ys ok_p1_zs ok_v2 ok_v3 ok_v4 hs
  rw [FA_id hf] at hg
  exact Ct_of [some (.ref a_t), some (.ref a_p1), some (vI v2), some (vI v3), some (vI v4), none, none, none, none, none, none, none] ⟨by decide +kernel, rfl⟩ rfl (Nat.le_of_ble_eq_true rfl) hg

/-! ===== X9_leastWorth ===== -/
theorem e_X9_leastWorth_0 : DC cX9_leastWorth 0 (.aload_n 0) 1 1 := ⟨by decide +kernel, rfl⟩
theorem e_X9_leastWorth_1 : DC cX9_leastWorth 1 (.iload_n 2) 1 2 := ⟨by decide +kernel, rfl⟩
theorem e_X9_leastWorth_2 : DC cX9_leastWorth 2 (.lload_n 3) 1 3 := ⟨by decide +kernel, rfl⟩
theorem e_X9_leastWorth_3 : DC cX9_leastWorth 3 (.invokevirtual 112) 3 6 := ⟨by decide +kernel, rfl⟩
theorem e_X9_leastWorth_6 : DC cX9_leastWorth 6 (.istore 5) 2 8 := ⟨by decide +kernel, rfl⟩
theorem e_X9_leastWorth_8 : DC cX9_leastWorth 8 (.iload 5) 2 10 := ⟨by decide +kernel, rfl⟩
theorem e_X9_leastWorth_10 : DC cX9_leastWorth 10 (.iconst 2) 1 11 := ⟨by decide +kernel, rfl⟩
theorem e_X9_leastWorth_11 : DB cX9_leastWorth 11 (.if_icmp .ge 5) (5) 3 14 16 := ⟨by decide +kernel, rfl, rfl⟩
theorem e_X9_leastWorth_14 : DC cX9_leastWorth 14 (.iconst (-1)) 1 15 := ⟨by decide +kernel, rfl⟩
theorem e_X9_leastWorth_15 : DC cX9_leastWorth 15 (.ireturn) 1 16 := ⟨by decide +kernel, rfl⟩
theorem e_X9_leastWorth_16 : DC cX9_leastWorth 16 (.iconst 1) 1 17 := ⟨by decide +kernel, rfl⟩
theorem e_X9_leastWorth_17 : DC cX9_leastWorth 17 (.iload 5) 2 19 := ⟨by decide +kernel, rfl⟩
theorem e_X9_leastWorth_19 : DC cX9_leastWorth 19 (.ishl) 1 20 := ⟨by decide +kernel, rfl⟩
theorem e_X9_leastWorth_20 : DC cX9_leastWorth 20 (.istore 6) 2 22 := ⟨by decide +kernel, rfl⟩
theorem e_X9_leastWorth_22 : DC cX9_leastWorth 22 (.aload_n 0) 1 23 := ⟨by decide +kernel, rfl⟩
theorem e_X9_leastWorth_23 : DC cX9_leastWorth 23 (.iload_n 2) 1 24 := ⟨by decide +kernel, rfl⟩
theorem e_X9_leastWorth_24 : DC cX9_leastWorth 24 (.iload 5) 2 26 := ⟨by decide +kernel, rfl⟩
theorem e_X9_leastWorth_26 : DC cX9_leastWorth 26 (.iload 6) 2 28 := ⟨by decide +kernel, rfl⟩
theorem e_X9_leastWorth_28 : DC cX9_leastWorth 28 (.invokevirtual 116) 3 31 := ⟨by decide +kernel, rfl⟩
theorem e_X9_leastWorth_31 : DC cX9_leastWorth 31 (.iconst 1) 1 32 := ⟨by decide +kernel, rfl⟩
theorem e_X9_leastWorth_32 : DC cX9_leastWorth 32 (.istore 7) 2 34 := ⟨by decide +kernel, rfl⟩
theorem e_X9_leastWorth_34 : DC cX9_leastWorth 34 (.iload 7) 2 36 := ⟨by decide +kernel, rfl⟩
theorem e_X9_leastWorth_36 : DC cX9_leastWorth 36 (.iload 6) 2 38 := ⟨by decide +kernel, rfl⟩
theorem e_X9_leastWorth_38 : DB cX9_leastWorth 38 (.if_icmp .ge 23) (23) 3 41 61 := ⟨by decide +kernel, rfl, rfl⟩
theorem e_X9_leastWorth_41 : DC cX9_leastWorth 41 (.aload_n 0) 1 42 := ⟨by decide +kernel, rfl⟩
theorem e_X9_leastWorth_42 : DC cX9_leastWorth 42 (.getfield 43) 3 45 := ⟨by decide +kernel, rfl⟩
theorem e_X9_leastWorth_45 : DC cX9_leastWorth 45 (.iload 7) 2 47 := ⟨by decide +kernel, rfl⟩
theorem e_X9_leastWorth_47 : DC cX9_leastWorth 47 (.aload_n 0) 1 48 := ⟨by decide +kernel, rfl⟩
theorem e_X9_leastWorth_48 : DC cX9_leastWorth 48 (.aload_n 1) 1 49 := ⟨by decide +kernel, rfl⟩
theorem e_X9_leastWorth_49 : DC cX9_leastWorth 49 (.iload 7) 2 51 := ⟨by decide +kernel, rfl⟩
theorem e_X9_leastWorth_51 : DC cX9_leastWorth 51 (.invokevirtual 119) 3 54 := ⟨by decide +kernel, rfl⟩
theorem e_X9_leastWorth_54 : DC cX9_leastWorth 54 (.iastore) 1 55 := ⟨by decide +kernel, rfl⟩
theorem e_X9_leastWorth_55 : DC cX9_leastWorth 55 (.iinc 7 1) 3 58 := ⟨by decide +kernel, rfl⟩
theorem e_X9_leastWorth_58 : DB cX9_leastWorth 58 (.goto (-24)) (-24) 3 61 34 := ⟨by decide +kernel, rfl, rfl⟩
theorem e_X9_leastWorth_61 : DC cX9_leastWorth 61 (.iconst 1) 1 62 := ⟨by decide +kernel, rfl⟩
theorem e_X9_leastWorth_62 : DC cX9_leastWorth 62 (.istore 7) 2 64 := ⟨by decide +kernel, rfl⟩
theorem e_X9_leastWorth_64 : DC cX9_leastWorth 64 (.iload 7) 2 66 := ⟨by decide +kernel, rfl⟩
theorem e_X9_leastWorth_66 : DC cX9_leastWorth 66 (.iload 6) 2 68 := ⟨by decide +kernel, rfl⟩
theorem e_X9_leastWorth_68 : DB cX9_leastWorth 68 (.if_icmp .ge 15) (15) 3 71 83 := ⟨by decide +kernel, rfl, rfl⟩
theorem e_X9_leastWorth_71 : DC cX9_leastWorth 71 (.aload_n 0) 1 72 := ⟨by decide +kernel, rfl⟩
theorem e_X9_leastWorth_72 : DC cX9_leastWorth 72 (.iload 7) 2 74 := ⟨by decide +kernel, rfl⟩
theorem e_X9_leastWorth_74 : DC cX9_leastWorth 74 (.invokevirtual 123) 3 77 := ⟨by decide +kernel, rfl⟩
theorem e_X9_leastWorth_77 : DC cX9_leastWorth 77 (.iinc 7 1) 3 80 := ⟨by decide +kernel, rfl⟩
theorem e_X9_leastWorth_80 : DB cX9_leastWorth 80 (.goto (-16)) (-16) 3 83 64 := ⟨by decide +kernel, rfl, rfl⟩
theorem e_X9_leastWorth_83 : DC cX9_leastWorth 83 (.aload_n 0) 1 84 := ⟨by decide +kernel, rfl⟩
theorem e_X9_leastWorth_84 : DC cX9_leastWorth 84 (.iload 5) 2 86 := ⟨by decide +kernel, rfl⟩
theorem e_X9_leastWorth_86 : DC cX9_leastWorth 86 (.iload 6) 2 88 := ⟨by decide +kernel, rfl⟩
theorem e_X9_leastWorth_88 : DC cX9_leastWorth 88 (.iconst 1) 1 89 := ⟨by decide +kernel, rfl⟩
theorem e_X9_leastWorth_89 : DC cX9_leastWorth 89 (.isub) 1 90 := ⟨by decide +kernel, rfl⟩
theorem e_X9_leastWorth_90 : DC cX9_leastWorth 90 (.invokevirtual 126) 3 93 := ⟨by decide +kernel, rfl⟩
theorem e_X9_leastWorth_93 : DC cX9_leastWorth 93 (.aload_n 0) 1 94 := ⟨by decide +kernel, rfl⟩
theorem e_X9_leastWorth_94 : DC cX9_leastWorth 94 (.getfield 46) 3 97 := ⟨by decide +kernel, rfl⟩
theorem e_X9_leastWorth_97 : DC cX9_leastWorth 97 (.iload 6) 2 99 := ⟨by decide +kernel, rfl⟩
theorem e_X9_leastWorth_99 : DC cX9_leastWorth 99 (.iconst 1) 1 100 := ⟨by decide +kernel, rfl⟩
theorem e_X9_leastWorth_100 : DC cX9_leastWorth 100 (.isub) 1 101 := ⟨by decide +kernel, rfl⟩
theorem e_X9_leastWorth_101 : DC cX9_leastWorth 101 (.iaload) 1 102 := ⟨by decide +kernel, rfl⟩
theorem e_X9_leastWorth_102 : DC cX9_leastWorth 102 (.ireturn) 1 103 := ⟨by decide +kernel, rfl⟩
noncomputable def m_X9_leastWorth_34 (N_p1 : Nat) (t_sums_many : Int) (t_sums_xs : Nat → Int) (t_sums_ys : Nat → Int) (t_sums_zs : Nat → Int) (p1_many : Int) (p1_xs : Nat → Int) (p1_ys : Nat → Int) (p1_zs : Nat → Int) (v6 : Int) (k_61 : (Nat → Int) → Int → Option (Int × Int × (Nat → Int) × (Nat → Int) × Int × (Nat → Int) × (Nat → Int) × (Nat → Int) × (Nat → Int) × (Nat → Int) × (Nat → Int))) : Nat → (Nat → Int) → Int → Option (Int × Int × (Nat → Int) × (Nat → Int) × Int × (Nat → Int) × (Nat → Int) × (Nat → Int) × (Nat → Int) × (Nat → Int) × (Nat → Int))
  | 0, _, _ => none
  | F + 1, t_worths, v7 => if v6 ≤ v7 then (k_61 t_worths v7) else ((m_X9_worthAsOne N_p1 t_sums_many t_sums_xs t_sums_ys t_sums_zs p1_many p1_xs p1_ys p1_zs v7).bind (fun y3 => chk (inB v7 256) (chk (inI (v7 + 1)) (m_X9_leastWorth_34 N_p1 t_sums_many t_sums_xs t_sums_ys t_sums_zs p1_many p1_xs p1_ys p1_zs v6 k_61 F (up t_worths (Int.toNat v7) y3) (v7 + 1)))))

set_option maxRecDepth 10000 in
theorem g_X9_leastWorth_34 {l : Launch} {E : EE} {b0 n : Nat} {h : AH} {a_t a_p1 : Nat} {N_p1 : Nat} {t_knotMany t_thereMany t_groupMany t_steps_many t_sums_many p1_many v5 v6 : Int} {t_froms t_tos t_steps_xs t_steps_ys t_steps_zs t_there t_chosen t_groups t_sums_xs t_sums_ys t_sums_zs t_leasts t_firsts p1_xs p1_ys p1_zs : Nat → Int} {r : Int × Int × (Nat → Int) × (Nat → Int) × Int × (Nat → Int) × (Nat → Int) × (Nat → Int) × (Nat → Int) × (Nat → Int) × (Nat → Int)} {k_61 : (Nat → Int) → Int → Option (Int × Int × (Nat → Int) × (Nat → Int) × Int × (Nat → Int) × (Nat → Int) × (Nat → Int) × (Nat → Int) × (Nat → Int) × (Nat → Int))} (ao : AO b0 n [a_t, (a_t + 2), (a_t + 3), (a_t + 4), (a_t + 5), (a_t + 6), (a_t + 7), (a_t + 8), (a_t + 9), (a_t + 10), (a_t + 11), (a_t + 12), (a_t + 13), (a_t + 14), (a_t + 15), (a_t + 16), (a_t + 17), a_p1, (a_p1 + 1), (a_p1 + 2), (a_p1 + 3)]) (hN_p1 : N_p1 ≤ 100000) (ok_t_groupMany : inI t_groupMany) (ok_t_froms : okA t_froms) (ok_t_tos : okA t_tos) (ok_t_steps_many : inI t_steps_many) (ok_t_steps_xs : okA t_steps_xs) (ok_t_steps_ys : okA t_steps_ys) (ok_t_steps_zs : okA t_steps_zs) (ok_t_there : okZ t_there) (ok_t_chosen : okA t_chosen) (ok_t_groups : okA t_groups) (ok_t_sums_many : inI t_sums_many) (ok_t_sums_xs : okA t_sums_xs) (ok_t_sums_ys : okA t_sums_ys) (ok_t_sums_zs : okA t_sums_zs) (ok_t_leasts : okA t_leasts) (ok_t_firsts : okA t_firsts) (ok_p1_many : inI p1_many) (ok_p1_xs : okA p1_xs) (ok_p1_ys : okA p1_ys) (ok_p1_zs : okA p1_zs) (ok_v5 : inI v5) (ok_v6 : inI v6) (hk_61 : ∀ (t_worths_ : Nat → Int) (v7_ : Int), okA t_worths_ → inI v7_ → k_61 t_worths_ v7_ = some r → G l E b0 M_X9_leastWorth (fun _ => True) (ZM E b0 (some (vI r.1)) (ov [a_t, (a_t + 2), (a_t + 3), (a_t + 4), (a_t + 5), (a_t + 6), (a_t + 7), (a_t + 8), (a_t + 9), (a_t + 10), (a_t + 11), (a_t + 12), (a_t + 13), (a_t + 14), (a_t + 15), (a_t + 16), (a_t + 17), a_p1, (a_p1 + 1), (a_p1 + 2), (a_p1 + 3)] [.inr (9, fsX9 a_t t_knotMany t_thereMany r.2.1), IA E 120 t_froms, IA E 120 t_tos, .inr (8, fsX8 (a_t + 4) t_steps_many), IA E 120 t_steps_xs, IA E 120 t_steps_ys, IA E 120 t_steps_zs, ZA E 120 t_there, IA E 8 r.2.2.1, IA E 8 r.2.2.2.1, .inr (8, fsX8 (a_t + 11) r.2.2.2.2.1), IA E 256 r.2.2.2.2.2.1, IA E 256 r.2.2.2.2.2.2.1, IA E 256 r.2.2.2.2.2.2.2.1, IA E 256 r.2.2.2.2.2.2.2.2.1, IA E 256 r.2.2.2.2.2.2.2.2.2.1, IA E 256 r.2.2.2.2.2.2.2.2.2.2, .inr (8, fsX8 a_p1 p1_many), IA E N_p1 p1_xs, IA E N_p1 p1_ys, IA E N_p1 p1_zs] h) n (inI r.1 ∧ inI r.2.1 ∧ okA r.2.2.1 ∧ okA r.2.2.2.1 ∧ inI r.2.2.2.2.1 ∧ okA r.2.2.2.2.2.1 ∧ okA r.2.2.2.2.2.2.1 ∧ okA r.2.2.2.2.2.2.2.1 ∧ okA r.2.2.2.2.2.2.2.2.1 ∧ okA r.2.2.2.2.2.2.2.2.2.1 ∧ okA r.2.2.2.2.2.2.2.2.2.2) 0 0) 0 0 n (ov [a_t, (a_t + 2), (a_t + 3), (a_t + 4), (a_t + 5), (a_t + 6), (a_t + 7), (a_t + 8), (a_t + 9), (a_t + 10), (a_t + 11), (a_t + 12), (a_t + 13), (a_t + 14), (a_t + 15), (a_t + 16), (a_t + 17), a_p1, (a_p1 + 1), (a_p1 + 2), (a_p1 + 3)] [.inr (9, fsX9 a_t t_knotMany t_thereMany t_groupMany), IA E 120 t_froms, IA E 120 t_tos, .inr (8, fsX8 (a_t + 4) t_steps_many), IA E 120 t_steps_xs, IA E 120 t_steps_ys, IA E 120 t_steps_zs, ZA E 120 t_there, IA E 8 t_chosen, IA E 8 t_groups, .inr (8, fsX8 (a_t + 11) t_sums_many), IA E 256 t_sums_xs, IA E 256 t_sums_ys, IA E 256 t_sums_zs, IA E 256 t_worths_, IA E 256 t_leasts, IA E 256 t_firsts, .inr (8, fsX8 a_p1 p1_many), IA E N_p1 p1_xs, IA E N_p1 p1_ys, IA E N_p1 p1_zs] h) 61 [some (.ref a_t), none, none, none, none, some (vI v5), some (vI v6), none] []) :
    ∀ (F : Nat) (t_worths : Nat → Int) (v7 : Int), okA t_worths → inI v7 → m_X9_leastWorth_34 N_p1 t_sums_many t_sums_xs t_sums_ys t_sums_zs p1_many p1_xs p1_ys p1_zs v6 k_61 F t_worths v7 = some r → G l E b0 M_X9_leastWorth (fun _ => True) (ZM E b0 (some (vI r.1)) (ov [a_t, (a_t + 2), (a_t + 3), (a_t + 4), (a_t + 5), (a_t + 6), (a_t + 7), (a_t + 8), (a_t + 9), (a_t + 10), (a_t + 11), (a_t + 12), (a_t + 13), (a_t + 14), (a_t + 15), (a_t + 16), (a_t + 17), a_p1, (a_p1 + 1), (a_p1 + 2), (a_p1 + 3)] [.inr (9, fsX9 a_t t_knotMany t_thereMany r.2.1), IA E 120 t_froms, IA E 120 t_tos, .inr (8, fsX8 (a_t + 4) t_steps_many), IA E 120 t_steps_xs, IA E 120 t_steps_ys, IA E 120 t_steps_zs, ZA E 120 t_there, IA E 8 r.2.2.1, IA E 8 r.2.2.2.1, .inr (8, fsX8 (a_t + 11) r.2.2.2.2.1), IA E 256 r.2.2.2.2.2.1, IA E 256 r.2.2.2.2.2.2.1, IA E 256 r.2.2.2.2.2.2.2.1, IA E 256 r.2.2.2.2.2.2.2.2.1, IA E 256 r.2.2.2.2.2.2.2.2.2.1, IA E 256 r.2.2.2.2.2.2.2.2.2.2, .inr (8, fsX8 a_p1 p1_many), IA E N_p1 p1_xs, IA E N_p1 p1_ys, IA E N_p1 p1_zs] h) n (inI r.1 ∧ inI r.2.1 ∧ okA r.2.2.1 ∧ okA r.2.2.2.1 ∧ inI r.2.2.2.2.1 ∧ okA r.2.2.2.2.2.1 ∧ okA r.2.2.2.2.2.2.1 ∧ okA r.2.2.2.2.2.2.2.1 ∧ okA r.2.2.2.2.2.2.2.2.1 ∧ okA r.2.2.2.2.2.2.2.2.2.1 ∧ okA r.2.2.2.2.2.2.2.2.2.2) 0 0) 0 0 n (ov [a_t, (a_t + 2), (a_t + 3), (a_t + 4), (a_t + 5), (a_t + 6), (a_t + 7), (a_t + 8), (a_t + 9), (a_t + 10), (a_t + 11), (a_t + 12), (a_t + 13), (a_t + 14), (a_t + 15), (a_t + 16), (a_t + 17), a_p1, (a_p1 + 1), (a_p1 + 2), (a_p1 + 3)] [.inr (9, fsX9 a_t t_knotMany t_thereMany t_groupMany), IA E 120 t_froms, IA E 120 t_tos, .inr (8, fsX8 (a_t + 4) t_steps_many), IA E 120 t_steps_xs, IA E 120 t_steps_ys, IA E 120 t_steps_zs, ZA E 120 t_there, IA E 8 t_chosen, IA E 8 t_groups, .inr (8, fsX8 (a_t + 11) t_sums_many), IA E 256 t_sums_xs, IA E 256 t_sums_ys, IA E 256 t_sums_zs, IA E 256 t_worths, IA E 256 t_leasts, IA E 256 t_firsts, .inr (8, fsX8 a_p1 p1_many), IA E N_p1 p1_xs, IA E N_p1 p1_ys, IA E N_p1 p1_zs] h) 34 [some (.ref a_t), some (.ref a_p1), none, none, none, some (vI v5), some (vI v6), some (vI v7)] [] := by
  intro F
  induction F with
  | zero =>
    intro t_worths v7 ok_t_worths ok_v7 hs
    rw [m_X9_leastWorth_34] at hs
    cases hs
  | succ F ih =>
    intro t_worths v7 ok_t_worths ok_v7 hs
    rw [m_X9_leastWorth_34] at hs
    refine g_iload e_X9_leastWorth_34 rfl ?_
    refine g_iload e_X9_leastWorth_36 rfl ?_
    refine g_icmp_ge e_X9_leastWorth_38 ok_v7 ok_v6 hs (fun c38 hs => ?_) (fun c38 hs => ?_)
    · exact g_mask [true, false, true, true, true, true, true, false] (hk_61 _ _ ok_t_worths ok_v7 hs)
    · refine g_aload_n e_X9_leastWorth_41 rfl ?_
      refine g_get 0 10 ao rfl rfl fsX9_g10 fl_X9_43 e_X9_leastWorth_42 ?_
      refine g_iload e_X9_leastWorth_45 rfl ?_
      refine g_aload_n e_X9_leastWorth_47 rfl ?_
      refine g_aload_n e_X9_leastWorth_48 rfl ?_
      refine g_iload e_X9_leastWorth_49 rfl ?_
      obtain ⟨y3, hy3, hs⟩ := bind_elim hs
      refine g_callVr [.ref a_p1, vI v7] cv_X9_119 ⟨rfl, rfl, Nat.le_of_ble_eq_true rfl, Nat.le_of_ble_eq_true rfl⟩ (ct_X9_worthAsOne (AO_call [0, 10, 11, 12, 13, 17, 18, 19, 20] ao (by decide) rfl) hN_p1 (FA_call [0, 10, 11, 12, 13, 17, 18, 19, 20] ao.1 rfl rfl) ok_t_sums_many ok_t_sums_xs ok_t_sums_ys ok_t_sums_zs ok_p1_many ok_p1_xs ok_p1_ys ok_p1_zs ok_v7 hy3) e_X9_leastWorth_51 (ao.2 0 _ rfl) (ov_get 0 ao.1 rfl rfl) rfl rfl rfl (Nat.le_of_ble_eq_true rfl) ⟨Nat.le_refl _, Nat.le_refl _⟩ (fun Py3 => ?_)
      refine g_iast 14 ao rfl rfl ls_14 (Nat.le_of_ble_eq_true rfl) e_X9_leastWorth_54 hs (fun hi4 hs => ?_)
      refine g_iinc e_X9_leastWorth_55 rfl st1_7 rfl ?_
      refine g_goto e_X9_leastWorth_58 ?_
      obtain ⟨hc5, hs⟩ := chk_elim hs
      exact ih _ _ (okA_up ok_t_worths Py3) hc5 hs

noncomputable def m_X9_leastWorth_64 (N_p1 : Nat) (t_worths : Nat → Int) (v6 : Int) (k_83 : (Nat → Int) → (Nat → Int) → Int → Option (Int × Int × (Nat → Int) × (Nat → Int) × Int × (Nat → Int) × (Nat → Int) × (Nat → Int) × (Nat → Int) × (Nat → Int) × (Nat → Int))) : Nat → (Nat → Int) → (Nat → Int) → Int → Option (Int × Int × (Nat → Int) × (Nat → Int) × Int × (Nat → Int) × (Nat → Int) × (Nat → Int) × (Nat → Int) × (Nat → Int) × (Nat → Int))
  | 0, _, _, _ => none
  | F + 1, t_leasts, t_firsts, v7 => if v6 ≤ v7 then (k_83 t_leasts t_firsts v7) else ((m_X9_findLeast t_worths t_leasts t_firsts v7).bind (fun y6 => chk (inI (v7 + 1)) (m_X9_leastWorth_64 N_p1 t_worths v6 k_83 F y6.1 y6.2 (v7 + 1))))

set_option maxRecDepth 10000 in
theorem g_X9_leastWorth_64 {l : Launch} {E : EE} {b0 n : Nat} {h : AH} {a_t a_p1 : Nat} {N_p1 : Nat} {t_knotMany t_thereMany t_groupMany t_steps_many t_sums_many p1_many v5 v6 : Int} {t_froms t_tos t_steps_xs t_steps_ys t_steps_zs t_there t_chosen t_groups t_sums_xs t_sums_ys t_sums_zs t_worths p1_xs p1_ys p1_zs : Nat → Int} {r : Int × Int × (Nat → Int) × (Nat → Int) × Int × (Nat → Int) × (Nat → Int) × (Nat → Int) × (Nat → Int) × (Nat → Int) × (Nat → Int)} {k_83 : (Nat → Int) → (Nat → Int) → Int → Option (Int × Int × (Nat → Int) × (Nat → Int) × Int × (Nat → Int) × (Nat → Int) × (Nat → Int) × (Nat → Int) × (Nat → Int) × (Nat → Int))} (ao : AO b0 n [a_t, (a_t + 2), (a_t + 3), (a_t + 4), (a_t + 5), (a_t + 6), (a_t + 7), (a_t + 8), (a_t + 9), (a_t + 10), (a_t + 11), (a_t + 12), (a_t + 13), (a_t + 14), (a_t + 15), (a_t + 16), (a_t + 17), a_p1, (a_p1 + 1), (a_p1 + 2), (a_p1 + 3)]) (hN_p1 : N_p1 ≤ 100000) (ok_t_groupMany : inI t_groupMany) (ok_t_froms : okA t_froms) (ok_t_tos : okA t_tos) (ok_t_steps_many : inI t_steps_many) (ok_t_steps_xs : okA t_steps_xs) (ok_t_steps_ys : okA t_steps_ys) (ok_t_steps_zs : okA t_steps_zs) (ok_t_there : okZ t_there) (ok_t_chosen : okA t_chosen) (ok_t_groups : okA t_groups) (ok_t_sums_many : inI t_sums_many) (ok_t_sums_xs : okA t_sums_xs) (ok_t_sums_ys : okA t_sums_ys) (ok_t_sums_zs : okA t_sums_zs) (ok_t_worths : okA t_worths) (ok_p1_many : inI p1_many) (ok_p1_xs : okA p1_xs) (ok_p1_ys : okA p1_ys) (ok_p1_zs : okA p1_zs) (ok_v5 : inI v5) (ok_v6 : inI v6) (hk_83 : ∀ (t_leasts_ : Nat → Int) (t_firsts_ : Nat → Int) (v7_ : Int), okA t_leasts_ → okA t_firsts_ → inI v7_ → k_83 t_leasts_ t_firsts_ v7_ = some r → G l E b0 M_X9_leastWorth (fun _ => True) (ZM E b0 (some (vI r.1)) (ov [a_t, (a_t + 2), (a_t + 3), (a_t + 4), (a_t + 5), (a_t + 6), (a_t + 7), (a_t + 8), (a_t + 9), (a_t + 10), (a_t + 11), (a_t + 12), (a_t + 13), (a_t + 14), (a_t + 15), (a_t + 16), (a_t + 17), a_p1, (a_p1 + 1), (a_p1 + 2), (a_p1 + 3)] [.inr (9, fsX9 a_t t_knotMany t_thereMany r.2.1), IA E 120 t_froms, IA E 120 t_tos, .inr (8, fsX8 (a_t + 4) t_steps_many), IA E 120 t_steps_xs, IA E 120 t_steps_ys, IA E 120 t_steps_zs, ZA E 120 t_there, IA E 8 r.2.2.1, IA E 8 r.2.2.2.1, .inr (8, fsX8 (a_t + 11) r.2.2.2.2.1), IA E 256 r.2.2.2.2.2.1, IA E 256 r.2.2.2.2.2.2.1, IA E 256 r.2.2.2.2.2.2.2.1, IA E 256 r.2.2.2.2.2.2.2.2.1, IA E 256 r.2.2.2.2.2.2.2.2.2.1, IA E 256 r.2.2.2.2.2.2.2.2.2.2, .inr (8, fsX8 a_p1 p1_many), IA E N_p1 p1_xs, IA E N_p1 p1_ys, IA E N_p1 p1_zs] h) n (inI r.1 ∧ inI r.2.1 ∧ okA r.2.2.1 ∧ okA r.2.2.2.1 ∧ inI r.2.2.2.2.1 ∧ okA r.2.2.2.2.2.1 ∧ okA r.2.2.2.2.2.2.1 ∧ okA r.2.2.2.2.2.2.2.1 ∧ okA r.2.2.2.2.2.2.2.2.1 ∧ okA r.2.2.2.2.2.2.2.2.2.1 ∧ okA r.2.2.2.2.2.2.2.2.2.2) 0 0) 0 0 n (ov [a_t, (a_t + 2), (a_t + 3), (a_t + 4), (a_t + 5), (a_t + 6), (a_t + 7), (a_t + 8), (a_t + 9), (a_t + 10), (a_t + 11), (a_t + 12), (a_t + 13), (a_t + 14), (a_t + 15), (a_t + 16), (a_t + 17), a_p1, (a_p1 + 1), (a_p1 + 2), (a_p1 + 3)] [.inr (9, fsX9 a_t t_knotMany t_thereMany t_groupMany), IA E 120 t_froms, IA E 120 t_tos, .inr (8, fsX8 (a_t + 4) t_steps_many), IA E 120 t_steps_xs, IA E 120 t_steps_ys, IA E 120 t_steps_zs, ZA E 120 t_there, IA E 8 t_chosen, IA E 8 t_groups, .inr (8, fsX8 (a_t + 11) t_sums_many), IA E 256 t_sums_xs, IA E 256 t_sums_ys, IA E 256 t_sums_zs, IA E 256 t_worths, IA E 256 t_leasts_, IA E 256 t_firsts_, .inr (8, fsX8 a_p1 p1_many), IA E N_p1 p1_xs, IA E N_p1 p1_ys, IA E N_p1 p1_zs] h) 83 [some (.ref a_t), none, none, none, none, some (vI v5), some (vI v6), none] []) :
    ∀ (F : Nat) (t_leasts : Nat → Int) (t_firsts : Nat → Int) (v7 : Int), okA t_leasts → okA t_firsts → inI v7 → m_X9_leastWorth_64 N_p1 t_worths v6 k_83 F t_leasts t_firsts v7 = some r → G l E b0 M_X9_leastWorth (fun _ => True) (ZM E b0 (some (vI r.1)) (ov [a_t, (a_t + 2), (a_t + 3), (a_t + 4), (a_t + 5), (a_t + 6), (a_t + 7), (a_t + 8), (a_t + 9), (a_t + 10), (a_t + 11), (a_t + 12), (a_t + 13), (a_t + 14), (a_t + 15), (a_t + 16), (a_t + 17), a_p1, (a_p1 + 1), (a_p1 + 2), (a_p1 + 3)] [.inr (9, fsX9 a_t t_knotMany t_thereMany r.2.1), IA E 120 t_froms, IA E 120 t_tos, .inr (8, fsX8 (a_t + 4) t_steps_many), IA E 120 t_steps_xs, IA E 120 t_steps_ys, IA E 120 t_steps_zs, ZA E 120 t_there, IA E 8 r.2.2.1, IA E 8 r.2.2.2.1, .inr (8, fsX8 (a_t + 11) r.2.2.2.2.1), IA E 256 r.2.2.2.2.2.1, IA E 256 r.2.2.2.2.2.2.1, IA E 256 r.2.2.2.2.2.2.2.1, IA E 256 r.2.2.2.2.2.2.2.2.1, IA E 256 r.2.2.2.2.2.2.2.2.2.1, IA E 256 r.2.2.2.2.2.2.2.2.2.2, .inr (8, fsX8 a_p1 p1_many), IA E N_p1 p1_xs, IA E N_p1 p1_ys, IA E N_p1 p1_zs] h) n (inI r.1 ∧ inI r.2.1 ∧ okA r.2.2.1 ∧ okA r.2.2.2.1 ∧ inI r.2.2.2.2.1 ∧ okA r.2.2.2.2.2.1 ∧ okA r.2.2.2.2.2.2.1 ∧ okA r.2.2.2.2.2.2.2.1 ∧ okA r.2.2.2.2.2.2.2.2.1 ∧ okA r.2.2.2.2.2.2.2.2.2.1 ∧ okA r.2.2.2.2.2.2.2.2.2.2) 0 0) 0 0 n (ov [a_t, (a_t + 2), (a_t + 3), (a_t + 4), (a_t + 5), (a_t + 6), (a_t + 7), (a_t + 8), (a_t + 9), (a_t + 10), (a_t + 11), (a_t + 12), (a_t + 13), (a_t + 14), (a_t + 15), (a_t + 16), (a_t + 17), a_p1, (a_p1 + 1), (a_p1 + 2), (a_p1 + 3)] [.inr (9, fsX9 a_t t_knotMany t_thereMany t_groupMany), IA E 120 t_froms, IA E 120 t_tos, .inr (8, fsX8 (a_t + 4) t_steps_many), IA E 120 t_steps_xs, IA E 120 t_steps_ys, IA E 120 t_steps_zs, ZA E 120 t_there, IA E 8 t_chosen, IA E 8 t_groups, .inr (8, fsX8 (a_t + 11) t_sums_many), IA E 256 t_sums_xs, IA E 256 t_sums_ys, IA E 256 t_sums_zs, IA E 256 t_worths, IA E 256 t_leasts, IA E 256 t_firsts, .inr (8, fsX8 a_p1 p1_many), IA E N_p1 p1_xs, IA E N_p1 p1_ys, IA E N_p1 p1_zs] h) 64 [some (.ref a_t), none, none, none, none, some (vI v5), some (vI v6), some (vI v7)] [] := by
  intro F
  induction F with
  | zero =>
    intro t_leasts t_firsts v7 ok_t_leasts ok_t_firsts ok_v7 hs
    rw [m_X9_leastWorth_64] at hs
    cases hs
  | succ F ih =>
    intro t_leasts t_firsts v7 ok_t_leasts ok_t_firsts ok_v7 hs
    rw [m_X9_leastWorth_64] at hs
    refine g_iload e_X9_leastWorth_64 rfl ?_
    refine g_iload e_X9_leastWorth_66 rfl ?_
    refine g_icmp_ge e_X9_leastWorth_68 ok_v7 ok_v6 hs (fun c68 hs => ?_) (fun c68 hs => ?_)
    · exact g_mask [true, true, true, true, true, true, true, false] (hk_83 _ _ _ ok_t_leasts ok_t_firsts ok_v7 hs)
    · refine g_aload_n e_X9_leastWorth_71 rfl ?_
      refine g_iload e_X9_leastWorth_72 rfl ?_
      obtain ⟨y6, hy6, hs⟩ := bind_elim hs
      refine g_callVv [vI v7] cv_X9_123 ⟨rfl, rfl, Nat.le_of_ble_eq_true rfl, Nat.le_of_ble_eq_true rfl⟩ (Ct_heap (ct_X9_findLeast (AO_call [0, 14, 15, 16] ao (by decide) rfl) (FA_call [0, 14, 15, 16] ao.1 rfl rfl) ok_t_worths ok_t_leasts ok_t_firsts ok_v7 hy6) (ov_call (esn := [.inr (9, fsX9 a_t t_knotMany t_thereMany t_groupMany), IA E 120 t_froms, IA E 120 t_tos, .inr (8, fsX8 (a_t + 4) t_steps_many), IA E 120 t_steps_xs, IA E 120 t_steps_ys, IA E 120 t_steps_zs, ZA E 120 t_there, IA E 8 t_chosen, IA E 8 t_groups, .inr (8, fsX8 (a_t + 11) t_sums_many), IA E 256 t_sums_xs, IA E 256 t_sums_ys, IA E 256 t_sums_zs, IA E 256 t_worths, IA E 256 y6.1, IA E 256 y6.2, .inr (8, fsX8 a_p1 p1_many), IA E N_p1 p1_xs, IA E N_p1 p1_ys, IA E N_p1 p1_zs]) [0, 14, 15, 16] ao.1 rfl rfl rfl rfl)) e_X9_leastWorth_74 (ao.2 0 _ rfl) (ov_get 0 ao.1 rfl rfl) rfl rfl rfl (Nat.le_of_ble_eq_true rfl) ⟨Nat.le_refl _, Nat.le_refl _⟩ (fun Py6 => ?_)
      refine g_iinc e_X9_leastWorth_77 rfl st1_7 rfl ?_
      refine g_goto e_X9_leastWorth_80 ?_
      obtain ⟨hc7, hs⟩ := chk_elim hs
      exact ih _ _ _ Py6.1 Py6.2 hc7 hs

noncomputable def m_X9_leastWorth_83 (N_p1 : Nat) (t_groupMany : Int) (t_chosen : Nat → Int) (t_groups : Nat → Int) (t_sums_many : Int) (t_sums_xs : Nat → Int) (t_sums_ys : Nat → Int) (t_sums_zs : Nat → Int) (t_worths : Nat → Int) (t_leasts : Nat → Int) (t_firsts : Nat → Int) (v5 : Int) (v6 : Int) : Option (Int × Int × (Nat → Int) × (Nat → Int) × Int × (Nat → Int) × (Nat → Int) × (Nat → Int) × (Nat → Int) × (Nat → Int) × (Nat → Int)) :=
  chk (inI (v6 - 1)) ((m_X9_nameGroups t_groupMany t_groups t_firsts v5 (v6 - 1)).bind (fun y9 => chk (inB (v6 - 1) 256) (some (t_leasts (Int.toNat (v6 - 1)), y9.1, t_chosen, y9.2, t_sums_many, t_sums_xs, t_sums_ys, t_sums_zs, t_worths, t_leasts, t_firsts))))

set_option maxRecDepth 10000 in
theorem g_X9_leastWorth_83 {l : Launch} {E : EE} {b0 n : Nat} {h : AH} {a_t a_p1 : Nat} {N_p1 : Nat} {t_knotMany t_thereMany t_groupMany t_steps_many t_sums_many p1_many v5 v6 : Int} {t_froms t_tos t_steps_xs t_steps_ys t_steps_zs t_there t_chosen t_groups t_sums_xs t_sums_ys t_sums_zs t_worths t_leasts t_firsts p1_xs p1_ys p1_zs : Nat → Int} {r : Int × Int × (Nat → Int) × (Nat → Int) × Int × (Nat → Int) × (Nat → Int) × (Nat → Int) × (Nat → Int) × (Nat → Int) × (Nat → Int)} (ao : AO b0 n [a_t, (a_t + 2), (a_t + 3), (a_t + 4), (a_t + 5), (a_t + 6), (a_t + 7), (a_t + 8), (a_t + 9), (a_t + 10), (a_t + 11), (a_t + 12), (a_t + 13), (a_t + 14), (a_t + 15), (a_t + 16), (a_t + 17), a_p1, (a_p1 + 1), (a_p1 + 2), (a_p1 + 3)]) (hN_p1 : N_p1 ≤ 100000) (ok_t_groupMany : inI t_groupMany) (ok_t_froms : okA t_froms) (ok_t_tos : okA t_tos) (ok_t_steps_many : inI t_steps_many) (ok_t_steps_xs : okA t_steps_xs) (ok_t_steps_ys : okA t_steps_ys) (ok_t_steps_zs : okA t_steps_zs) (ok_t_there : okZ t_there) (ok_t_chosen : okA t_chosen) (ok_t_groups : okA t_groups) (ok_t_sums_many : inI t_sums_many) (ok_t_sums_xs : okA t_sums_xs) (ok_t_sums_ys : okA t_sums_ys) (ok_t_sums_zs : okA t_sums_zs) (ok_t_worths : okA t_worths) (ok_t_leasts : okA t_leasts) (ok_t_firsts : okA t_firsts) (ok_p1_many : inI p1_many) (ok_p1_xs : okA p1_xs) (ok_p1_ys : okA p1_ys) (ok_p1_zs : okA p1_zs) (ok_v5 : inI v5) (ok_v6 : inI v6) (hs : m_X9_leastWorth_83 N_p1 t_groupMany t_chosen t_groups t_sums_many t_sums_xs t_sums_ys t_sums_zs t_worths t_leasts t_firsts v5 v6 = some r) : G l E b0 M_X9_leastWorth (fun _ => True) (ZM E b0 (some (vI r.1)) (ov [a_t, (a_t + 2), (a_t + 3), (a_t + 4), (a_t + 5), (a_t + 6), (a_t + 7), (a_t + 8), (a_t + 9), (a_t + 10), (a_t + 11), (a_t + 12), (a_t + 13), (a_t + 14), (a_t + 15), (a_t + 16), (a_t + 17), a_p1, (a_p1 + 1), (a_p1 + 2), (a_p1 + 3)] [.inr (9, fsX9 a_t t_knotMany t_thereMany r.2.1), IA E 120 t_froms, IA E 120 t_tos, .inr (8, fsX8 (a_t + 4) t_steps_many), IA E 120 t_steps_xs, IA E 120 t_steps_ys, IA E 120 t_steps_zs, ZA E 120 t_there, IA E 8 r.2.2.1, IA E 8 r.2.2.2.1, .inr (8, fsX8 (a_t + 11) r.2.2.2.2.1), IA E 256 r.2.2.2.2.2.1, IA E 256 r.2.2.2.2.2.2.1, IA E 256 r.2.2.2.2.2.2.2.1, IA E 256 r.2.2.2.2.2.2.2.2.1, IA E 256 r.2.2.2.2.2.2.2.2.2.1, IA E 256 r.2.2.2.2.2.2.2.2.2.2, .inr (8, fsX8 a_p1 p1_many), IA E N_p1 p1_xs, IA E N_p1 p1_ys, IA E N_p1 p1_zs] h) n (inI r.1 ∧ inI r.2.1 ∧ okA r.2.2.1 ∧ okA r.2.2.2.1 ∧ inI r.2.2.2.2.1 ∧ okA r.2.2.2.2.2.1 ∧ okA r.2.2.2.2.2.2.1 ∧ okA r.2.2.2.2.2.2.2.1 ∧ okA r.2.2.2.2.2.2.2.2.1 ∧ okA r.2.2.2.2.2.2.2.2.2.1 ∧ okA r.2.2.2.2.2.2.2.2.2.2) 0 0) 0 0 n (ov [a_t, (a_t + 2), (a_t + 3), (a_t + 4), (a_t + 5), (a_t + 6), (a_t + 7), (a_t + 8), (a_t + 9), (a_t + 10), (a_t + 11), (a_t + 12), (a_t + 13), (a_t + 14), (a_t + 15), (a_t + 16), (a_t + 17), a_p1, (a_p1 + 1), (a_p1 + 2), (a_p1 + 3)] [.inr (9, fsX9 a_t t_knotMany t_thereMany t_groupMany), IA E 120 t_froms, IA E 120 t_tos, .inr (8, fsX8 (a_t + 4) t_steps_many), IA E 120 t_steps_xs, IA E 120 t_steps_ys, IA E 120 t_steps_zs, ZA E 120 t_there, IA E 8 t_chosen, IA E 8 t_groups, .inr (8, fsX8 (a_t + 11) t_sums_many), IA E 256 t_sums_xs, IA E 256 t_sums_ys, IA E 256 t_sums_zs, IA E 256 t_worths, IA E 256 t_leasts, IA E 256 t_firsts, .inr (8, fsX8 a_p1 p1_many), IA E N_p1 p1_xs, IA E N_p1 p1_ys, IA E N_p1 p1_zs] h) 83 [some (.ref a_t), none, none, none, none, some (vI v5), some (vI v6), none] [] := by
  rw [m_X9_leastWorth_83] at hs
  refine g_aload_n e_X9_leastWorth_83 rfl ?_
  refine g_iload e_X9_leastWorth_84 rfl ?_
  refine g_iload e_X9_leastWorth_86 rfl ?_
  refine g_iconst e_X9_leastWorth_88 ?_
  refine g_isub e_X9_leastWorth_89 ?_
  obtain ⟨hc8, hs⟩ := chk_elim hs
  obtain ⟨y9, hy9, hs⟩ := bind_elim hs
  refine g_callVv [vI v5, vI (v6 - 1)] cv_X9_126 ⟨rfl, rfl, Nat.le_of_ble_eq_true rfl, Nat.le_of_ble_eq_true rfl⟩ (Ct_heap (ct_X9_nameGroups (AO_call [0, 9, 16] ao (by decide) rfl) (FA_call [0, 9, 16] ao.1 rfl rfl) ok_t_groupMany ok_t_groups ok_t_firsts ok_v5 hc8 hy9) (ov_call (esn := [.inr (9, fsX9 a_t t_knotMany t_thereMany y9.1), IA E 120 t_froms, IA E 120 t_tos, .inr (8, fsX8 (a_t + 4) t_steps_many), IA E 120 t_steps_xs, IA E 120 t_steps_ys, IA E 120 t_steps_zs, ZA E 120 t_there, IA E 8 t_chosen, IA E 8 y9.2, .inr (8, fsX8 (a_t + 11) t_sums_many), IA E 256 t_sums_xs, IA E 256 t_sums_ys, IA E 256 t_sums_zs, IA E 256 t_worths, IA E 256 t_leasts, IA E 256 t_firsts, .inr (8, fsX8 a_p1 p1_many), IA E N_p1 p1_xs, IA E N_p1 p1_ys, IA E N_p1 p1_zs]) [0, 9, 16] ao.1 rfl rfl rfl rfl)) e_X9_leastWorth_90 (ao.2 0 _ rfl) (ov_get 0 ao.1 rfl rfl) rfl rfl rfl (Nat.le_of_ble_eq_true rfl) ⟨Nat.le_refl _, Nat.le_refl _⟩ (fun Py9 => ?_)
  refine g_aload_n e_X9_leastWorth_93 rfl ?_
  refine g_get 0 11 ao rfl rfl fsX9_g11 fl_X9_46 e_X9_leastWorth_94 ?_
  refine g_iload e_X9_leastWorth_97 rfl ?_
  refine g_iconst e_X9_leastWorth_99 ?_
  refine g_isub e_X9_leastWorth_100 ?_
  refine g_iald 15 ao rfl rfl (Nat.le_of_ble_eq_true rfl) e_X9_leastWorth_101 hs (fun hi10 hs => ?_)
  obtain rfl := Option.some.inj hs
  exact g_iret rfl ⟨(ok_t_leasts _), Py9.1, ok_t_chosen, Py9.2, ok_t_sums_many, ok_t_sums_xs, ok_t_sums_ys, ok_t_sums_zs, ok_t_worths, ok_t_leasts, ok_t_firsts⟩ e_X9_leastWorth_102

noncomputable def m_X9_leastWorth_61 (N_p1 : Nat) (t_groupMany : Int) (t_chosen : Nat → Int) (t_groups : Nat → Int) (t_sums_many : Int) (t_sums_xs : Nat → Int) (t_sums_ys : Nat → Int) (t_sums_zs : Nat → Int) (t_worths : Nat → Int) (t_leasts : Nat → Int) (t_firsts : Nat → Int) (v5 : Int) (v6 : Int) : Option (Int × Int × (Nat → Int) × (Nat → Int) × Int × (Nat → Int) × (Nat → Int) × (Nat → Int) × (Nat → Int) × (Nat → Int) × (Nat → Int)) :=
  m_X9_leastWorth_64 N_p1 t_worths v6 (fun t_leasts' t_firsts' v7' => m_X9_leastWorth_83 N_p1 t_groupMany t_chosen t_groups t_sums_many t_sums_xs t_sums_ys t_sums_zs t_worths t_leasts' t_firsts' v5 v6) FU t_leasts t_firsts 1

set_option maxRecDepth 10000 in
theorem g_X9_leastWorth_61 {l : Launch} {E : EE} {b0 n : Nat} {h : AH} {a_t a_p1 : Nat} {N_p1 : Nat} {t_knotMany t_thereMany t_groupMany t_steps_many t_sums_many p1_many v5 v6 : Int} {t_froms t_tos t_steps_xs t_steps_ys t_steps_zs t_there t_chosen t_groups t_sums_xs t_sums_ys t_sums_zs t_worths t_leasts t_firsts p1_xs p1_ys p1_zs : Nat → Int} {r : Int × Int × (Nat → Int) × (Nat → Int) × Int × (Nat → Int) × (Nat → Int) × (Nat → Int) × (Nat → Int) × (Nat → Int) × (Nat → Int)} (ao : AO b0 n [a_t, (a_t + 2), (a_t + 3), (a_t + 4), (a_t + 5), (a_t + 6), (a_t + 7), (a_t + 8), (a_t + 9), (a_t + 10), (a_t + 11), (a_t + 12), (a_t + 13), (a_t + 14), (a_t + 15), (a_t + 16), (a_t + 17), a_p1, (a_p1 + 1), (a_p1 + 2), (a_p1 + 3)]) (hN_p1 : N_p1 ≤ 100000) (ok_t_groupMany : inI t_groupMany) (ok_t_froms : okA t_froms) (ok_t_tos : okA t_tos) (ok_t_steps_many : inI t_steps_many) (ok_t_steps_xs : okA t_steps_xs) (ok_t_steps_ys : okA t_steps_ys) (ok_t_steps_zs : okA t_steps_zs) (ok_t_there : okZ t_there) (ok_t_chosen : okA t_chosen) (ok_t_groups : okA t_groups) (ok_t_sums_many : inI t_sums_many) (ok_t_sums_xs : okA t_sums_xs) (ok_t_sums_ys : okA t_sums_ys) (ok_t_sums_zs : okA t_sums_zs) (ok_t_worths : okA t_worths) (ok_t_leasts : okA t_leasts) (ok_t_firsts : okA t_firsts) (ok_p1_many : inI p1_many) (ok_p1_xs : okA p1_xs) (ok_p1_ys : okA p1_ys) (ok_p1_zs : okA p1_zs) (ok_v5 : inI v5) (ok_v6 : inI v6) (hs : m_X9_leastWorth_61 N_p1 t_groupMany t_chosen t_groups t_sums_many t_sums_xs t_sums_ys t_sums_zs t_worths t_leasts t_firsts v5 v6 = some r) : G l E b0 M_X9_leastWorth (fun _ => True) (ZM E b0 (some (vI r.1)) (ov [a_t, (a_t + 2), (a_t + 3), (a_t + 4), (a_t + 5), (a_t + 6), (a_t + 7), (a_t + 8), (a_t + 9), (a_t + 10), (a_t + 11), (a_t + 12), (a_t + 13), (a_t + 14), (a_t + 15), (a_t + 16), (a_t + 17), a_p1, (a_p1 + 1), (a_p1 + 2), (a_p1 + 3)] [.inr (9, fsX9 a_t t_knotMany t_thereMany r.2.1), IA E 120 t_froms, IA E 120 t_tos, .inr (8, fsX8 (a_t + 4) t_steps_many), IA E 120 t_steps_xs, IA E 120 t_steps_ys, IA E 120 t_steps_zs, ZA E 120 t_there, IA E 8 r.2.2.1, IA E 8 r.2.2.2.1, .inr (8, fsX8 (a_t + 11) r.2.2.2.2.1), IA E 256 r.2.2.2.2.2.1, IA E 256 r.2.2.2.2.2.2.1, IA E 256 r.2.2.2.2.2.2.2.1, IA E 256 r.2.2.2.2.2.2.2.2.1, IA E 256 r.2.2.2.2.2.2.2.2.2.1, IA E 256 r.2.2.2.2.2.2.2.2.2.2, .inr (8, fsX8 a_p1 p1_many), IA E N_p1 p1_xs, IA E N_p1 p1_ys, IA E N_p1 p1_zs] h) n (inI r.1 ∧ inI r.2.1 ∧ okA r.2.2.1 ∧ okA r.2.2.2.1 ∧ inI r.2.2.2.2.1 ∧ okA r.2.2.2.2.2.1 ∧ okA r.2.2.2.2.2.2.1 ∧ okA r.2.2.2.2.2.2.2.1 ∧ okA r.2.2.2.2.2.2.2.2.1 ∧ okA r.2.2.2.2.2.2.2.2.2.1 ∧ okA r.2.2.2.2.2.2.2.2.2.2) 0 0) 0 0 n (ov [a_t, (a_t + 2), (a_t + 3), (a_t + 4), (a_t + 5), (a_t + 6), (a_t + 7), (a_t + 8), (a_t + 9), (a_t + 10), (a_t + 11), (a_t + 12), (a_t + 13), (a_t + 14), (a_t + 15), (a_t + 16), (a_t + 17), a_p1, (a_p1 + 1), (a_p1 + 2), (a_p1 + 3)] [.inr (9, fsX9 a_t t_knotMany t_thereMany t_groupMany), IA E 120 t_froms, IA E 120 t_tos, .inr (8, fsX8 (a_t + 4) t_steps_many), IA E 120 t_steps_xs, IA E 120 t_steps_ys, IA E 120 t_steps_zs, ZA E 120 t_there, IA E 8 t_chosen, IA E 8 t_groups, .inr (8, fsX8 (a_t + 11) t_sums_many), IA E 256 t_sums_xs, IA E 256 t_sums_ys, IA E 256 t_sums_zs, IA E 256 t_worths, IA E 256 t_leasts, IA E 256 t_firsts, .inr (8, fsX8 a_p1 p1_many), IA E N_p1 p1_xs, IA E N_p1 p1_ys, IA E N_p1 p1_zs] h) 61 [some (.ref a_t), none, none, none, none, some (vI v5), some (vI v6), none] [] := by
  rw [m_X9_leastWorth_61] at hs
  refine g_iconst e_X9_leastWorth_61 ?_
  refine g_istore e_X9_leastWorth_62 st1_7 rfl ?_
  exact g_X9_leastWorth_64 ao hN_p1 ok_t_groupMany ok_t_froms ok_t_tos ok_t_steps_many ok_t_steps_xs ok_t_steps_ys ok_t_steps_zs ok_t_there ok_t_chosen ok_t_groups ok_t_sums_many ok_t_sums_xs ok_t_sums_ys ok_t_sums_zs ok_t_worths ok_p1_many ok_p1_xs ok_p1_ys ok_p1_zs ok_v5 ok_v6 (hk_83 := by
      intro t_leasts' t_firsts' v7' ok_t_leasts' ok_t_firsts' ok_v7' hs
      exact g_X9_leastWorth_83 ao hN_p1 ok_t_groupMany ok_t_froms ok_t_tos ok_t_steps_many ok_t_steps_xs ok_t_steps_ys ok_t_steps_zs ok_t_there ok_t_chosen ok_t_groups ok_t_sums_many ok_t_sums_xs ok_t_sums_ys ok_t_sums_zs ok_t_worths ok_t_leasts' ok_t_firsts' ok_p1_many ok_p1_xs ok_p1_ys ok_p1_zs ok_v5 ok_v6 hs) FU _ _ _ ok_t_leasts ok_t_firsts (by decide : inI 1) hs

noncomputable def m_X9_leastWorth_0 (N_p1 : Nat) (t_groupMany : Int) (t_froms : Nat → Int) (t_tos : Nat → Int) (t_steps_many : Int) (t_steps_xs : Nat → Int) (t_steps_ys : Nat → Int) (t_steps_zs : Nat → Int) (t_there : Nat → Int) (t_chosen : Nat → Int) (t_groups : Nat → Int) (t_sums_many : Int) (t_sums_xs : Nat → Int) (t_sums_ys : Nat → Int) (t_sums_zs : Nat → Int) (t_worths : Nat → Int) (t_leasts : Nat → Int) (t_firsts : Nat → Int) (p1_many : Int) (p1_xs : Nat → Int) (p1_ys : Nat → Int) (p1_zs : Nat → Int) (v2 : Int) (v3 : Int) : Option (Int × Int × (Nat → Int) × (Nat → Int) × Int × (Nat → Int) × (Nat → Int) × (Nat → Int) × (Nat → Int) × (Nat → Int) × (Nat → Int)) :=
  (m_X9_choose t_froms t_tos t_steps_many t_there t_chosen v2 v3).bind (fun y1 => if 2 ≤ y1.1 then ((m_X9_addUp t_froms t_steps_many t_steps_xs t_steps_ys t_steps_zs y1.2 t_sums_many t_sums_xs t_sums_ys t_sums_zs v2 y1.1 (bShl 1 y1.1)).bind (fun y2 => m_X9_leastWorth_34 N_p1 y2.1 y2.2.1 y2.2.2.1 y2.2.2.2 p1_many p1_xs p1_ys p1_zs (bShl 1 y1.1) (fun t_worths' v7' => m_X9_leastWorth_61 N_p1 t_groupMany y1.2 t_groups y2.1 y2.2.1 y2.2.2.1 y2.2.2.2 t_worths' t_leasts t_firsts y1.1 (bShl 1 y1.1)) FU t_worths 1)) else (some ((-1), t_groupMany, y1.2, t_groups, t_sums_many, t_sums_xs, t_sums_ys, t_sums_zs, t_worths, t_leasts, t_firsts)))

set_option maxRecDepth 10000 in
theorem g_X9_leastWorth_0 {l : Launch} {E : EE} {b0 n : Nat} {h : AH} {a_t a_p1 : Nat} {N_p1 : Nat} {t_knotMany t_thereMany t_groupMany t_steps_many t_sums_many p1_many v2 v3 : Int} {t_froms t_tos t_steps_xs t_steps_ys t_steps_zs t_there t_chosen t_groups t_sums_xs t_sums_ys t_sums_zs t_worths t_leasts t_firsts p1_xs p1_ys p1_zs : Nat → Int} {r : Int × Int × (Nat → Int) × (Nat → Int) × Int × (Nat → Int) × (Nat → Int) × (Nat → Int) × (Nat → Int) × (Nat → Int) × (Nat → Int)} (ao : AO b0 n [a_t, (a_t + 2), (a_t + 3), (a_t + 4), (a_t + 5), (a_t + 6), (a_t + 7), (a_t + 8), (a_t + 9), (a_t + 10), (a_t + 11), (a_t + 12), (a_t + 13), (a_t + 14), (a_t + 15), (a_t + 16), (a_t + 17), a_p1, (a_p1 + 1), (a_p1 + 2), (a_p1 + 3)]) (hN_p1 : N_p1 ≤ 100000) (ok_t_groupMany : inI t_groupMany) (ok_t_froms : okA t_froms) (ok_t_tos : okA t_tos) (ok_t_steps_many : inI t_steps_many) (ok_t_steps_xs : okA t_steps_xs) (ok_t_steps_ys : okA t_steps_ys) (ok_t_steps_zs : okA t_steps_zs) (ok_t_there : okZ t_there) (ok_t_chosen : okA t_chosen) (ok_t_groups : okA t_groups) (ok_t_sums_many : inI t_sums_many) (ok_t_sums_xs : okA t_sums_xs) (ok_t_sums_ys : okA t_sums_ys) (ok_t_sums_zs : okA t_sums_zs) (ok_t_worths : okA t_worths) (ok_t_leasts : okA t_leasts) (ok_t_firsts : okA t_firsts) (ok_p1_many : inI p1_many) (ok_p1_xs : okA p1_xs) (ok_p1_ys : okA p1_ys) (ok_p1_zs : okA p1_zs) (ok_v2 : inI v2) (ok_v3 : inJ v3) (hs : m_X9_leastWorth_0 N_p1 t_groupMany t_froms t_tos t_steps_many t_steps_xs t_steps_ys t_steps_zs t_there t_chosen t_groups t_sums_many t_sums_xs t_sums_ys t_sums_zs t_worths t_leasts t_firsts p1_many p1_xs p1_ys p1_zs v2 v3 = some r) : G l E b0 M_X9_leastWorth (fun _ => True) (ZM E b0 (some (vI r.1)) (ov [a_t, (a_t + 2), (a_t + 3), (a_t + 4), (a_t + 5), (a_t + 6), (a_t + 7), (a_t + 8), (a_t + 9), (a_t + 10), (a_t + 11), (a_t + 12), (a_t + 13), (a_t + 14), (a_t + 15), (a_t + 16), (a_t + 17), a_p1, (a_p1 + 1), (a_p1 + 2), (a_p1 + 3)] [.inr (9, fsX9 a_t t_knotMany t_thereMany r.2.1), IA E 120 t_froms, IA E 120 t_tos, .inr (8, fsX8 (a_t + 4) t_steps_many), IA E 120 t_steps_xs, IA E 120 t_steps_ys, IA E 120 t_steps_zs, ZA E 120 t_there, IA E 8 r.2.2.1, IA E 8 r.2.2.2.1, .inr (8, fsX8 (a_t + 11) r.2.2.2.2.1), IA E 256 r.2.2.2.2.2.1, IA E 256 r.2.2.2.2.2.2.1, IA E 256 r.2.2.2.2.2.2.2.1, IA E 256 r.2.2.2.2.2.2.2.2.1, IA E 256 r.2.2.2.2.2.2.2.2.2.1, IA E 256 r.2.2.2.2.2.2.2.2.2.2, .inr (8, fsX8 a_p1 p1_many), IA E N_p1 p1_xs, IA E N_p1 p1_ys, IA E N_p1 p1_zs] h) n (inI r.1 ∧ inI r.2.1 ∧ okA r.2.2.1 ∧ okA r.2.2.2.1 ∧ inI r.2.2.2.2.1 ∧ okA r.2.2.2.2.2.1 ∧ okA r.2.2.2.2.2.2.1 ∧ okA r.2.2.2.2.2.2.2.1 ∧ okA r.2.2.2.2.2.2.2.2.1 ∧ okA r.2.2.2.2.2.2.2.2.2.1 ∧ okA r.2.2.2.2.2.2.2.2.2.2) 0 0) 0 0 n (ov [a_t, (a_t + 2), (a_t + 3), (a_t + 4), (a_t + 5), (a_t + 6), (a_t + 7), (a_t + 8), (a_t + 9), (a_t + 10), (a_t + 11), (a_t + 12), (a_t + 13), (a_t + 14), (a_t + 15), (a_t + 16), (a_t + 17), a_p1, (a_p1 + 1), (a_p1 + 2), (a_p1 + 3)] [.inr (9, fsX9 a_t t_knotMany t_thereMany t_groupMany), IA E 120 t_froms, IA E 120 t_tos, .inr (8, fsX8 (a_t + 4) t_steps_many), IA E 120 t_steps_xs, IA E 120 t_steps_ys, IA E 120 t_steps_zs, ZA E 120 t_there, IA E 8 t_chosen, IA E 8 t_groups, .inr (8, fsX8 (a_t + 11) t_sums_many), IA E 256 t_sums_xs, IA E 256 t_sums_ys, IA E 256 t_sums_zs, IA E 256 t_worths, IA E 256 t_leasts, IA E 256 t_firsts, .inr (8, fsX8 a_p1 p1_many), IA E N_p1 p1_xs, IA E N_p1 p1_ys, IA E N_p1 p1_zs] h) 0 [some (.ref a_t), some (.ref a_p1), some (vI v2), some (vJ v3), none, none, none, none] [] := by
  rw [m_X9_leastWorth_0] at hs
  refine g_aload_n e_X9_leastWorth_0 rfl ?_
  refine g_iload_n e_X9_leastWorth_1 rfl ?_
  refine g_lload_n e_X9_leastWorth_2 rfl ?_
  obtain ⟨y1, hy1, hs⟩ := bind_elim hs
  refine g_callVr [vI v2, vJ v3] cv_X9_112 ⟨rfl, rfl, Nat.le_of_ble_eq_true rfl, Nat.le_of_ble_eq_true rfl⟩ (Ct_heap (ct_X9_choose (AO_call [0, 1, 2, 3, 7, 8] ao (by decide) rfl) (FA_call [0, 1, 2, 3, 7, 8] ao.1 rfl rfl) ok_t_froms ok_t_tos ok_t_steps_many ok_t_there ok_t_chosen ok_v2 ok_v3 hy1) (ov_call (esn := [.inr (9, fsX9 a_t t_knotMany t_thereMany t_groupMany), IA E 120 t_froms, IA E 120 t_tos, .inr (8, fsX8 (a_t + 4) t_steps_many), IA E 120 t_steps_xs, IA E 120 t_steps_ys, IA E 120 t_steps_zs, ZA E 120 t_there, IA E 8 y1.2, IA E 8 t_groups, .inr (8, fsX8 (a_t + 11) t_sums_many), IA E 256 t_sums_xs, IA E 256 t_sums_ys, IA E 256 t_sums_zs, IA E 256 t_worths, IA E 256 t_leasts, IA E 256 t_firsts, .inr (8, fsX8 a_p1 p1_many), IA E N_p1 p1_xs, IA E N_p1 p1_ys, IA E N_p1 p1_zs]) [0, 1, 2, 3, 7, 8] ao.1 rfl rfl rfl rfl)) e_X9_leastWorth_3 (ao.2 0 _ rfl) (ov_get 0 ao.1 rfl rfl) rfl rfl rfl (Nat.le_of_ble_eq_true rfl) ⟨Nat.le_refl _, Nat.le_refl _⟩ (fun Py1 => ?_)
  refine g_istore e_X9_leastWorth_6 st1_5 rfl ?_
  refine g_iload e_X9_leastWorth_8 rfl ?_
  refine g_iconst e_X9_leastWorth_10 ?_
  refine g_icmp_ge e_X9_leastWorth_11 Py1.1 (by decide : inI 2) hs (fun c11 hs => ?_) (fun c11 hs => ?_)
  · refine g_iconst e_X9_leastWorth_16 ?_
    refine g_iload e_X9_leastWorth_17 rfl ?_
    refine g_ishl e_X9_leastWorth_19 ?_
    refine g_istore e_X9_leastWorth_20 st1_6 rfl ?_
    refine g_aload_n e_X9_leastWorth_22 rfl ?_
    refine g_iload_n e_X9_leastWorth_23 rfl ?_
    refine g_iload e_X9_leastWorth_24 rfl ?_
    refine g_iload e_X9_leastWorth_26 rfl ?_
    obtain ⟨y2, hy2, hs⟩ := bind_elim hs
    refine g_callVv [vI v2, vI y1.1, vI (bShl 1 y1.1)] cv_X9_116 ⟨rfl, rfl, Nat.le_of_ble_eq_true rfl, Nat.le_of_ble_eq_true rfl⟩ (Ct_heap (ct_X9_addUp (AO_call [0, 1, 3, 4, 5, 6, 8, 10, 11, 12, 13] ao (by decide) rfl) (FA_call [0, 1, 3, 4, 5, 6, 8, 10, 11, 12, 13] ao.1 rfl rfl) ok_t_froms ok_t_steps_many ok_t_steps_xs ok_t_steps_ys ok_t_steps_zs Py1.2 ok_t_sums_many ok_t_sums_xs ok_t_sums_ys ok_t_sums_zs ok_v2 Py1.1 (bShl_I _ _) hy2) (ov_call (esn := [.inr (9, fsX9 a_t t_knotMany t_thereMany t_groupMany), IA E 120 t_froms, IA E 120 t_tos, .inr (8, fsX8 (a_t + 4) t_steps_many), IA E 120 t_steps_xs, IA E 120 t_steps_ys, IA E 120 t_steps_zs, ZA E 120 t_there, IA E 8 y1.2, IA E 8 t_groups, .inr (8, fsX8 (a_t + 11) y2.1), IA E 256 y2.2.1, IA E 256 y2.2.2.1, IA E 256 y2.2.2.2, IA E 256 t_worths, IA E 256 t_leasts, IA E 256 t_firsts, .inr (8, fsX8 a_p1 p1_many), IA E N_p1 p1_xs, IA E N_p1 p1_ys, IA E N_p1 p1_zs]) [0, 1, 3, 4, 5, 6, 8, 10, 11, 12, 13] ao.1 rfl rfl rfl rfl)) e_X9_leastWorth_28 (ao.2 0 _ rfl) (ov_get 0 ao.1 rfl rfl) rfl rfl rfl (Nat.le_of_ble_eq_true rfl) ⟨Nat.le_refl _, Nat.le_refl _⟩ (fun Py2 => ?_)
    refine g_iconst e_X9_leastWorth_31 ?_
    refine g_istore e_X9_leastWorth_32 st1_7 rfl ?_
    exact g_mask [true, true, false, false, true, true, true, true] (g_X9_leastWorth_34 ao hN_p1 ok_t_groupMany ok_t_froms ok_t_tos ok_t_steps_many ok_t_steps_xs ok_t_steps_ys ok_t_steps_zs ok_t_there Py1.2 ok_t_groups Py2.1 Py2.2.1 Py2.2.2.1 Py2.2.2.2 ok_t_leasts ok_t_firsts ok_p1_many ok_p1_xs ok_p1_ys ok_p1_zs Py1.1 (bShl_I _ _) (hk_61 := by
      intro t_worths' v7' ok_t_worths' ok_v7' hs
      exact g_X9_leastWorth_61 ao hN_p1 ok_t_groupMany ok_t_froms ok_t_tos ok_t_steps_many ok_t_steps_xs ok_t_steps_ys ok_t_steps_zs ok_t_there Py1.2 ok_t_groups Py2.1 Py2.2.1 Py2.2.2.1 Py2.2.2.2 ok_t_worths' ok_t_leasts ok_t_firsts ok_p1_many ok_p1_xs ok_p1_ys ok_p1_zs Py1.1 (bShl_I _ _) hs) FU _ _ ok_t_worths (by decide : inI 1) hs)
  · refine g_iconst e_X9_leastWorth_14 ?_
    obtain rfl := Option.some.inj hs
    exact g_iret rfl ⟨(by decide : inI (-1)), ok_t_groupMany, Py1.2, ok_t_groups, ok_t_sums_many, ok_t_sums_xs, ok_t_sums_ys, ok_t_sums_zs, ok_t_worths, ok_t_leasts, ok_t_firsts⟩ e_X9_leastWorth_15

noncomputable def m_X9_leastWorth (N_p1 : Nat) (t_groupMany : Int) (t_froms : Nat → Int) (t_tos : Nat → Int) (t_steps_many : Int) (t_steps_xs : Nat → Int) (t_steps_ys : Nat → Int) (t_steps_zs : Nat → Int) (t_there : Nat → Int) (t_chosen : Nat → Int) (t_groups : Nat → Int) (t_sums_many : Int) (t_sums_xs : Nat → Int) (t_sums_ys : Nat → Int) (t_sums_zs : Nat → Int) (t_worths : Nat → Int) (t_leasts : Nat → Int) (t_firsts : Nat → Int) (p1_many : Int) (p1_xs : Nat → Int) (p1_ys : Nat → Int) (p1_zs : Nat → Int) (v2 : Int) (v3 : Int) : Option (Int × Int × (Nat → Int) × (Nat → Int) × Int × (Nat → Int) × (Nat → Int) × (Nat → Int) × (Nat → Int) × (Nat → Int) × (Nat → Int)) := m_X9_leastWorth_0 N_p1 t_groupMany t_froms t_tos t_steps_many t_steps_xs t_steps_ys t_steps_zs t_there t_chosen t_groups t_sums_many t_sums_xs t_sums_ys t_sums_zs t_worths t_leasts t_firsts p1_many p1_xs p1_ys p1_zs v2 v3

set_option maxRecDepth 10000 in
theorem ct_X9_leastWorth {l : Launch} {E : EE} {b0 n : Nat} {h : AH} {a_t a_p1 : Nat} {N_p1 : Nat} {t_knotMany t_thereMany t_groupMany t_steps_many t_sums_many p1_many : Int} {t_froms t_tos t_steps_xs t_steps_ys t_steps_zs t_there t_chosen t_groups t_sums_xs t_sums_ys t_sums_zs t_worths t_leasts t_firsts p1_xs p1_ys p1_zs : Nat → Int} {v2 v3 : Int} (ao : AO b0 n [a_t, (a_t + 2), (a_t + 3), (a_t + 4), (a_t + 5), (a_t + 6), (a_t + 7), (a_t + 8), (a_t + 9), (a_t + 10), (a_t + 11), (a_t + 12), (a_t + 13), (a_t + 14), (a_t + 15), (a_t + 16), (a_t + 17), a_p1, (a_p1 + 1), (a_p1 + 2), (a_p1 + 3)]) (hN_p1 : N_p1 ≤ 100000) (hf : FA h [a_t, (a_t + 2), (a_t + 3), (a_t + 4), (a_t + 5), (a_t + 6), (a_t + 7), (a_t + 8), (a_t + 9), (a_t + 10), (a_t + 11), (a_t + 12), (a_t + 13), (a_t + 14), (a_t + 15), (a_t + 16), (a_t + 17), a_p1, (a_p1 + 1), (a_p1 + 2), (a_p1 + 3)] [.inr (9, fsX9 a_t t_knotMany t_thereMany t_groupMany), IA E 120 t_froms, IA E 120 t_tos, .inr (8, fsX8 (a_t + 4) t_steps_many), IA E 120 t_steps_xs, IA E 120 t_steps_ys, IA E 120 t_steps_zs, ZA E 120 t_there, IA E 8 t_chosen, IA E 8 t_groups, .inr (8, fsX8 (a_t + 11) t_sums_many), IA E 256 t_sums_xs, IA E 256 t_sums_ys, IA E 256 t_sums_zs, IA E 256 t_worths, IA E 256 t_leasts, IA E 256 t_firsts, .inr (8, fsX8 a_p1 p1_many), IA E N_p1 p1_xs, IA E N_p1 p1_ys, IA E N_p1 p1_zs]) (ok_t_groupMany : inI t_groupMany) (ok_t_froms : okA t_froms) (ok_t_tos : okA t_tos) (ok_t_steps_many : inI t_steps_many) (ok_t_steps_xs : okA t_steps_xs) (ok_t_steps_ys : okA t_steps_ys) (ok_t_steps_zs : okA t_steps_zs) (ok_t_there : okZ t_there) (ok_t_chosen : okA t_chosen) (ok_t_groups : okA t_groups) (ok_t_sums_many : inI t_sums_many) (ok_t_sums_xs : okA t_sums_xs) (ok_t_sums_ys : okA t_sums_ys) (ok_t_sums_zs : okA t_sums_zs) (ok_t_worths : okA t_worths) (ok_t_leasts : okA t_leasts) (ok_t_firsts : okA t_firsts) (ok_p1_many : inI p1_many) (ok_p1_xs : okA p1_xs) (ok_p1_ys : okA p1_ys) (ok_p1_zs : okA p1_zs) (ok_v2 : inI v2) (ok_v3 : inJ v3) {r : Int × Int × (Nat → Int) × (Nat → Int) × Int × (Nat → Int) × (Nat → Int) × (Nat → Int) × (Nat → Int) × (Nat → Int) × (Nat → Int)} (hm : m_X9_leastWorth N_p1 t_groupMany t_froms t_tos t_steps_many t_steps_xs t_steps_ys t_steps_zs t_there t_chosen t_groups t_sums_many t_sums_xs t_sums_ys t_sums_zs t_worths t_leasts t_firsts p1_many p1_xs p1_ys p1_zs v2 v3 = some r) : Ct l E b0 M_X9_leastWorth 0 0 [.ref a_t, .ref a_p1, vI v2, vJ v3] h n (some (vI r.1)) (ov [a_t, (a_t + 2), (a_t + 3), (a_t + 4), (a_t + 5), (a_t + 6), (a_t + 7), (a_t + 8), (a_t + 9), (a_t + 10), (a_t + 11), (a_t + 12), (a_t + 13), (a_t + 14), (a_t + 15), (a_t + 16), (a_t + 17), a_p1, (a_p1 + 1), (a_p1 + 2), (a_p1 + 3)] [.inr (9, fsX9 a_t t_knotMany t_thereMany r.2.1), IA E 120 t_froms, IA E 120 t_tos, .inr (8, fsX8 (a_t + 4) t_steps_many), IA E 120 t_steps_xs, IA E 120 t_steps_ys, IA E 120 t_steps_zs, ZA E 120 t_there, IA E 8 r.2.2.1, IA E 8 r.2.2.2.1, .inr (8, fsX8 (a_t + 11) r.2.2.2.2.1), IA E 256 r.2.2.2.2.2.1, IA E 256 r.2.2.2.2.2.2.1, IA E 256 r.2.2.2.2.2.2.2.1, IA E 256 r.2.2.2.2.2.2.2.2.1, IA E 256 r.2.2.2.2.2.2.2.2.2.1, IA E 256 r.2.2.2.2.2.2.2.2.2.2, .inr (8, fsX8 a_p1 p1_many), IA E N_p1 p1_xs, IA E N_p1 p1_ys, IA E N_p1 p1_zs] h) n (inI r.1 ∧ inI r.2.1 ∧ okA r.2.2.1 ∧ okA r.2.2.2.1 ∧ inI r.2.2.2.2.1 ∧ okA r.2.2.2.2.2.1 ∧ okA r.2.2.2.2.2.2.1 ∧ okA r.2.2.2.2.2.2.2.1 ∧ okA r.2.2.2.2.2.2.2.2.1 ∧ okA r.2.2.2.2.2.2.2.2.2.1 ∧ okA r.2.2.2.2.2.2.2.2.2.2) := by
  rw [m_X9_leastWorth] at hm
  have hg : G l E b0 M_X9_leastWorth (fun _ => True) (ZM E b0 (some (vI r.1)) (ov [a_t, (a_t + 2), (a_t + 3), (a_t + 4), (a_t + 5), (a_t + 6), (a_t + 7), (a_t + 8), (a_t + 9), (a_t + 10), (a_t + 11), (a_t + 12), (a_t + 13), (a_t + 14), (a_t + 15), (a_t + 16), (a_t + 17), a_p1, (a_p1 + 1), (a_p1 + 2), (a_p1 + 3)] [.inr (9, fsX9 a_t t_knotMany t_thereMany r.2.1), IA E 120 t_froms, IA E 120 t_tos, .inr (8, fsX8 (a_t + 4) t_steps_many), IA E 120 t_steps_xs, IA E 120 t_steps_ys, IA E 120 t_steps_zs, ZA E 120 t_there, IA E 8 r.2.2.1, IA E 8 r.2.2.2.1, .inr (8, fsX8 (a_t + 11) r.2.2.2.2.1), IA E 256 r.2.2.2.2.2.1, IA E 256 r.2.2.2.2.2.2.1, IA E 256 r.2.2.2.2.2.2.2.1, IA E 256 r.2.2.2.2.2.2.2.2.1, IA E 256 r.2.2.2.2.2.2.2.2.2.1, IA E 256 r.2.2.2.2.2.2.2.2.2.2, .inr (8, fsX8 a_p1 p1_many), IA E N_p1 p1_xs, IA E N_p1 p1_ys, IA E N_p1 p1_zs] h) n (inI r.1 ∧ inI r.2.1 ∧ okA r.2.2.1 ∧ okA r.2.2.2.1 ∧ inI r.2.2.2.2.1 ∧ okA r.2.2.2.2.2.1 ∧ okA r.2.2.2.2.2.2.1 ∧ okA r.2.2.2.2.2.2.2.1 ∧ okA r.2.2.2.2.2.2.2.2.1 ∧ okA r.2.2.2.2.2.2.2.2.2.1 ∧ okA r.2.2.2.2.2.2.2.2.2.2) 0 0) 0 0 n (ov [a_t, (a_t + 2), (a_t + 3), (a_t + 4), (a_t + 5), (a_t + 6), (a_t + 7), (a_t + 8), (a_t + 9), (a_t + 10), (a_t + 11), (a_t + 12), (a_t + 13), (a_t + 14), (a_t + 15), (a_t + 16), (a_t + 17), a_p1, (a_p1 + 1), (a_p1 + 2), (a_p1 + 3)] [.inr (9, fsX9 a_t t_knotMany t_thereMany t_groupMany), IA E 120 t_froms, IA E 120 t_tos, .inr (8, fsX8 (a_t + 4) t_steps_many), IA E 120 t_steps_xs, IA E 120 t_steps_ys, IA E 120 t_steps_zs, ZA E 120 t_there, IA E 8 t_chosen, IA E 8 t_groups, .inr (8, fsX8 (a_t + 11) t_sums_many), IA E 256 t_sums_xs, IA E 256 t_sums_ys, IA E 256 t_sums_zs, IA E 256 t_worths, IA E 256 t_leasts, IA E 256 t_firsts, .inr (8, fsX8 a_p1 p1_many), IA E N_p1 p1_xs, IA E N_p1 p1_ys, IA E N_p1 p1_zs] h) 0 [some (.ref a_t), some (.ref a_p1), some (vI v2), some (vJ v3), none, none, none, none] [] := by
    have hs := hm
    exact g_X9_leastWorth_0 ao hN_p1 ok_t_groupMany ok_t_froms ok_t_tos ok_t_steps_many ok_t_steps_xs ok_t_steps_ys ok_t_steps_zs ok_t_there ok_t_chosen ok_t_groups ok_t_sums_many ok_t_sums_xs ok_t_sums_ys ok_t_sums_zs ok_t_worths ok_t_leasts ok_t_firsts ok_p1_many ok_p1_xs ok_p1_ys ok_p1_zs ok_v2 ok_v3 hs
  rw [FA_id hf] at hg
  exact Ct_of [some (.ref a_t), some (.ref a_p1), some (vI v2), some (vJ v3), none, none, none, none] ⟨by decide +kernel, rfl⟩ rfl (Nat.le_of_ble_eq_true rfl) hg


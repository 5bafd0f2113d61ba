def M_X5_size : MB := (yX5_size, cX5_size, 1, (some .int), ({ frames := 1, cells := 0, slots := 0, locals := 40 } : Room), RX5)
def M_X5_hasRoom : MB := (yX5_hasRoom, cX5_hasRoom, 2, (some .boolean), ({ frames := 1, cells := 0, slots := 0, locals := 40 } : Room), RX5)
def M_X5_take : MB := (yX5_take, cX5_take, 3, none, ({ frames := 1, cells := 0, slots := 0, locals := 40 } : Room), RX5)
def M_X5_refuse : MB := (yX5_refuse, cX5_refuse, 3, none, ({ frames := 1, cells := 0, slots := 0, locals := 40 } : Room), RX5)
def M_X5_byteAt : MB := (yX5_byteAt, cX5_byteAt, 2, (some .int), ({ frames := 1, cells := 0, slots := 0, locals := 40 } : Room), RX5)
def M_X5_isLetter : MB := (yX5_isLetter, cX5_isLetter, 1, (some .boolean), ({ frames := 1, cells := 0, slots := 0, locals := 40 } : Room), RX5)
def M_X5_isDigit : MB := (yX5_isDigit, cX5_isDigit, 1, (some .boolean), ({ frames := 1, cells := 0, slots := 0, locals := 40 } : Room), RX5)
def M_X5_cut : MB := (yX5_cut, cX5_cut, 2, (some .boolean), ({ frames := 2, cells := 0, slots := 0, locals := 62 } : Room), RX5)
def M_X5_lettersAhead : MB := (yX5_lettersAhead, cX5_lettersAhead, 2, (some .int), ({ frames := 2, cells := 0, slots := 0, locals := 61 } : Room), RX5)
def M_X5_isFull : MB := (yX5_isFull, cX5_isFull, 2, (some .boolean), ({ frames := 2, cells := 0, slots := 0, locals := 60 } : Room), RX5)
def M_X5_skipBlanks : MB := (yX5_skipBlanks, cX5_skipBlanks, 1, none, ({ frames := 2, cells := 0, slots := 0, locals := 61 } : Room), RX5)
def M_X5_number : MB := (yX5_number, cX5_number, 6, (some .int), ({ frames := 3, cells := 0, slots := 0, locals := 81 } : Room), RX5)
def M_X5_readWay : MB := (yX5_readWay, cX5_readWay, 6, none, ({ frames := 4, cells := 0, slots := 0, locals := 106 } : Room), RX5)
def M_X5_readPush : MB := (yX5_readPush, cX5_readPush, 4, none, ({ frames := 4, cells := 0, slots := 0, locals := 106 } : Room), RX5)
def M_X5_readSpeck : MB := (yX5_readSpeck, cX5_readSpeck, 5, none, ({ frames := 4, cells := 0, slots := 0, locals := 106 } : Room), RX5)
def M_X5_readSource : MB := (yX5_readSource, cX5_readSource, 4, none, ({ frames := 4, cells := 0, slots := 0, locals := 106 } : Room), RX5)
def M_X5_readBase : MB := (yX5_readBase, cX5_readBase, 4, none, ({ frames := 4, cells := 0, slots := 0, locals := 106 } : Room), RX5)
def M_X5_readNumbers : MB := (yX5_readNumbers, cX5_readNumbers, 3, none, ({ frames := 5, cells := 0, slots := 0, locals := 131 } : Room), RX5)
theorem cb_X3_isPushTold : CB M_X3_isPushTold 1 := ⟨GW_of 708 (by decide +kernel) (by decide +kernel), GW_of 93 (by decide +kernel) (by decide +kernel), by decide +kernel, by decide +kernel, by decide +kernel⟩
theorem cb_X3_isSourceTold : CB M_X3_isSourceTold 1 := ⟨GW_of 738 (by decide +kernel) (by decide +kernel), GW_of 93 (by decide +kernel) (by decide +kernel), by decide +kernel, by decide +kernel, by decide +kernel⟩
theorem cb_X3_isSpeckTold : CB M_X3_isSpeckTold 1 := ⟨GW_of 723 (by decide +kernel) (by decide +kernel), GW_of 93 (by decide +kernel) (by decide +kernel), by decide +kernel, by decide +kernel, by decide +kernel⟩
theorem cb_X3_tellBase : CB M_X3_tellBase 2 := ⟨GW_of 750 (by decide +kernel) (by decide +kernel), GW_of 93 (by decide +kernel) (by decide +kernel), by decide +kernel, by decide +kernel, by decide +kernel⟩
theorem cb_X3_tellPush : CB M_X3_tellPush 2 := ⟨GW_of 715 (by decide +kernel) (by decide +kernel), GW_of 93 (by decide +kernel) (by decide +kernel), by decide +kernel, by decide +kernel, by decide +kernel⟩
theorem cb_X3_tellSource : CB M_X3_tellSource 2 := ⟨GW_of 742 (by decide +kernel) (by decide +kernel), GW_of 93 (by decide +kernel) (by decide +kernel), by decide +kernel, by decide +kernel, by decide +kernel⟩
theorem cb_X3_tellSpeck : CB M_X3_tellSpeck 3 := ⟨GW_of 730 (by decide +kernel) (by decide +kernel), GW_of 93 (by decide +kernel) (by decide +kernel), by decide +kernel, by decide +kernel, by decide +kernel⟩
theorem cb_X5_byteAt : CB M_X5_byteAt 1 := ⟨GW_of 595 (by decide +kernel) (by decide +kernel), GW_of 85 (by decide +kernel) (by decide +kernel), by decide +kernel, by decide +kernel, by decide +kernel⟩
theorem cb_X5_isDigit : CB M_X5_isDigit 1 := ⟨GW_of 695 (by decide +kernel) (by decide +kernel), GW_of 85 (by decide +kernel) (by decide +kernel), by decide +kernel, by decide +kernel, by decide +kernel⟩
theorem cb_X5_isLetter : CB M_X5_isLetter 1 := ⟨GW_of 606 (by decide +kernel) (by decide +kernel), GW_of 85 (by decide +kernel) (by decide +kernel), by decide +kernel, by decide +kernel, by decide +kernel⟩
theorem cb_X5_number : CB M_X5_number 2 := ⟨GW_of 692 (by decide +kernel) (by decide +kernel), GW_of 85 (by decide +kernel) (by decide +kernel), by decide +kernel, by decide +kernel, by decide +kernel⟩
theorem cb_X5_readBase : CB M_X5_readBase 1 := ⟨GW_of 746 (by decide +kernel) (by decide +kernel), GW_of 85 (by decide +kernel) (by decide +kernel), by decide +kernel, by decide +kernel, by decide +kernel⟩
theorem cb_X5_readPush : CB M_X5_readPush 1 := ⟨GW_of 704 (by decide +kernel) (by decide +kernel), GW_of 85 (by decide +kernel) (by decide +kernel), by decide +kernel, by decide +kernel, by decide +kernel⟩
theorem cb_X5_readSource : CB M_X5_readSource 1 := ⟨GW_of 734 (by decide +kernel) (by decide +kernel), GW_of 85 (by decide +kernel) (by decide +kernel), by decide +kernel, by decide +kernel, by decide +kernel⟩
theorem cb_X5_readSpeck : CB M_X5_readSpeck 1 := ⟨GW_of 719 (by decide +kernel) (by decide +kernel), GW_of 85 (by decide +kernel) (by decide +kernel), by decide +kernel, by decide +kernel, by decide +kernel⟩
theorem cb_X5_readWay : CB M_X5_readWay 1 := ⟨GW_of 688 (by decide +kernel) (by decide +kernel), GW_of 85 (by decide +kernel) (by decide +kernel), by decide +kernel, by decide +kernel, by decide +kernel⟩
theorem cb_X5_refuse : CB M_X5_refuse 2 := ⟨GW_of 673 (by decide +kernel) (by decide +kernel), GW_of 85 (by decide +kernel) (by decide +kernel), by decide +kernel, by decide +kernel, by decide +kernel⟩
theorem cb_X5_skipBlanks : CB M_X5_skipBlanks 0 := ⟨GW_of 591 (by decide +kernel) (by decide +kernel), GW_of 85 (by decide +kernel) (by decide +kernel), by decide +kernel, by decide +kernel, by decide +kernel⟩
theorem cb_X8_append : CB M_X8_append 3 := ⟨GW_of 699 (by decide +kernel) (by decide +kernel), GW_of 87 (by decide +kernel) (by decide +kernel), by decide +kernel, by decide +kernel, by decide +kernel⟩
theorem fl_X5_15 : FL RX5 15 5 1 := ⟨RX5, TX5, 5, rfl, by decide, rfl, Or.inl (GW_of 118 (by decide +kernel) (by decide +kernel))⟩
theorem fl_X5_9 : FL RX5 9 5 0 := ⟨RX5, TX5, 5, rfl, by decide, rfl, Or.inl (GW_of 117 (by decide +kernel) (by decide +kernel))⟩
theorem fw_X5_15 : FW RX5 15 5 1 false .int := ⟨RX5, TX5, 5, rfl, by decide, rfl, rfl, by decide +kernel, Or.inl (GW_of 118 (by decide +kernel) (by decide +kernel)), fun h => by cases h⟩
theorem fl_X5_31 : FL RX5 31 5 3 := ⟨RX5, TX5, 5, rfl, by decide, rfl, Or.inl (GW_of 120 (by decide +kernel) (by decide +kernel))⟩
theorem fw_X5_31 : FW RX5 31 5 3 false .int := ⟨RX5, TX5, 5, rfl, by decide, rfl, rfl, by decide +kernel, Or.inl (GW_of 120 (by decide +kernel) (by decide +kernel)), fun h => by cases h⟩
theorem fl_X5_28 : FL RX5 28 5 2 := ⟨RX5, TX5, 5, rfl, by decide, rfl, Or.inl (GW_of 119 (by decide +kernel) (by decide +kernel))⟩
theorem fl_X5_107 : FL RX5 107 1 0 := ⟨RX1, TX1, 7, rfl, by decide, rfl, Or.inr (List.mem_of_getElem? (i := 35) (by decide +kernel))⟩
theorem fl_X5_116 : FL RX5 116 1 1 := ⟨RX1, TX1, 7, rfl, by decide, rfl, Or.inr (List.mem_of_getElem? (i := 39) (by decide +kernel))⟩
theorem fl_X5_119 : FL RX5 119 1 2 := ⟨RX1, TX1, 7, rfl, by decide, rfl, Or.inr (List.mem_of_getElem? (i := 41) (by decide +kernel))⟩
theorem fl_X5_49 : FL RX5 49 1 3 := ⟨RX1, TX1, 7, rfl, by decide, rfl, Or.inr (List.mem_of_getElem? (i := 44) (by decide +kernel))⟩
theorem fl_X5_122 : FL RX5 122 3 8 := ⟨RX3, TX3, 14, rfl, by decide, rfl, Or.inr (List.mem_of_getElem? (i := 26) (by decide +kernel))⟩
theorem fl_X5_125 : FL RX5 125 3 9 := ⟨RX3, TX3, 14, rfl, by decide, rfl, Or.inr (List.mem_of_getElem? (i := 28) (by decide +kernel))⟩
theorem fw_X5_28 : FW RX5 28 5 2 false .int := ⟨RX5, TX5, 5, rfl, by decide, rfl, rfl, by decide +kernel, Or.inl (GW_of 119 (by decide +kernel) (by decide +kernel)), fun h => by cases h⟩
theorem fw_X5_149 : FW RX5 149 5 4 false .int := ⟨RX5, TX5, 5, rfl, by decide, rfl, rfl, by decide +kernel, Or.inl (GW_of 121 (by decide +kernel) (by decide +kernel)), fun h => by cases h⟩
theorem fl_X5_149 : FL RX5 149 5 4 := ⟨RX5, TX5, 5, rfl, by decide, rfl, Or.inl (GW_of 121 (by decide +kernel) (by decide +kernel))⟩
theorem cs_X5_19 : CS RX5 19 M_X10_within 3 := ⟨cb_X10_within, Or.inr (List.mem_of_getElem? (i := 10) (by decide +kernel)), GW_of 563 (by decide +kernel) (by decide +kernel)⟩
theorem cv_X5_41 : CV RX5 41 M_X5_byteAt 1 := ⟨cb_X5_byteAt, Or.inl (GW_of 592 (by decide +kernel) (by decide +kernel)), GW_of 594 (by decide +kernel) (by decide +kernel), GW_of 1 (by decide +kernel) (by decide +kernel)⟩
theorem cs_X5_76 : CS RX5 76 M_X5_isLetter 1 := ⟨cb_X5_isLetter, Or.inl (GW_of 604 (by decide +kernel) (by decide +kernel)), GW_of 605 (by decide +kernel) (by decide +kernel)⟩
theorem cv_X5_111 : CV RX5 111 M_X8_isFull 0 := ⟨cb_X8_isFull, Or.inl (GW_of 677 (by decide +kernel) (by decide +kernel)), GW_of 678 (by decide +kernel) (by decide +kernel), GW_of 679 (by decide +kernel) (by decide +kernel)⟩
theorem cv_X5_34 : CV RX5 34 M_X5_skipBlanks 0 := ⟨cb_X5_skipBlanks, Or.inl (GW_of 588 (by decide +kernel) (by decide +kernel)), GW_of 590 (by decide +kernel) (by decide +kernel), GW_of 0 (by decide +kernel) (by decide +kernel)⟩
theorem cs_X5_177 : CS RX5 177 M_X5_isDigit 1 := ⟨cb_X5_isDigit, Or.inl (GW_of 693 (by decide +kernel) (by decide +kernel)), GW_of 694 (by decide +kernel) (by decide +kernel)⟩
theorem cv_X5_45 : CV RX5 45 M_X5_refuse 2 := ⟨cb_X5_refuse, Or.inl (GW_of 670 (by decide +kernel) (by decide +kernel)), GW_of 672 (by decide +kernel) (by decide +kernel), GW_of 6 (by decide +kernel) (by decide +kernel)⟩
theorem cv_X5_145 : CV RX5 145 M_X5_number 2 := ⟨cb_X5_number, Or.inl (GW_of 689 (by decide +kernel) (by decide +kernel)), GW_of 691 (by decide +kernel) (by decide +kernel), GW_of 9 (by decide +kernel) (by decide +kernel)⟩
theorem cv_X5_152 : CV RX5 152 M_X8_append 3 := ⟨cb_X8_append, Or.inl (GW_of 696 (by decide +kernel) (by decide +kernel)), GW_of 697 (by decide +kernel) (by decide +kernel), GW_of 698 (by decide +kernel) (by decide +kernel)⟩
theorem cv_X5_156 : CV RX5 156 M_X3_isPushTold 1 := ⟨cb_X3_isPushTold, Or.inl (GW_of 705 (by decide +kernel) (by decide +kernel)), GW_of 706 (by decide +kernel) (by decide +kernel), GW_of 707 (by decide +kernel) (by decide +kernel)⟩
theorem cv_X5_159 : CV RX5 159 M_X3_tellPush 2 := ⟨cb_X3_tellPush, Or.inl (GW_of 712 (by decide +kernel) (by decide +kernel)), GW_of 713 (by decide +kernel) (by decide +kernel), GW_of 714 (by decide +kernel) (by decide +kernel)⟩
theorem cv_X5_162 : CV RX5 162 M_X3_isSpeckTold 1 := ⟨cb_X3_isSpeckTold, Or.inl (GW_of 720 (by decide +kernel) (by decide +kernel)), GW_of 721 (by decide +kernel) (by decide +kernel), GW_of 722 (by decide +kernel) (by decide +kernel)⟩
theorem cv_X5_165 : CV RX5 165 M_X3_tellSpeck 3 := ⟨cb_X3_tellSpeck, Or.inl (GW_of 727 (by decide +kernel) (by decide +kernel)), GW_of 728 (by decide +kernel) (by decide +kernel), GW_of 729 (by decide +kernel) (by decide +kernel)⟩
theorem cv_X5_168 : CV RX5 168 M_X3_isSourceTold 1 := ⟨cb_X3_isSourceTold, Or.inl (GW_of 735 (by decide +kernel) (by decide +kernel)), GW_of 736 (by decide +kernel) (by decide +kernel), GW_of 737 (by decide +kernel) (by decide +kernel)⟩
theorem cv_X5_171 : CV RX5 171 M_X3_tellSource 2 := ⟨cb_X3_tellSource, Or.inl (GW_of 739 (by decide +kernel) (by decide +kernel)), GW_of 740 (by decide +kernel) (by decide +kernel), GW_of 741 (by decide +kernel) (by decide +kernel)⟩
theorem cv_X5_174 : CV RX5 174 M_X3_tellBase 2 := ⟨cb_X3_tellBase, Or.inl (GW_of 747 (by decide +kernel) (by decide +kernel)), GW_of 748 (by decide +kernel) (by decide +kernel), GW_of 749 (by decide +kernel) (by decide +kernel)⟩
theorem cv_X5_128 : CV RX5 128 M_X5_readWay 1 := ⟨cb_X5_readWay, Or.inl (GW_of 685 (by decide +kernel) (by decide +kernel)), GW_of 687 (by decide +kernel) (by decide +kernel), GW_of 8 (by decide +kernel) (by decide +kernel)⟩
theorem cv_X5_132 : CV RX5 132 M_X5_readPush 1 := ⟨cb_X5_readPush, Or.inl (GW_of 701 (by decide +kernel) (by decide +kernel)), GW_of 703 (by decide +kernel) (by decide +kernel), GW_of 10 (by decide +kernel) (by decide +kernel)⟩
theorem cv_X5_136 : CV RX5 136 M_X5_readSpeck 1 := ⟨cb_X5_readSpeck, Or.inl (GW_of 716 (by decide +kernel) (by decide +kernel)), GW_of 718 (by decide +kernel) (by decide +kernel), GW_of 11 (by decide +kernel) (by decide +kernel)⟩
theorem cv_X5_139 : CV RX5 139 M_X5_readSource 1 := ⟨cb_X5_readSource, Or.inl (GW_of 731 (by decide +kernel) (by decide +kernel)), GW_of 733 (by decide +kernel) (by decide +kernel), GW_of 12 (by decide +kernel) (by decide +kernel)⟩
theorem cv_X5_142 : CV RX5 142 M_X5_readBase 1 := ⟨cb_X5_readBase, Or.inl (GW_of 743 (by decide +kernel) (by decide +kernel)), GW_of 745 (by decide +kernel) (by decide +kernel), GW_of 13 (by decide +kernel) (by decide +kernel)⟩
/-! ===== X5_size ===== -/
theorem e_X5_size_0 : DC cX5_size 0 (.aload_n 0) 1 1 := ⟨by decide +kernel, rfl⟩
theorem e_X5_size_1 : DC cX5_size 1 (.getfield 15) 3 4 := ⟨by decide +kernel, rfl⟩
theorem e_X5_size_4 : DC cX5_size 4 (.ireturn) 1 5 := ⟨by decide +kernel, rfl⟩
noncomputable def m_X5_size_0 (t_many : Int) : Option (Int) :=
  some (t_many)

set_option maxRecDepth 10000 in
theorem g_X5_size_0 {l : Launch} {E : EE} {b0 n : Nat} {h : AH} {a_t : Nat} {t_many t_place t_fault t_numberPlace : Int} {r : Int} (ao : AO b0 n [a_t]) (ok_t_many : inI t_many) (hs : m_X5_size_0 t_many = some r) : G l E b0 M_X5_size (fun _ => True) (ZM E b0 (some (vI r)) (ov [a_t] [.inr (5, fsX5 a_t t_many t_place t_fault t_numberPlace)] h) n (inI r) 0 0) 0 0 n (ov [a_t] [.inr (5, fsX5 a_t t_many t_place t_fault t_numberPlace)] h) 0 [some (.ref a_t)] [] := by
  rw [m_X5_size_0] at hs
  refine g_aload_n e_X5_size_0 rfl ?_
  refine g_get 0 1 ao rfl rfl fsX5_g1 fl_X5_15 e_X5_size_1 ?_
  obtain rfl := Option.some.inj hs
  exact g_iret rfl ok_t_many e_X5_size_4

noncomputable def m_X5_size (t_many : Int) : Option (Int) := m_X5_size_0 t_many

set_option maxRecDepth 10000 in
theorem ct_X5_size {l : Launch} {E : EE} {b0 n : Nat} {h : AH} {a_t : Nat} {t_many t_place t_fault t_numberPlace : Int} (ao : AO b0 n [a_t]) (hf : FA h [a_t] [.inr (5, fsX5 a_t t_many t_place t_fault t_numberPlace)]) (ok_t_many : inI t_many) {r : Int} (hm : m_X5_size t_many = some r) : Ct l E b0 M_X5_size 0 0 [.ref a_t] h n (some (vI r)) h n (inI r) := by
  rw [m_X5_size] at hm
  have hg : G l E b0 M_X5_size (fun _ => True) (ZM E b0 (some (vI r)) (ov [a_t] [.inr (5, fsX5 a_t t_many t_place t_fault t_numberPlace)] h) n (inI r) 0 0) 0 0 n (ov [a_t] [.inr (5, fsX5 a_t t_many t_place t_fault t_numberPlace)] h) 0 [some (.ref a_t)] [] := by
    have hs := hm
    exact g_X5_size_0 ao ok_t_many hs
  rw [FA_id hf] at hg
  exact Ct_of [some (.ref a_t)] ⟨by decide +kernel, rfl⟩ rfl (Nat.le_of_ble_eq_true rfl) hg

/-! ===== X5_hasRoom ===== -/
theorem e_X5_hasRoom_0 : DC cX5_hasRoom 0 (.aload_n 0) 1 1 := ⟨by decide +kernel, rfl⟩
theorem e_X5_hasRoom_1 : DC cX5_hasRoom 1 (.getfield 15) 3 4 := ⟨by decide +kernel, rfl⟩
theorem e_X5_hasRoom_4 : DC cX5_hasRoom 4 (.iload_n 1) 1 5 := ⟨by decide +kernel, rfl⟩
theorem e_X5_hasRoom_5 : DC cX5_hasRoom 5 (.iadd) 1 6 := ⟨by decide +kernel, rfl⟩
theorem e_X5_hasRoom_6 : DC cX5_hasRoom 6 (.sipush 400) 3 9 := ⟨by decide +kernel, rfl⟩
theorem e_X5_hasRoom_9 : DB cX5_hasRoom 9 (.if_icmp .gt 7) (7) 3 12 16 := ⟨by decide +kernel, rfl, rfl⟩
theorem e_X5_hasRoom_12 : DC cX5_hasRoom 12 (.iconst 1) 1 13 := ⟨by decide +kernel, rfl⟩
theorem e_X5_hasRoom_13 : DB cX5_hasRoom 13 (.goto 4) (4) 3 16 17 := ⟨by decide +kernel, rfl, rfl⟩
theorem e_X5_hasRoom_16 : DC cX5_hasRoom 16 (.iconst 0) 1 17 := ⟨by decide +kernel, rfl⟩
theorem e_X5_hasRoom_17 : DC cX5_hasRoom 17 (.ireturn) 1 18 := ⟨by decide +kernel, rfl⟩
noncomputable def m_X5_hasRoom_0 (t_many : Int) (v1 : Int) : Option (Int) :=
  chk (inI (t_many + v1)) (if 400 < (t_many + v1) then (some (0)) else (some (1)))

set_option maxRecDepth 10000 in
theorem g_X5_hasRoom_0 {l : Launch} {E : EE} {b0 n : Nat} {h : AH} {a_t : Nat} {t_many t_place t_fault t_numberPlace v1 : Int} {r : Int} (ao : AO b0 n [a_t]) (ok_t_many : inI t_many) (ok_v1 : inI v1) (hs : m_X5_hasRoom_0 t_many v1 = some r) : G l E b0 M_X5_hasRoom (fun _ => True) (ZM E b0 (some (vI r)) (ov [a_t] [.inr (5, fsX5 a_t t_many t_place t_fault t_numberPlace)] h) n (inZ r) 0 0) 0 0 n (ov [a_t] [.inr (5, fsX5 a_t t_many t_place t_fault t_numberPlace)] h) 0 [some (.ref a_t), some (vI v1)] [] := by
  rw [m_X5_hasRoom_0] at hs
  refine g_aload_n e_X5_hasRoom_0 rfl ?_
  refine g_get 0 1 ao rfl rfl fsX5_g1 fl_X5_15 e_X5_hasRoom_1 ?_
  refine g_iload_n e_X5_hasRoom_4 rfl ?_
  refine g_iadd e_X5_hasRoom_5 ?_
  refine g_sipush e_X5_hasRoom_6 sp_400 ?_
  obtain ⟨hc1, hs⟩ := chk_elim hs
  refine g_icmp_gt e_X5_hasRoom_9 hc1 (by decide : inI 400) hs (fun c9 hs => ?_) (fun c9 hs => ?_)
  · refine g_iconst e_X5_hasRoom_16 ?_
    obtain rfl := Option.some.inj hs
    exact g_zret rfl (by decide : inZ 0) (by decide : inZ 0) e_X5_hasRoom_17
  · refine g_iconst e_X5_hasRoom_12 ?_
    refine g_goto e_X5_hasRoom_13 ?_
    obtain rfl := Option.some.inj hs
    exact g_zret rfl (by decide : inZ 1) (by decide : inZ 1) e_X5_hasRoom_17

noncomputable def m_X5_hasRoom (t_many : Int) (v1 : Int) : Option (Int) := m_X5_hasRoom_0 t_many v1

set_option maxRecDepth 10000 in
theorem ct_X5_hasRoom {l : Launch} {E : EE} {b0 n : Nat} {h : AH} {a_t : Nat} {t_many t_place t_fault t_numberPlace : Int} {v1 : Int} (ao : AO b0 n [a_t]) (hf : FA h [a_t] [.inr (5, fsX5 a_t t_many t_place t_fault t_numberPlace)]) (ok_t_many : inI t_many) (ok_v1 : inI v1) {r : Int} (hm : m_X5_hasRoom t_many v1 = some r) : Ct l E b0 M_X5_hasRoom 0 0 [.ref a_t, vI v1] h n (some (vI r)) h n (inZ r) := by
  rw [m_X5_hasRoom] at hm
  have hg : G l E b0 M_X5_hasRoom (fun _ => True) (ZM E b0 (some (vI r)) (ov [a_t] [.inr (5, fsX5 a_t t_many t_place t_fault t_numberPlace)] h) n (inZ r) 0 0) 0 0 n (ov [a_t] [.inr (5, fsX5 a_t t_many t_place t_fault t_numberPlace)] h) 0 [some (.ref a_t), some (vI v1)] [] := by
    have hs := hm
    exact g_X5_hasRoom_0 ao ok_t_many ok_v1 hs
  rw [FA_id hf] at hg
  exact Ct_of [some (.ref a_t), some (vI v1)] ⟨by decide +kernel, rfl⟩ rfl (Nat.le_of_ble_eq_true rfl) hg

/-! ===== X5_take ===== -/
theorem e_X5_take_0 : DC cX5_take 0 (.bipush 24) 2 2 := ⟨by decide +kernel, rfl⟩
theorem e_X5_take_2 : DC cX5_take 2 (.istore_n 2) 1 3 := ⟨by decide +kernel, rfl⟩
theorem e_X5_take_3 : DC cX5_take 3 (.iload_n 2) 1 4 := ⟨by decide +kernel, rfl⟩
theorem e_X5_take_4 : DB cX5_take 4 (.ifCond .lt 45) (45) 3 7 49 := ⟨by decide +kernel, rfl, rfl⟩
theorem e_X5_take_7 : DC cX5_take 7 (.aload_n 0) 1 8 := ⟨by decide +kernel, rfl⟩
theorem e_X5_take_8 : DC cX5_take 8 (.getfield 15) 3 11 := ⟨by decide +kernel, rfl⟩
theorem e_X5_take_11 : DC cX5_take 11 (.sipush 400) 3 14 := ⟨by decide +kernel, rfl⟩
theorem e_X5_take_14 : DB cX5_take 14 (.if_icmp .ge 29) (29) 3 17 43 := ⟨by decide +kernel, rfl, rfl⟩
theorem e_X5_take_17 : DC cX5_take 17 (.aload_n 0) 1 18 := ⟨by decide +kernel, rfl⟩
theorem e_X5_take_18 : DC cX5_take 18 (.getfield 9) 3 21 := ⟨by decide +kernel, rfl⟩
theorem e_X5_take_21 : DC cX5_take 21 (.aload_n 0) 1 22 := ⟨by decide +kernel, rfl⟩
theorem e_X5_take_22 : DC cX5_take 22 (.getfield 15) 3 25 := ⟨by decide +kernel, rfl⟩
theorem e_X5_take_25 : DC cX5_take 25 (.iload_n 1) 1 26 := ⟨by decide +kernel, rfl⟩
theorem e_X5_take_26 : DC cX5_take 26 (.iload_n 2) 1 27 := ⟨by decide +kernel, rfl⟩
theorem e_X5_take_27 : DC cX5_take 27 (.iushr) 1 28 := ⟨by decide +kernel, rfl⟩
theorem e_X5_take_28 : DC cX5_take 28 (.sipush 255) 3 31 := ⟨by decide +kernel, rfl⟩
theorem e_X5_take_31 : DC cX5_take 31 (.iand) 1 32 := ⟨by decide +kernel, rfl⟩
theorem e_X5_take_32 : DC cX5_take 32 (.iastore) 1 33 := ⟨by decide +kernel, rfl⟩
theorem e_X5_take_33 : DC cX5_take 33 (.aload_n 0) 1 34 := ⟨by decide +kernel, rfl⟩
theorem e_X5_take_34 : DC cX5_take 34 (.dup) 1 35 := ⟨by decide +kernel, rfl⟩
theorem e_X5_take_35 : DC cX5_take 35 (.getfield 15) 3 38 := ⟨by decide +kernel, rfl⟩
theorem e_X5_take_38 : DC cX5_take 38 (.iconst 1) 1 39 := ⟨by decide +kernel, rfl⟩
theorem e_X5_take_39 : DC cX5_take 39 (.iadd) 1 40 := ⟨by decide +kernel, rfl⟩
theorem e_X5_take_40 : DC cX5_take 40 (.putfield 15) 3 43 := ⟨by decide +kernel, rfl⟩
theorem e_X5_take_43 : DC cX5_take 43 (.iinc 2 (-8)) 3 46 := ⟨by decide +kernel, rfl⟩
theorem e_X5_take_46 : DB cX5_take 46 (.goto (-43)) (-43) 3 49 3 := ⟨by decide +kernel, rfl, rfl⟩
theorem e_X5_take_49 : DC cX5_take 49 (.return_) 1 50 := ⟨by decide +kernel, rfl⟩
noncomputable def m_X5_take_43 (t_many : Int) (t_bytes : Nat → Int) (v1 : Int) (v2 : Int) (ag : Int → (Nat → Int) → Int → Option (Int × (Nat → Int))) (k_49 : Int → (Nat → Int) → Int → Option (Int × (Nat → Int))) : Option (Int × (Nat → Int)) :=
  chk (inI (v2 + (-8))) (ag t_many t_bytes (v2 + (-8)))

set_option maxRecDepth 10000 in
theorem g_X5_take_43 {l : Launch} {E : EE} {b0 n : Nat} {h : AH} {a_t : Nat} {t_many t_place t_fault t_numberPlace v1 v2 : Int} {t_bytes : Nat → Int} {r : Int × (Nat → Int)} {ag : Int → (Nat → Int) → Int → Option (Int × (Nat → Int))} {k_49 : Int → (Nat → Int) → Int → Option (Int × (Nat → Int))} (ao : AO b0 n [a_t, (a_t + 1)]) (ok_t_many : inI t_many) (ok_t_bytes : okA t_bytes) (ok_v1 : inI v1) (ok_v2 : inI v2) (hag : ∀ (t_many_ : Int) (t_bytes_ : Nat → Int) (v2_ : Int), inI t_many_ → okA t_bytes_ → inI v2_ → ag t_many_ t_bytes_ v2_ = some r → G l E b0 M_X5_take (fun _ => True) (ZM E b0 (none) (ov [a_t, (a_t + 1)] [.inr (5, fsX5 a_t r.1 t_place t_fault t_numberPlace), IA E 400 r.2] h) n (inI r.1 ∧ okA r.2) 0 0) 0 0 n (ov [a_t, (a_t + 1)] [.inr (5, fsX5 a_t t_many_ t_place t_fault t_numberPlace), IA E 400 t_bytes_] h) 3 [some (.ref a_t), some (vI v1), some (vI v2_)] []) (hk_49 : ∀ (t_many_ : Int) (t_bytes_ : Nat → Int) (v2_ : Int), inI t_many_ → okA t_bytes_ → inI v2_ → k_49 t_many_ t_bytes_ v2_ = some r → G l E b0 M_X5_take (fun _ => True) (ZM E b0 (none) (ov [a_t, (a_t + 1)] [.inr (5, fsX5 a_t r.1 t_place t_fault t_numberPlace), IA E 400 r.2] h) n (inI r.1 ∧ okA r.2) 0 0) 0 0 n (ov [a_t, (a_t + 1)] [.inr (5, fsX5 a_t t_many_ t_place t_fault t_numberPlace), IA E 400 t_bytes_] h) 49 [none, none, none] []) (hs : m_X5_take_43 t_many t_bytes v1 v2 ag k_49 = some r) : G l E b0 M_X5_take (fun _ => True) (ZM E b0 (none) (ov [a_t, (a_t + 1)] [.inr (5, fsX5 a_t r.1 t_place t_fault t_numberPlace), IA E 400 r.2] h) n (inI r.1 ∧ okA r.2) 0 0) 0 0 n (ov [a_t, (a_t + 1)] [.inr (5, fsX5 a_t t_many t_place t_fault t_numberPlace), IA E 400 t_bytes] h) 43 [some (.ref a_t), some (vI v1), some (vI v2)] [] := by
  rw [m_X5_take_43] at hs
  refine g_iinc e_X5_take_43 rfl st1_2 rfl ?_
  refine g_goto e_X5_take_46 ?_
  obtain ⟨hc1, hs⟩ := chk_elim hs
  exact hag _ _ _ ok_t_many ok_t_bytes hc1 hs

noncomputable def m_X5_take_3 (v1 : Int) (k_49 : Int → (Nat → Int) → Int → Option (Int × (Nat → Int))) : Nat → Int → (Nat → Int) → Int → Option (Int × (Nat → Int))
  | 0, _, _, _ => none
  | F + 1, t_many, t_bytes, v2 => if v2 < 0 then (some (t_many, t_bytes)) else (if 400 ≤ t_many then (m_X5_take_43 t_many t_bytes v1 v2 (m_X5_take_3 v1 k_49 F) k_49) else (chk (inB t_many 400) (chk (inI (t_many + 1)) (m_X5_take_43 (t_many + 1) (up t_bytes (Int.toNat t_many) (bAnd (bUshr v1 v2) 255)) v1 v2 (m_X5_take_3 v1 k_49 F) k_49))))

set_option maxRecDepth 10000 in
theorem g_X5_take_3 {l : Launch} {E : EE} {b0 n : Nat} {h : AH} {a_t : Nat} {t_place t_fault t_numberPlace v1 : Int} {r : Int × (Nat → Int)} {k_49 : Int → (Nat → Int) → Int → Option (Int × (Nat → Int))} (ao : AO b0 n [a_t, (a_t + 1)]) (ok_v1 : inI v1) (hk_49 : ∀ (t_many_ : Int) (t_bytes_ : Nat → Int) (v2_ : Int), inI t_many_ → okA t_bytes_ → inI v2_ → k_49 t_many_ t_bytes_ v2_ = some r → G l E b0 M_X5_take (fun _ => True) (ZM E b0 (none) (ov [a_t, (a_t + 1)] [.inr (5, fsX5 a_t r.1 t_place t_fault t_numberPlace), IA E 400 r.2] h) n (inI r.1 ∧ okA r.2) 0 0) 0 0 n (ov [a_t, (a_t + 1)] [.inr (5, fsX5 a_t t_many_ t_place t_fault t_numberPlace), IA E 400 t_bytes_] h) 49 [none, none, none] []) :
    ∀ (F : Nat) (t_many : Int) (t_bytes : Nat → Int) (v2 : Int), inI t_many → okA t_bytes → inI v2 → m_X5_take_3 v1 k_49 F t_many t_bytes v2 = some r → G l E b0 M_X5_take (fun _ => True) (ZM E b0 (none) (ov [a_t, (a_t + 1)] [.inr (5, fsX5 a_t r.1 t_place t_fault t_numberPlace), IA E 400 r.2] h) n (inI r.1 ∧ okA r.2) 0 0) 0 0 n (ov [a_t, (a_t + 1)] [.inr (5, fsX5 a_t t_many t_place t_fault t_numberPlace), IA E 400 t_bytes] h) 3 [some (.ref a_t), some (vI v1), some (vI v2)] [] := by
  intro F
  induction F with
  | zero =>
    intro t_many t_bytes v2 ok_t_many ok_t_bytes ok_v2 hs
    rw [m_X5_take_3] at hs
    cases hs
  | succ F ih =>
    intro t_many t_bytes v2 ok_t_many ok_t_bytes ok_v2 hs
    rw [m_X5_take_3] at hs
    refine g_iload_n e_X5_take_3 rfl ?_
    refine g_if_lt e_X5_take_4 ok_v2 hs (fun c4 hs => ?_) (fun c4 hs => ?_)
    · obtain rfl := Option.some.inj hs
      exact g_vret rfl ⟨ok_t_many, ok_t_bytes⟩ e_X5_take_49
    · refine g_aload_n e_X5_take_7 rfl ?_
      refine g_get 0 1 ao rfl rfl fsX5_g1 fl_X5_15 e_X5_take_8 ?_
      refine g_sipush e_X5_take_11 sp_400 ?_
      refine g_icmp_ge e_X5_take_14 ok_t_many (by decide : inI 400) hs (fun c14 hs => ?_) (fun c14 hs => ?_)
      · exact g_X5_take_43 ao ok_t_many ok_t_bytes ok_v1 ok_v2 ih hk_49 hs
      · refine g_aload_n e_X5_take_17 rfl ?_
        refine g_get 0 0 ao rfl rfl fsX5_g0 fl_X5_9 e_X5_take_18 ?_
        refine g_aload_n e_X5_take_21 rfl ?_
        refine g_get 0 1 ao rfl rfl fsX5_g1 fl_X5_15 e_X5_take_22 ?_
        refine g_iload_n e_X5_take_25 rfl ?_
        refine g_iload_n e_X5_take_26 rfl ?_
        refine g_iushr e_X5_take_27 ?_
        refine g_sipush e_X5_take_28 sp_255 ?_
        refine g_iand e_X5_take_31 ?_
        refine g_iast 1 ao rfl rfl ls_1 (Nat.le_of_ble_eq_true rfl) e_X5_take_32 hs (fun hi2 hs => ?_)
        refine g_aload_n e_X5_take_33 rfl ?_
        refine g_dup e_X5_take_34 rfl ?_
        refine g_get 0 1 ao rfl rfl fsX5_g1 fl_X5_15 e_X5_take_35 ?_
        refine g_iconst e_X5_take_38 ?_
        refine g_iadd e_X5_take_39 ?_
        obtain ⟨hc3, hs⟩ := chk_elim hs
        refine g_put 0 1 ao rfl rfl fsX5_k1 fsX5_s1 ls_0 fw_X5_15 (fun h => by cases h) ⟨rfl, rfl⟩ e_X5_take_40 ?_
        exact g_X5_take_43 ao hc3 (okA_up ok_t_bytes (bAnd_I _ _)) ok_v1 ok_v2 ih hk_49 hs

noncomputable def m_X5_take_49 (t_many : Int) (t_bytes : Nat → Int) : Option (Int × (Nat → Int)) :=
  some (t_many, t_bytes)

set_option maxRecDepth 10000 in
theorem g_X5_take_49 {l : Launch} {E : EE} {b0 n : Nat} {h : AH} {a_t : Nat} {t_many t_place t_fault t_numberPlace : Int} {t_bytes : Nat → Int} {r : Int × (Nat → Int)} (ao : AO b0 n [a_t, (a_t + 1)]) (ok_t_many : inI t_many) (ok_t_bytes : okA t_bytes) (hs : m_X5_take_49 t_many t_bytes = some r) : G l E b0 M_X5_take (fun _ => True) (ZM E b0 (none) (ov [a_t, (a_t + 1)] [.inr (5, fsX5 a_t r.1 t_place t_fault t_numberPlace), IA E 400 r.2] h) n (inI r.1 ∧ okA r.2) 0 0) 0 0 n (ov [a_t, (a_t + 1)] [.inr (5, fsX5 a_t t_many t_place t_fault t_numberPlace), IA E 400 t_bytes] h) 49 [none, none, none] [] := by
  rw [m_X5_take_49] at hs
  obtain rfl := Option.some.inj hs
  exact g_vret rfl ⟨ok_t_many, ok_t_bytes⟩ e_X5_take_49

noncomputable def m_X5_take_0 (t_many : Int) (t_bytes : Nat → Int) (v1 : Int) : Option (Int × (Nat → Int)) :=
  m_X5_take_3 v1 (fun t_many' t_bytes' v2' => m_X5_take_49 t_many' t_bytes') FU t_many t_bytes 24

set_option maxRecDepth 10000 in
theorem g_X5_take_0 {l : Launch} {E : EE} {b0 n : Nat} {h : AH} {a_t : Nat} {t_many t_place t_fault t_numberPlace v1 : Int} {t_bytes : Nat → Int} {r : Int × (Nat → Int)} (ao : AO b0 n [a_t, (a_t + 1)]) (ok_t_many : inI t_many) (ok_t_bytes : okA t_bytes) (ok_v1 : inI v1) (hs : m_X5_take_0 t_many t_bytes v1 = some r) : G l E b0 M_X5_take (fun _ => True) (ZM E b0 (none) (ov [a_t, (a_t + 1)] [.inr (5, fsX5 a_t r.1 t_place t_fault t_numberPlace), IA E 400 r.2] h) n (inI r.1 ∧ okA r.2) 0 0) 0 0 n (ov [a_t, (a_t + 1)] [.inr (5, fsX5 a_t t_many t_place t_fault t_numberPlace), IA E 400 t_bytes] h) 0 [some (.ref a_t), some (vI v1), none] [] := by
  rw [m_X5_take_0] at hs
  refine g_bipush e_X5_take_0 bp_24 ?_
  refine g_istore_n e_X5_take_2 st1_2 rfl ?_
  exact g_X5_take_3 ao ok_v1 (hk_49 := by
      intro t_many' t_bytes' v2' ok_t_many' ok_t_bytes' ok_v2' hs
      exact g_X5_take_49 ao ok_t_many' ok_t_bytes' hs) FU _ _ _ ok_t_many ok_t_bytes (by decide : inI 24) hs

noncomputable def m_X5_take (t_many : Int) (t_bytes : Nat → Int) (v1 : Int) : Option (Int × (Nat → Int)) := m_X5_take_0 t_many t_bytes v1

set_option maxRecDepth 10000 in
theorem ct_X5_take {l : Launch} {E : EE} {b0 n : Nat} {h : AH} {a_t : Nat} {t_many t_place t_fault t_numberPlace : Int} {t_bytes : Nat → Int} {v1 : Int} (ao : AO b0 n [a_t, (a_t + 1)]) (hf : FA h [a_t, (a_t + 1)] [.inr (5, fsX5 a_t t_many t_place t_fault t_numberPlace), IA E 400 t_bytes]) (ok_t_many : inI t_many) (ok_t_bytes : okA t_bytes) (ok_v1 : inI v1) {r : Int × (Nat → Int)} (hm : m_X5_take t_many t_bytes v1 = some r) : Ct l E b0 M_X5_take 0 0 [.ref a_t, vI v1] h n (none) (ov [a_t, (a_t + 1)] [.inr (5, fsX5 a_t r.1 t_place t_fault t_numberPlace), IA E 400 r.2] h) n (inI r.1 ∧ okA r.2) := by
  rw [m_X5_take] at hm
  have hg : G l E b0 M_X5_take (fun _ => True) (ZM E b0 (none) (ov [a_t, (a_t + 1)] [.inr (5, fsX5 a_t r.1 t_place t_fault t_numberPlace), IA E 400 r.2] h) n (inI r.1 ∧ okA r.2) 0 0) 0 0 n (ov [a_t, (a_t + 1)] [.inr (5, fsX5 a_t t_many t_place t_fault t_numberPlace), IA E 400 t_bytes] h) 0 [some (.ref a_t), some (vI v1), none] [] := by
    have hs := hm
    exact g_X5_take_0 ao ok_t_many ok_t_bytes ok_v1 hs
  rw [FA_id hf] at hg
  exact Ct_of [some (.ref a_t), some (vI v1), none] ⟨by decide +kernel, rfl⟩ rfl (Nat.le_of_ble_eq_true rfl) hg

/-! ===== X5_refuse ===== -/
theorem e_X5_refuse_0 : DC cX5_refuse 0 (.aload_n 0) 1 1 := ⟨by decide +kernel, rfl⟩
theorem e_X5_refuse_1 : DC cX5_refuse 1 (.getfield 31) 3 4 := ⟨by decide +kernel, rfl⟩
theorem e_X5_refuse_4 : DB cX5_refuse 4 (.ifCond .ne 15) (15) 3 7 19 := ⟨by decide +kernel, rfl, rfl⟩
theorem e_X5_refuse_7 : DC cX5_refuse 7 (.aload_n 0) 1 8 := ⟨by decide +kernel, rfl⟩
theorem e_X5_refuse_8 : DC cX5_refuse 8 (.iconst 1) 1 9 := ⟨by decide +kernel, rfl⟩
theorem e_X5_refuse_9 : DC cX5_refuse 9 (.bipush 8) 2 11 := ⟨by decide +kernel, rfl⟩
theorem e_X5_refuse_11 : DC cX5_refuse 11 (.iload_n 1) 1 12 := ⟨by decide +kernel, rfl⟩
theorem e_X5_refuse_12 : DC cX5_refuse 12 (.imul) 1 13 := ⟨by decide +kernel, rfl⟩
theorem e_X5_refuse_13 : DC cX5_refuse 13 (.iadd) 1 14 := ⟨by decide +kernel, rfl⟩
theorem e_X5_refuse_14 : DC cX5_refuse 14 (.iload_n 2) 1 15 := ⟨by decide +kernel, rfl⟩
theorem e_X5_refuse_15 : DC cX5_refuse 15 (.iadd) 1 16 := ⟨by decide +kernel, rfl⟩
theorem e_X5_refuse_16 : DC cX5_refuse 16 (.putfield 31) 3 19 := ⟨by decide +kernel, rfl⟩
theorem e_X5_refuse_19 : DC cX5_refuse 19 (.return_) 1 20 := ⟨by decide +kernel, rfl⟩
noncomputable def m_X5_refuse_0 (t_fault : Int) (v1 : Int) (v2 : Int) : Option (Int) :=
  if t_fault = 0 then (chk (inI ((1 + (8 * v1)) + v2)) (some ((1 + (8 * v1)) + v2))) else (some (t_fault))

set_option maxRecDepth 10000 in
theorem g_X5_refuse_0 {l : Launch} {E : EE} {b0 n : Nat} {h : AH} {a_t : Nat} {t_many t_place t_fault t_numberPlace v1 v2 : Int} {r : Int} (ao : AO b0 n [a_t]) (ok_t_fault : inI t_fault) (ok_v1 : inI v1) (ok_v2 : inI v2) (hs : m_X5_refuse_0 t_fault v1 v2 = some r) : G l E b0 M_X5_refuse (fun _ => True) (ZM E b0 (none) (ov [a_t] [.inr (5, fsX5 a_t t_many t_place r t_numberPlace)] h) n (inI r) 0 0) 0 0 n (ov [a_t] [.inr (5, fsX5 a_t t_many t_place t_fault t_numberPlace)] h) 0 [some (.ref a_t), some (vI v1), some (vI v2)] [] := by
  rw [m_X5_refuse_0] at hs
  refine g_aload_n e_X5_refuse_0 rfl ?_
  refine g_get 0 3 ao rfl rfl fsX5_g3 fl_X5_31 e_X5_refuse_1 ?_
  refine g_if_ne e_X5_refuse_4 ok_t_fault hs (fun c4 hs => ?_) (fun c4 hs => ?_)
  · refine g_aload_n e_X5_refuse_7 rfl ?_
    refine g_iconst e_X5_refuse_8 ?_
    refine g_bipush e_X5_refuse_9 bp_8 ?_
    refine g_iload_n e_X5_refuse_11 rfl ?_
    refine g_imul e_X5_refuse_12 ?_
    refine g_iadd e_X5_refuse_13 ?_
    refine g_iload_n e_X5_refuse_14 rfl ?_
    refine g_iadd e_X5_refuse_15 ?_
    obtain ⟨hc1, hs⟩ := chk_elim hs
    refine g_put 0 3 ao rfl rfl fsX5_k3 fsX5_s3 ls_0 fw_X5_31 (fun h => by cases h) ⟨rfl, rfl⟩ e_X5_refuse_16 ?_
    obtain rfl := Option.some.inj hs
    exact g_vret rfl hc1 e_X5_refuse_19
  · obtain rfl := Option.some.inj hs
    exact g_vret rfl ok_t_fault e_X5_refuse_19

noncomputable def m_X5_refuse (t_fault : Int) (v1 : Int) (v2 : Int) : Option (Int) := m_X5_refuse_0 t_fault v1 v2

set_option maxRecDepth 10000 in
theorem ct_X5_refuse {l : Launch} {E : EE} {b0 n : Nat} {h : AH} {a_t : Nat} {t_many t_place t_fault t_numberPlace : Int} {v1 v2 : Int} (ao : AO b0 n [a_t]) (hf : FA h [a_t] [.inr (5, fsX5 a_t t_many t_place t_fault t_numberPlace)]) (ok_t_fault : inI t_fault) (ok_v1 : inI v1) (ok_v2 : inI v2) {r : Int} (hm : m_X5_refuse t_fault v1 v2 = some r) : Ct l E b0 M_X5_refuse 0 0 [.ref a_t, vI v1, vI v2] h n (none) (ov [a_t] [.inr (5, fsX5 a_t t_many t_place r t_numberPlace)] h) n (inI r) := by
  rw [m_X5_refuse] at hm
  have hg : G l E b0 M_X5_refuse (fun _ => True) (ZM E b0 (none) (ov [a_t] [.inr (5, fsX5 a_t t_many t_place r t_numberPlace)] h) n (inI r) 0 0) 0 0 n (ov [a_t] [.inr (5, fsX5 a_t t_many t_place t_fault t_numberPlace)] h) 0 [some (.ref a_t), some (vI v1), some (vI v2)] [] := by
    have hs := hm
    exact g_X5_refuse_0 ao ok_t_fault ok_v1 ok_v2 hs
  rw [FA_id hf] at hg
  exact Ct_of [some (.ref a_t), some (vI v1), some (vI v2)] ⟨by decide +kernel, rfl⟩ rfl (Nat.le_of_ble_eq_true rfl) hg

/-! ===== X5_byteAt ===== -/
theorem e_X5_byteAt_0 : DC cX5_byteAt 0 (.iconst 0) 1 1 := ⟨by decide +kernel, rfl⟩
theorem e_X5_byteAt_1 : DC cX5_byteAt 1 (.iload_n 1) 1 2 := ⟨by decide +kernel, rfl⟩
theorem e_X5_byteAt_2 : DB cX5_byteAt 2 (.if_icmp .gt 20) (20) 3 5 22 := ⟨by decide +kernel, rfl, rfl⟩
theorem e_X5_byteAt_5 : DC cX5_byteAt 5 (.iload_n 1) 1 6 := ⟨by decide +kernel, rfl⟩
theorem e_X5_byteAt_6 : DC cX5_byteAt 6 (.aload_n 0) 1 7 := ⟨by decide +kernel, rfl⟩
theorem e_X5_byteAt_7 : DC cX5_byteAt 7 (.getfield 15) 3 10 := ⟨by decide +kernel, rfl⟩
theorem e_X5_byteAt_10 : DB cX5_byteAt 10 (.if_icmp .ge 12) (12) 3 13 22 := ⟨by decide +kernel, rfl, rfl⟩
theorem e_X5_byteAt_13 : DC cX5_byteAt 13 (.aload_n 0) 1 14 := ⟨by decide +kernel, rfl⟩
theorem e_X5_byteAt_14 : DC cX5_byteAt 14 (.getfield 9) 3 17 := ⟨by decide +kernel, rfl⟩
theorem e_X5_byteAt_17 : DC cX5_byteAt 17 (.iload_n 1) 1 18 := ⟨by decide +kernel, rfl⟩
theorem e_X5_byteAt_18 : DC cX5_byteAt 18 (.iaload) 1 19 := ⟨by decide +kernel, rfl⟩
theorem e_X5_byteAt_19 : DB cX5_byteAt 19 (.goto 4) (4) 3 22 23 := ⟨by decide +kernel, rfl, rfl⟩
theorem e_X5_byteAt_22 : DC cX5_byteAt 22 (.iconst (-1)) 1 23 := ⟨by decide +kernel, rfl⟩
theorem e_X5_byteAt_23 : DC cX5_byteAt 23 (.ireturn) 1 24 := ⟨by decide +kernel, rfl⟩
noncomputable def m_X5_byteAt_0 (t_many : Int) (t_bytes : Nat → Int) (v1 : Int) : Option (Int) :=
  if v1 < 0 then (some ((-1))) else (if t_many ≤ v1 then (some ((-1))) else (chk (inB v1 400) (some (t_bytes (Int.toNat v1)))))

set_option maxRecDepth 10000 in
theorem g_X5_byteAt_0 {l : Launch} {E : EE} {b0 n : Nat} {h : AH} {a_t : Nat} {t_many t_place t_fault t_numberPlace v1 : Int} {t_bytes : Nat → Int} {r : Int} (ao : AO b0 n [a_t, (a_t + 1)]) (ok_t_many : inI t_many) (ok_t_bytes : okA t_bytes) (ok_v1 : inI v1) (hs : m_X5_byteAt_0 t_many t_bytes v1 = some r) : G l E b0 M_X5_byteAt (fun _ => True) (ZM E b0 (some (vI r)) (ov [a_t, (a_t + 1)] [.inr (5, fsX5 a_t t_many t_place t_fault t_numberPlace), IA E 400 t_bytes] h) n (inI r) 0 0) 0 0 n (ov [a_t, (a_t + 1)] [.inr (5, fsX5 a_t t_many t_place t_fault t_numberPlace), IA E 400 t_bytes] h) 0 [some (.ref a_t), some (vI v1)] [] := by
  rw [m_X5_byteAt_0] at hs
  refine g_iconst e_X5_byteAt_0 ?_
  refine g_iload_n e_X5_byteAt_1 rfl ?_
  refine g_icmp_gt e_X5_byteAt_2 (by decide : inI 0) ok_v1 hs (fun c2 hs => ?_) (fun c2 hs => ?_)
  · refine g_iconst e_X5_byteAt_22 ?_
    obtain rfl := Option.some.inj hs
    exact g_iret rfl (by decide : inI (-1)) e_X5_byteAt_23
  · refine g_iload_n e_X5_byteAt_5 rfl ?_
    refine g_aload_n e_X5_byteAt_6 rfl ?_
    refine g_get 0 1 ao rfl rfl fsX5_g1 fl_X5_15 e_X5_byteAt_7 ?_
    refine g_icmp_ge e_X5_byteAt_10 ok_v1 ok_t_many hs (fun c10 hs => ?_) (fun c10 hs => ?_)
    · refine g_iconst e_X5_byteAt_22 ?_
      obtain rfl := Option.some.inj hs
      exact g_iret rfl (by decide : inI (-1)) e_X5_byteAt_23
    · refine g_aload_n e_X5_byteAt_13 rfl ?_
      refine g_get 0 0 ao rfl rfl fsX5_g0 fl_X5_9 e_X5_byteAt_14 ?_
      refine g_iload_n e_X5_byteAt_17 rfl ?_
      refine g_iald 1 ao rfl rfl (Nat.le_of_ble_eq_true rfl) e_X5_byteAt_18 hs (fun hi1 hs => ?_)
      refine g_goto e_X5_byteAt_19 ?_
      obtain rfl := Option.some.inj hs
      exact g_iret rfl (ok_t_bytes _) e_X5_byteAt_23

noncomputable def m_X5_byteAt (t_many : Int) (t_bytes : Nat → Int) (v1 : Int) : Option (Int) := m_X5_byteAt_0 t_many t_bytes v1

set_option maxRecDepth 10000 in
theorem ct_X5_byteAt {l : Launch} {E : EE} {b0 n : Nat} {h : AH} {a_t : Nat} {t_many t_place t_fault t_numberPlace : Int} {t_bytes : Nat → Int} {v1 : Int} (ao : AO b0 n [a_t, (a_t + 1)]) (hf : FA h [a_t, (a_t + 1)] [.inr (5, fsX5 a_t t_many t_place t_fault t_numberPlace), IA E 400 t_bytes]) (ok_t_many : inI t_many) (ok_t_bytes : okA t_bytes) (ok_v1 : inI v1) {r : Int} (hm : m_X5_byteAt t_many t_bytes v1 = some r) : Ct l E b0 M_X5_byteAt 0 0 [.ref a_t, vI v1] h n (some (vI r)) h n (inI r) := by
  rw [m_X5_byteAt] at hm
  have hg : G l E b0 M_X5_byteAt (fun _ => True) (ZM E b0 (some (vI r)) (ov [a_t, (a_t + 1)] [.inr (5, fsX5 a_t t_many t_place t_fault t_numberPlace), IA E 400 t_bytes] h) n (inI r) 0 0) 0 0 n (ov [a_t, (a_t + 1)] [.inr (5, fsX5 a_t t_many t_place t_fault t_numberPlace), IA E 400 t_bytes] h) 0 [some (.ref a_t), some (vI v1)] [] := by
    have hs := hm
    exact g_X5_byteAt_0 ao ok_t_many ok_t_bytes ok_v1 hs
  rw [FA_id hf] at hg
  exact Ct_of [some (.ref a_t), some (vI v1)] ⟨by decide +kernel, rfl⟩ rfl (Nat.le_of_ble_eq_true rfl) hg

/-! ===== X5_isLetter ===== -/
theorem e_X5_isLetter_0 : DC cX5_isLetter 0 (.bipush 97) 2 2 := ⟨by decide +kernel, rfl⟩
theorem e_X5_isLetter_2 : DC cX5_isLetter 2 (.iload_n 0) 1 3 := ⟨by decide +kernel, rfl⟩
theorem e_X5_isLetter_3 : DB cX5_isLetter 3 (.if_icmp .gt 13) (13) 3 6 16 := ⟨by decide +kernel, rfl, rfl⟩
theorem e_X5_isLetter_6 : DC cX5_isLetter 6 (.iload_n 0) 1 7 := ⟨by decide +kernel, rfl⟩
theorem e_X5_isLetter_7 : DC cX5_isLetter 7 (.bipush 122) 2 9 := ⟨by decide +kernel, rfl⟩
theorem e_X5_isLetter_9 : DB cX5_isLetter 9 (.if_icmp .gt 7) (7) 3 12 16 := ⟨by decide +kernel, rfl, rfl⟩
theorem e_X5_isLetter_12 : DC cX5_isLetter 12 (.iconst 1) 1 13 := ⟨by decide +kernel, rfl⟩
theorem e_X5_isLetter_13 : DB cX5_isLetter 13 (.goto 4) (4) 3 16 17 := ⟨by decide +kernel, rfl, rfl⟩
theorem e_X5_isLetter_16 : DC cX5_isLetter 16 (.iconst 0) 1 17 := ⟨by decide +kernel, rfl⟩
theorem e_X5_isLetter_17 : DC cX5_isLetter 17 (.ireturn) 1 18 := ⟨by decide +kernel, rfl⟩
noncomputable def m_X5_isLetter_0 (v0 : Int) : Option (Int) :=
  if v0 < 97 then (some (0)) else (if 122 < v0 then (some (0)) else (some (1)))

set_option maxRecDepth 10000 in
theorem g_X5_isLetter_0 {l : Launch} {E : EE} {b0 n : Nat} {h : AH} {v0 : Int} {r : Int} (ao : AO b0 n []) (ok_v0 : inI v0) (hs : m_X5_isLetter_0 v0 = some r) : G l E b0 M_X5_isLetter (fun _ => True) (ZM E b0 (some (vI r)) (ov [] [] h) n (inZ r) 0 0) 0 0 n (ov [] [] h) 0 [some (vI v0)] [] := by
  rw [m_X5_isLetter_0] at hs
  refine g_bipush e_X5_isLetter_0 bp_97 ?_
  refine g_iload_n e_X5_isLetter_2 rfl ?_
  refine g_icmp_gt e_X5_isLetter_3 (by decide : inI 97) ok_v0 hs (fun c3 hs => ?_) (fun c3 hs => ?_)
  · refine g_iconst e_X5_isLetter_16 ?_
    obtain rfl := Option.some.inj hs
    exact g_zret rfl (by decide : inZ 0) (by decide : inZ 0) e_X5_isLetter_17
  · refine g_iload_n e_X5_isLetter_6 rfl ?_
    refine g_bipush e_X5_isLetter_7 bp_122 ?_
    refine g_icmp_gt e_X5_isLetter_9 ok_v0 (by decide : inI 122) hs (fun c9 hs => ?_) (fun c9 hs => ?_)
    · refine g_iconst e_X5_isLetter_16 ?_
      obtain rfl := Option.some.inj hs
      exact g_zret rfl (by decide : inZ 0) (by decide : inZ 0) e_X5_isLetter_17
    · refine g_iconst e_X5_isLetter_12 ?_
      refine g_goto e_X5_isLetter_13 ?_
      obtain rfl := Option.some.inj hs
      exact g_zret rfl (by decide : inZ 1) (by decide : inZ 1) e_X5_isLetter_17

noncomputable def m_X5_isLetter (v0 : Int) : Option (Int) := m_X5_isLetter_0 v0

set_option maxRecDepth 10000 in
theorem ct_X5_isLetter {l : Launch} {E : EE} {b0 n : Nat} {h : AH} {v0 : Int} (ao : AO b0 n []) (hf : FA h [] []) (ok_v0 : inI v0) {r : Int} (hm : m_X5_isLetter v0 = some r) : Ct l E b0 M_X5_isLetter 0 0 [vI v0] h n (some (vI r)) h n (inZ r) := by
  rw [m_X5_isLetter] at hm
  have hg : G l E b0 M_X5_isLetter (fun _ => True) (ZM E b0 (some (vI r)) (ov [] [] h) n (inZ r) 0 0) 0 0 n (ov [] [] h) 0 [some (vI v0)] [] := by
    have hs := hm
    exact g_X5_isLetter_0 ao ok_v0 hs
  rw [FA_id hf] at hg
  exact Ct_of [some (vI v0)] ⟨by decide +kernel, rfl⟩ rfl (Nat.le_of_ble_eq_true rfl) hg

/-! ===== X5_isDigit ===== -/
theorem e_X5_isDigit_0 : DC cX5_isDigit 0 (.bipush 48) 2 2 := ⟨by decide +kernel, rfl⟩
theorem e_X5_isDigit_2 : DC cX5_isDigit 2 (.iload_n 0) 1 3 := ⟨by decide +kernel, rfl⟩
theorem e_X5_isDigit_3 : DB cX5_isDigit 3 (.if_icmp .gt 13) (13) 3 6 16 := ⟨by decide +kernel, rfl, rfl⟩
theorem e_X5_isDigit_6 : DC cX5_isDigit 6 (.iload_n 0) 1 7 := ⟨by decide +kernel, rfl⟩
theorem e_X5_isDigit_7 : DC cX5_isDigit 7 (.bipush 57) 2 9 := ⟨by decide +kernel, rfl⟩
theorem e_X5_isDigit_9 : DB cX5_isDigit 9 (.if_icmp .gt 7) (7) 3 12 16 := ⟨by decide +kernel, rfl, rfl⟩
theorem e_X5_isDigit_12 : DC cX5_isDigit 12 (.iconst 1) 1 13 := ⟨by decide +kernel, rfl⟩
theorem e_X5_isDigit_13 : DB cX5_isDigit 13 (.goto 4) (4) 3 16 17 := ⟨by decide +kernel, rfl, rfl⟩
theorem e_X5_isDigit_16 : DC cX5_isDigit 16 (.iconst 0) 1 17 := ⟨by decide +kernel, rfl⟩
theorem e_X5_isDigit_17 : DC cX5_isDigit 17 (.ireturn) 1 18 := ⟨by decide +kernel, rfl⟩
noncomputable def m_X5_isDigit_0 (v0 : Int) : Option (Int) :=
  if v0 < 48 then (some (0)) else (if 57 < v0 then (some (0)) else (some (1)))

set_option maxRecDepth 10000 in
theorem g_X5_isDigit_0 {l : Launch} {E : EE} {b0 n : Nat} {h : AH} {v0 : Int} {r : Int} (ao : AO b0 n []) (ok_v0 : inI v0) (hs : m_X5_isDigit_0 v0 = some r) : G l E b0 M_X5_isDigit (fun _ => True) (ZM E b0 (some (vI r)) (ov [] [] h) n (inZ r) 0 0) 0 0 n (ov [] [] h) 0 [some (vI v0)] [] := by
  rw [m_X5_isDigit_0] at hs
  refine g_bipush e_X5_isDigit_0 bp_48 ?_
  refine g_iload_n e_X5_isDigit_2 rfl ?_
  refine g_icmp_gt e_X5_isDigit_3 (by decide : inI 48) ok_v0 hs (fun c3 hs => ?_) (fun c3 hs => ?_)
  · refine g_iconst e_X5_isDigit_16 ?_
    obtain rfl := Option.some.inj hs
    exact g_zret rfl (by decide : inZ 0) (by decide : inZ 0) e_X5_isDigit_17
  · refine g_iload_n e_X5_isDigit_6 rfl ?_
    refine g_bipush e_X5_isDigit_7 bp_57 ?_
    refine g_icmp_gt e_X5_isDigit_9 ok_v0 (by decide : inI 57) hs (fun c9 hs => ?_) (fun c9 hs => ?_)
    · refine g_iconst e_X5_isDigit_16 ?_
      obtain rfl := Option.some.inj hs
      exact g_zret rfl (by decide : inZ 0) (by decide : inZ 0) e_X5_isDigit_17
    · refine g_iconst e_X5_isDigit_12 ?_
      refine g_goto e_X5_isDigit_13 ?_
      obtain rfl := Option.some.inj hs
      exact g_zret rfl (by decide : inZ 1) (by decide : inZ 1) e_X5_isDigit_17

noncomputable def m_X5_isDigit (v0 : Int) : Option (Int) := m_X5_isDigit_0 v0

set_option maxRecDepth 10000 in
theorem ct_X5_isDigit {l : Launch} {E : EE} {b0 n : Nat} {h : AH} {v0 : Int} (ao : AO b0 n []) (hf : FA h [] []) (ok_v0 : inI v0) {r : Int} (hm : m_X5_isDigit v0 = some r) : Ct l E b0 M_X5_isDigit 0 0 [vI v0] h n (some (vI r)) h n (inZ r) := by
  rw [m_X5_isDigit] at hm
  have hg : G l E b0 M_X5_isDigit (fun _ => True) (ZM E b0 (some (vI r)) (ov [] [] h) n (inZ r) 0 0) 0 0 n (ov [] [] h) 0 [some (vI v0)] [] := by
    have hs := hm
    exact g_X5_isDigit_0 ao ok_v0 hs
  rw [FA_id hf] at hg
  exact Ct_of [some (vI v0)] ⟨by decide +kernel, rfl⟩ rfl (Nat.le_of_ble_eq_true rfl) hg

/-! ===== X5_cut ===== -/
theorem e_X5_cut_0 : DC cX5_cut 0 (.iload_n 1) 1 1 := ⟨by decide +kernel, rfl⟩
theorem e_X5_cut_1 : DC cX5_cut 1 (.iconst 0) 1 2 := ⟨by decide +kernel, rfl⟩
theorem e_X5_cut_2 : DC cX5_cut 2 (.aload_n 0) 1 3 := ⟨by decide +kernel, rfl⟩
theorem e_X5_cut_3 : DC cX5_cut 3 (.getfield 15) 3 6 := ⟨by decide +kernel, rfl⟩
theorem e_X5_cut_6 : DC cX5_cut 6 (.invokestatic 19) 3 9 := ⟨by decide +kernel, rfl⟩
theorem e_X5_cut_9 : DB cX5_cut 9 (.ifCond .ne 5) (5) 3 12 14 := ⟨by decide +kernel, rfl, rfl⟩
theorem e_X5_cut_12 : DC cX5_cut 12 (.iconst 0) 1 13 := ⟨by decide +kernel, rfl⟩
theorem e_X5_cut_13 : DC cX5_cut 13 (.ireturn) 1 14 := ⟨by decide +kernel, rfl⟩
theorem e_X5_cut_14 : DC cX5_cut 14 (.aload_n 0) 1 15 := ⟨by decide +kernel, rfl⟩
theorem e_X5_cut_15 : DC cX5_cut 15 (.iload_n 1) 1 16 := ⟨by decide +kernel, rfl⟩
theorem e_X5_cut_16 : DC cX5_cut 16 (.putfield 15) 3 19 := ⟨by decide +kernel, rfl⟩
theorem e_X5_cut_19 : DC cX5_cut 19 (.iconst 1) 1 20 := ⟨by decide +kernel, rfl⟩
theorem e_X5_cut_20 : DC cX5_cut 20 (.ireturn) 1 21 := ⟨by decide +kernel, rfl⟩
noncomputable def m_X5_cut_0 (t_many : Int) (v1 : Int) : Option (Int × Int) :=
  (m_X10_within v1 0 t_many).bind (fun y1 => if y1 = 0 then (some (0, t_many)) else (some (1, v1)))

set_option maxRecDepth 10000 in
theorem g_X5_cut_0 {l : Launch} {E : EE} {b0 n : Nat} {h : AH} {a_t : Nat} {t_many t_place t_fault t_numberPlace v1 : Int} {r : Int × Int} (ao : AO b0 n [a_t]) (ok_t_many : inI t_many) (ok_v1 : inI v1) (hs : m_X5_cut_0 t_many v1 = some r) : G l E b0 M_X5_cut (fun _ => True) (ZM E b0 (some (vI r.1)) (ov [a_t] [.inr (5, fsX5 a_t r.2 t_place t_fault t_numberPlace)] h) n (inZ r.1 ∧ inI r.2) 0 0) 0 0 n (ov [a_t] [.inr (5, fsX5 a_t t_many t_place t_fault t_numberPlace)] h) 0 [some (.ref a_t), some (vI v1)] [] := by
  rw [m_X5_cut_0] at hs
  refine g_iload_n e_X5_cut_0 rfl ?_
  refine g_iconst e_X5_cut_1 ?_
  refine g_aload_n e_X5_cut_2 rfl ?_
  refine g_get 0 1 ao rfl rfl fsX5_g1 fl_X5_15 e_X5_cut_3 ?_
  obtain ⟨y1, hy1, hs⟩ := bind_elim hs
  refine g_callSr [vI v1, vI 0, vI t_many] cs_X5_19 ⟨rfl, rfl, Nat.le_of_ble_eq_true rfl, Nat.le_of_ble_eq_true rfl⟩ (ct_X10_within ⟨List.nodup_nil, fun i a h => by simp at h⟩ (fun i a e h => by simp at h) ok_v1 (by decide : inI 0) ok_t_many hy1) e_X5_cut_6 rfl rfl (Nat.le_of_ble_eq_true rfl) ⟨Nat.le_refl _, Nat.le_refl _⟩ (fun Py1 => ?_)
  refine g_if_ne e_X5_cut_9 (inZ_I Py1) hs (fun c9 hs => ?_) (fun c9 hs => ?_)
  · refine g_iconst e_X5_cut_12 ?_
    obtain rfl := Option.some.inj hs
    exact g_zret rfl (by decide : inZ 0) ⟨(by decide : inZ 0), ok_t_many⟩ e_X5_cut_13
  · refine g_aload_n e_X5_cut_14 rfl ?_
    refine g_iload_n e_X5_cut_15 rfl ?_
    refine g_put 0 1 ao rfl rfl fsX5_k1 fsX5_s1 ls_0 fw_X5_15 (fun h => by cases h) ⟨rfl, rfl⟩ e_X5_cut_16 ?_
    refine g_iconst e_X5_cut_19 ?_
    obtain rfl := Option.some.inj hs
    exact g_zret rfl (by decide : inZ 1) ⟨(by decide : inZ 1), ok_v1⟩ e_X5_cut_20

noncomputable def m_X5_cut (t_many : Int) (v1 : Int) : Option (Int × Int) := m_X5_cut_0 t_many v1

set_option maxRecDepth 10000 in
theorem ct_X5_cut {l : Launch} {E : EE} {b0 n : Nat} {h : AH} {a_t : Nat} {t_many t_place t_fault t_numberPlace : Int} {v1 : Int} (ao : AO b0 n [a_t]) (hf : FA h [a_t] [.inr (5, fsX5 a_t t_many t_place t_fault t_numberPlace)]) (ok_t_many : inI t_many) (ok_v1 : inI v1) {r : Int × Int} (hm : m_X5_cut t_many v1 = some r) : Ct l E b0 M_X5_cut 0 0 [.ref a_t, vI v1] h n (some (vI r.1)) (ov [a_t] [.inr (5, fsX5 a_t r.2 t_place t_fault t_numberPlace)] h) n (inZ r.1 ∧ inI r.2) := by
  rw [m_X5_cut] at hm
  have hg : G l E b0 M_X5_cut (fun _ => True) (ZM E b0 (some (vI r.1)) (ov [a_t] [.inr (5, fsX5 a_t r.2 t_place t_fault t_numberPlace)] h) n (inZ r.1 ∧ inI r.2) 0 0) 0 0 n (ov [a_t] [.inr (5, fsX5 a_t t_many t_place t_fault t_numberPlace)] h) 0 [some (.ref a_t), some (vI v1)] [] := by
    have hs := hm
    exact g_X5_cut_0 ao ok_t_many ok_v1 hs
  rw [FA_id hf] at hg
  exact Ct_of [some (.ref a_t), some (vI v1)] ⟨by decide +kernel, rfl⟩ rfl (Nat.le_of_ble_eq_true rfl) hg

/-! ===== X5_lettersAhead ===== -/
theorem e_X5_lettersAhead_0 : DC cX5_lettersAhead 0 (.iconst 0) 1 1 := ⟨by decide +kernel, rfl⟩
theorem e_X5_lettersAhead_1 : DC cX5_lettersAhead 1 (.istore_n 1) 1 2 := ⟨by decide +kernel, rfl⟩
theorem e_X5_lettersAhead_2 : DC cX5_lettersAhead 2 (.aload_n 0) 1 3 := ⟨by decide +kernel, rfl⟩
theorem e_X5_lettersAhead_3 : DC cX5_lettersAhead 3 (.getfield 28) 3 6 := ⟨by decide +kernel, rfl⟩
theorem e_X5_lettersAhead_6 : DC cX5_lettersAhead 6 (.iload_n 1) 1 7 := ⟨by decide +kernel, rfl⟩
theorem e_X5_lettersAhead_7 : DC cX5_lettersAhead 7 (.iadd) 1 8 := ⟨by decide +kernel, rfl⟩
theorem e_X5_lettersAhead_8 : DC cX5_lettersAhead 8 (.aload_n 0) 1 9 := ⟨by decide +kernel, rfl⟩
theorem e_X5_lettersAhead_9 : DC cX5_lettersAhead 9 (.getfield 15) 3 12 := ⟨by decide +kernel, rfl⟩
theorem e_X5_lettersAhead_12 : DB cX5_lettersAhead 12 (.if_icmp .ge 25) (25) 3 15 37 := ⟨by decide +kernel, rfl, rfl⟩
theorem e_X5_lettersAhead_15 : DC cX5_lettersAhead 15 (.aload_n 0) 1 16 := ⟨by decide +kernel, rfl⟩
theorem e_X5_lettersAhead_16 : DC cX5_lettersAhead 16 (.aload_n 0) 1 17 := ⟨by decide +kernel, rfl⟩
theorem e_X5_lettersAhead_17 : DC cX5_lettersAhead 17 (.getfield 28) 3 20 := ⟨by decide +kernel, rfl⟩
theorem e_X5_lettersAhead_20 : DC cX5_lettersAhead 20 (.iload_n 1) 1 21 := ⟨by decide +kernel, rfl⟩
theorem e_X5_lettersAhead_21 : DC cX5_lettersAhead 21 (.iadd) 1 22 := ⟨by decide +kernel, rfl⟩
theorem e_X5_lettersAhead_22 : DC cX5_lettersAhead 22 (.invokevirtual 41) 3 25 := ⟨by decide +kernel, rfl⟩
theorem e_X5_lettersAhead_25 : DC cX5_lettersAhead 25 (.invokestatic 76) 3 28 := ⟨by decide +kernel, rfl⟩
theorem e_X5_lettersAhead_28 : DB cX5_lettersAhead 28 (.ifCond .eq 9) (9) 3 31 37 := ⟨by decide +kernel, rfl, rfl⟩
theorem e_X5_lettersAhead_31 : DC cX5_lettersAhead 31 (.iinc 1 1) 3 34 := ⟨by decide +kernel, rfl⟩
theorem e_X5_lettersAhead_34 : DB cX5_lettersAhead 34 (.goto (-32)) (-32) 3 37 2 := ⟨by decide +kernel, rfl, rfl⟩
theorem e_X5_lettersAhead_37 : DC cX5_lettersAhead 37 (.iload_n 1) 1 38 := ⟨by decide +kernel, rfl⟩
theorem e_X5_lettersAhead_38 : DC cX5_lettersAhead 38 (.ireturn) 1 39 := ⟨by decide +kernel, rfl⟩
noncomputable def m_X5_lettersAhead_2 (t_many : Int) (t_place : Int) (t_bytes : Nat → Int) (k_37 : Int → Option (Int)) : Nat → Int → Option (Int)
  | 0, _ => none
  | F + 1, v1 => chk (inI (t_place + v1)) (if t_many ≤ (t_place + v1) then (some (v1)) else ((m_X5_byteAt t_many t_bytes (t_place + v1)).bind (fun y2 => (m_X5_isLetter y2).bind (fun y3 => if y3 = 0 then (some (v1)) else (chk (inI (v1 + 1)) (m_X5_lettersAhead_2 t_many t_place t_bytes k_37 F (v1 + 1)))))))

set_option maxRecDepth 10000 in
theorem g_X5_lettersAhead_2 {l : Launch} {E : EE} {b0 n : Nat} {h : AH} {a_t : Nat} {t_many t_place t_fault t_numberPlace : Int} {t_bytes : Nat → Int} {r : Int} {k_37 : Int → Option (Int)} (ao : AO b0 n [a_t, (a_t + 1)]) (ok_t_many : inI t_many) (ok_t_place : inI t_place) (ok_t_bytes : okA t_bytes) (hk_37 : ∀ (v1_ : Int), inI v1_ → k_37 v1_ = some r → G l E b0 M_X5_lettersAhead (fun _ => True) (ZM E b0 (some (vI r)) (ov [a_t, (a_t + 1)] [.inr (5, fsX5 a_t t_many t_place t_fault t_numberPlace), IA E 400 t_bytes] h) n (inI r) 0 0) 0 0 n (ov [a_t, (a_t + 1)] [.inr (5, fsX5 a_t t_many t_place t_fault t_numberPlace), IA E 400 t_bytes] h) 37 [none, some (vI v1_)] []) :
    ∀ (F : Nat) (v1 : Int), inI v1 → m_X5_lettersAhead_2 t_many t_place t_bytes k_37 F v1 = some r → G l E b0 M_X5_lettersAhead (fun _ => True) (ZM E b0 (some (vI r)) (ov [a_t, (a_t + 1)] [.inr (5, fsX5 a_t t_many t_place t_fault t_numberPlace), IA E 400 t_bytes] h) n (inI r) 0 0) 0 0 n (ov [a_t, (a_t + 1)] [.inr (5, fsX5 a_t t_many t_place t_fault t_numberPlace), IA E 400 t_bytes] h) 2 [some (.ref a_t), some (vI v1)] [] := by
  intro F
  induction F with
  | zero =>
    intro v1 ok_v1 hs
    rw [m_X5_lettersAhead_2] at hs
    cases hs
  | succ F ih =>
    intro v1 ok_v1 hs
    rw [m_X5_lettersAhead_2] at hs
    refine g_aload_n e_X5_lettersAhead_2 rfl ?_
    refine g_get 0 2 ao rfl rfl fsX5_g2 fl_X5_28 e_X5_lettersAhead_3 ?_
    refine g_iload_n e_X5_lettersAhead_6 rfl ?_
    refine g_iadd e_X5_lettersAhead_7 ?_
    refine g_aload_n e_X5_lettersAhead_8 rfl ?_
    refine g_get 0 1 ao rfl rfl fsX5_g1 fl_X5_15 e_X5_lettersAhead_9 ?_
    obtain ⟨hc1, hs⟩ := chk_elim hs
    refine g_icmp_ge e_X5_lettersAhead_12 hc1 ok_t_many hs (fun c12 hs => ?_) (fun c12 hs => ?_)
    · refine g_iload_n e_X5_lettersAhead_37 rfl ?_
      obtain rfl := Option.some.inj hs
      exact g_iret rfl ok_v1 e_X5_lettersAhead_38
    · refine g_aload_n e_X5_lettersAhead_15 rfl ?_
      refine g_aload_n e_X5_lettersAhead_16 rfl ?_
      refine g_get 0 2 ao rfl rfl fsX5_g2 fl_X5_28 e_X5_lettersAhead_17 ?_
      refine g_iload_n e_X5_lettersAhead_20 rfl ?_
      refine g_iadd e_X5_lettersAhead_21 ?_
      obtain ⟨y2, hy2, hs⟩ := bind_elim hs
      refine g_callVr [vI (t_place + v1)] cv_X5_41 ⟨rfl, rfl, Nat.le_of_ble_eq_true rfl, Nat.le_of_ble_eq_true rfl⟩ (ct_X5_byteAt (AO_call [0, 1] ao (by decide) rfl) (FA_call [0, 1] ao.1 rfl rfl) ok_t_many ok_t_bytes hc1 hy2) e_X5_lettersAhead_22 (ao.2 0 _ rfl) (ov_get 0 ao.1 rfl rfl) rfl rfl rfl (Nat.le_of_ble_eq_true rfl) ⟨Nat.le_refl _, Nat.le_refl _⟩ (fun Py2 => ?_)
      obtain ⟨y3, hy3, hs⟩ := bind_elim hs
      refine g_callSr [vI y2] cs_X5_76 ⟨rfl, rfl, Nat.le_of_ble_eq_true rfl, Nat.le_of_ble_eq_true rfl⟩ (ct_X5_isLetter ⟨List.nodup_nil, fun i a h => by simp at h⟩ (fun i a e h => by simp at h) Py2 hy3) e_X5_lettersAhead_25 rfl rfl (Nat.le_of_ble_eq_true rfl) ⟨Nat.le_refl _, Nat.le_refl _⟩ (fun Py3 => ?_)
      refine g_if_eq e_X5_lettersAhead_28 (inZ_I Py3) hs (fun c28 hs => ?_) (fun c28 hs => ?_)
      · refine g_iload_n e_X5_lettersAhead_37 rfl ?_
        obtain rfl := Option.some.inj hs
        exact g_iret rfl ok_v1 e_X5_lettersAhead_38
      · refine g_iinc e_X5_lettersAhead_31 rfl st1_1 rfl ?_
        refine g_goto e_X5_lettersAhead_34 ?_
        obtain ⟨hc4, hs⟩ := chk_elim hs
        exact ih _ hc4 hs

noncomputable def m_X5_lettersAhead_37 (v1 : Int) : Option (Int) :=
  some (v1)

set_option maxRecDepth 10000 in
theorem g_X5_lettersAhead_37 {l : Launch} {E : EE} {b0 n : Nat} {h : AH} {a_t : Nat} {t_many t_place t_fault t_numberPlace v1 : Int} {t_bytes : Nat → Int} {r : Int} (ao : AO b0 n [a_t, (a_t + 1)]) (ok_t_many : inI t_many) (ok_t_place : inI t_place) (ok_t_bytes : okA t_bytes) (ok_v1 : inI v1) (hs : m_X5_lettersAhead_37 v1 = some r) : G l E b0 M_X5_lettersAhead (fun _ => True) (ZM E b0 (some (vI r)) (ov [a_t, (a_t + 1)] [.inr (5, fsX5 a_t t_many t_place t_fault t_numberPlace), IA E 400 t_bytes] h) n (inI r) 0 0) 0 0 n (ov [a_t, (a_t + 1)] [.inr (5, fsX5 a_t t_many t_place t_fault t_numberPlace), IA E 400 t_bytes] h) 37 [none, some (vI v1)] [] := by
  rw [m_X5_lettersAhead_37] at hs
  refine g_iload_n e_X5_lettersAhead_37 rfl ?_
  obtain rfl := Option.some.inj hs
  exact g_iret rfl ok_v1 e_X5_lettersAhead_38

noncomputable def m_X5_lettersAhead_0 (t_many : Int) (t_place : Int) (t_bytes : Nat → Int) : Option (Int) :=
  m_X5_lettersAhead_2 t_many t_place t_bytes (fun v1' => m_X5_lettersAhead_37 v1') FU 0

set_option maxRecDepth 10000 in
theorem g_X5_lettersAhead_0 {l : Launch} {E : EE} {b0 n : Nat} {h : AH} {a_t : Nat} {t_many t_place t_fault t_numberPlace : Int} {t_bytes : Nat → Int} {r : Int} (ao : AO b0 n [a_t, (a_t + 1)]) (ok_t_many : inI t_many) (ok_t_place : inI t_place) (ok_t_bytes : okA t_bytes) (hs : m_X5_lettersAhead_0 t_many t_place t_bytes = some r) : G l E b0 M_X5_lettersAhead (fun _ => True) (ZM E b0 (some (vI r)) (ov [a_t, (a_t + 1)] [.inr (5, fsX5 a_t t_many t_place t_fault t_numberPlace), IA E 400 t_bytes] h) n (inI r) 0 0) 0 0 n (ov [a_t, (a_t + 1)] [.inr (5, fsX5 a_t t_many t_place t_fault t_numberPlace), IA E 400 t_bytes] h) 0 [some (.ref a_t), none] [] := by
  rw [m_X5_lettersAhead_0] at hs
  refine g_iconst e_X5_lettersAhead_0 ?_
  refine g_istore_n e_X5_lettersAhead_1 st1_1 rfl ?_
  exact g_X5_lettersAhead_2 ao ok_t_many ok_t_place ok_t_bytes (hk_37 := by
      intro v1' ok_v1' hs
      exact g_X5_lettersAhead_37 ao ok_t_many ok_t_place ok_t_bytes ok_v1' hs) FU _ (by decide : inI 0) hs

noncomputable def m_X5_lettersAhead (t_many : Int) (t_place : Int) (t_bytes : Nat → Int) : Option (Int) := m_X5_lettersAhead_0 t_many t_place t_bytes

set_option maxRecDepth 10000 in
theorem ct_X5_lettersAhead {l : Launch} {E : EE} {b0 n : Nat} {h : AH} {a_t : Nat} {t_many t_place t_fault t_numberPlace : Int} {t_bytes : Nat → Int} (ao : AO b0 n [a_t, (a_t + 1)]) (hf : FA h [a_t, (a_t + 1)] [.inr (5, fsX5 a_t t_many t_place t_fault t_numberPlace), IA E 400 t_bytes]) (ok_t_many : inI t_many) (ok_t_place : inI t_place) (ok_t_bytes : okA t_bytes) {r : Int} (hm : m_X5_lettersAhead t_many t_place t_bytes = some r) : Ct l E b0 M_X5_lettersAhead 0 0 [.ref a_t] h n (some (vI r)) h n (inI r) := by
  rw [m_X5_lettersAhead] at hm
  have hg : G l E b0 M_X5_lettersAhead (fun _ => True) (ZM E b0 (some (vI r)) (ov [a_t, (a_t + 1)] [.inr (5, fsX5 a_t t_many t_place t_fault t_numberPlace), IA E 400 t_bytes] h) n (inI r) 0 0) 0 0 n (ov [a_t, (a_t + 1)] [.inr (5, fsX5 a_t t_many t_place t_fault t_numberPlace), IA E 400 t_bytes] h) 0 [some (.ref a_t), none] [] := by
    have hs := hm
    exact g_X5_lettersAhead_0 ao ok_t_many ok_t_place ok_t_bytes hs
  rw [FA_id hf] at hg
  exact Ct_of [some (.ref a_t), none] ⟨by decide +kernel, rfl⟩ rfl (Nat.le_of_ble_eq_true rfl) hg

/-! ===== X5_isFull ===== -/
theorem e_X5_isFull_0 : DC cX5_isFull 0 (.iload_n 1) 1 1 := ⟨by decide +kernel, rfl⟩
theorem e_X5_isFull_1 : DC cX5_isFull 1 (.tableswitch 98 0 5 #[39, 47, 55, 98, 63, 81]) 39 40 := ⟨by decide +kernel, rfl⟩
theorem e_X5_isFull_40 : DC cX5_isFull 40 (.aload_n 0) 1 41 := ⟨by decide +kernel, rfl⟩
theorem e_X5_isFull_41 : DC cX5_isFull 41 (.getfield 107) 3 44 := ⟨by decide +kernel, rfl⟩
theorem e_X5_isFull_44 : DC cX5_isFull 44 (.invokevirtual 111) 3 47 := ⟨by decide +kernel, rfl⟩
theorem e_X5_isFull_47 : DC cX5_isFull 47 (.ireturn) 1 48 := ⟨by decide +kernel, rfl⟩
theorem e_X5_isFull_48 : DC cX5_isFull 48 (.aload_n 0) 1 49 := ⟨by decide +kernel, rfl⟩
theorem e_X5_isFull_49 : DC cX5_isFull 49 (.getfield 116) 3 52 := ⟨by decide +kernel, rfl⟩
theorem e_X5_isFull_52 : DC cX5_isFull 52 (.invokevirtual 111) 3 55 := ⟨by decide +kernel, rfl⟩
theorem e_X5_isFull_55 : DC cX5_isFull 55 (.ireturn) 1 56 := ⟨by decide +kernel, rfl⟩
theorem e_X5_isFull_56 : DC cX5_isFull 56 (.aload_n 0) 1 57 := ⟨by decide +kernel, rfl⟩
theorem e_X5_isFull_57 : DC cX5_isFull 57 (.getfield 119) 3 60 := ⟨by decide +kernel, rfl⟩
theorem e_X5_isFull_60 : DC cX5_isFull 60 (.invokevirtual 111) 3 63 := ⟨by decide +kernel, rfl⟩
theorem e_X5_isFull_63 : DC cX5_isFull 63 (.ireturn) 1 64 := ⟨by decide +kernel, rfl⟩
theorem e_X5_isFull_64 : DC cX5_isFull 64 (.aload_n 0) 1 65 := ⟨by decide +kernel, rfl⟩
theorem e_X5_isFull_65 : DC cX5_isFull 65 (.getfield 49) 3 68 := ⟨by decide +kernel, rfl⟩
theorem e_X5_isFull_68 : DC cX5_isFull 68 (.getfield 122) 3 71 := ⟨by decide +kernel, rfl⟩
theorem e_X5_isFull_71 : DC cX5_isFull 71 (.bipush 20) 2 73 := ⟨by decide +kernel, rfl⟩
theorem e_X5_isFull_73 : DB cX5_isFull 73 (.if_icmp .lt 7) (7) 3 76 80 := ⟨by decide +kernel, rfl, rfl⟩
theorem e_X5_isFull_76 : DC cX5_isFull 76 (.iconst 1) 1 77 := ⟨by decide +kernel, rfl⟩
theorem e_X5_isFull_77 : DB cX5_isFull 77 (.goto 4) (4) 3 80 81 := ⟨by decide +kernel, rfl, rfl⟩
theorem e_X5_isFull_80 : DC cX5_isFull 80 (.iconst 0) 1 81 := ⟨by decide +kernel, rfl⟩
theorem e_X5_isFull_81 : DC cX5_isFull 81 (.ireturn) 1 82 := ⟨by decide +kernel, rfl⟩
theorem e_X5_isFull_82 : DC cX5_isFull 82 (.aload_n 0) 1 83 := ⟨by decide +kernel, rfl⟩
theorem e_X5_isFull_83 : DC cX5_isFull 83 (.getfield 49) 3 86 := ⟨by decide +kernel, rfl⟩
theorem e_X5_isFull_86 : DC cX5_isFull 86 (.getfield 125) 3 89 := ⟨by decide +kernel, rfl⟩
theorem e_X5_isFull_89 : DC cX5_isFull 89 (.iconst 5) 1 90 := ⟨by decide +kernel, rfl⟩
theorem e_X5_isFull_90 : DB cX5_isFull 90 (.if_icmp .lt 7) (7) 3 93 97 := ⟨by decide +kernel, rfl, rfl⟩
theorem e_X5_isFull_93 : DC cX5_isFull 93 (.iconst 1) 1 94 := ⟨by decide +kernel, rfl⟩
theorem e_X5_isFull_94 : DB cX5_isFull 94 (.goto 4) (4) 3 97 98 := ⟨by decide +kernel, rfl, rfl⟩
theorem e_X5_isFull_97 : DC cX5_isFull 97 (.iconst 0) 1 98 := ⟨by decide +kernel, rfl⟩
theorem e_X5_isFull_98 : DC cX5_isFull 98 (.ireturn) 1 99 := ⟨by decide +kernel, rfl⟩
theorem e_X5_isFull_99 : DC cX5_isFull 99 (.iconst 0) 1 100 := ⟨by decide +kernel, rfl⟩
theorem e_X5_isFull_100 : DC cX5_isFull 100 (.ireturn) 1 101 := ⟨by decide +kernel, rfl⟩
noncomputable def m_X5_isFull_0 (p0_steps_many : Int) (p0_planes_many : Int) (p0_eyes_many : Int) (p0_ground_speckMany : Int) (p0_ground_sourceMany : Int) (v1 : Int) : Option (Int) :=
  if v1 = 0 then ((m_X8_isFull 16 p0_steps_many).bind (fun y1 => some (y1))) else (if v1 = 1 then ((m_X8_isFull 16 p0_planes_many).bind (fun y2 => some (y2))) else (if v1 = 2 then ((m_X8_isFull 16 p0_eyes_many).bind (fun y3 => some (y3))) else (if v1 = 3 then (some (0)) else (if v1 = 4 then (if p0_ground_speckMany < 20 then (some (0)) else (some (1))) else (if v1 = 5 then (if p0_ground_sourceMany < 5 then (some (0)) else (some (1))) else (some (0)))))))

set_option maxRecDepth 10000 in
theorem g_X5_isFull_0 {l : Launch} {E : EE} {b0 n : Nat} {h : AH} {a_p0 : Nat} {p0_sightMany p0_steps_many p0_planes_many p0_eyes_many p0_ground_speckMany p0_ground_sourceMany p0_ground_baseTold p0_ground_baseLow p0_ground_baseHigh p0_ground_reach v1 : Int} {p0_steps_xs p0_planes_xs p0_eyes_xs : Nat → Int} {r : Int} (ao : AO b0 n [a_p0, (a_p0 + 1), (a_p0 + 2), (a_p0 + 5), (a_p0 + 6), (a_p0 + 9), (a_p0 + 10), (a_p0 + 13)]) (ok_p0_steps_many : inI p0_steps_many) (ok_p0_planes_many : inI p0_planes_many) (ok_p0_eyes_many : inI p0_eyes_many) (ok_p0_ground_speckMany : inI p0_ground_speckMany) (ok_p0_ground_sourceMany : inI p0_ground_sourceMany) (ok_v1 : inI v1) (hs : m_X5_isFull_0 p0_steps_many p0_planes_many p0_eyes_many p0_ground_speckMany p0_ground_sourceMany v1 = some r) : G l E b0 M_X5_isFull (fun _ => True) (ZM E b0 (some (vI r)) (ov [a_p0, (a_p0 + 1), (a_p0 + 2), (a_p0 + 5), (a_p0 + 6), (a_p0 + 9), (a_p0 + 10), (a_p0 + 13)] [.inr (1, fsX1 a_p0 p0_sightMany), .inr (8, fsX8 (a_p0 + 1) p0_steps_many), IA E 16 p0_steps_xs, .inr (8, fsX8 (a_p0 + 5) p0_planes_many), IA E 16 p0_planes_xs, .inr (8, fsX8 (a_p0 + 9) p0_eyes_many), IA E 16 p0_eyes_xs, .inr (3, fsX3 (a_p0 + 13) p0_ground_speckMany p0_ground_sourceMany p0_ground_baseTold p0_ground_baseLow p0_ground_baseHigh p0_ground_reach)] h) n (inZ r) 0 0) 0 0 n (ov [a_p0, (a_p0 + 1), (a_p0 + 2), (a_p0 + 5), (a_p0 + 6), (a_p0 + 9), (a_p0 + 10), (a_p0 + 13)] [.inr (1, fsX1 a_p0 p0_sightMany), .inr (8, fsX8 (a_p0 + 1) p0_steps_many), IA E 16 p0_steps_xs, .inr (8, fsX8 (a_p0 + 5) p0_planes_many), IA E 16 p0_planes_xs, .inr (8, fsX8 (a_p0 + 9) p0_eyes_many), IA E 16 p0_eyes_xs, .inr (3, fsX3 (a_p0 + 13) p0_ground_speckMany p0_ground_sourceMany p0_ground_baseTold p0_ground_baseLow p0_ground_baseHigh p0_ground_reach)] h) 0 [some (.ref a_p0), some (vI v1)] [] := by
  rw [m_X5_isFull_0] at hs
  refine g_iload_n e_X5_isFull_0 rfl ?_
  by_cases c1_0 : v1 = 0
  · rw [if_pos c1_0] at hs
    refine g_tableIn (off := 39) (tgt := 40) e_X5_isFull_1 ok_v1 (by rw [c1_0]; decide) (by rw [c1_0]; decide) (by rw [c1_0]; rfl) rfl ?_
    refine g_aload_n e_X5_isFull_40 rfl ?_
    refine g_get 0 0 ao rfl rfl fsX1_g0 fl_X5_107 e_X5_isFull_41 ?_
    obtain ⟨y1, hy1, hs⟩ := bind_elim hs
    refine g_callVr [] cv_X5_111 ⟨rfl, rfl, Nat.le_of_ble_eq_true rfl, Nat.le_of_ble_eq_true rfl⟩ (ct_X8_isFull (AO_call [1, 2] ao (by decide) rfl) (by omega) (FA_call [1, 2] ao.1 rfl rfl) ok_p0_steps_many hy1) e_X5_isFull_44 (ao.2 1 _ rfl) (ov_get 1 ao.1 rfl rfl) rfl rfl rfl (Nat.le_of_ble_eq_true rfl) ⟨Nat.le_refl _, Nat.le_refl _⟩ (fun Py1 => ?_)
    obtain rfl := Option.some.inj hs
    exact g_zret rfl Py1 Py1 e_X5_isFull_47
  · rw [if_neg c1_0] at hs
    by_cases c1_1 : v1 = 1
    · rw [if_pos c1_1] at hs
      refine g_tableIn (off := 47) (tgt := 48) e_X5_isFull_1 ok_v1 (by rw [c1_1]; decide) (by rw [c1_1]; decide) (by rw [c1_1]; rfl) rfl ?_
      refine g_aload_n e_X5_isFull_48 rfl ?_
      refine g_get 0 1 ao rfl rfl fsX1_g1 fl_X5_116 e_X5_isFull_49 ?_
      obtain ⟨y2, hy2, hs⟩ := bind_elim hs
      refine g_callVr [] cv_X5_111 ⟨rfl, rfl, Nat.le_of_ble_eq_true rfl, Nat.le_of_ble_eq_true rfl⟩ (ct_X8_isFull (AO_call [3, 4] ao (by decide) rfl) (by omega) (FA_call [3, 4] ao.1 rfl rfl) ok_p0_planes_many hy2) e_X5_isFull_52 (ao.2 3 _ rfl) (ov_get 3 ao.1 rfl rfl) rfl rfl rfl (Nat.le_of_ble_eq_true rfl) ⟨Nat.le_refl _, Nat.le_refl _⟩ (fun Py2 => ?_)
      obtain rfl := Option.some.inj hs
      exact g_zret rfl Py2 Py2 e_X5_isFull_55
    · rw [if_neg c1_1] at hs
      by_cases c1_2 : v1 = 2
      · rw [if_pos c1_2] at hs
        refine g_tableIn (off := 55) (tgt := 56) e_X5_isFull_1 ok_v1 (by rw [c1_2]; decide) (by rw [c1_2]; decide) (by rw [c1_2]; rfl) rfl ?_
        refine g_aload_n e_X5_isFull_56 rfl ?_
        refine g_get 0 2 ao rfl rfl fsX1_g2 fl_X5_119 e_X5_isFull_57 ?_
        obtain ⟨y3, hy3, hs⟩ := bind_elim hs
        refine g_callVr [] cv_X5_111 ⟨rfl, rfl, Nat.le_of_ble_eq_true rfl, Nat.le_of_ble_eq_true rfl⟩ (ct_X8_isFull (AO_call [5, 6] ao (by decide) rfl) (by omega) (FA_call [5, 6] ao.1 rfl rfl) ok_p0_eyes_many hy3) e_X5_isFull_60 (ao.2 5 _ rfl) (ov_get 5 ao.1 rfl rfl) rfl rfl rfl (Nat.le_of_ble_eq_true rfl) ⟨Nat.le_refl _, Nat.le_refl _⟩ (fun Py3 => ?_)
        obtain rfl := Option.some.inj hs
        exact g_zret rfl Py3 Py3 e_X5_isFull_63
      · rw [if_neg c1_2] at hs
        by_cases c1_3 : v1 = 3
        · rw [if_pos c1_3] at hs
          refine g_tableIn (off := 98) (tgt := 99) e_X5_isFull_1 ok_v1 (by rw [c1_3]; decide) (by rw [c1_3]; decide) (by rw [c1_3]; rfl) rfl ?_
          refine g_iconst e_X5_isFull_99 ?_
          obtain rfl := Option.some.inj hs
          exact g_zret rfl (by decide : inZ 0) (by decide : inZ 0) e_X5_isFull_100
        · rw [if_neg c1_3] at hs
          by_cases c1_4 : v1 = 4
          · rw [if_pos c1_4] at hs
            refine g_tableIn (off := 63) (tgt := 64) e_X5_isFull_1 ok_v1 (by rw [c1_4]; decide) (by rw [c1_4]; decide) (by rw [c1_4]; rfl) rfl ?_
            refine g_aload_n e_X5_isFull_64 rfl ?_
            refine g_get 0 3 ao rfl rfl fsX1_g3 fl_X5_49 e_X5_isFull_65 ?_
            refine g_get 7 8 ao rfl rfl fsX3_g8 fl_X5_122 e_X5_isFull_68 ?_
            refine g_bipush e_X5_isFull_71 bp_20 ?_
            refine g_icmp_lt e_X5_isFull_73 ok_p0_ground_speckMany (by decide : inI 20) hs (fun c73 hs => ?_) (fun c73 hs => ?_)
            · refine g_iconst e_X5_isFull_80 ?_
              obtain rfl := Option.some.inj hs
              exact g_zret rfl (by decide : inZ 0) (by decide : inZ 0) e_X5_isFull_81
            · refine g_iconst e_X5_isFull_76 ?_
              refine g_goto e_X5_isFull_77 ?_
              obtain rfl := Option.some.inj hs
              exact g_zret rfl (by decide : inZ 1) (by decide : inZ 1) e_X5_isFull_81
          · rw [if_neg c1_4] at hs
            by_cases c1_5 : v1 = 5
            · rw [if_pos c1_5] at hs
              refine g_tableIn (off := 81) (tgt := 82) e_X5_isFull_1 ok_v1 (by rw [c1_5]; decide) (by rw [c1_5]; decide) (by rw [c1_5]; rfl) rfl ?_
              refine g_aload_n e_X5_isFull_82 rfl ?_
              refine g_get 0 3 ao rfl rfl fsX1_g3 fl_X5_49 e_X5_isFull_83 ?_
              refine g_get 7 9 ao rfl rfl fsX3_g9 fl_X5_125 e_X5_isFull_86 ?_
              refine g_iconst e_X5_isFull_89 ?_
              refine g_icmp_lt e_X5_isFull_90 ok_p0_ground_sourceMany (by decide : inI 5) hs (fun c90 hs => ?_) (fun c90 hs => ?_)
              · refine g_iconst e_X5_isFull_97 ?_
                obtain rfl := Option.some.inj hs
                exact g_zret rfl (by decide : inZ 0) (by decide : inZ 0) e_X5_isFull_98
              · refine g_iconst e_X5_isFull_93 ?_
                refine g_goto e_X5_isFull_94 ?_
                obtain rfl := Option.some.inj hs
                exact g_zret rfl (by decide : inZ 1) (by decide : inZ 1) e_X5_isFull_98
            · rw [if_neg c1_5] at hs
              refine g_tableOut (tgt := 99) e_X5_isFull_1 ok_v1 (by omega) rfl ?_
              refine g_iconst e_X5_isFull_99 ?_
              obtain rfl := Option.some.inj hs
              exact g_zret rfl (by decide : inZ 0) (by decide : inZ 0) e_X5_isFull_100

noncomputable def m_X5_isFull (p0_steps_many : Int) (p0_planes_many : Int) (p0_eyes_many : Int) (p0_ground_speckMany : Int) (p0_ground_sourceMany : Int) (v1 : Int) : Option (Int) := m_X5_isFull_0 p0_steps_many p0_planes_many p0_eyes_many p0_ground_speckMany p0_ground_sourceMany v1

set_option maxRecDepth 10000 in
theorem ct_X5_isFull {l : Launch} {E : EE} {b0 n : Nat} {h : AH} {a_p0 : Nat} {p0_sightMany p0_steps_many p0_planes_many p0_eyes_many p0_ground_speckMany p0_ground_sourceMany p0_ground_baseTold p0_ground_baseLow p0_ground_baseHigh p0_ground_reach : Int} {p0_steps_xs p0_planes_xs p0_eyes_xs : Nat → Int} {v1 : Int} (ao : AO b0 n [a_p0, (a_p0 + 1), (a_p0 + 2), (a_p0 + 5), (a_p0 + 6), (a_p0 + 9), (a_p0 + 10), (a_p0 + 13)]) (hf : FA h [a_p0, (a_p0 + 1), (a_p0 + 2), (a_p0 + 5), (a_p0 + 6), (a_p0 + 9), (a_p0 + 10), (a_p0 + 13)] [.inr (1, fsX1 a_p0 p0_sightMany), .inr (8, fsX8 (a_p0 + 1) p0_steps_many), IA E 16 p0_steps_xs, .inr (8, fsX8 (a_p0 + 5) p0_planes_many), IA E 16 p0_planes_xs, .inr (8, fsX8 (a_p0 + 9) p0_eyes_many), IA E 16 p0_eyes_xs, .inr (3, fsX3 (a_p0 + 13) p0_ground_speckMany p0_ground_sourceMany p0_ground_baseTold p0_ground_baseLow p0_ground_baseHigh p0_ground_reach)]) (ok_p0_steps_many : inI p0_steps_many) (ok_p0_planes_many : inI p0_planes_many) (ok_p0_eyes_many : inI p0_eyes_many) (ok_p0_ground_speckMany : inI p0_ground_speckMany) (ok_p0_ground_sourceMany : inI p0_ground_sourceMany) (ok_v1 : inI v1) {r : Int} (hm : m_X5_isFull p0_steps_many p0_planes_many p0_eyes_many p0_ground_speckMany p0_ground_sourceMany v1 = some r) : Ct l E b0 M_X5_isFull 0 0 [.ref a_p0, vI v1] h n (some (vI r)) h n (inZ r) := by
  rw [m_X5_isFull] at hm
  have hg : G l E b0 M_X5_isFull (fun _ => True) (ZM E b0 (some (vI r)) (ov [a_p0, (a_p0 + 1), (a_p0 + 2), (a_p0 + 5), (a_p0 + 6), (a_p0 + 9), (a_p0 + 10), (a_p0 + 13)] [.inr (1, fsX1 a_p0 p0_sightMany), .inr (8, fsX8 (a_p0 + 1) p0_steps_many), IA E 16 p0_steps_xs, .inr (8, fsX8 (a_p0 + 5) p0_planes_many), IA E 16 p0_planes_xs, .inr (8, fsX8 (a_p0 + 9) p0_eyes_many), IA E 16 p0_eyes_xs, .inr (3, fsX3 (a_p0 + 13) p0_ground_speckMany p0_ground_sourceMany p0_ground_baseTold p0_ground_baseLow p0_ground_baseHigh p0_ground_reach)] h) n (inZ r) 0 0) 0 0 n (ov [a_p0, (a_p0 + 1), (a_p0 + 2), (a_p0 + 5), (a_p0 + 6), (a_p0 + 9), (a_p0 + 10), (a_p0 + 13)] [.inr (1, fsX1 a_p0 p0_sightMany), .inr (8, fsX8 (a_p0 + 1) p0_steps_many), IA E 16 p0_steps_xs, .inr (8, fsX8 (a_p0 + 5) p0_planes_many), IA E 16 p0_planes_xs, .inr (8, fsX8 (a_p0 + 9) p0_eyes_many), IA E 16 p0_eyes_xs, .inr (3, fsX3 (a_p0 + 13) p0_ground_speckMany p0_ground_sourceMany p0_ground_baseTold p0_ground_baseLow p0_ground_baseHigh p0_ground_reach)] h) 0 [some (.ref a_p0), some (vI v1)] [] := by
    have hs := hm
    exact g_X5_isFull_0 ao ok_p0_steps_many ok_p0_planes_many ok_p0_eyes_many ok_p0_ground_speckMany ok_p0_ground_sourceMany ok_v1 hs
  rw [FA_id hf] at hg
  exact Ct_of [some (.ref a_p0), some (vI v1)] ⟨by decide +kernel, rfl⟩ rfl (Nat.le_of_ble_eq_true rfl) hg

/-! ===== X5_skipBlanks ===== -/
theorem e_X5_skipBlanks_0 : DC cX5_skipBlanks 0 (.aload_n 0) 1 1 := ⟨by decide +kernel, rfl⟩
theorem e_X5_skipBlanks_1 : DC cX5_skipBlanks 1 (.getfield 28) 3 4 := ⟨by decide +kernel, rfl⟩
theorem e_X5_skipBlanks_4 : DC cX5_skipBlanks 4 (.aload_n 0) 1 5 := ⟨by decide +kernel, rfl⟩
theorem e_X5_skipBlanks_5 : DC cX5_skipBlanks 5 (.getfield 15) 3 8 := ⟨by decide +kernel, rfl⟩
theorem e_X5_skipBlanks_8 : DB cX5_skipBlanks 8 (.if_icmp .ge 29) (29) 3 11 37 := ⟨by decide +kernel, rfl, rfl⟩
theorem e_X5_skipBlanks_11 : DC cX5_skipBlanks 11 (.aload_n 0) 1 12 := ⟨by decide +kernel, rfl⟩
theorem e_X5_skipBlanks_12 : DC cX5_skipBlanks 12 (.aload_n 0) 1 13 := ⟨by decide +kernel, rfl⟩
theorem e_X5_skipBlanks_13 : DC cX5_skipBlanks 13 (.getfield 28) 3 16 := ⟨by decide +kernel, rfl⟩
theorem e_X5_skipBlanks_16 : DC cX5_skipBlanks 16 (.invokevirtual 41) 3 19 := ⟨by decide +kernel, rfl⟩
theorem e_X5_skipBlanks_19 : DC cX5_skipBlanks 19 (.bipush 32) 2 21 := ⟨by decide +kernel, rfl⟩
theorem e_X5_skipBlanks_21 : DB cX5_skipBlanks 21 (.if_icmp .ne 16) (16) 3 24 37 := ⟨by decide +kernel, rfl, rfl⟩
theorem e_X5_skipBlanks_24 : DC cX5_skipBlanks 24 (.aload_n 0) 1 25 := ⟨by decide +kernel, rfl⟩
theorem e_X5_skipBlanks_25 : DC cX5_skipBlanks 25 (.dup) 1 26 := ⟨by decide +kernel, rfl⟩
theorem e_X5_skipBlanks_26 : DC cX5_skipBlanks 26 (.getfield 28) 3 29 := ⟨by decide +kernel, rfl⟩
theorem e_X5_skipBlanks_29 : DC cX5_skipBlanks 29 (.iconst 1) 1 30 := ⟨by decide +kernel, rfl⟩
theorem e_X5_skipBlanks_30 : DC cX5_skipBlanks 30 (.iadd) 1 31 := ⟨by decide +kernel, rfl⟩
theorem e_X5_skipBlanks_31 : DC cX5_skipBlanks 31 (.putfield 28) 3 34 := ⟨by decide +kernel, rfl⟩
theorem e_X5_skipBlanks_34 : DB cX5_skipBlanks 34 (.goto (-34)) (-34) 3 37 0 := ⟨by decide +kernel, rfl, rfl⟩
theorem e_X5_skipBlanks_37 : DC cX5_skipBlanks 37 (.return_) 1 38 := ⟨by decide +kernel, rfl⟩
noncomputable def m_X5_skipBlanks_0 (t_many : Int) (t_bytes : Nat → Int) (k_37 : Int → Option (Int)) : Nat → Int → Option (Int)
  | 0, _ => none
  | F + 1, t_place => if t_many ≤ t_place then (some (t_place)) else ((m_X5_byteAt t_many t_bytes t_place).bind (fun y1 => if y1 = 32 then (chk (inI (t_place + 1)) (m_X5_skipBlanks_0 t_many t_bytes k_37 F (t_place + 1))) else (some (t_place))))

set_option maxRecDepth 10000 in
theorem g_X5_skipBlanks_0 {l : Launch} {E : EE} {b0 n : Nat} {h : AH} {a_t : Nat} {t_many t_fault t_numberPlace : Int} {t_bytes : Nat → Int} {r : Int} {k_37 : Int → Option (Int)} (ao : AO b0 n [a_t, (a_t + 1)]) (ok_t_many : inI t_many) (ok_t_bytes : okA t_bytes) (hk_37 : ∀ (t_place_ : Int), inI t_place_ → k_37 t_place_ = some r → G l E b0 M_X5_skipBlanks (fun _ => True) (ZM E b0 (none) (ov [a_t, (a_t + 1)] [.inr (5, fsX5 a_t t_many r t_fault t_numberPlace), IA E 400 t_bytes] h) n (inI r) 0 0) 0 0 n (ov [a_t, (a_t + 1)] [.inr (5, fsX5 a_t t_many t_place_ t_fault t_numberPlace), IA E 400 t_bytes] h) 37 [none] []) :
    ∀ (F : Nat) (t_place : Int), inI t_place → m_X5_skipBlanks_0 t_many t_bytes k_37 F t_place = some r → G l E b0 M_X5_skipBlanks (fun _ => True) (ZM E b0 (none) (ov [a_t, (a_t + 1)] [.inr (5, fsX5 a_t t_many r t_fault t_numberPlace), IA E 400 t_bytes] h) n (inI r) 0 0) 0 0 n (ov [a_t, (a_t + 1)] [.inr (5, fsX5 a_t t_many t_place t_fault t_numberPlace), IA E 400 t_bytes] h) 0 [some (.ref a_t)] [] := by
  intro F
  induction F with
  | zero =>
    intro t_place ok_t_place hs
    rw [m_X5_skipBlanks_0] at hs
    cases hs
  | succ F ih =>
    intro t_place ok_t_place hs
    rw [m_X5_skipBlanks_0] at hs
    refine g_aload_n e_X5_skipBlanks_0 rfl ?_
    refine g_get 0 2 ao rfl rfl fsX5_g2 fl_X5_28 e_X5_skipBlanks_1 ?_
    refine g_aload_n e_X5_skipBlanks_4 rfl ?_
    refine g_get 0 1 ao rfl rfl fsX5_g1 fl_X5_15 e_X5_skipBlanks_5 ?_
    refine g_icmp_ge e_X5_skipBlanks_8 ok_t_place ok_t_many hs (fun c8 hs => ?_) (fun c8 hs => ?_)
    · obtain rfl := Option.some.inj hs
      exact g_vret rfl ok_t_place e_X5_skipBlanks_37
    · refine g_aload_n e_X5_skipBlanks_11 rfl ?_
      refine g_aload_n e_X5_skipBlanks_12 rfl ?_
      refine g_get 0 2 ao rfl rfl fsX5_g2 fl_X5_28 e_X5_skipBlanks_13 ?_
      obtain ⟨y1, hy1, hs⟩ := bind_elim hs
      refine g_callVr [vI t_place] cv_X5_41 ⟨rfl, rfl, Nat.le_of_ble_eq_true rfl, Nat.le_of_ble_eq_true rfl⟩ (ct_X5_byteAt (AO_call [0, 1] ao (by decide) rfl) (FA_call [0, 1] ao.1 rfl rfl) ok_t_many ok_t_bytes ok_t_place hy1) e_X5_skipBlanks_16 (ao.2 0 _ rfl) (ov_get 0 ao.1 rfl rfl) rfl rfl rfl (Nat.le_of_ble_eq_true rfl) ⟨Nat.le_refl _, Nat.le_refl _⟩ (fun Py1 => ?_)
      refine g_bipush e_X5_skipBlanks_19 bp_32 ?_
      refine g_icmp_ne e_X5_skipBlanks_21 Py1 (by decide : inI 32) hs (fun c21 hs => ?_) (fun c21 hs => ?_)
      · refine g_aload_n e_X5_skipBlanks_24 rfl ?_
        refine g_dup e_X5_skipBlanks_25 rfl ?_
        refine g_get 0 2 ao rfl rfl fsX5_g2 fl_X5_28 e_X5_skipBlanks_26 ?_
        refine g_iconst e_X5_skipBlanks_29 ?_
        refine g_iadd e_X5_skipBlanks_30 ?_
        obtain ⟨hc2, hs⟩ := chk_elim hs
        refine g_put 0 2 ao rfl rfl fsX5_k2 fsX5_s2 ls_0 fw_X5_28 (fun h => by cases h) ⟨rfl, rfl⟩ e_X5_skipBlanks_31 ?_
        refine g_goto e_X5_skipBlanks_34 ?_
        exact ih _ hc2 hs
      · obtain rfl := Option.some.inj hs
        exact g_vret rfl ok_t_place e_X5_skipBlanks_37

noncomputable def m_X5_skipBlanks_37 (t_place : Int) : Option (Int) :=
  some (t_place)

set_option maxRecDepth 10000 in
theorem g_X5_skipBlanks_37 {l : Launch} {E : EE} {b0 n : Nat} {h : AH} {a_t : Nat} {t_many t_place t_fault t_numberPlace : Int} {t_bytes : Nat → Int} {r : Int} (ao : AO b0 n [a_t, (a_t + 1)]) (ok_t_many : inI t_many) (ok_t_place : inI t_place) (ok_t_bytes : okA t_bytes) (hs : m_X5_skipBlanks_37 t_place = some r) : G l E b0 M_X5_skipBlanks (fun _ => True) (ZM E b0 (none) (ov [a_t, (a_t + 1)] [.inr (5, fsX5 a_t t_many r t_fault t_numberPlace), IA E 400 t_bytes] h) n (inI r) 0 0) 0 0 n (ov [a_t, (a_t + 1)] [.inr (5, fsX5 a_t t_many t_place t_fault t_numberPlace), IA E 400 t_bytes] h) 37 [none] [] := by
  rw [m_X5_skipBlanks_37] at hs
  obtain rfl := Option.some.inj hs
  exact g_vret rfl ok_t_place e_X5_skipBlanks_37

noncomputable def m_X5_skipBlanks (t_many : Int) (t_place : Int) (t_bytes : Nat → Int) : Option (Int) := m_X5_skipBlanks_0 t_many t_bytes (fun t_place' => m_X5_skipBlanks_37 t_place') FU t_place

set_option maxRecDepth 10000 in
theorem ct_X5_skipBlanks {l : Launch} {E : EE} {b0 n : Nat} {h : AH} {a_t : Nat} {t_many t_place t_fault t_numberPlace : Int} {t_bytes : Nat → Int} (ao : AO b0 n [a_t, (a_t + 1)]) (hf : FA h [a_t, (a_t + 1)] [.inr (5, fsX5 a_t t_many t_place t_fault t_numberPlace), IA E 400 t_bytes]) (ok_t_many : inI t_many) (ok_t_place : inI t_place) (ok_t_bytes : okA t_bytes) {r : Int} (hm : m_X5_skipBlanks t_many t_place t_bytes = some r) : Ct l E b0 M_X5_skipBlanks 0 0 [.ref a_t] h n (none) (ov [a_t, (a_t + 1)] [.inr (5, fsX5 a_t t_many r t_fault t_numberPlace), IA E 400 t_bytes] h) n (inI r) := by
  rw [m_X5_skipBlanks] at hm
  have hg : G l E b0 M_X5_skipBlanks (fun _ => True) (ZM E b0 (none) (ov [a_t, (a_t + 1)] [.inr (5, fsX5 a_t t_many r t_fault t_numberPlace), IA E 400 t_bytes] h) n (inI r) 0 0) 0 0 n (ov [a_t, (a_t + 1)] [.inr (5, fsX5 a_t t_many t_place t_fault t_numberPlace), IA E 400 t_bytes] h) 0 [some (.ref a_t)] [] := by
    have hs := hm
    exact g_X5_skipBlanks_0 ao ok_t_many ok_t_bytes (hk_37 := by
      intro t_place' ok_t_place' hs
      exact g_X5_skipBlanks_37 ao ok_t_many ok_t_place' ok_t_bytes hs) FU _ ok_t_place hs
  rw [FA_id hf] at hg
  exact Ct_of [some (.ref a_t)] ⟨by decide +kernel, rfl⟩ rfl (Nat.le_of_ble_eq_true rfl) hg

/-! ===== X5_number ===== -/
theorem e_X5_number_0 : DC cX5_number 0 (.aload_n 0) 1 1 := ⟨by decide +kernel, rfl⟩
theorem e_X5_number_1 : DC cX5_number 1 (.aload_n 0) 1 2 := ⟨by decide +kernel, rfl⟩
theorem e_X5_number_2 : DC cX5_number 2 (.getfield 28) 3 5 := ⟨by decide +kernel, rfl⟩
theorem e_X5_number_5 : DC cX5_number 5 (.invokevirtual 41) 3 8 := ⟨by decide +kernel, rfl⟩
theorem e_X5_number_8 : DC cX5_number 8 (.bipush 32) 2 10 := ⟨by decide +kernel, rfl⟩
theorem e_X5_number_10 : DB cX5_number 10 (.if_icmp .eq 12) (12) 3 13 22 := ⟨by decide +kernel, rfl, rfl⟩
theorem e_X5_number_13 : DC cX5_number 13 (.aload_n 0) 1 14 := ⟨by decide +kernel, rfl⟩
theorem e_X5_number_14 : DC cX5_number 14 (.aload_n 0) 1 15 := ⟨by decide +kernel, rfl⟩
theorem e_X5_number_15 : DC cX5_number 15 (.getfield 28) 3 18 := ⟨by decide +kernel, rfl⟩
theorem e_X5_number_18 : DC cX5_number 18 (.iconst 0) 1 19 := ⟨by decide +kernel, rfl⟩
theorem e_X5_number_19 : DC cX5_number 19 (.invokevirtual 45) 3 22 := ⟨by decide +kernel, rfl⟩
theorem e_X5_number_22 : DC cX5_number 22 (.aload_n 0) 1 23 := ⟨by decide +kernel, rfl⟩
theorem e_X5_number_23 : DC cX5_number 23 (.invokevirtual 34) 3 26 := ⟨by decide +kernel, rfl⟩
theorem e_X5_number_26 : DC cX5_number 26 (.aload_n 0) 1 27 := ⟨by decide +kernel, rfl⟩
theorem e_X5_number_27 : DC cX5_number 27 (.getfield 31) 3 30 := ⟨by decide +kernel, rfl⟩
theorem e_X5_number_30 : DB cX5_number 30 (.ifCond .eq 5) (5) 3 33 35 := ⟨by decide +kernel, rfl, rfl⟩
theorem e_X5_number_33 : DC cX5_number 33 (.iconst 0) 1 34 := ⟨by decide +kernel, rfl⟩
theorem e_X5_number_34 : DC cX5_number 34 (.ireturn) 1 35 := ⟨by decide +kernel, rfl⟩
theorem e_X5_number_35 : DC cX5_number 35 (.aload_n 0) 1 36 := ⟨by decide +kernel, rfl⟩
theorem e_X5_number_36 : DC cX5_number 36 (.aload_n 0) 1 37 := ⟨by decide +kernel, rfl⟩
theorem e_X5_number_37 : DC cX5_number 37 (.getfield 28) 3 40 := ⟨by decide +kernel, rfl⟩
theorem e_X5_number_40 : DC cX5_number 40 (.putfield 149) 3 43 := ⟨by decide +kernel, rfl⟩
theorem e_X5_number_43 : DC cX5_number 43 (.aload_n 0) 1 44 := ⟨by decide +kernel, rfl⟩
theorem e_X5_number_44 : DC cX5_number 44 (.aload_n 0) 1 45 := ⟨by decide +kernel, rfl⟩
theorem e_X5_number_45 : DC cX5_number 45 (.getfield 28) 3 48 := ⟨by decide +kernel, rfl⟩
theorem e_X5_number_48 : DC cX5_number 48 (.invokevirtual 41) 3 51 := ⟨by decide +kernel, rfl⟩
theorem e_X5_number_51 : DC cX5_number 51 (.bipush 45) 2 53 := ⟨by decide +kernel, rfl⟩
theorem e_X5_number_53 : DB cX5_number 53 (.if_icmp .ne 7) (7) 3 56 60 := ⟨by decide +kernel, rfl, rfl⟩
theorem e_X5_number_56 : DC cX5_number 56 (.iconst 1) 1 57 := ⟨by decide +kernel, rfl⟩
theorem e_X5_number_57 : DB cX5_number 57 (.goto 4) (4) 3 60 61 := ⟨by decide +kernel, rfl, rfl⟩
theorem e_X5_number_60 : DC cX5_number 60 (.iconst 0) 1 61 := ⟨by decide +kernel, rfl⟩
theorem e_X5_number_61 : DC cX5_number 61 (.istore_n 3) 1 62 := ⟨by decide +kernel, rfl⟩
theorem e_X5_number_62 : DC cX5_number 62 (.iload_n 3) 1 63 := ⟨by decide +kernel, rfl⟩
theorem e_X5_number_63 : DB cX5_number 63 (.ifCond .eq 13) (13) 3 66 76 := ⟨by decide +kernel, rfl, rfl⟩
theorem e_X5_number_66 : DC cX5_number 66 (.aload_n 0) 1 67 := ⟨by decide +kernel, rfl⟩
theorem e_X5_number_67 : DC cX5_number 67 (.dup) 1 68 := ⟨by decide +kernel, rfl⟩
theorem e_X5_number_68 : DC cX5_number 68 (.getfield 28) 3 71 := ⟨by decide +kernel, rfl⟩
theorem e_X5_number_71 : DC cX5_number 71 (.iconst 1) 1 72 := ⟨by decide +kernel, rfl⟩
theorem e_X5_number_72 : DC cX5_number 72 (.iadd) 1 73 := ⟨by decide +kernel, rfl⟩
theorem e_X5_number_73 : DC cX5_number 73 (.putfield 28) 3 76 := ⟨by decide +kernel, rfl⟩
theorem e_X5_number_76 : DC cX5_number 76 (.aload_n 0) 1 77 := ⟨by decide +kernel, rfl⟩
theorem e_X5_number_77 : DC cX5_number 77 (.aload_n 0) 1 78 := ⟨by decide +kernel, rfl⟩
theorem e_X5_number_78 : DC cX5_number 78 (.getfield 28) 3 81 := ⟨by decide +kernel, rfl⟩
theorem e_X5_number_81 : DC cX5_number 81 (.invokevirtual 41) 3 84 := ⟨by decide +kernel, rfl⟩
theorem e_X5_number_84 : DC cX5_number 84 (.invokestatic 177) 3 87 := ⟨by decide +kernel, rfl⟩
theorem e_X5_number_87 : DB cX5_number 87 (.ifCond .ne 12) (12) 3 90 99 := ⟨by decide +kernel, rfl, rfl⟩
theorem e_X5_number_90 : DC cX5_number 90 (.aload_n 0) 1 91 := ⟨by decide +kernel, rfl⟩
theorem e_X5_number_91 : DC cX5_number 91 (.aload_n 0) 1 92 := ⟨by decide +kernel, rfl⟩
theorem e_X5_number_92 : DC cX5_number 92 (.getfield 28) 3 95 := ⟨by decide +kernel, rfl⟩
theorem e_X5_number_95 : DC cX5_number 95 (.iconst 0) 1 96 := ⟨by decide +kernel, rfl⟩
theorem e_X5_number_96 : DC cX5_number 96 (.invokevirtual 45) 3 99 := ⟨by decide +kernel, rfl⟩
theorem e_X5_number_99 : DC cX5_number 99 (.iconst 0) 1 100 := ⟨by decide +kernel, rfl⟩
theorem e_X5_number_100 : DC cX5_number 100 (.istore 4) 2 102 := ⟨by decide +kernel, rfl⟩
theorem e_X5_number_102 : DC cX5_number 102 (.iconst 0) 1 103 := ⟨by decide +kernel, rfl⟩
theorem e_X5_number_103 : DC cX5_number 103 (.istore 5) 2 105 := ⟨by decide +kernel, rfl⟩
theorem e_X5_number_105 : DC cX5_number 105 (.aload_n 0) 1 106 := ⟨by decide +kernel, rfl⟩
theorem e_X5_number_106 : DC cX5_number 106 (.aload_n 0) 1 107 := ⟨by decide +kernel, rfl⟩
theorem e_X5_number_107 : DC cX5_number 107 (.getfield 28) 3 110 := ⟨by decide +kernel, rfl⟩
theorem e_X5_number_110 : DC cX5_number 110 (.invokevirtual 41) 3 113 := ⟨by decide +kernel, rfl⟩
theorem e_X5_number_113 : DC cX5_number 113 (.invokestatic 177) 3 116 := ⟨by decide +kernel, rfl⟩
theorem e_X5_number_116 : DB cX5_number 116 (.ifCond .eq 57) (57) 3 119 173 := ⟨by decide +kernel, rfl, rfl⟩
theorem e_X5_number_119 : DC cX5_number 119 (.iload 5) 2 121 := ⟨by decide +kernel, rfl⟩
theorem e_X5_number_121 : DC cX5_number 121 (.sipush 400) 3 124 := ⟨by decide +kernel, rfl⟩
theorem e_X5_number_124 : DB cX5_number 124 (.if_icmp .ge 49) (49) 3 127 173 := ⟨by decide +kernel, rfl, rfl⟩
theorem e_X5_number_127 : DC cX5_number 127 (.iload 5) 2 129 := ⟨by decide +kernel, rfl⟩
theorem e_X5_number_129 : DC cX5_number 129 (.iconst 4) 1 130 := ⟨by decide +kernel, rfl⟩
theorem e_X5_number_130 : DB cX5_number 130 (.if_icmp .ge 23) (23) 3 133 153 := ⟨by decide +kernel, rfl, rfl⟩
theorem e_X5_number_133 : DC cX5_number 133 (.iload 4) 2 135 := ⟨by decide +kernel, rfl⟩
theorem e_X5_number_135 : DC cX5_number 135 (.bipush 10) 2 137 := ⟨by decide +kernel, rfl⟩
theorem e_X5_number_137 : DC cX5_number 137 (.imul) 1 138 := ⟨by decide +kernel, rfl⟩
theorem e_X5_number_138 : DC cX5_number 138 (.aload_n 0) 1 139 := ⟨by decide +kernel, rfl⟩
theorem e_X5_number_139 : DC cX5_number 139 (.aload_n 0) 1 140 := ⟨by decide +kernel, rfl⟩
theorem e_X5_number_140 : DC cX5_number 140 (.getfield 28) 3 143 := ⟨by decide +kernel, rfl⟩
theorem e_X5_number_143 : DC cX5_number 143 (.invokevirtual 41) 3 146 := ⟨by decide +kernel, rfl⟩
theorem e_X5_number_146 : DC cX5_number 146 (.iadd) 1 147 := ⟨by decide +kernel, rfl⟩
theorem e_X5_number_147 : DC cX5_number 147 (.bipush 48) 2 149 := ⟨by decide +kernel, rfl⟩
theorem e_X5_number_149 : DC cX5_number 149 (.isub) 1 150 := ⟨by decide +kernel, rfl⟩
theorem e_X5_number_150 : DB cX5_number 150 (.goto 5) (5) 3 153 155 := ⟨by decide +kernel, rfl, rfl⟩
theorem e_X5_number_153 : DC cX5_number 153 (.iload 4) 2 155 := ⟨by decide +kernel, rfl⟩
theorem e_X5_number_155 : DC cX5_number 155 (.istore 4) 2 157 := ⟨by decide +kernel, rfl⟩
theorem e_X5_number_157 : DC cX5_number 157 (.iinc 5 1) 3 160 := ⟨by decide +kernel, rfl⟩
theorem e_X5_number_160 : DC cX5_number 160 (.aload_n 0) 1 161 := ⟨by decide +kernel, rfl⟩
theorem e_X5_number_161 : DC cX5_number 161 (.dup) 1 162 := ⟨by decide +kernel, rfl⟩
theorem e_X5_number_162 : DC cX5_number 162 (.getfield 28) 3 165 := ⟨by decide +kernel, rfl⟩
theorem e_X5_number_165 : DC cX5_number 165 (.iconst 1) 1 166 := ⟨by decide +kernel, rfl⟩
theorem e_X5_number_166 : DC cX5_number 166 (.iadd) 1 167 := ⟨by decide +kernel, rfl⟩
theorem e_X5_number_167 : DC cX5_number 167 (.putfield 28) 3 170 := ⟨by decide +kernel, rfl⟩
theorem e_X5_number_170 : DB cX5_number 170 (.goto (-65)) (-65) 3 173 105 := ⟨by decide +kernel, rfl, rfl⟩
theorem e_X5_number_173 : DC cX5_number 173 (.iload_n 3) 1 174 := ⟨by decide +kernel, rfl⟩
theorem e_X5_number_174 : DB cX5_number 174 (.ifCond .eq 9) (9) 3 177 183 := ⟨by decide +kernel, rfl, rfl⟩
theorem e_X5_number_177 : DC cX5_number 177 (.iload 4) 2 179 := ⟨by decide +kernel, rfl⟩
theorem e_X5_number_179 : DC cX5_number 179 (.ineg) 1 180 := ⟨by decide +kernel, rfl⟩
theorem e_X5_number_180 : DB cX5_number 180 (.goto 5) (5) 3 183 185 := ⟨by decide +kernel, rfl, rfl⟩
theorem e_X5_number_183 : DC cX5_number 183 (.iload 4) 2 185 := ⟨by decide +kernel, rfl⟩
theorem e_X5_number_185 : DC cX5_number 185 (.istore 4) 2 187 := ⟨by decide +kernel, rfl⟩
theorem e_X5_number_187 : DC cX5_number 187 (.iload 5) 2 189 := ⟨by decide +kernel, rfl⟩
theorem e_X5_number_189 : DC cX5_number 189 (.iconst 4) 1 190 := ⟨by decide +kernel, rfl⟩
theorem e_X5_number_190 : DB cX5_number 190 (.if_icmp .gt 13) (13) 3 193 203 := ⟨by decide +kernel, rfl, rfl⟩
theorem e_X5_number_193 : DC cX5_number 193 (.iload 4) 2 195 := ⟨by decide +kernel, rfl⟩
theorem e_X5_number_195 : DC cX5_number 195 (.iload_n 1) 1 196 := ⟨by decide +kernel, rfl⟩
theorem e_X5_number_196 : DC cX5_number 196 (.iload_n 2) 1 197 := ⟨by decide +kernel, rfl⟩
theorem e_X5_number_197 : DC cX5_number 197 (.invokestatic 19) 3 200 := ⟨by decide +kernel, rfl⟩
theorem e_X5_number_200 : DB cX5_number 200 (.ifCond .ne 12) (12) 3 203 212 := ⟨by decide +kernel, rfl, rfl⟩
theorem e_X5_number_203 : DC cX5_number 203 (.aload_n 0) 1 204 := ⟨by decide +kernel, rfl⟩
theorem e_X5_number_204 : DC cX5_number 204 (.aload_n 0) 1 205 := ⟨by decide +kernel, rfl⟩
theorem e_X5_number_205 : DC cX5_number 205 (.getfield 149) 3 208 := ⟨by decide +kernel, rfl⟩
theorem e_X5_number_208 : DC cX5_number 208 (.iconst 1) 1 209 := ⟨by decide +kernel, rfl⟩
theorem e_X5_number_209 : DC cX5_number 209 (.invokevirtual 45) 3 212 := ⟨by decide +kernel, rfl⟩
theorem e_X5_number_212 : DC cX5_number 212 (.iload 4) 2 214 := ⟨by decide +kernel, rfl⟩
theorem e_X5_number_214 : DC cX5_number 214 (.ireturn) 1 215 := ⟨by decide +kernel, rfl⟩
noncomputable def m_X5_number_155 (t_many : Int) (t_place : Int) (t_bytes : Nat → Int) (v5 : Int) (s0 : Int) (ag : Int → Int → Int → Option (Int × Int × Int × Int)) (k_173 : Int → Int → Int → Option (Int × Int × Int × Int)) : Option (Int × Int × Int × Int) :=
  chk (inI (t_place + 1)) (chk (inI (v5 + 1)) (ag (t_place + 1) s0 (v5 + 1)))

set_option maxRecDepth 10000 in
theorem g_X5_number_155 {l : Launch} {E : EE} {b0 n : Nat} {h : AH} {a_t : Nat} {t_many t_place t_fault t_numberPlace v1 v2 v3 v5 s0 : Int} {t_bytes : Nat → Int} {r : Int × Int × Int × Int} {ag : Int → Int → Int → Option (Int × Int × Int × Int)} {k_173 : Int → Int → Int → Option (Int × Int × Int × Int)} (ao : AO b0 n [a_t, (a_t + 1)]) (ok_t_many : inI t_many) (ok_t_place : inI t_place) (ok_t_fault : inI t_fault) (ok_t_numberPlace : inI t_numberPlace) (ok_t_bytes : okA t_bytes) (ok_v1 : inI v1) (ok_v2 : inI v2) (ok_v3 : inZ v3) (ok_v5 : inI v5) (ok_s0 : inI s0) (hag : ∀ (t_place_ : Int) (v4_ : Int) (v5_ : Int), inI t_place_ → inI v4_ → inI v5_ → ag t_place_ v4_ v5_ = some r → G l E b0 M_X5_number (fun _ => True) (ZM E b0 (some (vI r.1)) (ov [a_t, (a_t + 1)] [.inr (5, fsX5 a_t t_many r.2.1 r.2.2.1 r.2.2.2), IA E 400 t_bytes] h) n (inI r.1 ∧ inI r.2.1 ∧ inI r.2.2.1 ∧ inI r.2.2.2) 0 0) 0 0 n (ov [a_t, (a_t + 1)] [.inr (5, fsX5 a_t t_many t_place_ t_fault t_numberPlace), IA E 400 t_bytes] h) 105 [some (.ref a_t), some (vI v1), some (vI v2), some (vI v3), some (vI v4_), some (vI v5_)] []) (hk_173 : ∀ (t_place_ : Int) (v4_ : Int) (v5_ : Int), inI t_place_ → inI v4_ → inI v5_ → k_173 t_place_ v4_ v5_ = some r → G l E b0 M_X5_number (fun _ => True) (ZM E b0 (some (vI r.1)) (ov [a_t, (a_t + 1)] [.inr (5, fsX5 a_t t_many r.2.1 r.2.2.1 r.2.2.2), IA E 400 t_bytes] h) n (inI r.1 ∧ inI r.2.1 ∧ inI r.2.2.1 ∧ inI r.2.2.2) 0 0) 0 0 n (ov [a_t, (a_t + 1)] [.inr (5, fsX5 a_t t_many t_place_ t_fault t_numberPlace), IA E 400 t_bytes] h) 173 [some (.ref a_t), some (vI v1), some (vI v2), some (vI v3), some (vI v4_), some (vI v5_)] []) (hs : m_X5_number_155 t_many t_place t_bytes v5 s0 ag k_173 = some r) : G l E b0 M_X5_number (fun _ => True) (ZM E b0 (some (vI r.1)) (ov [a_t, (a_t + 1)] [.inr (5, fsX5 a_t t_many r.2.1 r.2.2.1 r.2.2.2), IA E 400 t_bytes] h) n (inI r.1 ∧ inI r.2.1 ∧ inI r.2.2.1 ∧ inI r.2.2.2) 0 0) 0 0 n (ov [a_t, (a_t + 1)] [.inr (5, fsX5 a_t t_many t_place t_fault t_numberPlace), IA E 400 t_bytes] h) 155 [some (.ref a_t), some (vI v1), some (vI v2), some (vI v3), none, some (vI v5)] [vI s0] := by
  rw [m_X5_number_155] at hs
  refine g_istore e_X5_number_155 st1_4 rfl ?_
  refine g_iinc e_X5_number_157 rfl st1_5 rfl ?_
  refine g_aload_n e_X5_number_160 rfl ?_
  refine g_dup e_X5_number_161 rfl ?_
  refine g_get 0 2 ao rfl rfl fsX5_g2 fl_X5_28 e_X5_number_162 ?_
  refine g_iconst e_X5_number_165 ?_
  refine g_iadd e_X5_number_166 ?_
  obtain ⟨hc9, hs⟩ := chk_elim hs
  refine g_put 0 2 ao rfl rfl fsX5_k2 fsX5_s2 ls_0 fw_X5_28 (fun h => by cases h) ⟨rfl, rfl⟩ e_X5_number_167 ?_
  refine g_goto e_X5_number_170 ?_
  obtain ⟨hc10, hs⟩ := chk_elim hs
  exact hag _ _ _ hc9 ok_s0 hc10 hs

noncomputable def m_X5_number_105 (t_many : Int) (t_bytes : Nat → Int) (k_173 : Int → Int → Int → Option (Int × Int × Int × Int)) : Nat → Int → Int → Int → Option (Int × Int × Int × Int)
  | 0, _, _, _ => none
  | F + 1, t_place, v4, v5 => (m_X5_byteAt t_many t_bytes t_place).bind (fun y7 => (m_X5_isDigit y7).bind (fun y8 => if y8 = 0 then (k_173 t_place v4 v5) else (if 400 ≤ v5 then (k_173 t_place v4 v5) else (if 4 ≤ v5 then (m_X5_number_155 t_many t_place t_bytes v5 v4 (m_X5_number_105 t_many t_bytes k_173 F) k_173) else ((m_X5_byteAt t_many t_bytes t_place).bind (fun y11 => chk (inI (((v4 * 10) + y11) - 48)) (m_X5_number_155 t_many t_place t_bytes v5 (((v4 * 10) + y11) - 48) (m_X5_number_105 t_many t_bytes k_173 F) k_173)))))))

set_option maxRecDepth 10000 in
theorem g_X5_number_105 {l : Launch} {E : EE} {b0 n : Nat} {h : AH} {a_t : Nat} {t_many t_fault t_numberPlace v1 v2 v3 : Int} {t_bytes : Nat → Int} {r : Int × Int × Int × Int} {k_173 : Int → Int → Int → Option (Int × Int × Int × Int)} (ao : AO b0 n [a_t, (a_t + 1)]) (ok_t_many : inI t_many) (ok_t_fault : inI t_fault) (ok_t_numberPlace : inI t_numberPlace) (ok_t_bytes : okA t_bytes) (ok_v1 : inI v1) (ok_v2 : inI v2) (ok_v3 : inZ v3) (hk_173 : ∀ (t_place_ : Int) (v4_ : Int) (v5_ : Int), inI t_place_ → inI v4_ → inI v5_ → k_173 t_place_ v4_ v5_ = some r → G l E b0 M_X5_number (fun _ => True) (ZM E b0 (some (vI r.1)) (ov [a_t, (a_t + 1)] [.inr (5, fsX5 a_t t_many r.2.1 r.2.2.1 r.2.2.2), IA E 400 t_bytes] h) n (inI r.1 ∧ inI r.2.1 ∧ inI r.2.2.1 ∧ inI r.2.2.2) 0 0) 0 0 n (ov [a_t, (a_t + 1)] [.inr (5, fsX5 a_t t_many t_place_ t_fault t_numberPlace), IA E 400 t_bytes] h) 173 [some (.ref a_t), some (vI v1), some (vI v2), some (vI v3), some (vI v4_), some (vI v5_)] []) :
    ∀ (F : Nat) (t_place : Int) (v4 : Int) (v5 : Int), inI t_place → inI v4 → inI v5 → m_X5_number_105 t_many t_bytes k_173 F t_place v4 v5 = some r → G l E b0 M_X5_number (fun _ => True) (ZM E b0 (some (vI r.1)) (ov [a_t, (a_t + 1)] [.inr (5, fsX5 a_t t_many r.2.1 r.2.2.1 r.2.2.2), IA E 400 t_bytes] h) n (inI r.1 ∧ inI r.2.1 ∧ inI r.2.2.1 ∧ inI r.2.2.2) 0 0) 0 0 n (ov [a_t, (a_t + 1)] [.inr (5, fsX5 a_t t_many t_place t_fault t_numberPlace), IA E 400 t_bytes] h) 105 [some (.ref a_t), some (vI v1), some (vI v2), some (vI v3), some (vI v4), some (vI v5)] [] := by
  intro F
  induction F with
  | zero =>
    intro t_place v4 v5 ok_t_place ok_v4 ok_v5 hs
    rw [m_X5_number_105] at hs
    cases hs
  | succ F ih =>
    intro t_place v4 v5 ok_t_place ok_v4 ok_v5 hs
    rw [m_X5_number_105] at hs
    refine g_aload_n e_X5_number_105 rfl ?_
    refine g_aload_n e_X5_number_106 rfl ?_
    refine g_get 0 2 ao rfl rfl fsX5_g2 fl_X5_28 e_X5_number_107 ?_
    obtain ⟨y7, hy7, hs⟩ := bind_elim hs
    refine g_callVr [vI t_place] cv_X5_41 ⟨rfl, rfl, Nat.le_of_ble_eq_true rfl, Nat.le_of_ble_eq_true rfl⟩ (ct_X5_byteAt (AO_call [0, 1] ao (by decide) rfl) (FA_call [0, 1] ao.1 rfl rfl) ok_t_many ok_t_bytes ok_t_place hy7) e_X5_number_110 (ao.2 0 _ rfl) (ov_get 0 ao.1 rfl rfl) rfl rfl rfl (Nat.le_of_ble_eq_true rfl) ⟨Nat.le_refl _, Nat.le_refl _⟩ (fun Py7 => ?_)
    obtain ⟨y8, hy8, hs⟩ := bind_elim hs
    refine g_callSr [vI y7] cs_X5_177 ⟨rfl, rfl, Nat.le_of_ble_eq_true rfl, Nat.le_of_ble_eq_true rfl⟩ (ct_X5_isDigit ⟨List.nodup_nil, fun i a h => by simp at h⟩ (fun i a e h => by simp at h) Py7 hy8) e_X5_number_113 rfl rfl (Nat.le_of_ble_eq_true rfl) ⟨Nat.le_refl _, Nat.le_refl _⟩ (fun Py8 => ?_)
    refine g_if_eq e_X5_number_116 (inZ_I Py8) hs (fun c116 hs => ?_) (fun c116 hs => ?_)
    · exact hk_173 _ _ _ ok_t_place ok_v4 ok_v5 hs
    · refine g_iload e_X5_number_119 rfl ?_
      refine g_sipush e_X5_number_121 sp_400 ?_
      refine g_icmp_ge e_X5_number_124 ok_v5 (by decide : inI 400) hs (fun c124 hs => ?_) (fun c124 hs => ?_)
      · exact hk_173 _ _ _ ok_t_place ok_v4 ok_v5 hs
      · refine g_iload e_X5_number_127 rfl ?_
        refine g_iconst e_X5_number_129 ?_
        refine g_icmp_ge e_X5_number_130 ok_v5 (by decide : inI 4) hs (fun c130 hs => ?_) (fun c130 hs => ?_)
        · refine g_iload e_X5_number_153 rfl ?_
          exact g_mask [true, true, true, true, false, true] (g_X5_number_155 ao ok_t_many ok_t_place ok_t_fault ok_t_numberPlace ok_t_bytes ok_v1 ok_v2 ok_v3 ok_v5 ok_v4 ih hk_173 hs)
        · refine g_iload e_X5_number_133 rfl ?_
          refine g_bipush e_X5_number_135 bp_10 ?_
          refine g_imul e_X5_number_137 ?_
          refine g_aload_n e_X5_number_138 rfl ?_
          refine g_aload_n e_X5_number_139 rfl ?_
          refine g_get 0 2 ao rfl rfl fsX5_g2 fl_X5_28 e_X5_number_140 ?_
          obtain ⟨y11, hy11, hs⟩ := bind_elim hs
          refine g_callVr [vI t_place] cv_X5_41 ⟨rfl, rfl, Nat.le_of_ble_eq_true rfl, Nat.le_of_ble_eq_true rfl⟩ (ct_X5_byteAt (AO_call [0, 1] ao (by decide) rfl) (FA_call [0, 1] ao.1 rfl rfl) ok_t_many ok_t_bytes ok_t_place hy11) e_X5_number_143 (ao.2 0 _ rfl) (ov_get 0 ao.1 rfl rfl) rfl rfl rfl (Nat.le_of_ble_eq_true rfl) ⟨Nat.le_refl _, Nat.le_refl _⟩ (fun Py11 => ?_)
          refine g_iadd e_X5_number_146 ?_
          refine g_bipush e_X5_number_147 bp_48 ?_
          refine g_isub e_X5_number_149 ?_
          refine g_goto e_X5_number_150 ?_
          obtain ⟨hc12, hs⟩ := chk_elim hs
          exact g_mask [true, true, true, true, false, true] (g_X5_number_155 ao ok_t_many ok_t_place ok_t_fault ok_t_numberPlace ok_t_bytes ok_v1 ok_v2 ok_v3 ok_v5 hc12 ih hk_173 hs)

noncomputable def m_X5_number_203 (t_place : Int) (t_fault : Int) (t_numberPlace : Int) (v4 : Int) : Option (Int × Int × Int × Int) :=
  (m_X5_refuse t_fault t_numberPlace 1).bind (fun y13 => some (v4, t_place, y13, t_numberPlace))

set_option maxRecDepth 10000 in
theorem g_X5_number_203 {l : Launch} {E : EE} {b0 n : Nat} {h : AH} {a_t : Nat} {t_many t_place t_fault t_numberPlace v4 : Int} {t_bytes : Nat → Int} {r : Int × Int × Int × Int} (ao : AO b0 n [a_t, (a_t + 1)]) (ok_t_many : inI t_many) (ok_t_place : inI t_place) (ok_t_fault : inI t_fault) (ok_t_numberPlace : inI t_numberPlace) (ok_t_bytes : okA t_bytes) (ok_v4 : inI v4) (hs : m_X5_number_203 t_place t_fault t_numberPlace v4 = some r) : G l E b0 M_X5_number (fun _ => True) (ZM E b0 (some (vI r.1)) (ov [a_t, (a_t + 1)] [.inr (5, fsX5 a_t t_many r.2.1 r.2.2.1 r.2.2.2), IA E 400 t_bytes] h) n (inI r.1 ∧ inI r.2.1 ∧ inI r.2.2.1 ∧ inI r.2.2.2) 0 0) 0 0 n (ov [a_t, (a_t + 1)] [.inr (5, fsX5 a_t t_many t_place t_fault t_numberPlace), IA E 400 t_bytes] h) 203 [some (.ref a_t), none, none, none, some (vI v4), none] [] := by
  rw [m_X5_number_203] at hs
  refine g_aload_n e_X5_number_203 rfl ?_
  refine g_aload_n e_X5_number_204 rfl ?_
  refine g_get 0 4 ao rfl rfl fsX5_g4 fl_X5_149 e_X5_number_205 ?_
  refine g_iconst e_X5_number_208 ?_
  obtain ⟨y13, hy13, hs⟩ := bind_elim hs
  refine g_callVv [vI t_numberPlace, vI 1] cv_X5_45 ⟨rfl, rfl, Nat.le_of_ble_eq_true rfl, Nat.le_of_ble_eq_true rfl⟩ (Ct_heap (ct_X5_refuse (AO_call [0] ao (by decide) rfl) (FA_call [0] ao.1 rfl rfl) ok_t_fault ok_t_numberPlace (by decide : inI 1) hy13) (ov_call (esn := [.inr (5, fsX5 a_t t_many t_place y13 t_numberPlace), IA E 400 t_bytes]) [0] ao.1 rfl rfl rfl rfl)) e_X5_number_209 (ao.2 0 _ rfl) (ov_get 0 ao.1 rfl rfl) rfl rfl rfl (Nat.le_of_ble_eq_true rfl) ⟨Nat.le_refl _, Nat.le_refl _⟩ (fun Py13 => ?_)
  refine g_iload e_X5_number_212 rfl ?_
  obtain rfl := Option.some.inj hs
  exact g_iret rfl ⟨ok_v4, ok_t_place, Py13, ok_t_numberPlace⟩ e_X5_number_214

noncomputable def m_X5_number_185 (t_place : Int) (t_fault : Int) (t_numberPlace : Int) (v1 : Int) (v2 : Int) (v5 : Int) (s0 : Int) : Option (Int × Int × Int × Int) :=
  if 4 < v5 then (m_X5_number_203 t_place t_fault t_numberPlace s0) else ((m_X10_within s0 v1 v2).bind (fun y14 => if y14 = 0 then (m_X5_number_203 t_place t_fault t_numberPlace s0) else (some (s0, t_place, t_fault, t_numberPlace))))

set_option maxRecDepth 10000 in
theorem g_X5_number_185 {l : Launch} {E : EE} {b0 n : Nat} {h : AH} {a_t : Nat} {t_many t_place t_fault t_numberPlace v1 v2 v5 s0 : Int} {t_bytes : Nat → Int} {r : Int × Int × Int × Int} (ao : AO b0 n [a_t, (a_t + 1)]) (ok_t_many : inI t_many) (ok_t_place : inI t_place) (ok_t_fault : inI t_fault) (ok_t_numberPlace : inI t_numberPlace) (ok_t_bytes : okA t_bytes) (ok_v1 : inI v1) (ok_v2 : inI v2) (ok_v5 : inI v5) (ok_s0 : inI s0) (hs : m_X5_number_185 t_place t_fault t_numberPlace v1 v2 v5 s0 = some r) : G l E b0 M_X5_number (fun _ => True) (ZM E b0 (some (vI r.1)) (ov [a_t, (a_t + 1)] [.inr (5, fsX5 a_t t_many r.2.1 r.2.2.1 r.2.2.2), IA E 400 t_bytes] h) n (inI r.1 ∧ inI r.2.1 ∧ inI r.2.2.1 ∧ inI r.2.2.2) 0 0) 0 0 n (ov [a_t, (a_t + 1)] [.inr (5, fsX5 a_t t_many t_place t_fault t_numberPlace), IA E 400 t_bytes] h) 185 [some (.ref a_t), some (vI v1), some (vI v2), none, none, some (vI v5)] [vI s0] := by
  rw [m_X5_number_185] at hs
  refine g_istore e_X5_number_185 st1_4 rfl ?_
  refine g_iload e_X5_number_187 rfl ?_
  refine g_iconst e_X5_number_189 ?_
  refine g_icmp_gt e_X5_number_190 ok_v5 (by decide : inI 4) hs (fun c190 hs => ?_) (fun c190 hs => ?_)
  · exact g_mask [true, false, false, true, true, false] (g_X5_number_203 ao ok_t_many ok_t_place ok_t_fault ok_t_numberPlace ok_t_bytes ok_s0 hs)
  · refine g_iload e_X5_number_193 rfl ?_
    refine g_iload_n e_X5_number_195 rfl ?_
    refine g_iload_n e_X5_number_196 rfl ?_
    obtain ⟨y14, hy14, hs⟩ := bind_elim hs
    refine g_callSr [vI s0, vI v1, vI v2] cs_X5_19 ⟨rfl, rfl, Nat.le_of_ble_eq_true rfl, Nat.le_of_ble_eq_true rfl⟩ (ct_X10_within ⟨List.nodup_nil, fun i a h => by simp at h⟩ (fun i a e h => by simp at h) ok_s0 ok_v1 ok_v2 hy14) e_X5_number_197 rfl rfl (Nat.le_of_ble_eq_true rfl) ⟨Nat.le_refl _, Nat.le_refl _⟩ (fun Py14 => ?_)
    refine g_if_ne e_X5_number_200 (inZ_I Py14) hs (fun c200 hs => ?_) (fun c200 hs => ?_)
    · exact g_mask [true, false, false, true, true, false] (g_X5_number_203 ao ok_t_many ok_t_place ok_t_fault ok_t_numberPlace ok_t_bytes ok_s0 hs)
    · refine g_iload e_X5_number_212 rfl ?_
      obtain rfl := Option.some.inj hs
      exact g_iret rfl ⟨ok_s0, ok_t_place, ok_t_fault, ok_t_numberPlace⟩ e_X5_number_214

noncomputable def m_X5_number_173 (t_place : Int) (t_fault : Int) (t_numberPlace : Int) (v1 : Int) (v2 : Int) (v3 : Int) (v4 : Int) (v5 : Int) : Option (Int × Int × Int × Int) :=
  if v3 = 0 then (m_X5_number_185 t_place t_fault t_numberPlace v1 v2 v5 v4) else (chk (inI (-v4)) (m_X5_number_185 t_place t_fault t_numberPlace v1 v2 v5 (-v4)))

set_option maxRecDepth 10000 in
theorem g_X5_number_173 {l : Launch} {E : EE} {b0 n : Nat} {h : AH} {a_t : Nat} {t_many t_place t_fault t_numberPlace v1 v2 v3 v4 v5 : Int} {t_bytes : Nat → Int} {r : Int × Int × Int × Int} (ao : AO b0 n [a_t, (a_t + 1)]) (ok_t_many : inI t_many) (ok_t_place : inI t_place) (ok_t_fault : inI t_fault) (ok_t_numberPlace : inI t_numberPlace) (ok_t_bytes : okA t_bytes) (ok_v1 : inI v1) (ok_v2 : inI v2) (ok_v3 : inZ v3) (ok_v4 : inI v4) (ok_v5 : inI v5) (hs : m_X5_number_173 t_place t_fault t_numberPlace v1 v2 v3 v4 v5 = some r) : G l E b0 M_X5_number (fun _ => True) (ZM E b0 (some (vI r.1)) (ov [a_t, (a_t + 1)] [.inr (5, fsX5 a_t t_many r.2.1 r.2.2.1 r.2.2.2), IA E 400 t_bytes] h) n (inI r.1 ∧ inI r.2.1 ∧ inI r.2.2.1 ∧ inI r.2.2.2) 0 0) 0 0 n (ov [a_t, (a_t + 1)] [.inr (5, fsX5 a_t t_many t_place t_fault t_numberPlace), IA E 400 t_bytes] h) 173 [some (.ref a_t), some (vI v1), some (vI v2), some (vI v3), some (vI v4), some (vI v5)] [] := by
  rw [m_X5_number_173] at hs
  refine g_iload_n e_X5_number_173 rfl ?_
  refine g_if_eq e_X5_number_174 (inZ_I ok_v3) hs (fun c174 hs => ?_) (fun c174 hs => ?_)
  · refine g_iload e_X5_number_183 rfl ?_
    exact g_mask [true, true, true, false, false, true] (g_X5_number_185 ao ok_t_many ok_t_place ok_t_fault ok_t_numberPlace ok_t_bytes ok_v1 ok_v2 ok_v5 ok_v4 hs)
  · refine g_iload e_X5_number_177 rfl ?_
    refine g_ineg e_X5_number_179 ?_
    refine g_goto e_X5_number_180 ?_
    obtain ⟨hc15, hs⟩ := chk_elim hs
    exact g_mask [true, true, true, false, false, true] (g_X5_number_185 ao ok_t_many ok_t_place ok_t_fault ok_t_numberPlace ok_t_bytes ok_v1 ok_v2 ok_v5 hc15 hs)

noncomputable def m_X5_number_99 (t_many : Int) (t_place : Int) (t_fault : Int) (t_numberPlace : Int) (t_bytes : Nat → Int) (v1 : Int) (v2 : Int) (v3 : Int) : Option (Int × Int × Int × Int) :=
  m_X5_number_105 t_many t_bytes (fun t_place' v4' v5' => m_X5_number_173 t_place' t_fault t_numberPlace v1 v2 v3 v4' v5') FU t_place 0 0

set_option maxRecDepth 10000 in
theorem g_X5_number_99 {l : Launch} {E : EE} {b0 n : Nat} {h : AH} {a_t : Nat} {t_many t_place t_fault t_numberPlace v1 v2 v3 : Int} {t_bytes : Nat → Int} {r : Int × Int × Int × Int} (ao : AO b0 n [a_t, (a_t + 1)]) (ok_t_many : inI t_many) (ok_t_place : inI t_place) (ok_t_fault : inI t_fault) (ok_t_numberPlace : inI t_numberPlace) (ok_t_bytes : okA t_bytes) (ok_v1 : inI v1) (ok_v2 : inI v2) (ok_v3 : inZ v3) (hs : m_X5_number_99 t_many t_place t_fault t_numberPlace t_bytes v1 v2 v3 = some r) : G l E b0 M_X5_number (fun _ => True) (ZM E b0 (some (vI r.1)) (ov [a_t, (a_t + 1)] [.inr (5, fsX5 a_t t_many r.2.1 r.2.2.1 r.2.2.2), IA E 400 t_bytes] h) n (inI r.1 ∧ inI r.2.1 ∧ inI r.2.2.1 ∧ inI r.2.2.2) 0 0) 0 0 n (ov [a_t, (a_t + 1)] [.inr (5, fsX5 a_t t_many t_place t_fault t_numberPlace), IA E 400 t_bytes] h) 99 [some (.ref a_t), some (vI v1), some (vI v2), some (vI v3), none, none] [] := by
  rw [m_X5_number_99] at hs
  refine g_iconst e_X5_number_99 ?_
  refine g_istore e_X5_number_100 st1_4 rfl ?_
  refine g_iconst e_X5_number_102 ?_
  refine g_istore e_X5_number_103 st1_5 rfl ?_
  exact g_X5_number_105 ao ok_t_many ok_t_fault ok_t_numberPlace ok_t_bytes ok_v1 ok_v2 ok_v3 (hk_173 := by
      intro t_place' v4' v5' ok_t_place' ok_v4' ok_v5' hs
      exact g_X5_number_173 ao ok_t_many ok_t_place' ok_t_fault ok_t_numberPlace ok_t_bytes ok_v1 ok_v2 ok_v3 ok_v4' ok_v5' hs) FU _ _ _ ok_t_place (by decide : inI 0) (by decide : inI 0) hs

noncomputable def m_X5_number_76 (t_many : Int) (t_place : Int) (t_fault : Int) (t_numberPlace : Int) (t_bytes : Nat → Int) (v1 : Int) (v2 : Int) (v3 : Int) : Option (Int × Int × Int × Int) :=
  (m_X5_byteAt t_many t_bytes t_place).bind (fun y4 => (m_X5_isDigit y4).bind (fun y5 => if y5 = 0 then ((m_X5_refuse t_fault t_place 0).bind (fun y6 => m_X5_number_99 t_many t_place y6 t_numberPlace t_bytes v1 v2 v3)) else (m_X5_number_99 t_many t_place t_fault t_numberPlace t_bytes v1 v2 v3)))

set_option maxRecDepth 10000 in
theorem g_X5_number_76 {l : Launch} {E : EE} {b0 n : Nat} {h : AH} {a_t : Nat} {t_many t_place t_fault t_numberPlace v1 v2 v3 : Int} {t_bytes : Nat → Int} {r : Int × Int × Int × Int} (ao : AO b0 n [a_t, (a_t + 1)]) (ok_t_many : inI t_many) (ok_t_place : inI t_place) (ok_t_fault : inI t_fault) (ok_t_numberPlace : inI t_numberPlace) (ok_t_bytes : okA t_bytes) (ok_v1 : inI v1) (ok_v2 : inI v2) (ok_v3 : inZ v3) (hs : m_X5_number_76 t_many t_place t_fault t_numberPlace t_bytes v1 v2 v3 = some r) : G l E b0 M_X5_number (fun _ => True) (ZM E b0 (some (vI r.1)) (ov [a_t, (a_t + 1)] [.inr (5, fsX5 a_t t_many r.2.1 r.2.2.1 r.2.2.2), IA E 400 t_bytes] h) n (inI r.1 ∧ inI r.2.1 ∧ inI r.2.2.1 ∧ inI r.2.2.2) 0 0) 0 0 n (ov [a_t, (a_t + 1)] [.inr (5, fsX5 a_t t_many t_place t_fault t_numberPlace), IA E 400 t_bytes] h) 76 [some (.ref a_t), some (vI v1), some (vI v2), some (vI v3), none, none] [] := by
  rw [m_X5_number_76] at hs
  refine g_aload_n e_X5_number_76 rfl ?_
  refine g_aload_n e_X5_number_77 rfl ?_
  refine g_get 0 2 ao rfl rfl fsX5_g2 fl_X5_28 e_X5_number_78 ?_
  obtain ⟨y4, hy4, hs⟩ := bind_elim hs
  refine g_callVr [vI t_place] cv_X5_41 ⟨rfl, rfl, Nat.le_of_ble_eq_true rfl, Nat.le_of_ble_eq_true rfl⟩ (ct_X5_byteAt (AO_call [0, 1] ao (by decide) rfl) (FA_call [0, 1] ao.1 rfl rfl) ok_t_many ok_t_bytes ok_t_place hy4) e_X5_number_81 (ao.2 0 _ rfl) (ov_get 0 ao.1 rfl rfl) rfl rfl rfl (Nat.le_of_ble_eq_true rfl) ⟨Nat.le_refl _, Nat.le_refl _⟩ (fun Py4 => ?_)
  obtain ⟨y5, hy5, hs⟩ := bind_elim hs
  refine g_callSr [vI y4] cs_X5_177 ⟨rfl, rfl, Nat.le_of_ble_eq_true rfl, Nat.le_of_ble_eq_true rfl⟩ (ct_X5_isDigit ⟨List.nodup_nil, fun i a h => by simp at h⟩ (fun i a e h => by simp at h) Py4 hy5) e_X5_number_84 rfl rfl (Nat.le_of_ble_eq_true rfl) ⟨Nat.le_refl _, Nat.le_refl _⟩ (fun Py5 => ?_)
  refine g_if_ne e_X5_number_87 (inZ_I Py5) hs (fun c87 hs => ?_) (fun c87 hs => ?_)
  · refine g_aload_n e_X5_number_90 rfl ?_
    refine g_aload_n e_X5_number_91 rfl ?_
    refine g_get 0 2 ao rfl rfl fsX5_g2 fl_X5_28 e_X5_number_92 ?_
    refine g_iconst e_X5_number_95 ?_
    obtain ⟨y6, hy6, hs⟩ := bind_elim hs
    refine g_callVv [vI t_place, vI 0] cv_X5_45 ⟨rfl, rfl, Nat.le_of_ble_eq_true rfl, Nat.le_of_ble_eq_true rfl⟩ (Ct_heap (ct_X5_refuse (AO_call [0] ao (by decide) rfl) (FA_call [0] ao.1 rfl rfl) ok_t_fault ok_t_place (by decide : inI 0) hy6) (ov_call (esn := [.inr (5, fsX5 a_t t_many t_place y6 t_numberPlace), IA E 400 t_bytes]) [0] ao.1 rfl rfl rfl rfl)) e_X5_number_96 (ao.2 0 _ rfl) (ov_get 0 ao.1 rfl rfl) rfl rfl rfl (Nat.le_of_ble_eq_true rfl) ⟨Nat.le_refl _, Nat.le_refl _⟩ (fun Py6 => ?_)
    exact g_X5_number_99 ao ok_t_many ok_t_place Py6 ok_t_numberPlace ok_t_bytes ok_v1 ok_v2 ok_v3 hs
  · exact g_X5_number_99 ao ok_t_many ok_t_place ok_t_fault ok_t_numberPlace ok_t_bytes ok_v1 ok_v2 ok_v3 hs

noncomputable def m_X5_number_61 (t_many : Int) (t_place : Int) (t_fault : Int) (t_numberPlace : Int) (t_bytes : Nat → Int) (v1 : Int) (v2 : Int) (s0 : Int) : Option (Int × Int × Int × Int) :=
  if s0 = 0 then (m_X5_number_76 t_many t_place t_fault t_numberPlace t_bytes v1 v2 s0) else (chk (inI (t_place + 1)) (m_X5_number_76 t_many (t_place + 1) t_fault t_numberPlace t_bytes v1 v2 s0))

set_option maxRecDepth 10000 in
theorem g_X5_number_61 {l : Launch} {E : EE} {b0 n : Nat} {h : AH} {a_t : Nat} {t_many t_place t_fault t_numberPlace v1 v2 s0 : Int} {t_bytes : Nat → Int} {r : Int × Int × Int × Int} (ao : AO b0 n [a_t, (a_t + 1)]) (ok_t_many : inI t_many) (ok_t_place : inI t_place) (ok_t_fault : inI t_fault) (ok_t_numberPlace : inI t_numberPlace) (ok_t_bytes : okA t_bytes) (ok_v1 : inI v1) (ok_v2 : inI v2) (ok_s0 : inZ s0) (hs : m_X5_number_61 t_many t_place t_fault t_numberPlace t_bytes v1 v2 s0 = some r) : G l E b0 M_X5_number (fun _ => True) (ZM E b0 (some (vI r.1)) (ov [a_t, (a_t + 1)] [.inr (5, fsX5 a_t t_many r.2.1 r.2.2.1 r.2.2.2), IA E 400 t_bytes] h) n (inI r.1 ∧ inI r.2.1 ∧ inI r.2.2.1 ∧ inI r.2.2.2) 0 0) 0 0 n (ov [a_t, (a_t + 1)] [.inr (5, fsX5 a_t t_many t_place t_fault t_numberPlace), IA E 400 t_bytes] h) 61 [some (.ref a_t), some (vI v1), some (vI v2), none, none, none] [vI s0] := by
  rw [m_X5_number_61] at hs
  refine g_istore_n e_X5_number_61 st1_3 rfl ?_
  refine g_iload_n e_X5_number_62 rfl ?_
  refine g_if_eq e_X5_number_63 (inZ_I ok_s0) hs (fun c63 hs => ?_) (fun c63 hs => ?_)
  · exact g_X5_number_76 ao ok_t_many ok_t_place ok_t_fault ok_t_numberPlace ok_t_bytes ok_v1 ok_v2 ok_s0 hs
  · refine g_aload_n e_X5_number_66 rfl ?_
    refine g_dup e_X5_number_67 rfl ?_
    refine g_get 0 2 ao rfl rfl fsX5_g2 fl_X5_28 e_X5_number_68 ?_
    refine g_iconst e_X5_number_71 ?_
    refine g_iadd e_X5_number_72 ?_
    obtain ⟨hc16, hs⟩ := chk_elim hs
    refine g_put 0 2 ao rfl rfl fsX5_k2 fsX5_s2 ls_0 fw_X5_28 (fun h => by cases h) ⟨rfl, rfl⟩ e_X5_number_73 ?_
    exact g_X5_number_76 ao ok_t_many hc16 ok_t_fault ok_t_numberPlace ok_t_bytes ok_v1 ok_v2 ok_s0 hs

noncomputable def m_X5_number_22 (t_many : Int) (t_place : Int) (t_fault : Int) (t_numberPlace : Int) (t_bytes : Nat → Int) (v1 : Int) (v2 : Int) : Option (Int × Int × Int × Int) :=
  (m_X5_skipBlanks t_many t_place t_bytes).bind (fun y2 => if t_fault = 0 then ((m_X5_byteAt t_many t_bytes y2).bind (fun y3 => if y3 = 45 then (m_X5_number_61 t_many y2 t_fault y2 t_bytes v1 v2 1) else (m_X5_number_61 t_many y2 t_fault y2 t_bytes v1 v2 0))) else (some (0, y2, t_fault, t_numberPlace)))

set_option maxRecDepth 10000 in
theorem g_X5_number_22 {l : Launch} {E : EE} {b0 n : Nat} {h : AH} {a_t : Nat} {t_many t_place t_fault t_numberPlace v1 v2 : Int} {t_bytes : Nat → Int} {r : Int × Int × Int × Int} (ao : AO b0 n [a_t, (a_t + 1)]) (ok_t_many : inI t_many) (ok_t_place : inI t_place) (ok_t_fault : inI t_fault) (ok_t_numberPlace : inI t_numberPlace) (ok_t_bytes : okA t_bytes) (ok_v1 : inI v1) (ok_v2 : inI v2) (hs : m_X5_number_22 t_many t_place t_fault t_numberPlace t_bytes v1 v2 = some r) : G l E b0 M_X5_number (fun _ => True) (ZM E b0 (some (vI r.1)) (ov [a_t, (a_t + 1)] [.inr (5, fsX5 a_t t_many r.2.1 r.2.2.1 r.2.2.2), IA E 400 t_bytes] h) n (inI r.1 ∧ inI r.2.1 ∧ inI r.2.2.1 ∧ inI r.2.2.2) 0 0) 0 0 n (ov [a_t, (a_t + 1)] [.inr (5, fsX5 a_t t_many t_place t_fault t_numberPlace), IA E 400 t_bytes] h) 22 [some (.ref a_t), some (vI v1), some (vI v2), none, none, none] [] := by
  rw [m_X5_number_22] at hs
  refine g_aload_n e_X5_number_22 rfl ?_
  obtain ⟨y2, hy2, hs⟩ := bind_elim hs
  refine g_callVv [] cv_X5_34 ⟨rfl, rfl, Nat.le_of_ble_eq_true rfl, Nat.le_of_ble_eq_true rfl⟩ (Ct_heap (ct_X5_skipBlanks (AO_call [0, 1] ao (by decide) rfl) (FA_call [0, 1] ao.1 rfl rfl) ok_t_many ok_t_place ok_t_bytes hy2) (ov_call (esn := [.inr (5, fsX5 a_t t_many y2 t_fault t_numberPlace), IA E 400 t_bytes]) [0, 1] ao.1 rfl rfl rfl rfl)) e_X5_number_23 (ao.2 0 _ rfl) (ov_get 0 ao.1 rfl rfl) rfl rfl rfl (Nat.le_of_ble_eq_true rfl) ⟨Nat.le_refl _, Nat.le_refl _⟩ (fun Py2 => ?_)
  refine g_aload_n e_X5_number_26 rfl ?_
  refine g_get 0 3 ao rfl rfl fsX5_g3 fl_X5_31 e_X5_number_27 ?_
  refine g_if_eq e_X5_number_30 ok_t_fault hs (fun c30 hs => ?_) (fun c30 hs => ?_)
  · refine g_aload_n e_X5_number_35 rfl ?_
    refine g_aload_n e_X5_number_36 rfl ?_
    refine g_get 0 2 ao rfl rfl fsX5_g2 fl_X5_28 e_X5_number_37 ?_
    refine g_put 0 4 ao rfl rfl fsX5_k4 fsX5_s4 ls_0 fw_X5_149 (fun h => by cases h) ⟨rfl, rfl⟩ e_X5_number_40 ?_
    refine g_aload_n e_X5_number_43 rfl ?_
    refine g_aload_n e_X5_number_44 rfl ?_
    refine g_get 0 2 ao rfl rfl fsX5_g2 fl_X5_28 e_X5_number_45 ?_
    obtain ⟨y3, hy3, hs⟩ := bind_elim hs
    refine g_callVr [vI y2] cv_X5_41 ⟨rfl, rfl, Nat.le_of_ble_eq_true rfl, Nat.le_of_ble_eq_true rfl⟩ (ct_X5_byteAt (AO_call [0, 1] ao (by decide) rfl) (FA_call [0, 1] ao.1 rfl rfl) ok_t_many ok_t_bytes Py2 hy3) e_X5_number_48 (ao.2 0 _ rfl) (ov_get 0 ao.1 rfl rfl) rfl rfl rfl (Nat.le_of_ble_eq_true rfl) ⟨Nat.le_refl _, Nat.le_refl _⟩ (fun Py3 => ?_)
    refine g_bipush e_X5_number_51 bp_45 ?_
    refine g_icmp_ne e_X5_number_53 Py3 (by decide : inI 45) hs (fun c53 hs => ?_) (fun c53 hs => ?_)
    · refine g_iconst e_X5_number_56 ?_
      refine g_goto e_X5_number_57 ?_
      exact g_X5_number_61 ao ok_t_many Py2 ok_t_fault Py2 ok_t_bytes ok_v1 ok_v2 (by decide : inZ 1) hs
    · refine g_iconst e_X5_number_60 ?_
      exact g_X5_number_61 ao ok_t_many Py2 ok_t_fault Py2 ok_t_bytes ok_v1 ok_v2 (by decide : inZ 0) hs
  · refine g_iconst e_X5_number_33 ?_
    obtain rfl := Option.some.inj hs
    exact g_iret rfl ⟨(by decide : inI 0), Py2, ok_t_fault, ok_t_numberPlace⟩ e_X5_number_34

noncomputable def m_X5_number_0 (t_many : Int) (t_place : Int) (t_fault : Int) (t_numberPlace : Int) (t_bytes : Nat → Int) (v1 : Int) (v2 : Int) : Option (Int × Int × Int × Int) :=
  (m_X5_byteAt t_many t_bytes t_place).bind (fun y1 => if y1 = 32 then (m_X5_number_22 t_many t_place t_fault t_numberPlace t_bytes v1 v2) else ((m_X5_refuse t_fault t_place 0).bind (fun y17 => m_X5_number_22 t_many t_place y17 t_numberPlace t_bytes v1 v2)))

set_option maxRecDepth 10000 in
theorem g_X5_number_0 {l : Launch} {E : EE} {b0 n : Nat} {h : AH} {a_t : Nat} {t_many t_place t_fault t_numberPlace v1 v2 : Int} {t_bytes : Nat → Int} {r : Int × Int × Int × Int} (ao : AO b0 n [a_t, (a_t + 1)]) (ok_t_many : inI t_many) (ok_t_place : inI t_place) (ok_t_fault : inI t_fault) (ok_t_numberPlace : inI t_numberPlace) (ok_t_bytes : okA t_bytes) (ok_v1 : inI v1) (ok_v2 : inI v2) (hs : m_X5_number_0 t_many t_place t_fault t_numberPlace t_bytes v1 v2 = some r) : G l E b0 M_X5_number (fun _ => True) (ZM E b0 (some (vI r.1)) (ov [a_t, (a_t + 1)] [.inr (5, fsX5 a_t t_many r.2.1 r.2.2.1 r.2.2.2), IA E 400 t_bytes] h) n (inI r.1 ∧ inI r.2.1 ∧ inI r.2.2.1 ∧ inI r.2.2.2) 0 0) 0 0 n (ov [a_t, (a_t + 1)] [.inr (5, fsX5 a_t t_many t_place t_fault t_numberPlace), IA E 400 t_bytes] h) 0 [some (.ref a_t), some (vI v1), some (vI v2), none, none, none] [] := by
  rw [m_X5_number_0] at hs
  refine g_aload_n e_X5_number_0 rfl ?_
  refine g_aload_n e_X5_number_1 rfl ?_
  refine g_get 0 2 ao rfl rfl fsX5_g2 fl_X5_28 e_X5_number_2 ?_
  obtain ⟨y1, hy1, hs⟩ := bind_elim hs
  refine g_callVr [vI t_place] cv_X5_41 ⟨rfl, rfl, Nat.le_of_ble_eq_true rfl, Nat.le_of_ble_eq_true rfl⟩ (ct_X5_byteAt (AO_call [0, 1] ao (by decide) rfl) (FA_call [0, 1] ao.1 rfl rfl) ok_t_many ok_t_bytes ok_t_place hy1) e_X5_number_5 (ao.2 0 _ rfl) (ov_get 0 ao.1 rfl rfl) rfl rfl rfl (Nat.le_of_ble_eq_true rfl) ⟨Nat.le_refl _, Nat.le_refl _⟩ (fun Py1 => ?_)
  refine g_bipush e_X5_number_8 bp_32 ?_
  refine g_icmp_eq e_X5_number_10 Py1 (by decide : inI 32) hs (fun c10 hs => ?_) (fun c10 hs => ?_)
  · exact g_X5_number_22 ao ok_t_many ok_t_place ok_t_fault ok_t_numberPlace ok_t_bytes ok_v1 ok_v2 hs
  · refine g_aload_n e_X5_number_13 rfl ?_
    refine g_aload_n e_X5_number_14 rfl ?_
    refine g_get 0 2 ao rfl rfl fsX5_g2 fl_X5_28 e_X5_number_15 ?_
    refine g_iconst e_X5_number_18 ?_
    obtain ⟨y17, hy17, hs⟩ := bind_elim hs
    refine g_callVv [vI t_place, vI 0] cv_X5_45 ⟨rfl, rfl, Nat.le_of_ble_eq_true rfl, Nat.le_of_ble_eq_true rfl⟩ (Ct_heap (ct_X5_refuse (AO_call [0] ao (by decide) rfl) (FA_call [0] ao.1 rfl rfl) ok_t_fault ok_t_place (by decide : inI 0) hy17) (ov_call (esn := [.inr (5, fsX5 a_t t_many t_place y17 t_numberPlace), IA E 400 t_bytes]) [0] ao.1 rfl rfl rfl rfl)) e_X5_number_19 (ao.2 0 _ rfl) (ov_get 0 ao.1 rfl rfl) rfl rfl rfl (Nat.le_of_ble_eq_true rfl) ⟨Nat.le_refl _, Nat.le_refl _⟩ (fun Py17 => ?_)
    exact g_X5_number_22 ao ok_t_many ok_t_place Py17 ok_t_numberPlace ok_t_bytes ok_v1 ok_v2 hs

noncomputable def m_X5_number (t_many : Int) (t_place : Int) (t_fault : Int) (t_numberPlace : Int) (t_bytes : Nat → Int) (v1 : Int) (v2 : Int) : Option (Int × Int × Int × Int) := m_X5_number_0 t_many t_place t_fault t_numberPlace t_bytes v1 v2

set_option maxRecDepth 10000 in
theorem ct_X5_number {l : Launch} {E : EE} {b0 n : Nat} {h : AH} {a_t : Nat} {t_many t_place t_fault t_numberPlace : Int} {t_bytes : Nat → Int} {v1 v2 : Int} (ao : AO b0 n [a_t, (a_t + 1)]) (hf : FA h [a_t, (a_t + 1)] [.inr (5, fsX5 a_t t_many t_place t_fault t_numberPlace), IA E 400 t_bytes]) (ok_t_many : inI t_many) (ok_t_place : inI t_place) (ok_t_fault : inI t_fault) (ok_t_numberPlace : inI t_numberPlace) (ok_t_bytes : okA t_bytes) (ok_v1 : inI v1) (ok_v2 : inI v2) {r : Int × Int × Int × Int} (hm : m_X5_number t_many t_place t_fault t_numberPlace t_bytes v1 v2 = some r) : Ct l E b0 M_X5_number 0 0 [.ref a_t, vI v1, vI v2] h n (some (vI r.1)) (ov [a_t, (a_t + 1)] [.inr (5, fsX5 a_t t_many r.2.1 r.2.2.1 r.2.2.2), IA E 400 t_bytes] h) n (inI r.1 ∧ inI r.2.1 ∧ inI r.2.2.1 ∧ inI r.2.2.2) := by
  rw [m_X5_number] at hm
  have hg : G l E b0 M_X5_number (fun _ => True) (ZM E b0 (some (vI r.1)) (ov [a_t, (a_t + 1)] [.inr (5, fsX5 a_t t_many r.2.1 r.2.2.1 r.2.2.2), IA E 400 t_bytes] h) n (inI r.1 ∧ inI r.2.1 ∧ inI r.2.2.1 ∧ inI r.2.2.2) 0 0) 0 0 n (ov [a_t, (a_t + 1)] [.inr (5, fsX5 a_t t_many t_place t_fault t_numberPlace), IA E 400 t_bytes] h) 0 [some (.ref a_t), some (vI v1), some (vI v2), none, none, none] [] := by
    have hs := hm
    exact g_X5_number_0 ao ok_t_many ok_t_place ok_t_fault ok_t_numberPlace ok_t_bytes ok_v1 ok_v2 hs
  rw [FA_id hf] at hg
  exact Ct_of [some (.ref a_t), some (vI v1), some (vI v2), none, none, none] ⟨by decide +kernel, rfl⟩ rfl (Nat.le_of_ble_eq_true rfl) hg

/-! ===== X5_readWay ===== -/
theorem e_X5_readWay_0 : DC cX5_readWay 0 (.aload_n 0) 1 1 := ⟨by decide +kernel, rfl⟩
theorem e_X5_readWay_1 : DC cX5_readWay 1 (.bipush (-9)) 2 3 := ⟨by decide +kernel, rfl⟩
theorem e_X5_readWay_3 : DC cX5_readWay 3 (.bipush 9) 2 5 := ⟨by decide +kernel, rfl⟩
theorem e_X5_readWay_5 : DC cX5_readWay 5 (.invokevirtual 145) 3 8 := ⟨by decide +kernel, rfl⟩
theorem e_X5_readWay_8 : DC cX5_readWay 8 (.istore_n 2) 1 9 := ⟨by decide +kernel, rfl⟩
theorem e_X5_readWay_9 : DC cX5_readWay 9 (.aload_n 0) 1 10 := ⟨by decide +kernel, rfl⟩
theorem e_X5_readWay_10 : DC cX5_readWay 10 (.getfield 149) 3 13 := ⟨by decide +kernel, rfl⟩
theorem e_X5_readWay_13 : DC cX5_readWay 13 (.istore_n 3) 1 14 := ⟨by decide +kernel, rfl⟩
theorem e_X5_readWay_14 : DC cX5_readWay 14 (.aload_n 0) 1 15 := ⟨by decide +kernel, rfl⟩
theorem e_X5_readWay_15 : DC cX5_readWay 15 (.bipush (-9)) 2 17 := ⟨by decide +kernel, rfl⟩
theorem e_X5_readWay_17 : DC cX5_readWay 17 (.bipush 9) 2 19 := ⟨by decide +kernel, rfl⟩
theorem e_X5_readWay_19 : DC cX5_readWay 19 (.invokevirtual 145) 3 22 := ⟨by decide +kernel, rfl⟩
theorem e_X5_readWay_22 : DC cX5_readWay 22 (.istore 4) 2 24 := ⟨by decide +kernel, rfl⟩
theorem e_X5_readWay_24 : DC cX5_readWay 24 (.aload_n 0) 1 25 := ⟨by decide +kernel, rfl⟩
theorem e_X5_readWay_25 : DC cX5_readWay 25 (.bipush (-9)) 2 27 := ⟨by decide +kernel, rfl⟩
theorem e_X5_readWay_27 : DC cX5_readWay 27 (.bipush 9) 2 29 := ⟨by decide +kernel, rfl⟩
theorem e_X5_readWay_29 : DC cX5_readWay 29 (.invokevirtual 145) 3 32 := ⟨by decide +kernel, rfl⟩
theorem e_X5_readWay_32 : DC cX5_readWay 32 (.istore 5) 2 34 := ⟨by decide +kernel, rfl⟩
theorem e_X5_readWay_34 : DC cX5_readWay 34 (.iload_n 2) 1 35 := ⟨by decide +kernel, rfl⟩
theorem e_X5_readWay_35 : DB cX5_readWay 35 (.ifCond .ne 19) (19) 3 38 54 := ⟨by decide +kernel, rfl, rfl⟩
theorem e_X5_readWay_38 : DC cX5_readWay 38 (.iload 4) 2 40 := ⟨by decide +kernel, rfl⟩
theorem e_X5_readWay_40 : DB cX5_readWay 40 (.ifCond .ne 14) (14) 3 43 54 := ⟨by decide +kernel, rfl, rfl⟩
theorem e_X5_readWay_43 : DC cX5_readWay 43 (.iload 5) 2 45 := ⟨by decide +kernel, rfl⟩
theorem e_X5_readWay_45 : DB cX5_readWay 45 (.ifCond .ne 9) (9) 3 48 54 := ⟨by decide +kernel, rfl, rfl⟩
theorem e_X5_readWay_48 : DC cX5_readWay 48 (.aload_n 0) 1 49 := ⟨by decide +kernel, rfl⟩
theorem e_X5_readWay_49 : DC cX5_readWay 49 (.iload_n 3) 1 50 := ⟨by decide +kernel, rfl⟩
theorem e_X5_readWay_50 : DC cX5_readWay 50 (.iconst 2) 1 51 := ⟨by decide +kernel, rfl⟩
theorem e_X5_readWay_51 : DC cX5_readWay 51 (.invokevirtual 45) 3 54 := ⟨by decide +kernel, rfl⟩
theorem e_X5_readWay_54 : DC cX5_readWay 54 (.aload_n 0) 1 55 := ⟨by decide +kernel, rfl⟩
theorem e_X5_readWay_55 : DC cX5_readWay 55 (.getfield 31) 3 58 := ⟨by decide +kernel, rfl⟩
theorem e_X5_readWay_58 : DB cX5_readWay 58 (.ifCond .ne 12) (12) 3 61 70 := ⟨by decide +kernel, rfl, rfl⟩
theorem e_X5_readWay_61 : DC cX5_readWay 61 (.aload_n 1) 1 62 := ⟨by decide +kernel, rfl⟩
theorem e_X5_readWay_62 : DC cX5_readWay 62 (.iload_n 2) 1 63 := ⟨by decide +kernel, rfl⟩
theorem e_X5_readWay_63 : DC cX5_readWay 63 (.iload 4) 2 65 := ⟨by decide +kernel, rfl⟩
theorem e_X5_readWay_65 : DC cX5_readWay 65 (.iload 5) 2 67 := ⟨by decide +kernel, rfl⟩
theorem e_X5_readWay_67 : DC cX5_readWay 67 (.invokevirtual 152) 3 70 := ⟨by decide +kernel, rfl⟩
theorem e_X5_readWay_70 : DC cX5_readWay 70 (.return_) 1 71 := ⟨by decide +kernel, rfl⟩
noncomputable def m_X5_readWay_54 (N_p1 : Nat) (t_place : Int) (t_fault : Int) (t_numberPlace : Int) (p1_many : Int) (p1_xs : Nat → Int) (p1_ys : Nat → Int) (p1_zs : Nat → Int) (v2 : Int) (v4 : Int) (v5 : Int) : Option (Int × Int × Int × Int × (Nat → Int) × (Nat → Int) × (Nat → Int)) :=
  if t_fault = 0 then ((m_X8_append N_p1 p1_many p1_xs p1_ys p1_zs v2 v4 v5).bind (fun y5 => some (t_place, t_fault, t_numberPlace, y5.1, y5.2.1, y5.2.2.1, y5.2.2.2))) else (some (t_place, t_fault, t_numberPlace, p1_many, p1_xs, p1_ys, p1_zs))

set_option maxRecDepth 10000 in
theorem g_X5_readWay_54 {l : Launch} {E : EE} {b0 n : Nat} {h : AH} {a_t a_p1 : Nat} {N_p1 : Nat} {t_many t_place t_fault t_numberPlace p1_many v2 v4 v5 : Int} {t_bytes p1_xs p1_ys p1_zs : Nat → Int} {r : Int × Int × Int × Int × (Nat → Int) × (Nat → Int) × (Nat → Int)} (ao : AO b0 n [a_t, (a_t + 1), a_p1, (a_p1 + 1), (a_p1 + 2), (a_p1 + 3)]) (hN_p1 : N_p1 ≤ 100000) (ok_t_many : inI t_many) (ok_t_place : inI t_place) (ok_t_fault : inI t_fault) (ok_t_numberPlace : inI t_numberPlace) (ok_t_bytes : okA t_bytes) (ok_p1_many : inI p1_many) (ok_p1_xs : okA p1_xs) (ok_p1_ys : okA p1_ys) (ok_p1_zs : okA p1_zs) (ok_v2 : inI v2) (ok_v4 : inI v4) (ok_v5 : inI v5) (hs : m_X5_readWay_54 N_p1 t_place t_fault t_numberPlace p1_many p1_xs p1_ys p1_zs v2 v4 v5 = some r) : G l E b0 M_X5_readWay (fun _ => True) (ZM E b0 (none) (ov [a_t, (a_t + 1), a_p1, (a_p1 + 1), (a_p1 + 2), (a_p1 + 3)] [.inr (5, fsX5 a_t t_many r.1 r.2.1 r.2.2.1), IA E 400 t_bytes, .inr (8, fsX8 a_p1 r.2.2.2.1), IA E N_p1 r.2.2.2.2.1, IA E N_p1 r.2.2.2.2.2.1, IA E N_p1 r.2.2.2.2.2.2] h) n (inI r.1 ∧ inI r.2.1 ∧ inI r.2.2.1 ∧ inI r.2.2.2.1 ∧ okA r.2.2.2.2.1 ∧ okA r.2.2.2.2.2.1 ∧ okA r.2.2.2.2.2.2) 0 0) 0 0 n (ov [a_t, (a_t + 1), a_p1, (a_p1 + 1), (a_p1 + 2), (a_p1 + 3)] [.inr (5, fsX5 a_t t_many t_place t_fault t_numberPlace), IA E 400 t_bytes, .inr (8, fsX8 a_p1 p1_many), IA E N_p1 p1_xs, IA E N_p1 p1_ys, IA E N_p1 p1_zs] h) 54 [some (.ref a_t), some (.ref a_p1), some (vI v2), none, some (vI v4), some (vI v5)] [] := by
  rw [m_X5_readWay_54] at hs
  refine g_aload_n e_X5_readWay_54 rfl ?_
  refine g_get 0 3 ao rfl rfl fsX5_g3 fl_X5_31 e_X5_readWay_55 ?_
  refine g_if_ne e_X5_readWay_58 ok_t_fault hs (fun c58 hs => ?_) (fun c58 hs => ?_)
  · refine g_aload_n e_X5_readWay_61 rfl ?_
    refine g_iload_n e_X5_readWay_62 rfl ?_
    refine g_iload e_X5_readWay_63 rfl ?_
    refine g_iload e_X5_readWay_65 rfl ?_
    obtain ⟨y5, hy5, hs⟩ := bind_elim hs
    refine g_callVv [vI v2, vI v4, vI v5] cv_X5_152 ⟨rfl, rfl, Nat.le_of_ble_eq_true rfl, Nat.le_of_ble_eq_true rfl⟩ (Ct_heap (ct_X8_append (AO_call [2, 3, 4, 5] ao (by decide) rfl) hN_p1 (FA_call [2, 3, 4, 5] ao.1 rfl rfl) ok_p1_many ok_p1_xs ok_p1_ys ok_p1_zs ok_v2 ok_v4 ok_v5 hy5) (ov_call (esn := [.inr (5, fsX5 a_t t_many t_place t_fault t_numberPlace), IA E 400 t_bytes, .inr (8, fsX8 a_p1 y5.1), IA E N_p1 y5.2.1, IA E N_p1 y5.2.2.1, IA E N_p1 y5.2.2.2]) [2, 3, 4, 5] ao.1 rfl rfl rfl rfl)) e_X5_readWay_67 (ao.2 2 _ rfl) (ov_get 2 ao.1 rfl rfl) rfl rfl rfl (Nat.le_of_ble_eq_true rfl) ⟨Nat.le_refl _, Nat.le_refl _⟩ (fun Py5 => ?_)
    obtain rfl := Option.some.inj hs
    exact g_vret rfl ⟨ok_t_place, ok_t_fault, ok_t_numberPlace, Py5.1, Py5.2.1, Py5.2.2.1, Py5.2.2.2⟩ e_X5_readWay_70
  · obtain rfl := Option.some.inj hs
    exact g_vret rfl ⟨ok_t_place, ok_t_fault, ok_t_numberPlace, ok_p1_many, ok_p1_xs, ok_p1_ys, ok_p1_zs⟩ e_X5_readWay_70

noncomputable def m_X5_readWay_0 (N_p1 : Nat) (t_many : Int) (t_place : Int) (t_fault : Int) (t_numberPlace : Int) (t_bytes : Nat → Int) (p1_many : Int) (p1_xs : Nat → Int) (p1_ys : Nat → Int) (p1_zs : Nat → Int) : Option (Int × Int × Int × Int × (Nat → Int) × (Nat → Int) × (Nat → Int)) :=
  (m_X5_number t_many t_place t_fault t_numberPlace t_bytes (-9) 9).bind (fun y1 => (m_X5_number t_many y1.2.1 y1.2.2.1 y1.2.2.2 t_bytes (-9) 9).bind (fun y2 => (m_X5_number t_many y2.2.1 y2.2.2.1 y2.2.2.2 t_bytes (-9) 9).bind (fun y3 => if y1.1 = 0 then (if y2.1 = 0 then (if y3.1 = 0 then ((m_X5_refuse y3.2.2.1 y1.2.2.2 2).bind (fun y4 => m_X5_readWay_54 N_p1 y3.2.1 y4 y3.2.2.2 p1_many p1_xs p1_ys p1_zs y1.1 y2.1 y3.1)) else (m_X5_readWay_54 N_p1 y3.2.1 y3.2.2.1 y3.2.2.2 p1_many p1_xs p1_ys p1_zs y1.1 y2.1 y3.1)) else (m_X5_readWay_54 N_p1 y3.2.1 y3.2.2.1 y3.2.2.2 p1_many p1_xs p1_ys p1_zs y1.1 y2.1 y3.1)) else (m_X5_readWay_54 N_p1 y3.2.1 y3.2.2.1 y3.2.2.2 p1_many p1_xs p1_ys p1_zs y1.1 y2.1 y3.1))))

set_option maxRecDepth 10000 in
theorem g_X5_readWay_0 {l : Launch} {E : EE} {b0 n : Nat} {h : AH} {a_t a_p1 : Nat} {N_p1 : Nat} {t_many t_place t_fault t_numberPlace p1_many : Int} {t_bytes p1_xs p1_ys p1_zs : Nat → Int} {r : Int × Int × Int × Int × (Nat → Int) × (Nat → Int) × (Nat → Int)} (ao : AO b0 n [a_t, (a_t + 1), a_p1, (a_p1 + 1), (a_p1 + 2), (a_p1 + 3)]) (hN_p1 : N_p1 ≤ 100000) (ok_t_many : inI t_many) (ok_t_place : inI t_place) (ok_t_fault : inI t_fault) (ok_t_numberPlace : inI t_numberPlace) (ok_t_bytes : okA t_bytes) (ok_p1_many : inI p1_many) (ok_p1_xs : okA p1_xs) (ok_p1_ys : okA p1_ys) (ok_p1_zs : okA p1_zs) (hs : m_X5_readWay_0 N_p1 t_many t_place t_fault t_numberPlace t_bytes p1_many p1_xs p1_ys p1_zs = some r) : G l E b0 M_X5_readWay (fun _ => True) (ZM E b0 (none) (ov [a_t, (a_t + 1), a_p1, (a_p1 + 1), (a_p1 + 2), (a_p1 + 3)] [.inr (5, fsX5 a_t t_many r.1 r.2.1 r.2.2.1), IA E 400 t_bytes, .inr (8, fsX8 a_p1 r.2.2.2.1), IA E N_p1 r.2.2.2.2.1, IA E N_p1 r.2.2.2.2.2.1, IA E N_p1 r.2.2.2.2.2.2] h) n (inI r.1 ∧ inI r.2.1 ∧ inI r.2.2.1 ∧ inI r.2.2.2.1 ∧ okA r.2.2.2.2.1 ∧ okA r.2.2.2.2.2.1 ∧ okA r.2.2.2.2.2.2) 0 0) 0 0 n (ov [a_t, (a_t + 1), a_p1, (a_p1 + 1), (a_p1 + 2), (a_p1 + 3)] [.inr (5, fsX5 a_t t_many t_place t_fault t_numberPlace), IA E 400 t_bytes, .inr (8, fsX8 a_p1 p1_many), IA E N_p1 p1_xs, IA E N_p1 p1_ys, IA E N_p1 p1_zs] h) 0 [some (.ref a_t), some (.ref a_p1), none, none, none, none] [] := by
  rw [m_X5_readWay_0] at hs
  refine g_aload_n e_X5_readWay_0 rfl ?_
  refine g_bipush e_X5_readWay_1 bp_m9 ?_
  refine g_bipush e_X5_readWay_3 bp_9 ?_
  obtain ⟨y1, hy1, hs⟩ := bind_elim hs
  refine g_callVr [vI (-9), vI 9] cv_X5_145 ⟨rfl, rfl, Nat.le_of_ble_eq_true rfl, Nat.le_of_ble_eq_true rfl⟩ (Ct_heap (ct_X5_number (AO_call [0, 1] ao (by decide) rfl) (FA_call [0, 1] ao.1 rfl rfl) ok_t_many ok_t_place ok_t_fault ok_t_numberPlace ok_t_bytes (by decide : inI (-9)) (by decide : inI 9) hy1) (ov_call (esn := [.inr (5, fsX5 a_t t_many y1.2.1 y1.2.2.1 y1.2.2.2), IA E 400 t_bytes, .inr (8, fsX8 a_p1 p1_many), IA E N_p1 p1_xs, IA E N_p1 p1_ys, IA E N_p1 p1_zs]) [0, 1] ao.1 rfl rfl rfl rfl)) e_X5_readWay_5 (ao.2 0 _ rfl) (ov_get 0 ao.1 rfl rfl) rfl rfl rfl (Nat.le_of_ble_eq_true rfl) ⟨Nat.le_refl _, Nat.le_refl _⟩ (fun Py1 => ?_)
  refine g_istore_n e_X5_readWay_8 st1_2 rfl ?_
  refine g_aload_n e_X5_readWay_9 rfl ?_
  refine g_get 0 4 ao rfl rfl fsX5_g4 fl_X5_149 e_X5_readWay_10 ?_
  refine g_istore_n e_X5_readWay_13 st1_3 rfl ?_
  refine g_aload_n e_X5_readWay_14 rfl ?_
  refine g_bipush e_X5_readWay_15 bp_m9 ?_
  refine g_bipush e_X5_readWay_17 bp_9 ?_
  obtain ⟨y2, hy2, hs⟩ := bind_elim hs
  refine g_callVr [vI (-9), vI 9] cv_X5_145 ⟨rfl, rfl, Nat.le_of_ble_eq_true rfl, Nat.le_of_ble_eq_true rfl⟩ (Ct_heap (ct_X5_number (AO_call [0, 1] ao (by decide) rfl) (FA_call [0, 1] ao.1 rfl rfl) ok_t_many Py1.2.1 Py1.2.2.1 Py1.2.2.2 ok_t_bytes (by decide : inI (-9)) (by decide : inI 9) hy2) (ov_call (esn := [.inr (5, fsX5 a_t t_many y2.2.1 y2.2.2.1 y2.2.2.2), IA E 400 t_bytes, .inr (8, fsX8 a_p1 p1_many), IA E N_p1 p1_xs, IA E N_p1 p1_ys, IA E N_p1 p1_zs]) [0, 1] ao.1 rfl rfl rfl rfl)) e_X5_readWay_19 (ao.2 0 _ rfl) (ov_get 0 ao.1 rfl rfl) rfl rfl rfl (Nat.le_of_ble_eq_true rfl) ⟨Nat.le_refl _, Nat.le_refl _⟩ (fun Py2 => ?_)
  refine g_istore e_X5_readWay_22 st1_4 rfl ?_
  refine g_aload_n e_X5_readWay_24 rfl ?_
  refine g_bipush e_X5_readWay_25 bp_m9 ?_
  refine g_bipush e_X5_readWay_27 bp_9 ?_
  obtain ⟨y3, hy3, hs⟩ := bind_elim hs
  refine g_callVr [vI (-9), vI 9] cv_X5_145 ⟨rfl, rfl, Nat.le_of_ble_eq_true rfl, Nat.le_of_ble_eq_true rfl⟩ (Ct_heap (ct_X5_number (AO_call [0, 1] ao (by decide) rfl) (FA_call [0, 1] ao.1 rfl rfl) ok_t_many Py2.2.1 Py2.2.2.1 Py2.2.2.2 ok_t_bytes (by decide : inI (-9)) (by decide : inI 9) hy3) (ov_call (esn := [.inr (5, fsX5 a_t t_many y3.2.1 y3.2.2.1 y3.2.2.2), IA E 400 t_bytes, .inr (8, fsX8 a_p1 p1_many), IA E N_p1 p1_xs, IA E N_p1 p1_ys, IA E N_p1 p1_zs]) [0, 1] ao.1 rfl rfl rfl rfl)) e_X5_readWay_29 (ao.2 0 _ rfl) (ov_get 0 ao.1 rfl rfl) rfl rfl rfl (Nat.le_of_ble_eq_true rfl) ⟨Nat.le_refl _, Nat.le_refl _⟩ (fun Py3 => ?_)
  refine g_istore e_X5_readWay_32 st1_5 rfl ?_
  refine g_iload_n e_X5_readWay_34 rfl ?_
  refine g_if_ne e_X5_readWay_35 Py1.1 hs (fun c35 hs => ?_) (fun c35 hs => ?_)
  · refine g_iload e_X5_readWay_38 rfl ?_
    refine g_if_ne e_X5_readWay_40 Py2.1 hs (fun c40 hs => ?_) (fun c40 hs => ?_)
    · refine g_iload e_X5_readWay_43 rfl ?_
      refine g_if_ne e_X5_readWay_45 Py3.1 hs (fun c45 hs => ?_) (fun c45 hs => ?_)
      · refine g_aload_n e_X5_readWay_48 rfl ?_
        refine g_iload_n e_X5_readWay_49 rfl ?_
        refine g_iconst e_X5_readWay_50 ?_
        obtain ⟨y4, hy4, hs⟩ := bind_elim hs
        refine g_callVv [vI y1.2.2.2, vI 2] cv_X5_45 ⟨rfl, rfl, Nat.le_of_ble_eq_true rfl, Nat.le_of_ble_eq_true rfl⟩ (Ct_heap (ct_X5_refuse (AO_call [0] ao (by decide) rfl) (FA_call [0] ao.1 rfl rfl) Py3.2.2.1 Py1.2.2.2 (by decide : inI 2) hy4) (ov_call (esn := [.inr (5, fsX5 a_t t_many y3.2.1 y4 y3.2.2.2), IA E 400 t_bytes, .inr (8, fsX8 a_p1 p1_many), IA E N_p1 p1_xs, IA E N_p1 p1_ys, IA E N_p1 p1_zs]) [0] ao.1 rfl rfl rfl rfl)) e_X5_readWay_51 (ao.2 0 _ rfl) (ov_get 0 ao.1 rfl rfl) rfl rfl rfl (Nat.le_of_ble_eq_true rfl) ⟨Nat.le_refl _, Nat.le_refl _⟩ (fun Py4 => ?_)
        exact g_mask [true, true, true, false, true, true] (g_X5_readWay_54 ao hN_p1 ok_t_many Py3.2.1 Py4 Py3.2.2.2 ok_t_bytes ok_p1_many ok_p1_xs ok_p1_ys ok_p1_zs Py1.1 Py2.1 Py3.1 hs)
      · exact g_mask [true, true, true, false, true, true] (g_X5_readWay_54 ao hN_p1 ok_t_many Py3.2.1 Py3.2.2.1 Py3.2.2.2 ok_t_bytes ok_p1_many ok_p1_xs ok_p1_ys ok_p1_zs Py1.1 Py2.1 Py3.1 hs)
    · exact g_mask [true, true, true, false, true, true] (g_X5_readWay_54 ao hN_p1 ok_t_many Py3.2.1 Py3.2.2.1 Py3.2.2.2 ok_t_bytes ok_p1_many ok_p1_xs ok_p1_ys ok_p1_zs Py1.1 Py2.1 Py3.1 hs)
  · exact g_mask [true, true, true, false, true, true] (g_X5_readWay_54 ao hN_p1 ok_t_many Py3.2.1 Py3.2.2.1 Py3.2.2.2 ok_t_bytes ok_p1_many ok_p1_xs ok_p1_ys ok_p1_zs Py1.1 Py2.1 Py3.1 hs)

noncomputable def m_X5_readWay (N_p1 : Nat) (t_many : Int) (t_place : Int) (t_fault : Int) (t_numberPlace : Int) (t_bytes : Nat → Int) (p1_many : Int) (p1_xs : Nat → Int) (p1_ys : Nat → Int) (p1_zs : Nat → Int) : Option (Int × Int × Int × Int × (Nat → Int) × (Nat → Int) × (Nat → Int)) := m_X5_readWay_0 N_p1 t_many t_place t_fault t_numberPlace t_bytes p1_many p1_xs p1_ys p1_zs

set_option maxRecDepth 10000 in
theorem ct_X5_readWay {l : Launch} {E : EE} {b0 n : Nat} {h : AH} {a_t a_p1 : Nat} {N_p1 : Nat} {t_many t_place t_fault t_numberPlace p1_many : Int} {t_bytes p1_xs p1_ys p1_zs : Nat → Int} (ao : AO b0 n [a_t, (a_t + 1), a_p1, (a_p1 + 1), (a_p1 + 2), (a_p1 + 3)]) (hN_p1 : N_p1 ≤ 100000) (hf : FA h [a_t, (a_t + 1), a_p1, (a_p1 + 1), (a_p1 + 2), (a_p1 + 3)] [.inr (5, fsX5 a_t t_many t_place t_fault t_numberPlace), IA E 400 t_bytes, .inr (8, fsX8 a_p1 p1_many), IA E N_p1 p1_xs, IA E N_p1 p1_ys, IA E N_p1 p1_zs]) (ok_t_many : inI t_many) (ok_t_place : inI t_place) (ok_t_fault : inI t_fault) (ok_t_numberPlace : inI t_numberPlace) (ok_t_bytes : okA t_bytes) (ok_p1_many : inI p1_many) (ok_p1_xs : okA p1_xs) (ok_p1_ys : okA p1_ys) (ok_p1_zs : okA p1_zs) {r : Int × Int × Int × Int × (Nat → Int) × (Nat → Int) × (Nat → Int)} (hm : m_X5_readWay N_p1 t_many t_place t_fault t_numberPlace t_bytes p1_many p1_xs p1_ys p1_zs = some r) : Ct l E b0 M_X5_readWay 0 0 [.ref a_t, .ref a_p1] h n (none) (ov [a_t, (a_t + 1), a_p1, (a_p1 + 1), (a_p1 + 2), (a_p1 + 3)] [.inr (5, fsX5 a_t t_many r.1 r.2.1 r.2.2.1), IA E 400 t_bytes, .inr (8, fsX8 a_p1 r.2.2.2.1), IA E N_p1 r.2.2.2.2.1, IA E N_p1 r.2.2.2.2.2.1, IA E N_p1 r.2.2.2.2.2.2] h) n (inI r.1 ∧ inI r.2.1 ∧ inI r.2.2.1 ∧ inI r.2.2.2.1 ∧ okA r.2.2.2.2.1 ∧ okA r.2.2.2.2.2.1 ∧ okA r.2.2.2.2.2.2) := by
  rw [m_X5_readWay] at hm
  have hg : G l E b0 M_X5_readWay (fun _ => True) (ZM E b0 (none) (ov [a_t, (a_t + 1), a_p1, (a_p1 + 1), (a_p1 + 2), (a_p1 + 3)] [.inr (5, fsX5 a_t t_many r.1 r.2.1 r.2.2.1), IA E 400 t_bytes, .inr (8, fsX8 a_p1 r.2.2.2.1), IA E N_p1 r.2.2.2.2.1, IA E N_p1 r.2.2.2.2.2.1, IA E N_p1 r.2.2.2.2.2.2] h) n (inI r.1 ∧ inI r.2.1 ∧ inI r.2.2.1 ∧ inI r.2.2.2.1 ∧ okA r.2.2.2.2.1 ∧ okA r.2.2.2.2.2.1 ∧ okA r.2.2.2.2.2.2) 0 0) 0 0 n (ov [a_t, (a_t + 1), a_p1, (a_p1 + 1), (a_p1 + 2), (a_p1 + 3)] [.inr (5, fsX5 a_t t_many t_place t_fault t_numberPlace), IA E 400 t_bytes, .inr (8, fsX8 a_p1 p1_many), IA E N_p1 p1_xs, IA E N_p1 p1_ys, IA E N_p1 p1_zs] h) 0 [some (.ref a_t), some (.ref a_p1), none, none, none, none] [] := by
    have hs := hm
    exact g_X5_readWay_0 ao hN_p1 ok_t_many ok_t_place ok_t_fault ok_t_numberPlace ok_t_bytes ok_p1_many ok_p1_xs ok_p1_ys ok_p1_zs hs
  rw [FA_id hf] at hg
  exact Ct_of [some (.ref a_t), some (.ref a_p1), none, none, none, none] ⟨by decide +kernel, rfl⟩ rfl (Nat.le_of_ble_eq_true rfl) hg

/-! ===== X5_readPush ===== -/
theorem e_X5_readPush_0 : DC cX5_readPush 0 (.aload_n 0) 1 1 := ⟨by decide +kernel, rfl⟩
theorem e_X5_readPush_1 : DC cX5_readPush 1 (.iconst 1) 1 2 := ⟨by decide +kernel, rfl⟩
theorem e_X5_readPush_2 : DC cX5_readPush 2 (.bipush 20) 2 4 := ⟨by decide +kernel, rfl⟩
theorem e_X5_readPush_4 : DC cX5_readPush 4 (.invokevirtual 145) 3 7 := ⟨by decide +kernel, rfl⟩
theorem e_X5_readPush_7 : DC cX5_readPush 7 (.istore_n 2) 1 8 := ⟨by decide +kernel, rfl⟩
theorem e_X5_readPush_8 : DC cX5_readPush 8 (.aload_n 1) 1 9 := ⟨by decide +kernel, rfl⟩
theorem e_X5_readPush_9 : DC cX5_readPush 9 (.iload_n 2) 1 10 := ⟨by decide +kernel, rfl⟩
theorem e_X5_readPush_10 : DC cX5_readPush 10 (.invokevirtual 156) 3 13 := ⟨by decide +kernel, rfl⟩
theorem e_X5_readPush_13 : DB cX5_readPush 13 (.ifCond .eq 12) (12) 3 16 25 := ⟨by decide +kernel, rfl, rfl⟩
theorem e_X5_readPush_16 : DC cX5_readPush 16 (.aload_n 0) 1 17 := ⟨by decide +kernel, rfl⟩
theorem e_X5_readPush_17 : DC cX5_readPush 17 (.aload_n 0) 1 18 := ⟨by decide +kernel, rfl⟩
theorem e_X5_readPush_18 : DC cX5_readPush 18 (.getfield 149) 3 21 := ⟨by decide +kernel, rfl⟩
theorem e_X5_readPush_21 : DC cX5_readPush 21 (.iconst 3) 1 22 := ⟨by decide +kernel, rfl⟩
theorem e_X5_readPush_22 : DC cX5_readPush 22 (.invokevirtual 45) 3 25 := ⟨by decide +kernel, rfl⟩
theorem e_X5_readPush_25 : DC cX5_readPush 25 (.aload_n 0) 1 26 := ⟨by decide +kernel, rfl⟩
theorem e_X5_readPush_26 : DC cX5_readPush 26 (.iconst 0) 1 27 := ⟨by decide +kernel, rfl⟩
theorem e_X5_readPush_27 : DC cX5_readPush 27 (.sipush 999) 3 30 := ⟨by decide +kernel, rfl⟩
theorem e_X5_readPush_30 : DC cX5_readPush 30 (.invokevirtual 145) 3 33 := ⟨by decide +kernel, rfl⟩
theorem e_X5_readPush_33 : DC cX5_readPush 33 (.istore_n 3) 1 34 := ⟨by decide +kernel, rfl⟩
theorem e_X5_readPush_34 : DC cX5_readPush 34 (.aload_n 0) 1 35 := ⟨by decide +kernel, rfl⟩
theorem e_X5_readPush_35 : DC cX5_readPush 35 (.getfield 31) 3 38 := ⟨by decide +kernel, rfl⟩
theorem e_X5_readPush_38 : DB cX5_readPush 38 (.ifCond .ne 9) (9) 3 41 47 := ⟨by decide +kernel, rfl, rfl⟩
theorem e_X5_readPush_41 : DC cX5_readPush 41 (.aload_n 1) 1 42 := ⟨by decide +kernel, rfl⟩
theorem e_X5_readPush_42 : DC cX5_readPush 42 (.iload_n 2) 1 43 := ⟨by decide +kernel, rfl⟩
theorem e_X5_readPush_43 : DC cX5_readPush 43 (.iload_n 3) 1 44 := ⟨by decide +kernel, rfl⟩
theorem e_X5_readPush_44 : DC cX5_readPush 44 (.invokevirtual 159) 3 47 := ⟨by decide +kernel, rfl⟩
theorem e_X5_readPush_47 : DC cX5_readPush 47 (.return_) 1 48 := ⟨by decide +kernel, rfl⟩
noncomputable def m_X5_readPush_25 (t_many : Int) (t_place : Int) (t_fault : Int) (t_numberPlace : Int) (t_bytes : Nat → Int) (p1_pushes : Nat → Int) (p1_pushTold : Nat → Int) (v2 : Int) : Option (Int × Int × Int × (Nat → Int) × (Nat → Int)) :=
  (m_X5_number t_many t_place t_fault t_numberPlace t_bytes 0 999).bind (fun y3 => if y3.2.2.1 = 0 then ((m_X3_tellPush p1_pushes p1_pushTold v2 y3.1).bind (fun y4 => some (y3.2.1, y3.2.2.1, y3.2.2.2, y4.1, y4.2))) else (some (y3.2.1, y3.2.2.1, y3.2.2.2, p1_pushes, p1_pushTold)))

set_option maxRecDepth 10000 in
theorem g_X5_readPush_25 {l : Launch} {E : EE} {b0 n : Nat} {h : AH} {a_t a_p1 : Nat} {t_many t_place t_fault t_numberPlace p1_speckMany p1_sourceMany p1_baseTold p1_baseLow p1_baseHigh p1_reach v2 : Int} {t_bytes p1_pushes p1_pushTold : Nat → Int} {r : Int × Int × Int × (Nat → Int) × (Nat → Int)} (ao : AO b0 n [a_t, (a_t + 1), a_p1, (a_p1 + 1), (a_p1 + 2)]) (ok_t_many : inI t_many) (ok_t_place : inI t_place) (ok_t_fault : inI t_fault) (ok_t_numberPlace : inI t_numberPlace) (ok_t_bytes : okA t_bytes) (ok_p1_pushes : okA p1_pushes) (ok_p1_pushTold : okZ p1_pushTold) (ok_v2 : inI v2) (hs : m_X5_readPush_25 t_many t_place t_fault t_numberPlace t_bytes p1_pushes p1_pushTold v2 = some r) : G l E b0 M_X5_readPush (fun _ => True) (ZM E b0 (none) (ov [a_t, (a_t + 1), a_p1, (a_p1 + 1), (a_p1 + 2)] [.inr (5, fsX5 a_t t_many r.1 r.2.1 r.2.2.1), IA E 400 t_bytes, .inr (3, fsX3 a_p1 p1_speckMany p1_sourceMany p1_baseTold p1_baseLow p1_baseHigh p1_reach), IA E 21 r.2.2.2.1, ZA E 21 r.2.2.2.2] h) n (inI r.1 ∧ inI r.2.1 ∧ inI r.2.2.1 ∧ okA r.2.2.2.1 ∧ okZ r.2.2.2.2) 0 0) 0 0 n (ov [a_t, (a_t + 1), a_p1, (a_p1 + 1), (a_p1 + 2)] [.inr (5, fsX5 a_t t_many t_place t_fault t_numberPlace), IA E 400 t_bytes, .inr (3, fsX3 a_p1 p1_speckMany p1_sourceMany p1_baseTold p1_baseLow p1_baseHigh p1_reach), IA E 21 p1_pushes, ZA E 21 p1_pushTold] h) 25 [some (.ref a_t), some (.ref a_p1), some (vI v2), none] [] := by
  rw [m_X5_readPush_25] at hs
  refine g_aload_n e_X5_readPush_25 rfl ?_
  refine g_iconst e_X5_readPush_26 ?_
  refine g_sipush e_X5_readPush_27 sp_999 ?_
  obtain ⟨y3, hy3, hs⟩ := bind_elim hs
  refine g_callVr [vI 0, vI 999] cv_X5_145 ⟨rfl, rfl, Nat.le_of_ble_eq_true rfl, Nat.le_of_ble_eq_true rfl⟩ (Ct_heap (ct_X5_number (AO_call [0, 1] ao (by decide) rfl) (FA_call [0, 1] ao.1 rfl rfl) ok_t_many ok_t_place ok_t_fault ok_t_numberPlace ok_t_bytes (by decide : inI 0) (by decide : inI 999) hy3) (ov_call (esn := [.inr (5, fsX5 a_t t_many y3.2.1 y3.2.2.1 y3.2.2.2), IA E 400 t_bytes, .inr (3, fsX3 a_p1 p1_speckMany p1_sourceMany p1_baseTold p1_baseLow p1_baseHigh p1_reach), IA E 21 p1_pushes, ZA E 21 p1_pushTold]) [0, 1] ao.1 rfl rfl rfl rfl)) e_X5_readPush_30 (ao.2 0 _ rfl) (ov_get 0 ao.1 rfl rfl) rfl rfl rfl (Nat.le_of_ble_eq_true rfl) ⟨Nat.le_refl _, Nat.le_refl _⟩ (fun Py3 => ?_)
  refine g_istore_n e_X5_readPush_33 st1_3 rfl ?_
  refine g_aload_n e_X5_readPush_34 rfl ?_
  refine g_get 0 3 ao rfl rfl fsX5_g3 fl_X5_31 e_X5_readPush_35 ?_
  refine g_if_ne e_X5_readPush_38 Py3.2.2.1 hs (fun c38 hs => ?_) (fun c38 hs => ?_)
  · refine g_aload_n e_X5_readPush_41 rfl ?_
    refine g_iload_n e_X5_readPush_42 rfl ?_
    refine g_iload_n e_X5_readPush_43 rfl ?_
    obtain ⟨y4, hy4, hs⟩ := bind_elim hs
    refine g_callVv [vI v2, vI y3.1] cv_X5_159 ⟨rfl, rfl, Nat.le_of_ble_eq_true rfl, Nat.le_of_ble_eq_true rfl⟩ (Ct_heap (ct_X3_tellPush (AO_call [2, 3, 4] ao (by decide) rfl) (FA_call [2, 3, 4] ao.1 rfl rfl) ok_p1_pushes ok_p1_pushTold ok_v2 Py3.1 hy4) (ov_call (esn := [.inr (5, fsX5 a_t t_many y3.2.1 y3.2.2.1 y3.2.2.2), IA E 400 t_bytes, .inr (3, fsX3 a_p1 p1_speckMany p1_sourceMany p1_baseTold p1_baseLow p1_baseHigh p1_reach), IA E 21 y4.1, ZA E 21 y4.2]) [2, 3, 4] ao.1 rfl rfl rfl rfl)) e_X5_readPush_44 (ao.2 2 _ rfl) (ov_get 2 ao.1 rfl rfl) rfl rfl rfl (Nat.le_of_ble_eq_true rfl) ⟨Nat.le_refl _, Nat.le_refl _⟩ (fun Py4 => ?_)
    obtain rfl := Option.some.inj hs
    exact g_vret rfl ⟨Py3.2.1, Py3.2.2.1, Py3.2.2.2, Py4.1, Py4.2⟩ e_X5_readPush_47
  · obtain rfl := Option.some.inj hs
    exact g_vret rfl ⟨Py3.2.1, Py3.2.2.1, Py3.2.2.2, ok_p1_pushes, ok_p1_pushTold⟩ e_X5_readPush_47

noncomputable def m_X5_readPush_0 (t_many : Int) (t_place : Int) (t_fault : Int) (t_numberPlace : Int) (t_bytes : Nat → Int) (p1_pushes : Nat → Int) (p1_pushTold : Nat → Int) : Option (Int × Int × Int × (Nat → Int) × (Nat → Int)) :=
  (m_X5_number t_many t_place t_fault t_numberPlace t_bytes 1 20).bind (fun y1 => (m_X3_isPushTold p1_pushTold y1.1).bind (fun y2 => if y2 = 0 then (m_X5_readPush_25 t_many y1.2.1 y1.2.2.1 y1.2.2.2 t_bytes p1_pushes p1_pushTold y1.1) else ((m_X5_refuse y1.2.2.1 y1.2.2.2 3).bind (fun y5 => m_X5_readPush_25 t_many y1.2.1 y5 y1.2.2.2 t_bytes p1_pushes p1_pushTold y1.1))))

set_option maxRecDepth 10000 in
theorem g_X5_readPush_0 {l : Launch} {E : EE} {b0 n : Nat} {h : AH} {a_t a_p1 : Nat} {t_many t_place t_fault t_numberPlace p1_speckMany p1_sourceMany p1_baseTold p1_baseLow p1_baseHigh p1_reach : Int} {t_bytes p1_pushes p1_pushTold : Nat → Int} {r : Int × Int × Int × (Nat → Int) × (Nat → Int)} (ao : AO b0 n [a_t, (a_t + 1), a_p1, (a_p1 + 1), (a_p1 + 2)]) (ok_t_many : inI t_many) (ok_t_place : inI t_place) (ok_t_fault : inI t_fault) (ok_t_numberPlace : inI t_numberPlace) (ok_t_bytes : okA t_bytes) (ok_p1_pushes : okA p1_pushes) (ok_p1_pushTold : okZ p1_pushTold) (hs : m_X5_readPush_0 t_many t_place t_fault t_numberPlace t_bytes p1_pushes p1_pushTold = some r) : G l E b0 M_X5_readPush (fun _ => True) (ZM E b0 (none) (ov [a_t, (a_t + 1), a_p1, (a_p1 + 1), (a_p1 + 2)] [.inr (5, fsX5 a_t t_many r.1 r.2.1 r.2.2.1), IA E 400 t_bytes, .inr (3, fsX3 a_p1 p1_speckMany p1_sourceMany p1_baseTold p1_baseLow p1_baseHigh p1_reach), IA E 21 r.2.2.2.1, ZA E 21 r.2.2.2.2] h) n (inI r.1 ∧ inI r.2.1 ∧ inI r.2.2.1 ∧ okA r.2.2.2.1 ∧ okZ r.2.2.2.2) 0 0) 0 0 n (ov [a_t, (a_t + 1), a_p1, (a_p1 + 1), (a_p1 + 2)] [.inr (5, fsX5 a_t t_many t_place t_fault t_numberPlace), IA E 400 t_bytes, .inr (3, fsX3 a_p1 p1_speckMany p1_sourceMany p1_baseTold p1_baseLow p1_baseHigh p1_reach), IA E 21 p1_pushes, ZA E 21 p1_pushTold] h) 0 [some (.ref a_t), some (.ref a_p1), none, none] [] := by
  rw [m_X5_readPush_0] at hs
  refine g_aload_n e_X5_readPush_0 rfl ?_
  refine g_iconst e_X5_readPush_1 ?_
  refine g_bipush e_X5_readPush_2 bp_20 ?_
  obtain ⟨y1, hy1, hs⟩ := bind_elim hs
  refine g_callVr [vI 1, vI 20] cv_X5_145 ⟨rfl, rfl, Nat.le_of_ble_eq_true rfl, Nat.le_of_ble_eq_true rfl⟩ (Ct_heap (ct_X5_number (AO_call [0, 1] ao (by decide) rfl) (FA_call [0, 1] ao.1 rfl rfl) ok_t_many ok_t_place ok_t_fault ok_t_numberPlace ok_t_bytes (by decide : inI 1) (by decide : inI 20) hy1) (ov_call (esn := [.inr (5, fsX5 a_t t_many y1.2.1 y1.2.2.1 y1.2.2.2), IA E 400 t_bytes, .inr (3, fsX3 a_p1 p1_speckMany p1_sourceMany p1_baseTold p1_baseLow p1_baseHigh p1_reach), IA E 21 p1_pushes, ZA E 21 p1_pushTold]) [0, 1] ao.1 rfl rfl rfl rfl)) e_X5_readPush_4 (ao.2 0 _ rfl) (ov_get 0 ao.1 rfl rfl) rfl rfl rfl (Nat.le_of_ble_eq_true rfl) ⟨Nat.le_refl _, Nat.le_refl _⟩ (fun Py1 => ?_)
  refine g_istore_n e_X5_readPush_7 st1_2 rfl ?_
  refine g_aload_n e_X5_readPush_8 rfl ?_
  refine g_iload_n e_X5_readPush_9 rfl ?_
  obtain ⟨y2, hy2, hs⟩ := bind_elim hs
  refine g_callVr [vI y1.1] cv_X5_156 ⟨rfl, rfl, Nat.le_of_ble_eq_true rfl, Nat.le_of_ble_eq_true rfl⟩ (ct_X3_isPushTold (AO_call [2, 4] ao (by decide) rfl) (FA_call [2, 4] ao.1 rfl rfl) ok_p1_pushTold Py1.1 hy2) e_X5_readPush_10 (ao.2 2 _ rfl) (ov_get 2 ao.1 rfl rfl) rfl rfl rfl (Nat.le_of_ble_eq_true rfl) ⟨Nat.le_refl _, Nat.le_refl _⟩ (fun Py2 => ?_)
  refine g_if_eq e_X5_readPush_13 (inZ_I Py2) hs (fun c13 hs => ?_) (fun c13 hs => ?_)
  · exact g_X5_readPush_25 ao ok_t_many Py1.2.1 Py1.2.2.1 Py1.2.2.2 ok_t_bytes ok_p1_pushes ok_p1_pushTold Py1.1 hs
  · refine g_aload_n e_X5_readPush_16 rfl ?_
    refine g_aload_n e_X5_readPush_17 rfl ?_
    refine g_get 0 4 ao rfl rfl fsX5_g4 fl_X5_149 e_X5_readPush_18 ?_
    refine g_iconst e_X5_readPush_21 ?_
    obtain ⟨y5, hy5, hs⟩ := bind_elim hs
    refine g_callVv [vI y1.2.2.2, vI 3] cv_X5_45 ⟨rfl, rfl, Nat.le_of_ble_eq_true rfl, Nat.le_of_ble_eq_true rfl⟩ (Ct_heap (ct_X5_refuse (AO_call [0] ao (by decide) rfl) (FA_call [0] ao.1 rfl rfl) Py1.2.2.1 Py1.2.2.2 (by decide : inI 3) hy5) (ov_call (esn := [.inr (5, fsX5 a_t t_many y1.2.1 y5 y1.2.2.2), IA E 400 t_bytes, .inr (3, fsX3 a_p1 p1_speckMany p1_sourceMany p1_baseTold p1_baseLow p1_baseHigh p1_reach), IA E 21 p1_pushes, ZA E 21 p1_pushTold]) [0] ao.1 rfl rfl rfl rfl)) e_X5_readPush_22 (ao.2 0 _ rfl) (ov_get 0 ao.1 rfl rfl) rfl rfl rfl (Nat.le_of_ble_eq_true rfl) ⟨Nat.le_refl _, Nat.le_refl _⟩ (fun Py5 => ?_)
    exact g_X5_readPush_25 ao ok_t_many Py1.2.1 Py5 Py1.2.2.2 ok_t_bytes ok_p1_pushes ok_p1_pushTold Py1.1 hs

noncomputable def m_X5_readPush (t_many : Int) (t_place : Int) (t_fault : Int) (t_numberPlace : Int) (t_bytes : Nat → Int) (p1_pushes : Nat → Int) (p1_pushTold : Nat → Int) : Option (Int × Int × Int × (Nat → Int) × (Nat → Int)) := m_X5_readPush_0 t_many t_place t_fault t_numberPlace t_bytes p1_pushes p1_pushTold

set_option maxRecDepth 10000 in
theorem ct_X5_readPush {l : Launch} {E : EE} {b0 n : Nat} {h : AH} {a_t a_p1 : Nat} {t_many t_place t_fault t_numberPlace p1_speckMany p1_sourceMany p1_baseTold p1_baseLow p1_baseHigh p1_reach : Int} {t_bytes p1_pushes p1_pushTold : Nat → Int} (ao : AO b0 n [a_t, (a_t + 1), a_p1, (a_p1 + 1), (a_p1 + 2)]) (hf : FA h [a_t, (a_t + 1), a_p1, (a_p1 + 1), (a_p1 + 2)] [.inr (5, fsX5 a_t t_many t_place t_fault t_numberPlace), IA E 400 t_bytes, .inr (3, fsX3 a_p1 p1_speckMany p1_sourceMany p1_baseTold p1_baseLow p1_baseHigh p1_reach), IA E 21 p1_pushes, ZA E 21 p1_pushTold]) (ok_t_many : inI t_many) (ok_t_place : inI t_place) (ok_t_fault : inI t_fault) (ok_t_numberPlace : inI t_numberPlace) (ok_t_bytes : okA t_bytes) (ok_p1_pushes : okA p1_pushes) (ok_p1_pushTold : okZ p1_pushTold) {r : Int × Int × Int × (Nat → Int) × (Nat → Int)} (hm : m_X5_readPush t_many t_place t_fault t_numberPlace t_bytes p1_pushes p1_pushTold = some r) : Ct l E b0 M_X5_readPush 0 0 [.ref a_t, .ref a_p1] h n (none) (ov [a_t, (a_t + 1), a_p1, (a_p1 + 1), (a_p1 + 2)] [.inr (5, fsX5 a_t t_many r.1 r.2.1 r.2.2.1), IA E 400 t_bytes, .inr (3, fsX3 a_p1 p1_speckMany p1_sourceMany p1_baseTold p1_baseLow p1_baseHigh p1_reach), IA E 21 r.2.2.2.1, ZA E 21 r.2.2.2.2] h) n (inI r.1 ∧ inI r.2.1 ∧ inI r.2.2.1 ∧ okA r.2.2.2.1 ∧ okZ r.2.2.2.2) := by
  rw [m_X5_readPush] at hm
  have hg : G l E b0 M_X5_readPush (fun _ => True) (ZM E b0 (none) (ov [a_t, (a_t + 1), a_p1, (a_p1 + 1), (a_p1 + 2)] [.inr (5, fsX5 a_t t_many r.1 r.2.1 r.2.2.1), IA E 400 t_bytes, .inr (3, fsX3 a_p1 p1_speckMany p1_sourceMany p1_baseTold p1_baseLow p1_baseHigh p1_reach), IA E 21 r.2.2.2.1, ZA E 21 r.2.2.2.2] h) n (inI r.1 ∧ inI r.2.1 ∧ inI r.2.2.1 ∧ okA r.2.2.2.1 ∧ okZ r.2.2.2.2) 0 0) 0 0 n (ov [a_t, (a_t + 1), a_p1, (a_p1 + 1), (a_p1 + 2)] [.inr (5, fsX5 a_t t_many t_place t_fault t_numberPlace), IA E 400 t_bytes, .inr (3, fsX3 a_p1 p1_speckMany p1_sourceMany p1_baseTold p1_baseLow p1_baseHigh p1_reach), IA E 21 p1_pushes, ZA E 21 p1_pushTold] h) 0 [some (.ref a_t), some (.ref a_p1), none, none] [] := by
    have hs := hm
    exact g_X5_readPush_0 ao ok_t_many ok_t_place ok_t_fault ok_t_numberPlace ok_t_bytes ok_p1_pushes ok_p1_pushTold hs
  rw [FA_id hf] at hg
  exact Ct_of [some (.ref a_t), some (.ref a_p1), none, none] ⟨by decide +kernel, rfl⟩ rfl (Nat.le_of_ble_eq_true rfl) hg

/-! ===== X5_readSpeck ===== -/
theorem e_X5_readSpeck_0 : DC cX5_readSpeck 0 (.aload_n 0) 1 1 := ⟨by decide +kernel, rfl⟩
theorem e_X5_readSpeck_1 : DC cX5_readSpeck 1 (.iconst 0) 1 2 := ⟨by decide +kernel, rfl⟩
theorem e_X5_readSpeck_2 : DC cX5_readSpeck 2 (.bipush 99) 2 4 := ⟨by decide +kernel, rfl⟩
theorem e_X5_readSpeck_4 : DC cX5_readSpeck 4 (.invokevirtual 145) 3 7 := ⟨by decide +kernel, rfl⟩
theorem e_X5_readSpeck_7 : DC cX5_readSpeck 7 (.istore_n 2) 1 8 := ⟨by decide +kernel, rfl⟩
theorem e_X5_readSpeck_8 : DC cX5_readSpeck 8 (.aload_n 1) 1 9 := ⟨by decide +kernel, rfl⟩
theorem e_X5_readSpeck_9 : DC cX5_readSpeck 9 (.iload_n 2) 1 10 := ⟨by decide +kernel, rfl⟩
theorem e_X5_readSpeck_10 : DC cX5_readSpeck 10 (.invokevirtual 162) 3 13 := ⟨by decide +kernel, rfl⟩
theorem e_X5_readSpeck_13 : DB cX5_readSpeck 13 (.ifCond .eq 12) (12) 3 16 25 := ⟨by decide +kernel, rfl, rfl⟩
theorem e_X5_readSpeck_16 : DC cX5_readSpeck 16 (.aload_n 0) 1 17 := ⟨by decide +kernel, rfl⟩
theorem e_X5_readSpeck_17 : DC cX5_readSpeck 17 (.aload_n 0) 1 18 := ⟨by decide +kernel, rfl⟩
theorem e_X5_readSpeck_18 : DC cX5_readSpeck 18 (.getfield 149) 3 21 := ⟨by decide +kernel, rfl⟩
theorem e_X5_readSpeck_21 : DC cX5_readSpeck 21 (.iconst 3) 1 22 := ⟨by decide +kernel, rfl⟩
theorem e_X5_readSpeck_22 : DC cX5_readSpeck 22 (.invokevirtual 45) 3 25 := ⟨by decide +kernel, rfl⟩
theorem e_X5_readSpeck_25 : DC cX5_readSpeck 25 (.aload_n 0) 1 26 := ⟨by decide +kernel, rfl⟩
theorem e_X5_readSpeck_26 : DC cX5_readSpeck 26 (.iconst 0) 1 27 := ⟨by decide +kernel, rfl⟩
theorem e_X5_readSpeck_27 : DC cX5_readSpeck 27 (.sipush 9999) 3 30 := ⟨by decide +kernel, rfl⟩
theorem e_X5_readSpeck_30 : DC cX5_readSpeck 30 (.invokevirtual 145) 3 33 := ⟨by decide +kernel, rfl⟩
theorem e_X5_readSpeck_33 : DC cX5_readSpeck 33 (.istore_n 3) 1 34 := ⟨by decide +kernel, rfl⟩
theorem e_X5_readSpeck_34 : DC cX5_readSpeck 34 (.aload_n 0) 1 35 := ⟨by decide +kernel, rfl⟩
theorem e_X5_readSpeck_35 : DC cX5_readSpeck 35 (.iconst 0) 1 36 := ⟨by decide +kernel, rfl⟩
theorem e_X5_readSpeck_36 : DC cX5_readSpeck 36 (.sipush 9999) 3 39 := ⟨by decide +kernel, rfl⟩
theorem e_X5_readSpeck_39 : DC cX5_readSpeck 39 (.invokevirtual 145) 3 42 := ⟨by decide +kernel, rfl⟩
theorem e_X5_readSpeck_42 : DC cX5_readSpeck 42 (.istore 4) 2 44 := ⟨by decide +kernel, rfl⟩
theorem e_X5_readSpeck_44 : DC cX5_readSpeck 44 (.iload 4) 2 46 := ⟨by decide +kernel, rfl⟩
theorem e_X5_readSpeck_46 : DC cX5_readSpeck 46 (.iload_n 3) 1 47 := ⟨by decide +kernel, rfl⟩
theorem e_X5_readSpeck_47 : DB cX5_readSpeck 47 (.if_icmp .ge 12) (12) 3 50 59 := ⟨by decide +kernel, rfl, rfl⟩
theorem e_X5_readSpeck_50 : DC cX5_readSpeck 50 (.aload_n 0) 1 51 := ⟨by decide +kernel, rfl⟩
theorem e_X5_readSpeck_51 : DC cX5_readSpeck 51 (.aload_n 0) 1 52 := ⟨by decide +kernel, rfl⟩
theorem e_X5_readSpeck_52 : DC cX5_readSpeck 52 (.getfield 149) 3 55 := ⟨by decide +kernel, rfl⟩
theorem e_X5_readSpeck_55 : DC cX5_readSpeck 55 (.iconst 2) 1 56 := ⟨by decide +kernel, rfl⟩
theorem e_X5_readSpeck_56 : DC cX5_readSpeck 56 (.invokevirtual 45) 3 59 := ⟨by decide +kernel, rfl⟩
theorem e_X5_readSpeck_59 : DC cX5_readSpeck 59 (.aload_n 0) 1 60 := ⟨by decide +kernel, rfl⟩
theorem e_X5_readSpeck_60 : DC cX5_readSpeck 60 (.getfield 31) 3 63 := ⟨by decide +kernel, rfl⟩
theorem e_X5_readSpeck_63 : DB cX5_readSpeck 63 (.ifCond .ne 11) (11) 3 66 74 := ⟨by decide +kernel, rfl, rfl⟩
theorem e_X5_readSpeck_66 : DC cX5_readSpeck 66 (.aload_n 1) 1 67 := ⟨by decide +kernel, rfl⟩
theorem e_X5_readSpeck_67 : DC cX5_readSpeck 67 (.iload_n 2) 1 68 := ⟨by decide +kernel, rfl⟩
theorem e_X5_readSpeck_68 : DC cX5_readSpeck 68 (.iload_n 3) 1 69 := ⟨by decide +kernel, rfl⟩
theorem e_X5_readSpeck_69 : DC cX5_readSpeck 69 (.iload 4) 2 71 := ⟨by decide +kernel, rfl⟩
theorem e_X5_readSpeck_71 : DC cX5_readSpeck 71 (.invokevirtual 165) 3 74 := ⟨by decide +kernel, rfl⟩
theorem e_X5_readSpeck_74 : DC cX5_readSpeck 74 (.return_) 1 75 := ⟨by decide +kernel, rfl⟩
noncomputable def m_X5_readSpeck_59 (t_place : Int) (t_fault : Int) (t_numberPlace : Int) (p1_speckMany : Int) (p1_lows : Nat → Int) (p1_highs : Nat → Int) (p1_speckTold : Nat → Int) (v2 : Int) (v3 : Int) (v4 : Int) : Option (Int × Int × Int × Int × (Nat → Int) × (Nat → Int) × (Nat → Int)) :=
  if t_fault = 0 then ((m_X3_tellSpeck p1_speckMany p1_lows p1_highs p1_speckTold v2 v3 v4).bind (fun y5 => some (t_place, t_fault, t_numberPlace, y5.1, y5.2.1, y5.2.2.1, y5.2.2.2))) else (some (t_place, t_fault, t_numberPlace, p1_speckMany, p1_lows, p1_highs, p1_speckTold))

set_option maxRecDepth 10000 in
theorem g_X5_readSpeck_59 {l : Launch} {E : EE} {b0 n : Nat} {h : AH} {a_t a_p1 : Nat} {t_many t_place t_fault t_numberPlace p1_speckMany p1_sourceMany p1_baseTold p1_baseLow p1_baseHigh p1_reach v2 v3 v4 : Int} {t_bytes p1_lows p1_highs p1_speckTold : Nat → Int} {r : Int × Int × Int × Int × (Nat → Int) × (Nat → Int) × (Nat → Int)} (ao : AO b0 n [a_t, (a_t + 1), a_p1, (a_p1 + 3), (a_p1 + 4), (a_p1 + 5)]) (ok_t_many : inI t_many) (ok_t_place : inI t_place) (ok_t_fault : inI t_fault) (ok_t_numberPlace : inI t_numberPlace) (ok_t_bytes : okA t_bytes) (ok_p1_speckMany : inI p1_speckMany) (ok_p1_lows : okA p1_lows) (ok_p1_highs : okA p1_highs) (ok_p1_speckTold : okZ p1_speckTold) (ok_v2 : inI v2) (ok_v3 : inI v3) (ok_v4 : inI v4) (hs : m_X5_readSpeck_59 t_place t_fault t_numberPlace p1_speckMany p1_lows p1_highs p1_speckTold v2 v3 v4 = some r) : G l E b0 M_X5_readSpeck (fun _ => True) (ZM E b0 (none) (ov [a_t, (a_t + 1), a_p1, (a_p1 + 3), (a_p1 + 4), (a_p1 + 5)] [.inr (5, fsX5 a_t t_many r.1 r.2.1 r.2.2.1), IA E 400 t_bytes, .inr (3, fsX3 a_p1 r.2.2.2.1 p1_sourceMany p1_baseTold p1_baseLow p1_baseHigh p1_reach), IA E 100 r.2.2.2.2.1, IA E 100 r.2.2.2.2.2.1, ZA E 100 r.2.2.2.2.2.2] h) n (inI r.1 ∧ inI r.2.1 ∧ inI r.2.2.1 ∧ inI r.2.2.2.1 ∧ okA r.2.2.2.2.1 ∧ okA r.2.2.2.2.2.1 ∧ okZ r.2.2.2.2.2.2) 0 0) 0 0 n (ov [a_t, (a_t + 1), a_p1, (a_p1 + 3), (a_p1 + 4), (a_p1 + 5)] [.inr (5, fsX5 a_t t_many t_place t_fault t_numberPlace), IA E 400 t_bytes, .inr (3, fsX3 a_p1 p1_speckMany p1_sourceMany p1_baseTold p1_baseLow p1_baseHigh p1_reach), IA E 100 p1_lows, IA E 100 p1_highs, ZA E 100 p1_speckTold] h) 59 [some (.ref a_t), some (.ref a_p1), some (vI v2), some (vI v3), some (vI v4)] [] := by
  rw [m_X5_readSpeck_59] at hs
  refine g_aload_n e_X5_readSpeck_59 rfl ?_
  refine g_get 0 3 ao rfl rfl fsX5_g3 fl_X5_31 e_X5_readSpeck_60 ?_
  refine g_if_ne e_X5_readSpeck_63 ok_t_fault hs (fun c63 hs => ?_) (fun c63 hs => ?_)
  · refine g_aload_n e_X5_readSpeck_66 rfl ?_
    refine g_iload_n e_X5_readSpeck_67 rfl ?_
    refine g_iload_n e_X5_readSpeck_68 rfl ?_
    refine g_iload e_X5_readSpeck_69 rfl ?_
    obtain ⟨y5, hy5, hs⟩ := bind_elim hs
    refine g_callVv [vI v2, vI v3, vI v4] cv_X5_165 ⟨rfl, rfl, Nat.le_of_ble_eq_true rfl, Nat.le_of_ble_eq_true rfl⟩ (Ct_heap (ct_X3_tellSpeck (AO_call [2, 3, 4, 5] ao (by decide) rfl) (FA_call [2, 3, 4, 5] ao.1 rfl rfl) ok_p1_speckMany ok_p1_lows ok_p1_highs ok_p1_speckTold ok_v2 ok_v3 ok_v4 hy5) (ov_call (esn := [.inr (5, fsX5 a_t t_many t_place t_fault t_numberPlace), IA E 400 t_bytes, .inr (3, fsX3 a_p1 y5.1 p1_sourceMany p1_baseTold p1_baseLow p1_baseHigh p1_reach), IA E 100 y5.2.1, IA E 100 y5.2.2.1, ZA E 100 y5.2.2.2]) [2, 3, 4, 5] ao.1 rfl rfl rfl rfl)) e_X5_readSpeck_71 (ao.2 2 _ rfl) (ov_get 2 ao.1 rfl rfl) rfl rfl rfl (Nat.le_of_ble_eq_true rfl) ⟨Nat.le_refl _, Nat.le_refl _⟩ (fun Py5 => ?_)
    obtain rfl := Option.some.inj hs
    exact g_vret rfl ⟨ok_t_place, ok_t_fault, ok_t_numberPlace, Py5.1, Py5.2.1, Py5.2.2.1, Py5.2.2.2⟩ e_X5_readSpeck_74
  · obtain rfl := Option.some.inj hs
    exact g_vret rfl ⟨ok_t_place, ok_t_fault, ok_t_numberPlace, ok_p1_speckMany, ok_p1_lows, ok_p1_highs, ok_p1_speckTold⟩ e_X5_readSpeck_74

noncomputable def m_X5_readSpeck_25 (t_many : Int) (t_place : Int) (t_fault : Int) (t_numberPlace : Int) (t_bytes : Nat → Int) (p1_speckMany : Int) (p1_lows : Nat → Int) (p1_highs : Nat → Int) (p1_speckTold : Nat → Int) (v2 : Int) : Option (Int × Int × Int × Int × (Nat → Int) × (Nat → Int) × (Nat → Int)) :=
  (m_X5_number t_many t_place t_fault t_numberPlace t_bytes 0 9999).bind (fun y3 => (m_X5_number t_many y3.2.1 y3.2.2.1 y3.2.2.2 t_bytes 0 9999).bind (fun y4 => if y3.1 ≤ y4.1 then (m_X5_readSpeck_59 y4.2.1 y4.2.2.1 y4.2.2.2 p1_speckMany p1_lows p1_highs p1_speckTold v2 y3.1 y4.1) else ((m_X5_refuse y4.2.2.1 y4.2.2.2 2).bind (fun y6 => m_X5_readSpeck_59 y4.2.1 y6 y4.2.2.2 p1_speckMany p1_lows p1_highs p1_speckTold v2 y3.1 y4.1))))

set_option maxRecDepth 10000 in
theorem g_X5_readSpeck_25 {l : Launch} {E : EE} {b0 n : Nat} {h : AH} {a_t a_p1 : Nat} {t_many t_place t_fault t_numberPlace p1_speckMany p1_sourceMany p1_baseTold p1_baseLow p1_baseHigh p1_reach v2 : Int} {t_bytes p1_lows p1_highs p1_speckTold : Nat → Int} {r : Int × Int × Int × Int × (Nat → Int) × (Nat → Int) × (Nat → Int)} (ao : AO b0 n [a_t, (a_t + 1), a_p1, (a_p1 + 3), (a_p1 + 4), (a_p1 + 5)]) (ok_t_many : inI t_many) (ok_t_place : inI t_place) (ok_t_fault : inI t_fault) (ok_t_numberPlace : inI t_numberPlace) (ok_t_bytes : okA t_bytes) (ok_p1_speckMany : inI p1_speckMany) (ok_p1_lows : okA p1_lows) (ok_p1_highs : okA p1_highs) (ok_p1_speckTold : okZ p1_speckTold) (ok_v2 : inI v2) (hs : m_X5_readSpeck_25 t_many t_place t_fault t_numberPlace t_bytes p1_speckMany p1_lows p1_highs p1_speckTold v2 = some r) : G l E b0 M_X5_readSpeck (fun _ => True) (ZM E b0 (none) (ov [a_t, (a_t + 1), a_p1, (a_p1 + 3), (a_p1 + 4), (a_p1 + 5)] [.inr (5, fsX5 a_t t_many r.1 r.2.1 r.2.2.1), IA E 400 t_bytes, .inr (3, fsX3 a_p1 r.2.2.2.1 p1_sourceMany p1_baseTold p1_baseLow p1_baseHigh p1_reach), IA E 100 r.2.2.2.2.1, IA E 100 r.2.2.2.2.2.1, ZA E 100 r.2.2.2.2.2.2] h) n (inI r.1 ∧ inI r.2.1 ∧ inI r.2.2.1 ∧ inI r.2.2.2.1 ∧ okA r.2.2.2.2.1 ∧ okA r.2.2.2.2.2.1 ∧ okZ r.2.2.2.2.2.2) 0 0) 0 0 n (ov [a_t, (a_t + 1), a_p1, (a_p1 + 3), (a_p1 + 4), (a_p1 + 5)] [.inr (5, fsX5 a_t t_many t_place t_fault t_numberPlace), IA E 400 t_bytes, .inr (3, fsX3 a_p1 p1_speckMany p1_sourceMany p1_baseTold p1_baseLow p1_baseHigh p1_reach), IA E 100 p1_lows, IA E 100 p1_highs, ZA E 100 p1_speckTold] h) 25 [some (.ref a_t), some (.ref a_p1), some (vI v2), none, none] [] := by
  rw [m_X5_readSpeck_25] at hs
  refine g_aload_n e_X5_readSpeck_25 rfl ?_
  refine g_iconst e_X5_readSpeck_26 ?_
  refine g_sipush e_X5_readSpeck_27 sp_9999 ?_
  obtain ⟨y3, hy3, hs⟩ := bind_elim hs
  refine g_callVr [vI 0, vI 9999] cv_X5_145 ⟨rfl, rfl, Nat.le_of_ble_eq_true rfl, Nat.le_of_ble_eq_true rfl⟩ (Ct_heap (ct_X5_number (AO_call [0, 1] ao (by decide) rfl) (FA_call [0, 1] ao.1 rfl rfl) ok_t_many ok_t_place ok_t_fault ok_t_numberPlace ok_t_bytes (by decide : inI 0) (by decide : inI 9999) hy3) (ov_call (esn := [.inr (5, fsX5 a_t t_many y3.2.1 y3.2.2.1 y3.2.2.2), IA E 400 t_bytes, .inr (3, fsX3 a_p1 p1_speckMany p1_sourceMany p1_baseTold p1_baseLow p1_baseHigh p1_reach), IA E 100 p1_lows, IA E 100 p1_highs, ZA E 100 p1_speckTold]) [0, 1] ao.1 rfl rfl rfl rfl)) e_X5_readSpeck_30 (ao.2 0 _ rfl) (ov_get 0 ao.1 rfl rfl) rfl rfl rfl (Nat.le_of_ble_eq_true rfl) ⟨Nat.le_refl _, Nat.le_refl _⟩ (fun Py3 => ?_)
  refine g_istore_n e_X5_readSpeck_33 st1_3 rfl ?_
  refine g_aload_n e_X5_readSpeck_34 rfl ?_
  refine g_iconst e_X5_readSpeck_35 ?_
  refine g_sipush e_X5_readSpeck_36 sp_9999 ?_
  obtain ⟨y4, hy4, hs⟩ := bind_elim hs
  refine g_callVr [vI 0, vI 9999] cv_X5_145 ⟨rfl, rfl, Nat.le_of_ble_eq_true rfl, Nat.le_of_ble_eq_true rfl⟩ (Ct_heap (ct_X5_number (AO_call [0, 1] ao (by decide) rfl) (FA_call [0, 1] ao.1 rfl rfl) ok_t_many Py3.2.1 Py3.2.2.1 Py3.2.2.2 ok_t_bytes (by decide : inI 0) (by decide : inI 9999) hy4) (ov_call (esn := [.inr (5, fsX5 a_t t_many y4.2.1 y4.2.2.1 y4.2.2.2), IA E 400 t_bytes, .inr (3, fsX3 a_p1 p1_speckMany p1_sourceMany p1_baseTold p1_baseLow p1_baseHigh p1_reach), IA E 100 p1_lows, IA E 100 p1_highs, ZA E 100 p1_speckTold]) [0, 1] ao.1 rfl rfl rfl rfl)) e_X5_readSpeck_39 (ao.2 0 _ rfl) (ov_get 0 ao.1 rfl rfl) rfl rfl rfl (Nat.le_of_ble_eq_true rfl) ⟨Nat.le_refl _, Nat.le_refl _⟩ (fun Py4 => ?_)
  refine g_istore e_X5_readSpeck_42 st1_4 rfl ?_
  refine g_iload e_X5_readSpeck_44 rfl ?_
  refine g_iload_n e_X5_readSpeck_46 rfl ?_
  refine g_icmp_ge e_X5_readSpeck_47 Py4.1 Py3.1 hs (fun c47 hs => ?_) (fun c47 hs => ?_)
  · exact g_X5_readSpeck_59 ao ok_t_many Py4.2.1 Py4.2.2.1 Py4.2.2.2 ok_t_bytes ok_p1_speckMany ok_p1_lows ok_p1_highs ok_p1_speckTold ok_v2 Py3.1 Py4.1 hs
  · refine g_aload_n e_X5_readSpeck_50 rfl ?_
    refine g_aload_n e_X5_readSpeck_51 rfl ?_
    refine g_get 0 4 ao rfl rfl fsX5_g4 fl_X5_149 e_X5_readSpeck_52 ?_
    refine g_iconst e_X5_readSpeck_55 ?_
    obtain ⟨y6, hy6, hs⟩ := bind_elim hs
    refine g_callVv [vI y4.2.2.2, vI 2] cv_X5_45 ⟨rfl, rfl, Nat.le_of_ble_eq_true rfl, Nat.le_of_ble_eq_true rfl⟩ (Ct_heap (ct_X5_refuse (AO_call [0] ao (by decide) rfl) (FA_call [0] ao.1 rfl rfl) Py4.2.2.1 Py4.2.2.2 (by decide : inI 2) hy6) (ov_call (esn := [.inr (5, fsX5 a_t t_many y4.2.1 y6 y4.2.2.2), IA E 400 t_bytes, .inr (3, fsX3 a_p1 p1_speckMany p1_sourceMany p1_baseTold p1_baseLow p1_baseHigh p1_reach), IA E 100 p1_lows, IA E 100 p1_highs, ZA E 100 p1_speckTold]) [0] ao.1 rfl rfl rfl rfl)) e_X5_readSpeck_56 (ao.2 0 _ rfl) (ov_get 0 ao.1 rfl rfl) rfl rfl rfl (Nat.le_of_ble_eq_true rfl) ⟨Nat.le_refl _, Nat.le_refl _⟩ (fun Py6 => ?_)
    exact g_X5_readSpeck_59 ao ok_t_many Py4.2.1 Py6 Py4.2.2.2 ok_t_bytes ok_p1_speckMany ok_p1_lows ok_p1_highs ok_p1_speckTold ok_v2 Py3.1 Py4.1 hs

noncomputable def m_X5_readSpeck_0 (t_many : Int) (t_place : Int) (t_fault : Int) (t_numberPlace : Int) (t_bytes : Nat → Int) (p1_speckMany : Int) (p1_lows : Nat → Int) (p1_highs : Nat → Int) (p1_speckTold : Nat → Int) : Option (Int × Int × Int × Int × (Nat → Int) × (Nat → Int) × (Nat → Int)) :=
  (m_X5_number t_many t_place t_fault t_numberPlace t_bytes 0 99).bind (fun y1 => (m_X3_isSpeckTold p1_speckTold y1.1).bind (fun y2 => if y2 = 0 then (m_X5_readSpeck_25 t_many y1.2.1 y1.2.2.1 y1.2.2.2 t_bytes p1_speckMany p1_lows p1_highs p1_speckTold y1.1) else ((m_X5_refuse y1.2.2.1 y1.2.2.2 3).bind (fun y7 => m_X5_readSpeck_25 t_many y1.2.1 y7 y1.2.2.2 t_bytes p1_speckMany p1_lows p1_highs p1_speckTold y1.1))))

set_option maxRecDepth 10000 in
theorem g_X5_readSpeck_0 {l : Launch} {E : EE} {b0 n : Nat} {h : AH} {a_t a_p1 : Nat} {t_many t_place t_fault t_numberPlace p1_speckMany p1_sourceMany p1_baseTold p1_baseLow p1_baseHigh p1_reach : Int} {t_bytes p1_lows p1_highs p1_speckTold : Nat → Int} {r : Int × Int × Int × Int × (Nat → Int) × (Nat → Int) × (Nat → Int)} (ao : AO b0 n [a_t, (a_t + 1), a_p1, (a_p1 + 3), (a_p1 + 4), (a_p1 + 5)]) (ok_t_many : inI t_many) (ok_t_place : inI t_place) (ok_t_fault : inI t_fault) (ok_t_numberPlace : inI t_numberPlace) (ok_t_bytes : okA t_bytes) (ok_p1_speckMany : inI p1_speckMany) (ok_p1_lows : okA p1_lows) (ok_p1_highs : okA p1_highs) (ok_p1_speckTold : okZ p1_speckTold) (hs : m_X5_readSpeck_0 t_many t_place t_fault t_numberPlace t_bytes p1_speckMany p1_lows p1_highs p1_speckTold = some r) : G l E b0 M_X5_readSpeck (fun _ => True) (ZM E b0 (none) (ov [a_t, (a_t + 1), a_p1, (a_p1 + 3), (a_p1 + 4), (a_p1 + 5)] [.inr (5, fsX5 a_t t_many r.1 r.2.1 r.2.2.1), IA E 400 t_bytes, .inr (3, fsX3 a_p1 r.2.2.2.1 p1_sourceMany p1_baseTold p1_baseLow p1_baseHigh p1_reach), IA E 100 r.2.2.2.2.1, IA E 100 r.2.2.2.2.2.1, ZA E 100 r.2.2.2.2.2.2] h) n (inI r.1 ∧ inI r.2.1 ∧ inI r.2.2.1 ∧ inI r.2.2.2.1 ∧ okA r.2.2.2.2.1 ∧ okA r.2.2.2.2.2.1 ∧ okZ r.2.2.2.2.2.2) 0 0) 0 0 n (ov [a_t, (a_t + 1), a_p1, (a_p1 + 3), (a_p1 + 4), (a_p1 + 5)] [.inr (5, fsX5 a_t t_many t_place t_fault t_numberPlace), IA E 400 t_bytes, .inr (3, fsX3 a_p1 p1_speckMany p1_sourceMany p1_baseTold p1_baseLow p1_baseHigh p1_reach), IA E 100 p1_lows, IA E 100 p1_highs, ZA E 100 p1_speckTold] h) 0 [some (.ref a_t), some (.ref a_p1), none, none, none] [] := by
  rw [m_X5_readSpeck_0] at hs
  refine g_aload_n e_X5_readSpeck_0 rfl ?_
  refine g_iconst e_X5_readSpeck_1 ?_
  refine g_bipush e_X5_readSpeck_2 bp_99 ?_
  obtain ⟨y1, hy1, hs⟩ := bind_elim hs
  refine g_callVr [vI 0, vI 99] cv_X5_145 ⟨rfl, rfl, Nat.le_of_ble_eq_true rfl, Nat.le_of_ble_eq_true rfl⟩ (Ct_heap (ct_X5_number (AO_call [0, 1] ao (by decide) rfl) (FA_call [0, 1] ao.1 rfl rfl) ok_t_many ok_t_place ok_t_fault ok_t_numberPlace ok_t_bytes (by decide : inI 0) (by decide : inI 99) hy1) (ov_call (esn := [.inr (5, fsX5 a_t t_many y1.2.1 y1.2.2.1 y1.2.2.2), IA E 400 t_bytes, .inr (3, fsX3 a_p1 p1_speckMany p1_sourceMany p1_baseTold p1_baseLow p1_baseHigh p1_reach), IA E 100 p1_lows, IA E 100 p1_highs, ZA E 100 p1_speckTold]) [0, 1] ao.1 rfl rfl rfl rfl)) e_X5_readSpeck_4 (ao.2 0 _ rfl) (ov_get 0 ao.1 rfl rfl) rfl rfl rfl (Nat.le_of_ble_eq_true rfl) ⟨Nat.le_refl _, Nat.le_refl _⟩ (fun Py1 => ?_)
  refine g_istore_n e_X5_readSpeck_7 st1_2 rfl ?_
  refine g_aload_n e_X5_readSpeck_8 rfl ?_
  refine g_iload_n e_X5_readSpeck_9 rfl ?_
  obtain ⟨y2, hy2, hs⟩ := bind_elim hs
  refine g_callVr [vI y1.1] cv_X5_162 ⟨rfl, rfl, Nat.le_of_ble_eq_true rfl, Nat.le_of_ble_eq_true rfl⟩ (ct_X3_isSpeckTold (AO_call [2, 5] ao (by decide) rfl) (FA_call [2, 5] ao.1 rfl rfl) ok_p1_speckTold Py1.1 hy2) e_X5_readSpeck_10 (ao.2 2 _ rfl) (ov_get 2 ao.1 rfl rfl) rfl rfl rfl (Nat.le_of_ble_eq_true rfl) ⟨Nat.le_refl _, Nat.le_refl _⟩ (fun Py2 => ?_)
  refine g_if_eq e_X5_readSpeck_13 (inZ_I Py2) hs (fun c13 hs => ?_) (fun c13 hs => ?_)
  · exact g_X5_readSpeck_25 ao ok_t_many Py1.2.1 Py1.2.2.1 Py1.2.2.2 ok_t_bytes ok_p1_speckMany ok_p1_lows ok_p1_highs ok_p1_speckTold Py1.1 hs
  · refine g_aload_n e_X5_readSpeck_16 rfl ?_
    refine g_aload_n e_X5_readSpeck_17 rfl ?_
    refine g_get 0 4 ao rfl rfl fsX5_g4 fl_X5_149 e_X5_readSpeck_18 ?_
    refine g_iconst e_X5_readSpeck_21 ?_
    obtain ⟨y7, hy7, hs⟩ := bind_elim hs
    refine g_callVv [vI y1.2.2.2, vI 3] cv_X5_45 ⟨rfl, rfl, Nat.le_of_ble_eq_true rfl, Nat.le_of_ble_eq_true rfl⟩ (Ct_heap (ct_X5_refuse (AO_call [0] ao (by decide) rfl) (FA_call [0] ao.1 rfl rfl) Py1.2.2.1 Py1.2.2.2 (by decide : inI 3) hy7) (ov_call (esn := [.inr (5, fsX5 a_t t_many y1.2.1 y7 y1.2.2.2), IA E 400 t_bytes, .inr (3, fsX3 a_p1 p1_speckMany p1_sourceMany p1_baseTold p1_baseLow p1_baseHigh p1_reach), IA E 100 p1_lows, IA E 100 p1_highs, ZA E 100 p1_speckTold]) [0] ao.1 rfl rfl rfl rfl)) e_X5_readSpeck_22 (ao.2 0 _ rfl) (ov_get 0 ao.1 rfl rfl) rfl rfl rfl (Nat.le_of_ble_eq_true rfl) ⟨Nat.le_refl _, Nat.le_refl _⟩ (fun Py7 => ?_)
    exact g_X5_readSpeck_25 ao ok_t_many Py1.2.1 Py7 Py1.2.2.2 ok_t_bytes ok_p1_speckMany ok_p1_lows ok_p1_highs ok_p1_speckTold Py1.1 hs

noncomputable def m_X5_readSpeck (t_many : Int) (t_place : Int) (t_fault : Int) (t_numberPlace : Int) (t_bytes : Nat → Int) (p1_speckMany : Int) (p1_lows : Nat → Int) (p1_highs : Nat → Int) (p1_speckTold : Nat → Int) : Option (Int × Int × Int × Int × (Nat → Int) × (Nat → Int) × (Nat → Int)) := m_X5_readSpeck_0 t_many t_place t_fault t_numberPlace t_bytes p1_speckMany p1_lows p1_highs p1_speckTold

set_option maxRecDepth 10000 in
theorem ct_X5_readSpeck {l : Launch} {E : EE} {b0 n : Nat} {h : AH} {a_t a_p1 : Nat} {t_many t_place t_fault t_numberPlace p1_speckMany p1_sourceMany p1_baseTold p1_baseLow p1_baseHigh p1_reach : Int} {t_bytes p1_lows p1_highs p1_speckTold : Nat → Int} (ao : AO b0 n [a_t, (a_t + 1), a_p1, (a_p1 + 3), (a_p1 + 4), (a_p1 + 5)]) (hf : FA h [a_t, (a_t + 1), a_p1, (a_p1 + 3), (a_p1 + 4), (a_p1 + 5)] [.inr (5, fsX5 a_t t_many t_place t_fault t_numberPlace), IA E 400 t_bytes, .inr (3, fsX3 a_p1 p1_speckMany p1_sourceMany p1_baseTold p1_baseLow p1_baseHigh p1_reach), IA E 100 p1_lows, IA E 100 p1_highs, ZA E 100 p1_speckTold]) (ok_t_many : inI t_many) (ok_t_place : inI t_place) (ok_t_fault : inI t_fault) (ok_t_numberPlace : inI t_numberPlace) (ok_t_bytes : okA t_bytes) (ok_p1_speckMany : inI p1_speckMany) (ok_p1_lows : okA p1_lows) (ok_p1_highs : okA p1_highs) (ok_p1_speckTold : okZ p1_speckTold) {r : Int × Int × Int × Int × (Nat → Int) × (Nat → Int) × (Nat → Int)} (hm : m_X5_readSpeck t_many t_place t_fault t_numberPlace t_bytes p1_speckMany p1_lows p1_highs p1_speckTold = some r) : Ct l E b0 M_X5_readSpeck 0 0 [.ref a_t, .ref a_p1] h n (none) (ov [a_t, (a_t + 1), a_p1, (a_p1 + 3), (a_p1 + 4), (a_p1 + 5)] [.inr (5, fsX5 a_t t_many r.1 r.2.1 r.2.2.1), IA E 400 t_bytes, .inr (3, fsX3 a_p1 r.2.2.2.1 p1_sourceMany p1_baseTold p1_baseLow p1_baseHigh p1_reach), IA E 100 r.2.2.2.2.1, IA E 100 r.2.2.2.2.2.1, ZA E 100 r.2.2.2.2.2.2] h) n (inI r.1 ∧ inI r.2.1 ∧ inI r.2.2.1 ∧ inI r.2.2.2.1 ∧ okA r.2.2.2.2.1 ∧ okA r.2.2.2.2.2.1 ∧ okZ r.2.2.2.2.2.2) := by
  rw [m_X5_readSpeck] at hm
  have hg : G l E b0 M_X5_readSpeck (fun _ => True) (ZM E b0 (none) (ov [a_t, (a_t + 1), a_p1, (a_p1 + 3), (a_p1 + 4), (a_p1 + 5)] [.inr (5, fsX5 a_t t_many r.1 r.2.1 r.2.2.1), IA E 400 t_bytes, .inr (3, fsX3 a_p1 r.2.2.2.1 p1_sourceMany p1_baseTold p1_baseLow p1_baseHigh p1_reach), IA E 100 r.2.2.2.2.1, IA E 100 r.2.2.2.2.2.1, ZA E 100 r.2.2.2.2.2.2] h) n (inI r.1 ∧ inI r.2.1 ∧ inI r.2.2.1 ∧ inI r.2.2.2.1 ∧ okA r.2.2.2.2.1 ∧ okA r.2.2.2.2.2.1 ∧ okZ r.2.2.2.2.2.2) 0 0) 0 0 n (ov [a_t, (a_t + 1), a_p1, (a_p1 + 3), (a_p1 + 4), (a_p1 + 5)] [.inr (5, fsX5 a_t t_many t_place t_fault t_numberPlace), IA E 400 t_bytes, .inr (3, fsX3 a_p1 p1_speckMany p1_sourceMany p1_baseTold p1_baseLow p1_baseHigh p1_reach), IA E 100 p1_lows, IA E 100 p1_highs, ZA E 100 p1_speckTold] h) 0 [some (.ref a_t), some (.ref a_p1), none, none, none] [] := by
    have hs := hm
    exact g_X5_readSpeck_0 ao ok_t_many ok_t_place ok_t_fault ok_t_numberPlace ok_t_bytes ok_p1_speckMany ok_p1_lows ok_p1_highs ok_p1_speckTold hs
  rw [FA_id hf] at hg
  exact Ct_of [some (.ref a_t), some (.ref a_p1), none, none, none] ⟨by decide +kernel, rfl⟩ rfl (Nat.le_of_ble_eq_true rfl) hg

/-! ===== X5_readSource ===== -/
theorem e_X5_readSource_0 : DC cX5_readSource 0 (.aload_n 0) 1 1 := ⟨by decide +kernel, rfl⟩
theorem e_X5_readSource_1 : DC cX5_readSource 1 (.iconst 1) 1 2 := ⟨by decide +kernel, rfl⟩
theorem e_X5_readSource_2 : DC cX5_readSource 2 (.bipush 98) 2 4 := ⟨by decide +kernel, rfl⟩
theorem e_X5_readSource_4 : DC cX5_readSource 4 (.invokevirtual 145) 3 7 := ⟨by decide +kernel, rfl⟩
theorem e_X5_readSource_7 : DC cX5_readSource 7 (.istore_n 2) 1 8 := ⟨by decide +kernel, rfl⟩
theorem e_X5_readSource_8 : DC cX5_readSource 8 (.aload_n 1) 1 9 := ⟨by decide +kernel, rfl⟩
theorem e_X5_readSource_9 : DC cX5_readSource 9 (.iload_n 2) 1 10 := ⟨by decide +kernel, rfl⟩
theorem e_X5_readSource_10 : DC cX5_readSource 10 (.invokevirtual 168) 3 13 := ⟨by decide +kernel, rfl⟩
theorem e_X5_readSource_13 : DB cX5_readSource 13 (.ifCond .eq 12) (12) 3 16 25 := ⟨by decide +kernel, rfl, rfl⟩
theorem e_X5_readSource_16 : DC cX5_readSource 16 (.aload_n 0) 1 17 := ⟨by decide +kernel, rfl⟩
theorem e_X5_readSource_17 : DC cX5_readSource 17 (.aload_n 0) 1 18 := ⟨by decide +kernel, rfl⟩
theorem e_X5_readSource_18 : DC cX5_readSource 18 (.getfield 149) 3 21 := ⟨by decide +kernel, rfl⟩
theorem e_X5_readSource_21 : DC cX5_readSource 21 (.iconst 3) 1 22 := ⟨by decide +kernel, rfl⟩
theorem e_X5_readSource_22 : DC cX5_readSource 22 (.invokevirtual 45) 3 25 := ⟨by decide +kernel, rfl⟩
theorem e_X5_readSource_25 : DC cX5_readSource 25 (.aload_n 0) 1 26 := ⟨by decide +kernel, rfl⟩
theorem e_X5_readSource_26 : DC cX5_readSource 26 (.iconst 0) 1 27 := ⟨by decide +kernel, rfl⟩
theorem e_X5_readSource_27 : DC cX5_readSource 27 (.sipush 9999) 3 30 := ⟨by decide +kernel, rfl⟩
theorem e_X5_readSource_30 : DC cX5_readSource 30 (.invokevirtual 145) 3 33 := ⟨by decide +kernel, rfl⟩
theorem e_X5_readSource_33 : DC cX5_readSource 33 (.istore_n 3) 1 34 := ⟨by decide +kernel, rfl⟩
theorem e_X5_readSource_34 : DC cX5_readSource 34 (.aload_n 0) 1 35 := ⟨by decide +kernel, rfl⟩
theorem e_X5_readSource_35 : DC cX5_readSource 35 (.getfield 31) 3 38 := ⟨by decide +kernel, rfl⟩
theorem e_X5_readSource_38 : DB cX5_readSource 38 (.ifCond .ne 9) (9) 3 41 47 := ⟨by decide +kernel, rfl, rfl⟩
theorem e_X5_readSource_41 : DC cX5_readSource 41 (.aload_n 1) 1 42 := ⟨by decide +kernel, rfl⟩
theorem e_X5_readSource_42 : DC cX5_readSource 42 (.iload_n 2) 1 43 := ⟨by decide +kernel, rfl⟩
theorem e_X5_readSource_43 : DC cX5_readSource 43 (.iload_n 3) 1 44 := ⟨by decide +kernel, rfl⟩
theorem e_X5_readSource_44 : DC cX5_readSource 44 (.invokevirtual 171) 3 47 := ⟨by decide +kernel, rfl⟩
theorem e_X5_readSource_47 : DC cX5_readSource 47 (.return_) 1 48 := ⟨by decide +kernel, rfl⟩
noncomputable def m_X5_readSource_25 (t_many : Int) (t_place : Int) (t_fault : Int) (t_numberPlace : Int) (t_bytes : Nat → Int) (p1_sourceMany : Int) (p1_sourceHolds : Nat → Int) (p1_sourceTold : Nat → Int) (v2 : Int) : Option (Int × Int × Int × Int × (Nat → Int) × (Nat → Int)) :=
  (m_X5_number t_many t_place t_fault t_numberPlace t_bytes 0 9999).bind (fun y3 => if y3.2.2.1 = 0 then ((m_X3_tellSource p1_sourceMany p1_sourceHolds p1_sourceTold v2 y3.1).bind (fun y4 => some (y3.2.1, y3.2.2.1, y3.2.2.2, y4.1, y4.2.1, y4.2.2))) else (some (y3.2.1, y3.2.2.1, y3.2.2.2, p1_sourceMany, p1_sourceHolds, p1_sourceTold)))

set_option maxRecDepth 10000 in
theorem g_X5_readSource_25 {l : Launch} {E : EE} {b0 n : Nat} {h : AH} {a_t a_p1 : Nat} {t_many t_place t_fault t_numberPlace p1_speckMany p1_sourceMany p1_baseTold p1_baseLow p1_baseHigh p1_reach v2 : Int} {t_bytes p1_sourceHolds p1_sourceTold : Nat → Int} {r : Int × Int × Int × Int × (Nat → Int) × (Nat → Int)} (ao : AO b0 n [a_t, (a_t + 1), a_p1, (a_p1 + 6), (a_p1 + 7)]) (ok_t_many : inI t_many) (ok_t_place : inI t_place) (ok_t_fault : inI t_fault) (ok_t_numberPlace : inI t_numberPlace) (ok_t_bytes : okA t_bytes) (ok_p1_sourceMany : inI p1_sourceMany) (ok_p1_sourceHolds : okA p1_sourceHolds) (ok_p1_sourceTold : okZ p1_sourceTold) (ok_v2 : inI v2) (hs : m_X5_readSource_25 t_many t_place t_fault t_numberPlace t_bytes p1_sourceMany p1_sourceHolds p1_sourceTold v2 = some r) : G l E b0 M_X5_readSource (fun _ => True) (ZM E b0 (none) (ov [a_t, (a_t + 1), a_p1, (a_p1 + 6), (a_p1 + 7)] [.inr (5, fsX5 a_t t_many r.1 r.2.1 r.2.2.1), IA E 400 t_bytes, .inr (3, fsX3 a_p1 p1_speckMany r.2.2.2.1 p1_baseTold p1_baseLow p1_baseHigh p1_reach), IA E 100 r.2.2.2.2.1, ZA E 100 r.2.2.2.2.2] h) n (inI r.1 ∧ inI r.2.1 ∧ inI r.2.2.1 ∧ inI r.2.2.2.1 ∧ okA r.2.2.2.2.1 ∧ okZ r.2.2.2.2.2) 0 0) 0 0 n (ov [a_t, (a_t + 1), a_p1, (a_p1 + 6), (a_p1 + 7)] [.inr (5, fsX5 a_t t_many t_place t_fault t_numberPlace), IA E 400 t_bytes, .inr (3, fsX3 a_p1 p1_speckMany p1_sourceMany p1_baseTold p1_baseLow p1_baseHigh p1_reach), IA E 100 p1_sourceHolds, ZA E 100 p1_sourceTold] h) 25 [some (.ref a_t), some (.ref a_p1), some (vI v2), none] [] := by
  rw [m_X5_readSource_25] at hs
  refine g_aload_n e_X5_readSource_25 rfl ?_
  refine g_iconst e_X5_readSource_26 ?_
  refine g_sipush e_X5_readSource_27 sp_9999 ?_
  obtain ⟨y3, hy3, hs⟩ := bind_elim hs
  refine g_callVr [vI 0, vI 9999] cv_X5_145 ⟨rfl, rfl, Nat.le_of_ble_eq_true rfl, Nat.le_of_ble_eq_true rfl⟩ (Ct_heap (ct_X5_number (AO_call [0, 1] ao (by decide) rfl) (FA_call [0, 1] ao.1 rfl rfl) ok_t_many ok_t_place ok_t_fault ok_t_numberPlace ok_t_bytes (by decide : inI 0) (by decide : inI 9999) hy3) (ov_call (esn := [.inr (5, fsX5 a_t t_many y3.2.1 y3.2.2.1 y3.2.2.2), IA E 400 t_bytes, .inr (3, fsX3 a_p1 p1_speckMany p1_sourceMany p1_baseTold p1_baseLow p1_baseHigh p1_reach), IA E 100 p1_sourceHolds, ZA E 100 p1_sourceTold]) [0, 1] ao.1 rfl rfl rfl rfl)) e_X5_readSource_30 (ao.2 0 _ rfl) (ov_get 0 ao.1 rfl rfl) rfl rfl rfl (Nat.le_of_ble_eq_true rfl) ⟨Nat.le_refl _, Nat.le_refl _⟩ (fun Py3 => ?_)
  refine g_istore_n e_X5_readSource_33 st1_3 rfl ?_
  refine g_aload_n e_X5_readSource_34 rfl ?_
  refine g_get 0 3 ao rfl rfl fsX5_g3 fl_X5_31 e_X5_readSource_35 ?_
  refine g_if_ne e_X5_readSource_38 Py3.2.2.1 hs (fun c38 hs => ?_) (fun c38 hs => ?_)
  · refine g_aload_n e_X5_readSource_41 rfl ?_
    refine g_iload_n e_X5_readSource_42 rfl ?_
    refine g_iload_n e_X5_readSource_43 rfl ?_
    obtain ⟨y4, hy4, hs⟩ := bind_elim hs
    refine g_callVv [vI v2, vI y3.1] cv_X5_171 ⟨rfl, rfl, Nat.le_of_ble_eq_true rfl, Nat.le_of_ble_eq_true rfl⟩ (Ct_heap (ct_X3_tellSource (AO_call [2, 3, 4] ao (by decide) rfl) (FA_call [2, 3, 4] ao.1 rfl rfl) ok_p1_sourceMany ok_p1_sourceHolds ok_p1_sourceTold ok_v2 Py3.1 hy4) (ov_call (esn := [.inr (5, fsX5 a_t t_many y3.2.1 y3.2.2.1 y3.2.2.2), IA E 400 t_bytes, .inr (3, fsX3 a_p1 p1_speckMany y4.1 p1_baseTold p1_baseLow p1_baseHigh p1_reach), IA E 100 y4.2.1, ZA E 100 y4.2.2]) [2, 3, 4] ao.1 rfl rfl rfl rfl)) e_X5_readSource_44 (ao.2 2 _ rfl) (ov_get 2 ao.1 rfl rfl) rfl rfl rfl (Nat.le_of_ble_eq_true rfl) ⟨Nat.le_refl _, Nat.le_refl _⟩ (fun Py4 => ?_)
    obtain rfl := Option.some.inj hs
    exact g_vret rfl ⟨Py3.2.1, Py3.2.2.1, Py3.2.2.2, Py4.1, Py4.2.1, Py4.2.2⟩ e_X5_readSource_47
  · obtain rfl := Option.some.inj hs
    exact g_vret rfl ⟨Py3.2.1, Py3.2.2.1, Py3.2.2.2, ok_p1_sourceMany, ok_p1_sourceHolds, ok_p1_sourceTold⟩ e_X5_readSource_47

noncomputable def m_X5_readSource_0 (t_many : Int) (t_place : Int) (t_fault : Int) (t_numberPlace : Int) (t_bytes : Nat → Int) (p1_sourceMany : Int) (p1_sourceHolds : Nat → Int) (p1_sourceTold : Nat → Int) : Option (Int × Int × Int × Int × (Nat → Int) × (Nat → Int)) :=
  (m_X5_number t_many t_place t_fault t_numberPlace t_bytes 1 98).bind (fun y1 => (m_X3_isSourceTold p1_sourceTold y1.1).bind (fun y2 => if y2 = 0 then (m_X5_readSource_25 t_many y1.2.1 y1.2.2.1 y1.2.2.2 t_bytes p1_sourceMany p1_sourceHolds p1_sourceTold y1.1) else ((m_X5_refuse y1.2.2.1 y1.2.2.2 3).bind (fun y5 => m_X5_readSource_25 t_many y1.2.1 y5 y1.2.2.2 t_bytes p1_sourceMany p1_sourceHolds p1_sourceTold y1.1))))

set_option maxRecDepth 10000 in
theorem g_X5_readSource_0 {l : Launch} {E : EE} {b0 n : Nat} {h : AH} {a_t a_p1 : Nat} {t_many t_place t_fault t_numberPlace p1_speckMany p1_sourceMany p1_baseTold p1_baseLow p1_baseHigh p1_reach : Int} {t_bytes p1_sourceHolds p1_sourceTold : Nat → Int} {r : Int × Int × Int × Int × (Nat → Int) × (Nat → Int)} (ao : AO b0 n [a_t, (a_t + 1), a_p1, (a_p1 + 6), (a_p1 + 7)]) (ok_t_many : inI t_many) (ok_t_place : inI t_place) (ok_t_fault : inI t_fault) (ok_t_numberPlace : inI t_numberPlace) (ok_t_bytes : okA t_bytes) (ok_p1_sourceMany : inI p1_sourceMany) (ok_p1_sourceHolds : okA p1_sourceHolds) (ok_p1_sourceTold : okZ p1_sourceTold) (hs : m_X5_readSource_0 t_many t_place t_fault t_numberPlace t_bytes p1_sourceMany p1_sourceHolds p1_sourceTold = some r) : G l E b0 M_X5_readSource (fun _ => True) (ZM E b0 (none) (ov [a_t, (a_t + 1), a_p1, (a_p1 + 6), (a_p1 + 7)] [.inr (5, fsX5 a_t t_many r.1 r.2.1 r.2.2.1), IA E 400 t_bytes, .inr (3, fsX3 a_p1 p1_speckMany r.2.2.2.1 p1_baseTold p1_baseLow p1_baseHigh p1_reach), IA E 100 r.2.2.2.2.1, ZA E 100 r.2.2.2.2.2] h) n (inI r.1 ∧ inI r.2.1 ∧ inI r.2.2.1 ∧ inI r.2.2.2.1 ∧ okA r.2.2.2.2.1 ∧ okZ r.2.2.2.2.2) 0 0) 0 0 n (ov [a_t, (a_t + 1), a_p1, (a_p1 + 6), (a_p1 + 7)] [.inr (5, fsX5 a_t t_many t_place t_fault t_numberPlace), IA E 400 t_bytes, .inr (3, fsX3 a_p1 p1_speckMany p1_sourceMany p1_baseTold p1_baseLow p1_baseHigh p1_reach), IA E 100 p1_sourceHolds, ZA E 100 p1_sourceTold] h) 0 [some (.ref a_t), some (.ref a_p1), none, none] [] := by
  rw [m_X5_readSource_0] at hs
  refine g_aload_n e_X5_readSource_0 rfl ?_
  refine g_iconst e_X5_readSource_1 ?_
  refine g_bipush e_X5_readSource_2 bp_98 ?_
  obtain ⟨y1, hy1, hs⟩ := bind_elim hs
  refine g_callVr [vI 1, vI 98] cv_X5_145 ⟨rfl, rfl, Nat.le_of_ble_eq_true rfl, Nat.le_of_ble_eq_true rfl⟩ (Ct_heap (ct_X5_number (AO_call [0, 1] ao (by decide) rfl) (FA_call [0, 1] ao.1 rfl rfl) ok_t_many ok_t_place ok_t_fault ok_t_numberPlace ok_t_bytes (by decide : inI 1) (by decide : inI 98) hy1) (ov_call (esn := [.inr (5, fsX5 a_t t_many y1.2.1 y1.2.2.1 y1.2.2.2), IA E 400 t_bytes, .inr (3, fsX3 a_p1 p1_speckMany p1_sourceMany p1_baseTold p1_baseLow p1_baseHigh p1_reach), IA E 100 p1_sourceHolds, ZA E 100 p1_sourceTold]) [0, 1] ao.1 rfl rfl rfl rfl)) e_X5_readSource_4 (ao.2 0 _ rfl) (ov_get 0 ao.1 rfl rfl) rfl rfl rfl (Nat.le_of_ble_eq_true rfl) ⟨Nat.le_refl _, Nat.le_refl _⟩ (fun Py1 => ?_)
  refine g_istore_n e_X5_readSource_7 st1_2 rfl ?_
  refine g_aload_n e_X5_readSource_8 rfl ?_
  refine g_iload_n e_X5_readSource_9 rfl ?_
  obtain ⟨y2, hy2, hs⟩ := bind_elim hs
  refine g_callVr [vI y1.1] cv_X5_168 ⟨rfl, rfl, Nat.le_of_ble_eq_true rfl, Nat.le_of_ble_eq_true rfl⟩ (ct_X3_isSourceTold (AO_call [2, 4] ao (by decide) rfl) (FA_call [2, 4] ao.1 rfl rfl) ok_p1_sourceTold Py1.1 hy2) e_X5_readSource_10 (ao.2 2 _ rfl) (ov_get 2 ao.1 rfl rfl) rfl rfl rfl (Nat.le_of_ble_eq_true rfl) ⟨Nat.le_refl _, Nat.le_refl _⟩ (fun Py2 => ?_)
  refine g_if_eq e_X5_readSource_13 (inZ_I Py2) hs (fun c13 hs => ?_) (fun c13 hs => ?_)
  · exact g_X5_readSource_25 ao ok_t_many Py1.2.1 Py1.2.2.1 Py1.2.2.2 ok_t_bytes ok_p1_sourceMany ok_p1_sourceHolds ok_p1_sourceTold Py1.1 hs
  · refine g_aload_n e_X5_readSource_16 rfl ?_
    refine g_aload_n e_X5_readSource_17 rfl ?_
    refine g_get 0 4 ao rfl rfl fsX5_g4 fl_X5_149 e_X5_readSource_18 ?_
    refine g_iconst e_X5_readSource_21 ?_
    obtain ⟨y5, hy5, hs⟩ := bind_elim hs
    refine g_callVv [vI y1.2.2.2, vI 3] cv_X5_45 ⟨rfl, rfl, Nat.le_of_ble_eq_true rfl, Nat.le_of_ble_eq_true rfl⟩ (Ct_heap (ct_X5_refuse (AO_call [0] ao (by decide) rfl) (FA_call [0] ao.1 rfl rfl) Py1.2.2.1 Py1.2.2.2 (by decide : inI 3) hy5) (ov_call (esn := [.inr (5, fsX5 a_t t_many y1.2.1 y5 y1.2.2.2), IA E 400 t_bytes, .inr (3, fsX3 a_p1 p1_speckMany p1_sourceMany p1_baseTold p1_baseLow p1_baseHigh p1_reach), IA E 100 p1_sourceHolds, ZA E 100 p1_sourceTold]) [0] ao.1 rfl rfl rfl rfl)) e_X5_readSource_22 (ao.2 0 _ rfl) (ov_get 0 ao.1 rfl rfl) rfl rfl rfl (Nat.le_of_ble_eq_true rfl) ⟨Nat.le_refl _, Nat.le_refl _⟩ (fun Py5 => ?_)
    exact g_X5_readSource_25 ao ok_t_many Py1.2.1 Py5 Py1.2.2.2 ok_t_bytes ok_p1_sourceMany ok_p1_sourceHolds ok_p1_sourceTold Py1.1 hs

noncomputable def m_X5_readSource (t_many : Int) (t_place : Int) (t_fault : Int) (t_numberPlace : Int) (t_bytes : Nat → Int) (p1_sourceMany : Int) (p1_sourceHolds : Nat → Int) (p1_sourceTold : Nat → Int) : Option (Int × Int × Int × Int × (Nat → Int) × (Nat → Int)) := m_X5_readSource_0 t_many t_place t_fault t_numberPlace t_bytes p1_sourceMany p1_sourceHolds p1_sourceTold

set_option maxRecDepth 10000 in
theorem ct_X5_readSource {l : Launch} {E : EE} {b0 n : Nat} {h : AH} {a_t a_p1 : Nat} {t_many t_place t_fault t_numberPlace p1_speckMany p1_sourceMany p1_baseTold p1_baseLow p1_baseHigh p1_reach : Int} {t_bytes p1_sourceHolds p1_sourceTold : Nat → Int} (ao : AO b0 n [a_t, (a_t + 1), a_p1, (a_p1 + 6), (a_p1 + 7)]) (hf : FA h [a_t, (a_t + 1), a_p1, (a_p1 + 6), (a_p1 + 7)] [.inr (5, fsX5 a_t t_many t_place t_fault t_numberPlace), IA E 400 t_bytes, .inr (3, fsX3 a_p1 p1_speckMany p1_sourceMany p1_baseTold p1_baseLow p1_baseHigh p1_reach), IA E 100 p1_sourceHolds, ZA E 100 p1_sourceTold]) (ok_t_many : inI t_many) (ok_t_place : inI t_place) (ok_t_fault : inI t_fault) (ok_t_numberPlace : inI t_numberPlace) (ok_t_bytes : okA t_bytes) (ok_p1_sourceMany : inI p1_sourceMany) (ok_p1_sourceHolds : okA p1_sourceHolds) (ok_p1_sourceTold : okZ p1_sourceTold) {r : Int × Int × Int × Int × (Nat → Int) × (Nat → Int)} (hm : m_X5_readSource t_many t_place t_fault t_numberPlace t_bytes p1_sourceMany p1_sourceHolds p1_sourceTold = some r) : Ct l E b0 M_X5_readSource 0 0 [.ref a_t, .ref a_p1] h n (none) (ov [a_t, (a_t + 1), a_p1, (a_p1 + 6), (a_p1 + 7)] [.inr (5, fsX5 a_t t_many r.1 r.2.1 r.2.2.1), IA E 400 t_bytes, .inr (3, fsX3 a_p1 p1_speckMany r.2.2.2.1 p1_baseTold p1_baseLow p1_baseHigh p1_reach), IA E 100 r.2.2.2.2.1, ZA E 100 r.2.2.2.2.2] h) n (inI r.1 ∧ inI r.2.1 ∧ inI r.2.2.1 ∧ inI r.2.2.2.1 ∧ okA r.2.2.2.2.1 ∧ okZ r.2.2.2.2.2) := by
  rw [m_X5_readSource] at hm
  have hg : G l E b0 M_X5_readSource (fun _ => True) (ZM E b0 (none) (ov [a_t, (a_t + 1), a_p1, (a_p1 + 6), (a_p1 + 7)] [.inr (5, fsX5 a_t t_many r.1 r.2.1 r.2.2.1), IA E 400 t_bytes, .inr (3, fsX3 a_p1 p1_speckMany r.2.2.2.1 p1_baseTold p1_baseLow p1_baseHigh p1_reach), IA E 100 r.2.2.2.2.1, ZA E 100 r.2.2.2.2.2] h) n (inI r.1 ∧ inI r.2.1 ∧ inI r.2.2.1 ∧ inI r.2.2.2.1 ∧ okA r.2.2.2.2.1 ∧ okZ r.2.2.2.2.2) 0 0) 0 0 n (ov [a_t, (a_t + 1), a_p1, (a_p1 + 6), (a_p1 + 7)] [.inr (5, fsX5 a_t t_many t_place t_fault t_numberPlace), IA E 400 t_bytes, .inr (3, fsX3 a_p1 p1_speckMany p1_sourceMany p1_baseTold p1_baseLow p1_baseHigh p1_reach), IA E 100 p1_sourceHolds, ZA E 100 p1_sourceTold] h) 0 [some (.ref a_t), some (.ref a_p1), none, none] [] := by
    have hs := hm
    exact g_X5_readSource_0 ao ok_t_many ok_t_place ok_t_fault ok_t_numberPlace ok_t_bytes ok_p1_sourceMany ok_p1_sourceHolds ok_p1_sourceTold hs
  rw [FA_id hf] at hg
  exact Ct_of [some (.ref a_t), some (.ref a_p1), none, none] ⟨by decide +kernel, rfl⟩ rfl (Nat.le_of_ble_eq_true rfl) hg

/-! ===== X5_readBase ===== -/
theorem e_X5_readBase_0 : DC cX5_readBase 0 (.aload_n 0) 1 1 := ⟨by decide +kernel, rfl⟩
theorem e_X5_readBase_1 : DC cX5_readBase 1 (.iconst 0) 1 2 := ⟨by decide +kernel, rfl⟩
theorem e_X5_readBase_2 : DC cX5_readBase 2 (.sipush 9999) 3 5 := ⟨by decide +kernel, rfl⟩
theorem e_X5_readBase_5 : DC cX5_readBase 5 (.invokevirtual 145) 3 8 := ⟨by decide +kernel, rfl⟩
theorem e_X5_readBase_8 : DC cX5_readBase 8 (.istore_n 2) 1 9 := ⟨by decide +kernel, rfl⟩
theorem e_X5_readBase_9 : DC cX5_readBase 9 (.aload_n 0) 1 10 := ⟨by decide +kernel, rfl⟩
theorem e_X5_readBase_10 : DC cX5_readBase 10 (.iconst 0) 1 11 := ⟨by decide +kernel, rfl⟩
theorem e_X5_readBase_11 : DC cX5_readBase 11 (.sipush 9999) 3 14 := ⟨by decide +kernel, rfl⟩
theorem e_X5_readBase_14 : DC cX5_readBase 14 (.invokevirtual 145) 3 17 := ⟨by decide +kernel, rfl⟩
theorem e_X5_readBase_17 : DC cX5_readBase 17 (.istore_n 3) 1 18 := ⟨by decide +kernel, rfl⟩
theorem e_X5_readBase_18 : DC cX5_readBase 18 (.iload_n 3) 1 19 := ⟨by decide +kernel, rfl⟩
theorem e_X5_readBase_19 : DC cX5_readBase 19 (.iload_n 2) 1 20 := ⟨by decide +kernel, rfl⟩
theorem e_X5_readBase_20 : DB cX5_readBase 20 (.if_icmp .ge 12) (12) 3 23 32 := ⟨by decide +kernel, rfl, rfl⟩
theorem e_X5_readBase_23 : DC cX5_readBase 23 (.aload_n 0) 1 24 := ⟨by decide +kernel, rfl⟩
theorem e_X5_readBase_24 : DC cX5_readBase 24 (.aload_n 0) 1 25 := ⟨by decide +kernel, rfl⟩
theorem e_X5_readBase_25 : DC cX5_readBase 25 (.getfield 149) 3 28 := ⟨by decide +kernel, rfl⟩
theorem e_X5_readBase_28 : DC cX5_readBase 28 (.iconst 2) 1 29 := ⟨by decide +kernel, rfl⟩
theorem e_X5_readBase_29 : DC cX5_readBase 29 (.invokevirtual 45) 3 32 := ⟨by decide +kernel, rfl⟩
theorem e_X5_readBase_32 : DC cX5_readBase 32 (.aload_n 0) 1 33 := ⟨by decide +kernel, rfl⟩
theorem e_X5_readBase_33 : DC cX5_readBase 33 (.getfield 31) 3 36 := ⟨by decide +kernel, rfl⟩
theorem e_X5_readBase_36 : DB cX5_readBase 36 (.ifCond .ne 9) (9) 3 39 45 := ⟨by decide +kernel, rfl, rfl⟩
theorem e_X5_readBase_39 : DC cX5_readBase 39 (.aload_n 1) 1 40 := ⟨by decide +kernel, rfl⟩
theorem e_X5_readBase_40 : DC cX5_readBase 40 (.iload_n 2) 1 41 := ⟨by decide +kernel, rfl⟩
theorem e_X5_readBase_41 : DC cX5_readBase 41 (.iload_n 3) 1 42 := ⟨by decide +kernel, rfl⟩
theorem e_X5_readBase_42 : DC cX5_readBase 42 (.invokevirtual 174) 3 45 := ⟨by decide +kernel, rfl⟩
theorem e_X5_readBase_45 : DC cX5_readBase 45 (.return_) 1 46 := ⟨by decide +kernel, rfl⟩
noncomputable def m_X5_readBase_32 (t_place : Int) (t_fault : Int) (t_numberPlace : Int) (p1_baseTold : Int) (p1_baseLow : Int) (p1_baseHigh : Int) (v2 : Int) (v3 : Int) : Option (Int × Int × Int × Int × Int × Int) :=
  if t_fault = 0 then ((m_X3_tellBase p1_baseTold p1_baseLow p1_baseHigh v2 v3).bind (fun y3 => some (t_place, t_fault, t_numberPlace, y3.1, y3.2.1, y3.2.2))) else (some (t_place, t_fault, t_numberPlace, p1_baseTold, p1_baseLow, p1_baseHigh))

set_option maxRecDepth 10000 in
theorem g_X5_readBase_32 {l : Launch} {E : EE} {b0 n : Nat} {h : AH} {a_t a_p1 : Nat} {t_many t_place t_fault t_numberPlace p1_speckMany p1_sourceMany p1_baseTold p1_baseLow p1_baseHigh p1_reach v2 v3 : Int} {t_bytes : Nat → Int} {r : Int × Int × Int × Int × Int × Int} (ao : AO b0 n [a_t, (a_t + 1), a_p1]) (ok_t_many : inI t_many) (ok_t_place : inI t_place) (ok_t_fault : inI t_fault) (ok_t_numberPlace : inI t_numberPlace) (ok_t_bytes : okA t_bytes) (ok_p1_baseTold : inZ p1_baseTold) (ok_p1_baseLow : inI p1_baseLow) (ok_p1_baseHigh : inI p1_baseHigh) (ok_v2 : inI v2) (ok_v3 : inI v3) (hs : m_X5_readBase_32 t_place t_fault t_numberPlace p1_baseTold p1_baseLow p1_baseHigh v2 v3 = some r) : G l E b0 M_X5_readBase (fun _ => True) (ZM E b0 (none) (ov [a_t, (a_t + 1), a_p1] [.inr (5, fsX5 a_t t_many r.1 r.2.1 r.2.2.1), IA E 400 t_bytes, .inr (3, fsX3 a_p1 p1_speckMany p1_sourceMany r.2.2.2.1 r.2.2.2.2.1 r.2.2.2.2.2 p1_reach)] h) n (inI r.1 ∧ inI r.2.1 ∧ inI r.2.2.1 ∧ inZ r.2.2.2.1 ∧ inI r.2.2.2.2.1 ∧ inI r.2.2.2.2.2) 0 0) 0 0 n (ov [a_t, (a_t + 1), a_p1] [.inr (5, fsX5 a_t t_many t_place t_fault t_numberPlace), IA E 400 t_bytes, .inr (3, fsX3 a_p1 p1_speckMany p1_sourceMany p1_baseTold p1_baseLow p1_baseHigh p1_reach)] h) 32 [some (.ref a_t), some (.ref a_p1), some (vI v2), some (vI v3)] [] := by
  rw [m_X5_readBase_32] at hs
  refine g_aload_n e_X5_readBase_32 rfl ?_
  refine g_get 0 3 ao rfl rfl fsX5_g3 fl_X5_31 e_X5_readBase_33 ?_
  refine g_if_ne e_X5_readBase_36 ok_t_fault hs (fun c36 hs => ?_) (fun c36 hs => ?_)
  · refine g_aload_n e_X5_readBase_39 rfl ?_
    refine g_iload_n e_X5_readBase_40 rfl ?_
    refine g_iload_n e_X5_readBase_41 rfl ?_
    obtain ⟨y3, hy3, hs⟩ := bind_elim hs
    refine g_callVv [vI v2, vI v3] cv_X5_174 ⟨rfl, rfl, Nat.le_of_ble_eq_true rfl, Nat.le_of_ble_eq_true rfl⟩ (Ct_heap (ct_X3_tellBase (AO_call [2] ao (by decide) rfl) (FA_call [2] ao.1 rfl rfl) ok_p1_baseTold ok_p1_baseLow ok_p1_baseHigh ok_v2 ok_v3 hy3) (ov_call (esn := [.inr (5, fsX5 a_t t_many t_place t_fault t_numberPlace), IA E 400 t_bytes, .inr (3, fsX3 a_p1 p1_speckMany p1_sourceMany y3.1 y3.2.1 y3.2.2 p1_reach)]) [2] ao.1 rfl rfl rfl rfl)) e_X5_readBase_42 (ao.2 2 _ rfl) (ov_get 2 ao.1 rfl rfl) rfl rfl rfl (Nat.le_of_ble_eq_true rfl) ⟨Nat.le_refl _, Nat.le_refl _⟩ (fun Py3 => ?_)
    obtain rfl := Option.some.inj hs
    exact g_vret rfl ⟨ok_t_place, ok_t_fault, ok_t_numberPlace, Py3.1, Py3.2.1, Py3.2.2⟩ e_X5_readBase_45
  · obtain rfl := Option.some.inj hs
    exact g_vret rfl ⟨ok_t_place, ok_t_fault, ok_t_numberPlace, ok_p1_baseTold, ok_p1_baseLow, ok_p1_baseHigh⟩ e_X5_readBase_45

noncomputable def m_X5_readBase_0 (t_many : Int) (t_place : Int) (t_fault : Int) (t_numberPlace : Int) (t_bytes : Nat → Int) (p1_baseTold : Int) (p1_baseLow : Int) (p1_baseHigh : Int) : Option (Int × Int × Int × Int × Int × Int) :=
  (m_X5_number t_many t_place t_fault t_numberPlace t_bytes 0 9999).bind (fun y1 => (m_X5_number t_many y1.2.1 y1.2.2.1 y1.2.2.2 t_bytes 0 9999).bind (fun y2 => if y1.1 ≤ y2.1 then (m_X5_readBase_32 y2.2.1 y2.2.2.1 y2.2.2.2 p1_baseTold p1_baseLow p1_baseHigh y1.1 y2.1) else ((m_X5_refuse y2.2.2.1 y2.2.2.2 2).bind (fun y4 => m_X5_readBase_32 y2.2.1 y4 y2.2.2.2 p1_baseTold p1_baseLow p1_baseHigh y1.1 y2.1))))

set_option maxRecDepth 10000 in
theorem g_X5_readBase_0 {l : Launch} {E : EE} {b0 n : Nat} {h : AH} {a_t a_p1 : Nat} {t_many t_place t_fault t_numberPlace p1_speckMany p1_sourceMany p1_baseTold p1_baseLow p1_baseHigh p1_reach : Int} {t_bytes : Nat → Int} {r : Int × Int × Int × Int × Int × Int} (ao : AO b0 n [a_t, (a_t + 1), a_p1]) (ok_t_many : inI t_many) (ok_t_place : inI t_place) (ok_t_fault : inI t_fault) (ok_t_numberPlace : inI t_numberPlace) (ok_t_bytes : okA t_bytes) (ok_p1_baseTold : inZ p1_baseTold) (ok_p1_baseLow : inI p1_baseLow) (ok_p1_baseHigh : inI p1_baseHigh) (hs : m_X5_readBase_0 t_many t_place t_fault t_numberPlace t_bytes p1_baseTold p1_baseLow p1_baseHigh = some r) : G l E b0 M_X5_readBase (fun _ => True) (ZM E b0 (none) (ov [a_t, (a_t + 1), a_p1] [.inr (5, fsX5 a_t t_many r.1 r.2.1 r.2.2.1), IA E 400 t_bytes, .inr (3, fsX3 a_p1 p1_speckMany p1_sourceMany r.2.2.2.1 r.2.2.2.2.1 r.2.2.2.2.2 p1_reach)] h) n (inI r.1 ∧ inI r.2.1 ∧ inI r.2.2.1 ∧ inZ r.2.2.2.1 ∧ inI r.2.2.2.2.1 ∧ inI r.2.2.2.2.2) 0 0) 0 0 n (ov [a_t, (a_t + 1), a_p1] [.inr (5, fsX5 a_t t_many t_place t_fault t_numberPlace), IA E 400 t_bytes, .inr (3, fsX3 a_p1 p1_speckMany p1_sourceMany p1_baseTold p1_baseLow p1_baseHigh p1_reach)] h) 0 [some (.ref a_t), some (.ref a_p1), none, none] [] := by
  rw [m_X5_readBase_0] at hs
  refine g_aload_n e_X5_readBase_0 rfl ?_
  refine g_iconst e_X5_readBase_1 ?_
  refine g_sipush e_X5_readBase_2 sp_9999 ?_
  obtain ⟨y1, hy1, hs⟩ := bind_elim hs
  refine g_callVr [vI 0, vI 9999] cv_X5_145 ⟨rfl, rfl, Nat.le_of_ble_eq_true rfl, Nat.le_of_ble_eq_true rfl⟩ (Ct_heap (ct_X5_number (AO_call [0, 1] ao (by decide) rfl) (FA_call [0, 1] ao.1 rfl rfl) ok_t_many ok_t_place ok_t_fault ok_t_numberPlace ok_t_bytes (by decide : inI 0) (by decide : inI 9999) hy1) (ov_call (esn := [.inr (5, fsX5 a_t t_many y1.2.1 y1.2.2.1 y1.2.2.2), IA E 400 t_bytes, .inr (3, fsX3 a_p1 p1_speckMany p1_sourceMany p1_baseTold p1_baseLow p1_baseHigh p1_reach)]) [0, 1] ao.1 rfl rfl rfl rfl)) e_X5_readBase_5 (ao.2 0 _ rfl) (ov_get 0 ao.1 rfl rfl) rfl rfl rfl (Nat.le_of_ble_eq_true rfl) ⟨Nat.le_refl _, Nat.le_refl _⟩ (fun Py1 => ?_)
  refine g_istore_n e_X5_readBase_8 st1_2 rfl ?_
  refine g_aload_n e_X5_readBase_9 rfl ?_
  refine g_iconst e_X5_readBase_10 ?_
  refine g_sipush e_X5_readBase_11 sp_9999 ?_
  obtain ⟨y2, hy2, hs⟩ := bind_elim hs
  refine g_callVr [vI 0, vI 9999] cv_X5_145 ⟨rfl, rfl, Nat.le_of_ble_eq_true rfl, Nat.le_of_ble_eq_true rfl⟩ (Ct_heap (ct_X5_number (AO_call [0, 1] ao (by decide) rfl) (FA_call [0, 1] ao.1 rfl rfl) ok_t_many Py1.2.1 Py1.2.2.1 Py1.2.2.2 ok_t_bytes (by decide : inI 0) (by decide : inI 9999) hy2) (ov_call (esn := [.inr (5, fsX5 a_t t_many y2.2.1 y2.2.2.1 y2.2.2.2), IA E 400 t_bytes, .inr (3, fsX3 a_p1 p1_speckMany p1_sourceMany p1_baseTold p1_baseLow p1_baseHigh p1_reach)]) [0, 1] ao.1 rfl rfl rfl rfl)) e_X5_readBase_14 (ao.2 0 _ rfl) (ov_get 0 ao.1 rfl rfl) rfl rfl rfl (Nat.le_of_ble_eq_true rfl) ⟨Nat.le_refl _, Nat.le_refl _⟩ (fun Py2 => ?_)
  refine g_istore_n e_X5_readBase_17 st1_3 rfl ?_
  refine g_iload_n e_X5_readBase_18 rfl ?_
  refine g_iload_n e_X5_readBase_19 rfl ?_
  refine g_icmp_ge e_X5_readBase_20 Py2.1 Py1.1 hs (fun c20 hs => ?_) (fun c20 hs => ?_)
  · exact g_X5_readBase_32 ao ok_t_many Py2.2.1 Py2.2.2.1 Py2.2.2.2 ok_t_bytes ok_p1_baseTold ok_p1_baseLow ok_p1_baseHigh Py1.1 Py2.1 hs
  · refine g_aload_n e_X5_readBase_23 rfl ?_
    refine g_aload_n e_X5_readBase_24 rfl ?_
    refine g_get 0 4 ao rfl rfl fsX5_g4 fl_X5_149 e_X5_readBase_25 ?_
    refine g_iconst e_X5_readBase_28 ?_
    obtain ⟨y4, hy4, hs⟩ := bind_elim hs
    refine g_callVv [vI y2.2.2.2, vI 2] cv_X5_45 ⟨rfl, rfl, Nat.le_of_ble_eq_true rfl, Nat.le_of_ble_eq_true rfl⟩ (Ct_heap (ct_X5_refuse (AO_call [0] ao (by decide) rfl) (FA_call [0] ao.1 rfl rfl) Py2.2.2.1 Py2.2.2.2 (by decide : inI 2) hy4) (ov_call (esn := [.inr (5, fsX5 a_t t_many y2.2.1 y4 y2.2.2.2), IA E 400 t_bytes, .inr (3, fsX3 a_p1 p1_speckMany p1_sourceMany p1_baseTold p1_baseLow p1_baseHigh p1_reach)]) [0] ao.1 rfl rfl rfl rfl)) e_X5_readBase_29 (ao.2 0 _ rfl) (ov_get 0 ao.1 rfl rfl) rfl rfl rfl (Nat.le_of_ble_eq_true rfl) ⟨Nat.le_refl _, Nat.le_refl _⟩ (fun Py4 => ?_)
    exact g_X5_readBase_32 ao ok_t_many Py2.2.1 Py4 Py2.2.2.2 ok_t_bytes ok_p1_baseTold ok_p1_baseLow ok_p1_baseHigh Py1.1 Py2.1 hs

noncomputable def m_X5_readBase (t_many : Int) (t_place : Int) (t_fault : Int) (t_numberPlace : Int) (t_bytes : Nat → Int) (p1_baseTold : Int) (p1_baseLow : Int) (p1_baseHigh : Int) : Option (Int × Int × Int × Int × Int × Int) := m_X5_readBase_0 t_many t_place t_fault t_numberPlace t_bytes p1_baseTold p1_baseLow p1_baseHigh

set_option maxRecDepth 10000 in
theorem ct_X5_readBase {l : Launch} {E : EE} {b0 n : Nat} {h : AH} {a_t a_p1 : Nat} {t_many t_place t_fault t_numberPlace p1_speckMany p1_sourceMany p1_baseTold p1_baseLow p1_baseHigh p1_reach : Int} {t_bytes : Nat → Int} (ao : AO b0 n [a_t, (a_t + 1), a_p1]) (hf : FA h [a_t, (a_t + 1), a_p1] [.inr (5, fsX5 a_t t_many t_place t_fault t_numberPlace), IA E 400 t_bytes, .inr (3, fsX3 a_p1 p1_speckMany p1_sourceMany p1_baseTold p1_baseLow p1_baseHigh p1_reach)]) (ok_t_many : inI t_many) (ok_t_place : inI t_place) (ok_t_fault : inI t_fault) (ok_t_numberPlace : inI t_numberPlace) (ok_t_bytes : okA t_bytes) (ok_p1_baseTold : inZ p1_baseTold) (ok_p1_baseLow : inI p1_baseLow) (ok_p1_baseHigh : inI p1_baseHigh) {r : Int × Int × Int × Int × Int × Int} (hm : m_X5_readBase t_many t_place t_fault t_numberPlace t_bytes p1_baseTold p1_baseLow p1_baseHigh = some r) : Ct l E b0 M_X5_readBase 0 0 [.ref a_t, .ref a_p1] h n (none) (ov [a_t, (a_t + 1), a_p1] [.inr (5, fsX5 a_t t_many r.1 r.2.1 r.2.2.1), IA E 400 t_bytes, .inr (3, fsX3 a_p1 p1_speckMany p1_sourceMany r.2.2.2.1 r.2.2.2.2.1 r.2.2.2.2.2 p1_reach)] h) n (inI r.1 ∧ inI r.2.1 ∧ inI r.2.2.1 ∧ inZ r.2.2.2.1 ∧ inI r.2.2.2.2.1 ∧ inI r.2.2.2.2.2) := by
  rw [m_X5_readBase] at hm
  have hg : G l E b0 M_X5_readBase (fun _ => True) (ZM E b0 (none) (ov [a_t, (a_t + 1), a_p1] [.inr (5, fsX5 a_t t_many r.1 r.2.1 r.2.2.1), IA E 400 t_bytes, .inr (3, fsX3 a_p1 p1_speckMany p1_sourceMany r.2.2.2.1 r.2.2.2.2.1 r.2.2.2.2.2 p1_reach)] h) n (inI r.1 ∧ inI r.2.1 ∧ inI r.2.2.1 ∧ inZ r.2.2.2.1 ∧ inI r.2.2.2.2.1 ∧ inI r.2.2.2.2.2) 0 0) 0 0 n (ov [a_t, (a_t + 1), a_p1] [.inr (5, fsX5 a_t t_many t_place t_fault t_numberPlace), IA E 400 t_bytes, .inr (3, fsX3 a_p1 p1_speckMany p1_sourceMany p1_baseTold p1_baseLow p1_baseHigh p1_reach)] h) 0 [some (.ref a_t), some (.ref a_p1), none, none] [] := by
    have hs := hm
    exact g_X5_readBase_0 ao ok_t_many ok_t_place ok_t_fault ok_t_numberPlace ok_t_bytes ok_p1_baseTold ok_p1_baseLow ok_p1_baseHigh hs
  rw [FA_id hf] at hg
  exact Ct_of [some (.ref a_t), some (.ref a_p1), none, none] ⟨by decide +kernel, rfl⟩ rfl (Nat.le_of_ble_eq_true rfl) hg

/-! ===== X5_readNumbers ===== -/
theorem e_X5_readNumbers_0 : DC cX5_readNumbers 0 (.iload_n 2) 1 1 := ⟨by decide +kernel, rfl⟩
theorem e_X5_readNumbers_1 : DC cX5_readNumbers 1 (.tableswitch 105 0 5 #[39, 50, 61, 72, 83, 94]) 39 40 := ⟨by decide +kernel, rfl⟩
theorem e_X5_readNumbers_40 : DC cX5_readNumbers 40 (.aload_n 0) 1 41 := ⟨by decide +kernel, rfl⟩
theorem e_X5_readNumbers_41 : DC cX5_readNumbers 41 (.aload_n 1) 1 42 := ⟨by decide +kernel, rfl⟩
theorem e_X5_readNumbers_42 : DC cX5_readNumbers 42 (.getfield 107) 3 45 := ⟨by decide +kernel, rfl⟩
theorem e_X5_readNumbers_45 : DC cX5_readNumbers 45 (.invokevirtual 128) 3 48 := ⟨by decide +kernel, rfl⟩
theorem e_X5_readNumbers_48 : DB cX5_readNumbers 48 (.goto 66) (66) 3 51 114 := ⟨by decide +kernel, rfl, rfl⟩
theorem e_X5_readNumbers_51 : DC cX5_readNumbers 51 (.aload_n 0) 1 52 := ⟨by decide +kernel, rfl⟩
theorem e_X5_readNumbers_52 : DC cX5_readNumbers 52 (.aload_n 1) 1 53 := ⟨by decide +kernel, rfl⟩
theorem e_X5_readNumbers_53 : DC cX5_readNumbers 53 (.getfield 116) 3 56 := ⟨by decide +kernel, rfl⟩
theorem e_X5_readNumbers_56 : DC cX5_readNumbers 56 (.invokevirtual 128) 3 59 := ⟨by decide +kernel, rfl⟩
theorem e_X5_readNumbers_59 : DB cX5_readNumbers 59 (.goto 55) (55) 3 62 114 := ⟨by decide +kernel, rfl, rfl⟩
theorem e_X5_readNumbers_62 : DC cX5_readNumbers 62 (.aload_n 0) 1 63 := ⟨by decide +kernel, rfl⟩
theorem e_X5_readNumbers_63 : DC cX5_readNumbers 63 (.aload_n 1) 1 64 := ⟨by decide +kernel, rfl⟩
theorem e_X5_readNumbers_64 : DC cX5_readNumbers 64 (.getfield 119) 3 67 := ⟨by decide +kernel, rfl⟩
theorem e_X5_readNumbers_67 : DC cX5_readNumbers 67 (.invokevirtual 128) 3 70 := ⟨by decide +kernel, rfl⟩
theorem e_X5_readNumbers_70 : DB cX5_readNumbers 70 (.goto 44) (44) 3 73 114 := ⟨by decide +kernel, rfl, rfl⟩
theorem e_X5_readNumbers_73 : DC cX5_readNumbers 73 (.aload_n 0) 1 74 := ⟨by decide +kernel, rfl⟩
theorem e_X5_readNumbers_74 : DC cX5_readNumbers 74 (.aload_n 1) 1 75 := ⟨by decide +kernel, rfl⟩
theorem e_X5_readNumbers_75 : DC cX5_readNumbers 75 (.getfield 49) 3 78 := ⟨by decide +kernel, rfl⟩
theorem e_X5_readNumbers_78 : DC cX5_readNumbers 78 (.invokevirtual 132) 3 81 := ⟨by decide +kernel, rfl⟩
theorem e_X5_readNumbers_81 : DB cX5_readNumbers 81 (.goto 33) (33) 3 84 114 := ⟨by decide +kernel, rfl, rfl⟩
theorem e_X5_readNumbers_84 : DC cX5_readNumbers 84 (.aload_n 0) 1 85 := ⟨by decide +kernel, rfl⟩
theorem e_X5_readNumbers_85 : DC cX5_readNumbers 85 (.aload_n 1) 1 86 := ⟨by decide +kernel, rfl⟩
theorem e_X5_readNumbers_86 : DC cX5_readNumbers 86 (.getfield 49) 3 89 := ⟨by decide +kernel, rfl⟩
theorem e_X5_readNumbers_89 : DC cX5_readNumbers 89 (.invokevirtual 136) 3 92 := ⟨by decide +kernel, rfl⟩
theorem e_X5_readNumbers_92 : DB cX5_readNumbers 92 (.goto 22) (22) 3 95 114 := ⟨by decide +kernel, rfl, rfl⟩
theorem e_X5_readNumbers_95 : DC cX5_readNumbers 95 (.aload_n 0) 1 96 := ⟨by decide +kernel, rfl⟩
theorem e_X5_readNumbers_96 : DC cX5_readNumbers 96 (.aload_n 1) 1 97 := ⟨by decide +kernel, rfl⟩
theorem e_X5_readNumbers_97 : DC cX5_readNumbers 97 (.getfield 49) 3 100 := ⟨by decide +kernel, rfl⟩
theorem e_X5_readNumbers_100 : DC cX5_readNumbers 100 (.invokevirtual 139) 3 103 := ⟨by decide +kernel, rfl⟩
theorem e_X5_readNumbers_103 : DB cX5_readNumbers 103 (.goto 11) (11) 3 106 114 := ⟨by decide +kernel, rfl, rfl⟩
theorem e_X5_readNumbers_106 : DC cX5_readNumbers 106 (.aload_n 0) 1 107 := ⟨by decide +kernel, rfl⟩
theorem e_X5_readNumbers_107 : DC cX5_readNumbers 107 (.aload_n 1) 1 108 := ⟨by decide +kernel, rfl⟩
theorem e_X5_readNumbers_108 : DC cX5_readNumbers 108 (.getfield 49) 3 111 := ⟨by decide +kernel, rfl⟩
theorem e_X5_readNumbers_111 : DC cX5_readNumbers 111 (.invokevirtual 142) 3 114 := ⟨by decide +kernel, rfl⟩
theorem e_X5_readNumbers_114 : DC cX5_readNumbers 114 (.return_) 1 115 := ⟨by decide +kernel, rfl⟩
noncomputable def m_X5_readNumbers_0 (t_many : Int) (t_place : Int) (t_fault : Int) (t_numberPlace : Int) (t_bytes : Nat → Int) (p1_steps_many : Int) (p1_steps_xs : Nat → Int) (p1_steps_ys : Nat → Int) (p1_steps_zs : Nat → Int) (p1_planes_many : Int) (p1_planes_xs : Nat → Int) (p1_planes_ys : Nat → Int) (p1_planes_zs : Nat → Int) (p1_eyes_many : Int) (p1_eyes_xs : Nat → Int) (p1_eyes_ys : Nat → Int) (p1_eyes_zs : Nat → Int) (p1_ground_speckMany : Int) (p1_ground_sourceMany : Int) (p1_ground_baseTold : Int) (p1_ground_baseLow : Int) (p1_ground_baseHigh : Int) (p1_ground_pushes : Nat → Int) (p1_ground_pushTold : Nat → Int) (p1_ground_lows : Nat → Int) (p1_ground_highs : Nat → Int) (p1_ground_speckTold : Nat → Int) (p1_ground_sourceHolds : Nat → Int) (p1_ground_sourceTold : Nat → Int) (v2 : Int) : Option (Int × Int × Int × Int × (Nat → Int) × (Nat → Int) × (Nat → Int) × Int × (Nat → Int) × (Nat → Int) × (Nat → Int) × Int × (Nat → Int) × (Nat → Int) × (Nat → Int) × Int × Int × Int × Int × Int × (Nat → Int) × (Nat → Int) × (Nat → Int) × (Nat → Int) × (Nat → Int) × (Nat → Int) × (Nat → Int)) :=
  if v2 = 0 then ((m_X5_readWay 16 t_many t_place t_fault t_numberPlace t_bytes p1_steps_many p1_steps_xs p1_steps_ys p1_steps_zs).bind (fun y1 => some (y1.1, y1.2.1, y1.2.2.1, y1.2.2.2.1, y1.2.2.2.2.1, y1.2.2.2.2.2.1, y1.2.2.2.2.2.2, p1_planes_many, p1_planes_xs, p1_planes_ys, p1_planes_zs, p1_eyes_many, p1_eyes_xs, p1_eyes_ys, p1_eyes_zs, p1_ground_speckMany, p1_ground_sourceMany, p1_ground_baseTold, p1_ground_baseLow, p1_ground_baseHigh, p1_ground_pushes, p1_ground_pushTold, p1_ground_lows, p1_ground_highs, p1_ground_speckTold, p1_ground_sourceHolds, p1_ground_sourceTold))) else (if v2 = 1 then ((m_X5_readWay 16 t_many t_place t_fault t_numberPlace t_bytes p1_planes_many p1_planes_xs p1_planes_ys p1_planes_zs).bind (fun y2 => some (y2.1, y2.2.1, y2.2.2.1, p1_steps_many, p1_steps_xs, p1_steps_ys, p1_steps_zs, y2.2.2.2.1, y2.2.2.2.2.1, y2.2.2.2.2.2.1, y2.2.2.2.2.2.2, p1_eyes_many, p1_eyes_xs, p1_eyes_ys, p1_eyes_zs, p1_ground_speckMany, p1_ground_sourceMany, p1_ground_baseTold, p1_ground_baseLow, p1_ground_baseHigh, p1_ground_pushes, p1_ground_pushTold, p1_ground_lows, p1_ground_highs, p1_ground_speckTold, p1_ground_sourceHolds, p1_ground_sourceTold))) else (if v2 = 2 then ((m_X5_readWay 16 t_many t_place t_fault t_numberPlace t_bytes p1_eyes_many p1_eyes_xs p1_eyes_ys p1_eyes_zs).bind (fun y3 => some (y3.1, y3.2.1, y3.2.2.1, p1_steps_many, p1_steps_xs, p1_steps_ys, p1_steps_zs, p1_planes_many, p1_planes_xs, p1_planes_ys, p1_planes_zs, y3.2.2.2.1, y3.2.2.2.2.1, y3.2.2.2.2.2.1, y3.2.2.2.2.2.2, p1_ground_speckMany, p1_ground_sourceMany, p1_ground_baseTold, p1_ground_baseLow, p1_ground_baseHigh, p1_ground_pushes, p1_ground_pushTold, p1_ground_lows, p1_ground_highs, p1_ground_speckTold, p1_ground_sourceHolds, p1_ground_sourceTold))) else (if v2 = 3 then ((m_X5_readPush t_many t_place t_fault t_numberPlace t_bytes p1_ground_pushes p1_ground_pushTold).bind (fun y4 => some (y4.1, y4.2.1, y4.2.2.1, p1_steps_many, p1_steps_xs, p1_steps_ys, p1_steps_zs, p1_planes_many, p1_planes_xs, p1_planes_ys, p1_planes_zs, p1_eyes_many, p1_eyes_xs, p1_eyes_ys, p1_eyes_zs, p1_ground_speckMany, p1_ground_sourceMany, p1_ground_baseTold, p1_ground_baseLow, p1_ground_baseHigh, y4.2.2.2.1, y4.2.2.2.2, p1_ground_lows, p1_ground_highs, p1_ground_speckTold, p1_ground_sourceHolds, p1_ground_sourceTold))) else (if v2 = 4 then ((m_X5_readSpeck t_many t_place t_fault t_numberPlace t_bytes p1_ground_speckMany p1_ground_lows p1_ground_highs p1_ground_speckTold).bind (fun y5 => some (y5.1, y5.2.1, y5.2.2.1, p1_steps_many, p1_steps_xs, p1_steps_ys, p1_steps_zs, p1_planes_many, p1_planes_xs, p1_planes_ys, p1_planes_zs, p1_eyes_many, p1_eyes_xs, p1_eyes_ys, p1_eyes_zs, y5.2.2.2.1, p1_ground_sourceMany, p1_ground_baseTold, p1_ground_baseLow, p1_ground_baseHigh, p1_ground_pushes, p1_ground_pushTold, y5.2.2.2.2.1, y5.2.2.2.2.2.1, y5.2.2.2.2.2.2, p1_ground_sourceHolds, p1_ground_sourceTold))) else (if v2 = 5 then ((m_X5_readSource t_many t_place t_fault t_numberPlace t_bytes p1_ground_sourceMany p1_ground_sourceHolds p1_ground_sourceTold).bind (fun y6 => some (y6.1, y6.2.1, y6.2.2.1, p1_steps_many, p1_steps_xs, p1_steps_ys, p1_steps_zs, p1_planes_many, p1_planes_xs, p1_planes_ys, p1_planes_zs, p1_eyes_many, p1_eyes_xs, p1_eyes_ys, p1_eyes_zs, p1_ground_speckMany, y6.2.2.2.1, p1_ground_baseTold, p1_ground_baseLow, p1_ground_baseHigh, p1_ground_pushes, p1_ground_pushTold, p1_ground_lows, p1_ground_highs, p1_ground_speckTold, y6.2.2.2.2.1, y6.2.2.2.2.2))) else ((m_X5_readBase t_many t_place t_fault t_numberPlace t_bytes p1_ground_baseTold p1_ground_baseLow p1_ground_baseHigh).bind (fun y7 => some (y7.1, y7.2.1, y7.2.2.1, p1_steps_many, p1_steps_xs, p1_steps_ys, p1_steps_zs, p1_planes_many, p1_planes_xs, p1_planes_ys, p1_planes_zs, p1_eyes_many, p1_eyes_xs, p1_eyes_ys, p1_eyes_zs, p1_ground_speckMany, p1_ground_sourceMany, y7.2.2.2.1, y7.2.2.2.2.1, y7.2.2.2.2.2, p1_ground_pushes, p1_ground_pushTold, p1_ground_lows, p1_ground_highs, p1_ground_speckTold, p1_ground_sourceHolds, p1_ground_sourceTold))))))))

set_option maxRecDepth 10000 in
theorem g_X5_readNumbers_0 {l : Launch} {E : EE} {b0 n : Nat} {h : AH} {a_t a_p1 : Nat} {t_many t_place t_fault t_numberPlace p1_sightMany p1_steps_many p1_planes_many p1_eyes_many p1_ground_speckMany p1_ground_sourceMany p1_ground_baseTold p1_ground_baseLow p1_ground_baseHigh p1_ground_reach v2 : Int} {t_bytes p1_steps_xs p1_steps_ys p1_steps_zs p1_planes_xs p1_planes_ys p1_planes_zs p1_eyes_xs p1_eyes_ys p1_eyes_zs p1_ground_pushes p1_ground_pushTold p1_ground_lows p1_ground_highs p1_ground_speckTold p1_ground_sourceHolds p1_ground_sourceTold : Nat → Int} {r : Int × Int × Int × Int × (Nat → Int) × (Nat → Int) × (Nat → Int) × Int × (Nat → Int) × (Nat → Int) × (Nat → Int) × Int × (Nat → Int) × (Nat → Int) × (Nat → Int) × Int × Int × Int × Int × Int × (Nat → Int) × (Nat → Int) × (Nat → Int) × (Nat → Int) × (Nat → Int) × (Nat → Int) × (Nat → Int)} (ao : AO b0 n [a_t, (a_t + 1), a_p1, (a_p1 + 1), (a_p1 + 2), (a_p1 + 3), (a_p1 + 4), (a_p1 + 5), (a_p1 + 6), (a_p1 + 7), (a_p1 + 8), (a_p1 + 9), (a_p1 + 10), (a_p1 + 11), (a_p1 + 12), (a_p1 + 13), (a_p1 + 14), (a_p1 + 15), (a_p1 + 16), (a_p1 + 17), (a_p1 + 18), (a_p1 + 19), (a_p1 + 20)]) (ok_t_many : inI t_many) (ok_t_place : inI t_place) (ok_t_fault : inI t_fault) (ok_t_numberPlace : inI t_numberPlace) (ok_t_bytes : okA t_bytes) (ok_p1_steps_many : inI p1_steps_many) (ok_p1_steps_xs : okA p1_steps_xs) (ok_p1_steps_ys : okA p1_steps_ys) (ok_p1_steps_zs : okA p1_steps_zs) (ok_p1_planes_many : inI p1_planes_many) (ok_p1_planes_xs : okA p1_planes_xs) (ok_p1_planes_ys : okA p1_planes_ys) (ok_p1_planes_zs : okA p1_planes_zs) (ok_p1_eyes_many : inI p1_eyes_many) (ok_p1_eyes_xs : okA p1_eyes_xs) (ok_p1_eyes_ys : okA p1_eyes_ys) (ok_p1_eyes_zs : okA p1_eyes_zs) (ok_p1_ground_speckMany : inI p1_ground_speckMany) (ok_p1_ground_sourceMany : inI p1_ground_sourceMany) (ok_p1_ground_baseTold : inZ p1_ground_baseTold) (ok_p1_ground_baseLow : inI p1_ground_baseLow) (ok_p1_ground_baseHigh : inI p1_ground_baseHigh) (ok_p1_ground_pushes : okA p1_ground_pushes) (ok_p1_ground_pushTold : okZ p1_ground_pushTold) (ok_p1_ground_lows : okA p1_ground_lows) (ok_p1_ground_highs : okA p1_ground_highs) (ok_p1_ground_speckTold : okZ p1_ground_speckTold) (ok_p1_ground_sourceHolds : okA p1_ground_sourceHolds) (ok_p1_ground_sourceTold : okZ p1_ground_sourceTold) (ok_v2 : inI v2) (hs : m_X5_readNumbers_0 t_many t_place t_fault t_numberPlace t_bytes p1_steps_many p1_steps_xs p1_steps_ys p1_steps_zs p1_planes_many p1_planes_xs p1_planes_ys p1_planes_zs p1_eyes_many p1_eyes_xs p1_eyes_ys p1_eyes_zs p1_ground_speckMany p1_ground_sourceMany p1_ground_baseTold p1_ground_baseLow p1_ground_baseHigh p1_ground_pushes p1_ground_pushTold p1_ground_lows p1_ground_highs p1_ground_speckTold p1_ground_sourceHolds p1_ground_sourceTold v2 = some r) : G l E b0 M_X5_readNumbers (fun _ => True) (ZM E b0 (none) (ov [a_t, (a_t + 1), a_p1, (a_p1 + 1), (a_p1 + 2), (a_p1 + 3), (a_p1 + 4), (a_p1 + 5), (a_p1 + 6), (a_p1 + 7), (a_p1 + 8), (a_p1 + 9), (a_p1 + 10), (a_p1 + 11), (a_p1 + 12), (a_p1 + 13), (a_p1 + 14), (a_p1 + 15), (a_p1 + 16), (a_p1 + 17), (a_p1 + 18), (a_p1 + 19), (a_p1 + 20)] [.inr (5, fsX5 a_t t_many r.1 r.2.1 r.2.2.1), IA E 400 t_bytes, .inr (1, fsX1 a_p1 p1_sightMany), .inr (8, fsX8 (a_p1 + 1) r.2.2.2.1), IA E 16 r.2.2.2.2.1, IA E 16 r.2.2.2.2.2.1, IA E 16 r.2.2.2.2.2.2.1, .inr (8, fsX8 (a_p1 + 5) r.2.2.2.2.2.2.2.1), IA E 16 r.2.2.2.2.2.2.2.2.1, IA E 16 r.2.2.2.2.2.2.2.2.2.1, IA E 16 r.2.2.2.2.2.2.2.2.2.2.1, .inr (8, fsX8 (a_p1 + 9) r.2.2.2.2.2.2.2.2.2.2.2.1), IA E 16 r.2.2.2.2.2.2.2.2.2.2.2.2.1, IA E 16 r.2.2.2.2.2.2.2.2.2.2.2.2.2.1, IA E 16 r.2.2.2.2.2.2.2.2.2.2.2.2.2.2.1, .inr (3, fsX3 (a_p1 + 13) r.2.2.2.2.2.2.2.2.2.2.2.2.2.2.2.1 r.2.2.2.2.2.2.2.2.2.2.2.2.2.2.2.2.1 r.2.2.2.2.2.2.2.2.2.2.2.2.2.2.2.2.2.1 r.2.2.2.2.2.2.2.2.2.2.2.2.2.2.2.2.2.2.1 r.2.2.2.2.2.2.2.2.2.2.2.2.2.2.2.2.2.2.2.1 p1_ground_reach), IA E 21 r.2.2.2.2.2.2.2.2.2.2.2.2.2.2.2.2.2.2.2.2.1, ZA E 21 r.2.2.2.2.2.2.2.2.2.2.2.2.2.2.2.2.2.2.2.2.2.1, IA E 100 r.2.2.2.2.2.2.2.2.2.2.2.2.2.2.2.2.2.2.2.2.2.2.1, IA E 100 r.2.2.2.2.2.2.2.2.2.2.2.2.2.2.2.2.2.2.2.2.2.2.2.1, ZA E 100 r.2.2.2.2.2.2.2.2.2.2.2.2.2.2.2.2.2.2.2.2.2.2.2.2.1, IA E 100 r.2.2.2.2.2.2.2.2.2.2.2.2.2.2.2.2.2.2.2.2.2.2.2.2.2.1, ZA E 100 r.2.2.2.2.2.2.2.2.2.2.2.2.2.2.2.2.2.2.2.2.2.2.2.2.2.2] h) n (inI r.1 ∧ inI r.2.1 ∧ inI r.2.2.1 ∧ inI r.2.2.2.1 ∧ okA r.2.2.2.2.1 ∧ okA r.2.2.2.2.2.1 ∧ okA r.2.2.2.2.2.2.1 ∧ inI r.2.2.2.2.2.2.2.1 ∧ okA r.2.2.2.2.2.2.2.2.1 ∧ okA r.2.2.2.2.2.2.2.2.2.1 ∧ okA r.2.2.2.2.2.2.2.2.2.2.1 ∧ inI r.2.2.2.2.2.2.2.2.2.2.2.1 ∧ okA r.2.2.2.2.2.2.2.2.2.2.2.2.1 ∧ okA r.2.2.2.2.2.2.2.2.2.2.2.2.2.1 ∧ okA r.2.2.2.2.2.2.2.2.2.2.2.2.2.2.1 ∧ inI r.2.2.2.2.2.2.2.2.2.2.2.2.2.2.2.1 ∧ inI r.2.2.2.2.2.2.2.2.2.2.2.2.2.2.2.2.1 ∧ inZ r.2.2.2.2.2.2.2.2.2.2.2.2.2.2.2.2.2.1 ∧ inI r.2.2.2.2.2.2.2.2.2.2.2.2.2.2.2.2.2.2.1 ∧ inI r.2.2.2.2.2.2.2.2.2.2.2.2.2.2.2.2.2.2.2.1 ∧ okA r.2.2.2.2.2.2.2.2.2.2.2.2.2.2.2.2.2.2.2.2.1 ∧ okZ r.2.2.2.2.2.2.2.2.2.2.2.2.2.2.2.2.2.2.2.2.2.1 ∧ okA r.2.2.2.2.2.2.2.2.2.2.2.2.2.2.2.2.2.2.2.2.2.2.1 ∧ okA r.2.2.2.2.2.2.2.2.2.2.2.2.2.2.2.2.2.2.2.2.2.2.2.1 ∧ okZ r.2.2.2.2.2.2.2.2.2.2.2.2.2.2.2.2.2.2.2.2.2.2.2.2.1 ∧ okA r.2.2.2.2.2.2.2.2.2.2.2.2.2.2.2.2.2.2.2.2.2.2.2.2.2.1 ∧ okZ r.2.2.2.2.2.2.2.2.2.2.2.2.2.2.2.2.2.2.2.2.2.2.2.2.2.2) 0 0) 0 0 n (ov [a_t, (a_t + 1), a_p1, (a_p1 + 1), (a_p1 + 2), (a_p1 + 3), (a_p1 + 4), (a_p1 + 5), (a_p1 + 6), (a_p1 + 7), (a_p1 + 8), (a_p1 + 9), (a_p1 + 10), (a_p1 + 11), (a_p1 + 12), (a_p1 + 13), (a_p1 + 14), (a_p1 + 15), (a_p1 + 16), (a_p1 + 17), (a_p1 + 18), (a_p1 + 19), (a_p1 + 20)] [.inr (5, fsX5 a_t t_many t_place t_fault t_numberPlace), IA E 400 t_bytes, .inr (1, fsX1 a_p1 p1_sightMany), .inr (8, fsX8 (a_p1 + 1) p1_steps_many), IA E 16 p1_steps_xs, IA E 16 p1_steps_ys, IA E 16 p1_steps_zs, .inr (8, fsX8 (a_p1 + 5) p1_planes_many), IA E 16 p1_planes_xs, IA E 16 p1_planes_ys, IA E 16 p1_planes_zs, .inr (8, fsX8 (a_p1 + 9) p1_eyes_many), IA E 16 p1_eyes_xs, IA E 16 p1_eyes_ys, IA E 16 p1_eyes_zs, .inr (3, fsX3 (a_p1 + 13) p1_ground_speckMany p1_ground_sourceMany p1_ground_baseTold p1_ground_baseLow p1_ground_baseHigh p1_ground_reach), IA E 21 p1_ground_pushes, ZA E 21 p1_ground_pushTold, IA E 100 p1_ground_lows, IA E 100 p1_ground_highs, ZA E 100 p1_ground_speckTold, IA E 100 p1_ground_sourceHolds, ZA E 100 p1_ground_sourceTold] h) 0 [some (.ref a_t), some (.ref a_p1), some (vI v2)] [] := by
  rw [m_X5_readNumbers_0] at hs
  refine g_iload_n e_X5_readNumbers_0 rfl ?_
  by_cases c1_0 : v2 = 0
  · rw [if_pos c1_0] at hs
    refine g_tableIn (off := 39) (tgt := 40) e_X5_readNumbers_1 ok_v2 (by rw [c1_0]; decide) (by rw [c1_0]; decide) (by rw [c1_0]; rfl) rfl ?_
    refine g_aload_n e_X5_readNumbers_40 rfl ?_
    refine g_aload_n e_X5_readNumbers_41 rfl ?_
    refine g_get 2 0 ao rfl rfl fsX1_g0 fl_X5_107 e_X5_readNumbers_42 ?_
    obtain ⟨y1, hy1, hs⟩ := bind_elim hs
    refine g_callVv [.ref (a_p1 + 1)] cv_X5_128 ⟨rfl, rfl, Nat.le_of_ble_eq_true rfl, Nat.le_of_ble_eq_true rfl⟩ (Ct_heap (ct_X5_readWay (AO_call [0, 1, 3, 4, 5, 6] ao (by decide) rfl) (by omega) (FA_call [0, 1, 3, 4, 5, 6] ao.1 rfl rfl) ok_t_many ok_t_place ok_t_fault ok_t_numberPlace ok_t_bytes ok_p1_steps_many ok_p1_steps_xs ok_p1_steps_ys ok_p1_steps_zs hy1) (ov_call (esn := [.inr (5, fsX5 a_t t_many y1.1 y1.2.1 y1.2.2.1), IA E 400 t_bytes, .inr (1, fsX1 a_p1 p1_sightMany), .inr (8, fsX8 (a_p1 + 1) y1.2.2.2.1), IA E 16 y1.2.2.2.2.1, IA E 16 y1.2.2.2.2.2.1, IA E 16 y1.2.2.2.2.2.2, .inr (8, fsX8 (a_p1 + 5) p1_planes_many), IA E 16 p1_planes_xs, IA E 16 p1_planes_ys, IA E 16 p1_planes_zs, .inr (8, fsX8 (a_p1 + 9) p1_eyes_many), IA E 16 p1_eyes_xs, IA E 16 p1_eyes_ys, IA E 16 p1_eyes_zs, .inr (3, fsX3 (a_p1 + 13) p1_ground_speckMany p1_ground_sourceMany p1_ground_baseTold p1_ground_baseLow p1_ground_baseHigh p1_ground_reach), IA E 21 p1_ground_pushes, ZA E 21 p1_ground_pushTold, IA E 100 p1_ground_lows, IA E 100 p1_ground_highs, ZA E 100 p1_ground_speckTold, IA E 100 p1_ground_sourceHolds, ZA E 100 p1_ground_sourceTold]) [0, 1, 3, 4, 5, 6] ao.1 rfl rfl rfl rfl)) e_X5_readNumbers_45 (ao.2 0 _ rfl) (ov_get 0 ao.1 rfl rfl) rfl rfl rfl (Nat.le_of_ble_eq_true rfl) ⟨Nat.le_refl _, Nat.le_refl _⟩ (fun Py1 => ?_)
    refine g_goto e_X5_readNumbers_48 ?_
    obtain rfl := Option.some.inj hs
    exact g_vret rfl ⟨Py1.1, Py1.2.1, Py1.2.2.1, Py1.2.2.2.1, Py1.2.2.2.2.1, Py1.2.2.2.2.2.1, Py1.2.2.2.2.2.2, ok_p1_planes_many, ok_p1_planes_xs, ok_p1_planes_ys, ok_p1_planes_zs, ok_p1_eyes_many, ok_p1_eyes_xs, ok_p1_eyes_ys, ok_p1_eyes_zs, ok_p1_ground_speckMany, ok_p1_ground_sourceMany, ok_p1_ground_baseTold, ok_p1_ground_baseLow, ok_p1_ground_baseHigh, ok_p1_ground_pushes, ok_p1_ground_pushTold, ok_p1_ground_lows, ok_p1_ground_highs, ok_p1_ground_speckTold, ok_p1_ground_sourceHolds, ok_p1_ground_sourceTold⟩ e_X5_readNumbers_114
  · rw [if_neg c1_0] at hs
    by_cases c1_1 : v2 = 1
    · rw [if_pos c1_1] at hs
      refine g_tableIn (off := 50) (tgt := 51) e_X5_readNumbers_1 ok_v2 (by rw [c1_1]; decide) (by rw [c1_1]; decide) (by rw [c1_1]; rfl) rfl ?_
      refine g_aload_n e_X5_readNumbers_51 rfl ?_
      refine g_aload_n e_X5_readNumbers_52 rfl ?_
      refine g_get 2 1 ao rfl rfl fsX1_g1 fl_X5_116 e_X5_readNumbers_53 ?_
      obtain ⟨y2, hy2, hs⟩ := bind_elim hs
      refine g_callVv [.ref (a_p1 + 5)] cv_X5_128 ⟨rfl, rfl, Nat.le_of_ble_eq_true rfl, Nat.le_of_ble_eq_true rfl⟩ (Ct_heap (ct_X5_readWay (AO_call [0, 1, 7, 8, 9, 10] ao (by decide) rfl) (by omega) (FA_call [0, 1, 7, 8, 9, 10] ao.1 rfl rfl) ok_t_many ok_t_place ok_t_fault ok_t_numberPlace ok_t_bytes ok_p1_planes_many ok_p1_planes_xs ok_p1_planes_ys ok_p1_planes_zs hy2) (ov_call (esn := [.inr (5, fsX5 a_t t_many y2.1 y2.2.1 y2.2.2.1), IA E 400 t_bytes, .inr (1, fsX1 a_p1 p1_sightMany), .inr (8, fsX8 (a_p1 + 1) p1_steps_many), IA E 16 p1_steps_xs, IA E 16 p1_steps_ys, IA E 16 p1_steps_zs, .inr (8, fsX8 (a_p1 + 5) y2.2.2.2.1), IA E 16 y2.2.2.2.2.1, IA E 16 y2.2.2.2.2.2.1, IA E 16 y2.2.2.2.2.2.2, .inr (8, fsX8 (a_p1 + 9) p1_eyes_many), IA E 16 p1_eyes_xs, IA E 16 p1_eyes_ys, IA E 16 p1_eyes_zs, .inr (3, fsX3 (a_p1 + 13) p1_ground_speckMany p1_ground_sourceMany p1_ground_baseTold p1_ground_baseLow p1_ground_baseHigh p1_ground_reach), IA E 21 p1_ground_pushes, ZA E 21 p1_ground_pushTold, IA E 100 p1_ground_lows, IA E 100 p1_ground_highs, ZA E 100 p1_ground_speckTold, IA E 100 p1_ground_sourceHolds, ZA E 100 p1_ground_sourceTold]) [0, 1, 7, 8, 9, 10] ao.1 rfl rfl rfl rfl)) e_X5_readNumbers_56 (ao.2 0 _ rfl) (ov_get 0 ao.1 rfl rfl) rfl rfl rfl (Nat.le_of_ble_eq_true rfl) ⟨Nat.le_refl _, Nat.le_refl _⟩ (fun Py2 => ?_)
      refine g_goto e_X5_readNumbers_59 ?_
      obtain rfl := Option.some.inj hs
      exact g_vret rfl ⟨Py2.1, Py2.2.1, Py2.2.2.1, ok_p1_steps_many, ok_p1_steps_xs, ok_p1_steps_ys, ok_p1_steps_zs, Py2.2.2.2.1, Py2.2.2.2.2.1, Py2.2.2.2.2.2.1, Py2.2.2.2.2.2.2, ok_p1_eyes_many, ok_p1_eyes_xs, ok_p1_eyes_ys, ok_p1_eyes_zs, ok_p1_ground_speckMany, ok_p1_ground_sourceMany, ok_p1_ground_baseTold, ok_p1_ground_baseLow, ok_p1_ground_baseHigh, ok_p1_ground_pushes, ok_p1_ground_pushTold, ok_p1_ground_lows, ok_p1_ground_highs, ok_p1_ground_speckTold, ok_p1_ground_sourceHolds, ok_p1_ground_sourceTold⟩ e_X5_readNumbers_114
    · rw [if_neg c1_1] at hs
      by_cases c1_2 : v2 = 2
      · rw [if_pos c1_2] at hs
        refine g_tableIn (off := 61) (tgt := 62) e_X5_readNumbers_1 ok_v2 (by rw [c1_2]; decide) (by rw [c1_2]; decide) (by rw [c1_2]; rfl) rfl ?_
        refine g_aload_n e_X5_readNumbers_62 rfl ?_
        refine g_aload_n e_X5_readNumbers_63 rfl ?_
        refine g_get 2 2 ao rfl rfl fsX1_g2 fl_X5_119 e_X5_readNumbers_64 ?_
        obtain ⟨y3, hy3, hs⟩ := bind_elim hs
        refine g_callVv [.ref (a_p1 + 9)] cv_X5_128 ⟨rfl, rfl, Nat.le_of_ble_eq_true rfl, Nat.le_of_ble_eq_true rfl⟩ (Ct_heap (ct_X5_readWay (AO_call [0, 1, 11, 12, 13, 14] ao (by decide) rfl) (by omega) (FA_call [0, 1, 11, 12, 13, 14] ao.1 rfl rfl) ok_t_many ok_t_place ok_t_fault ok_t_numberPlace ok_t_bytes ok_p1_eyes_many ok_p1_eyes_xs ok_p1_eyes_ys ok_p1_eyes_zs hy3) (ov_call (esn := [.inr (5, fsX5 a_t t_many y3.1 y3.2.1 y3.2.2.1), IA E 400 t_bytes, .inr (1, fsX1 a_p1 p1_sightMany), .inr (8, fsX8 (a_p1 + 1) p1_steps_many), IA E 16 p1_steps_xs, IA E 16 p1_steps_ys, IA E 16 p1_steps_zs, .inr (8, fsX8 (a_p1 + 5) p1_planes_many), IA E 16 p1_planes_xs, IA E 16 p1_planes_ys, IA E 16 p1_planes_zs, .inr (8, fsX8 (a_p1 + 9) y3.2.2.2.1), IA E 16 y3.2.2.2.2.1, IA E 16 y3.2.2.2.2.2.1, IA E 16 y3.2.2.2.2.2.2, .inr (3, fsX3 (a_p1 + 13) p1_ground_speckMany p1_ground_sourceMany p1_ground_baseTold p1_ground_baseLow p1_ground_baseHigh p1_ground_reach), IA E 21 p1_ground_pushes, ZA E 21 p1_ground_pushTold, IA E 100 p1_ground_lows, IA E 100 p1_ground_highs, ZA E 100 p1_ground_speckTold, IA E 100 p1_ground_sourceHolds, ZA E 100 p1_ground_sourceTold]) [0, 1, 11, 12, 13, 14] ao.1 rfl rfl rfl rfl)) e_X5_readNumbers_67 (ao.2 0 _ rfl) (ov_get 0 ao.1 rfl rfl) rfl rfl rfl (Nat.le_of_ble_eq_true rfl) ⟨Nat.le_refl _, Nat.le_refl _⟩ (fun Py3 => ?_)
        refine g_goto e_X5_readNumbers_70 ?_
        obtain rfl := Option.some.inj hs
        exact g_vret rfl ⟨Py3.1, Py3.2.1, Py3.2.2.1, ok_p1_steps_many, ok_p1_steps_xs, ok_p1_steps_ys, ok_p1_steps_zs, ok_p1_planes_many, ok_p1_planes_xs, ok_p1_planes_ys, ok_p1_planes_zs, Py3.2.2.2.1, Py3.2.2.2.2.1, Py3.2.2.2.2.2.1, Py3.2.2.2.2.2.2, ok_p1_ground_speckMany, ok_p1_ground_sourceMany, ok_p1_ground_baseTold, ok_p1_ground_baseLow, ok_p1_ground_baseHigh, ok_p1_ground_pushes, ok_p1_ground_pushTold, ok_p1_ground_lows, ok_p1_ground_highs, ok_p1_ground_speckTold, ok_p1_ground_sourceHolds, ok_p1_ground_sourceTold⟩ e_X5_readNumbers_114
      · rw [if_neg c1_2] at hs
        by_cases c1_3 : v2 = 3
        · rw [if_pos c1_3] at hs
          refine g_tableIn (off := 72) (tgt := 73) e_X5_readNumbers_1 ok_v2 (by rw [c1_3]; decide) (by rw [c1_3]; decide) (by rw [c1_3]; rfl) rfl ?_
          refine g_aload_n e_X5_readNumbers_73 rfl ?_
          refine g_aload_n e_X5_readNumbers_74 rfl ?_
          refine g_get 2 3 ao rfl rfl fsX1_g3 fl_X5_49 e_X5_readNumbers_75 ?_
          obtain ⟨y4, hy4, hs⟩ := bind_elim hs
          refine g_callVv [.ref (a_p1 + 13)] cv_X5_132 ⟨rfl, rfl, Nat.le_of_ble_eq_true rfl, Nat.le_of_ble_eq_true rfl⟩ (Ct_heap (ct_X5_readPush (AO_call [0, 1, 15, 16, 17] ao (by decide) rfl) (FA_call [0, 1, 15, 16, 17] ao.1 rfl rfl) ok_t_many ok_t_place ok_t_fault ok_t_numberPlace ok_t_bytes ok_p1_ground_pushes ok_p1_ground_pushTold hy4) (ov_call (esn := [.inr (5, fsX5 a_t t_many y4.1 y4.2.1 y4.2.2.1), IA E 400 t_bytes, .inr (1, fsX1 a_p1 p1_sightMany), .inr (8, fsX8 (a_p1 + 1) p1_steps_many), IA E 16 p1_steps_xs, IA E 16 p1_steps_ys, IA E 16 p1_steps_zs, .inr (8, fsX8 (a_p1 + 5) p1_planes_many), IA E 16 p1_planes_xs, IA E 16 p1_planes_ys, IA E 16 p1_planes_zs, .inr (8, fsX8 (a_p1 + 9) p1_eyes_many), IA E 16 p1_eyes_xs, IA E 16 p1_eyes_ys, IA E 16 p1_eyes_zs, .inr (3, fsX3 (a_p1 + 13) p1_ground_speckMany p1_ground_sourceMany p1_ground_baseTold p1_ground_baseLow p1_ground_baseHigh p1_ground_reach), IA E 21 y4.2.2.2.1, ZA E 21 y4.2.2.2.2, IA E 100 p1_ground_lows, IA E 100 p1_ground_highs, ZA E 100 p1_ground_speckTold, IA E 100 p1_ground_sourceHolds, ZA E 100 p1_ground_sourceTold]) [0, 1, 15, 16, 17] ao.1 rfl rfl rfl rfl)) e_X5_readNumbers_78 (ao.2 0 _ rfl) (ov_get 0 ao.1 rfl rfl) rfl rfl rfl (Nat.le_of_ble_eq_true rfl) ⟨Nat.le_refl _, Nat.le_refl _⟩ (fun Py4 => ?_)
          refine g_goto e_X5_readNumbers_81 ?_
          obtain rfl := Option.some.inj hs
          exact g_vret rfl ⟨Py4.1, Py4.2.1, Py4.2.2.1, ok_p1_steps_many, ok_p1_steps_xs, ok_p1_steps_ys, ok_p1_steps_zs, ok_p1_planes_many, ok_p1_planes_xs, ok_p1_planes_ys, ok_p1_planes_zs, ok_p1_eyes_many, ok_p1_eyes_xs, ok_p1_eyes_ys, ok_p1_eyes_zs, ok_p1_ground_speckMany, ok_p1_ground_sourceMany, ok_p1_ground_baseTold, ok_p1_ground_baseLow, ok_p1_ground_baseHigh, Py4.2.2.2.1, Py4.2.2.2.2, ok_p1_ground_lows, ok_p1_ground_highs, ok_p1_ground_speckTold, ok_p1_ground_sourceHolds, ok_p1_ground_sourceTold⟩ e_X5_readNumbers_114
        · rw [if_neg c1_3] at hs
          by_cases c1_4 : v2 = 4
          · rw [if_pos c1_4] at hs
            refine g_tableIn (off := 83) (tgt := 84) e_X5_readNumbers_1 ok_v2 (by rw [c1_4]; decide) (by rw [c1_4]; decide) (by rw [c1_4]; rfl) rfl ?_
            refine g_aload_n e_X5_readNumbers_84 rfl ?_
            refine g_aload_n e_X5_readNumbers_85 rfl ?_
            refine g_get 2 3 ao rfl rfl fsX1_g3 fl_X5_49 e_X5_readNumbers_86 ?_
            obtain ⟨y5, hy5, hs⟩ := bind_elim hs
            refine g_callVv [.ref (a_p1 + 13)] cv_X5_136 ⟨rfl, rfl, Nat.le_of_ble_eq_true rfl, Nat.le_of_ble_eq_true rfl⟩ (Ct_heap (ct_X5_readSpeck (AO_call [0, 1, 15, 18, 19, 20] ao (by decide) rfl) (FA_call [0, 1, 15, 18, 19, 20] ao.1 rfl rfl) ok_t_many ok_t_place ok_t_fault ok_t_numberPlace ok_t_bytes ok_p1_ground_speckMany ok_p1_ground_lows ok_p1_ground_highs ok_p1_ground_speckTold hy5) (ov_call (esn := [.inr (5, fsX5 a_t t_many y5.1 y5.2.1 y5.2.2.1), IA E 400 t_bytes, .inr (1, fsX1 a_p1 p1_sightMany), .inr (8, fsX8 (a_p1 + 1) p1_steps_many), IA E 16 p1_steps_xs, IA E 16 p1_steps_ys, IA E 16 p1_steps_zs, .inr (8, fsX8 (a_p1 + 5) p1_planes_many), IA E 16 p1_planes_xs, IA E 16 p1_planes_ys, IA E 16 p1_planes_zs, .inr (8, fsX8 (a_p1 + 9) p1_eyes_many), IA E 16 p1_eyes_xs, IA E 16 p1_eyes_ys, IA E 16 p1_eyes_zs, .inr (3, fsX3 (a_p1 + 13) y5.2.2.2.1 p1_ground_sourceMany p1_ground_baseTold p1_ground_baseLow p1_ground_baseHigh p1_ground_reach), IA E 21 p1_ground_pushes, ZA E 21 p1_ground_pushTold, IA E 100 y5.2.2.2.2.1, IA E 100 y5.2.2.2.2.2.1, ZA E 100 y5.2.2.2.2.2.2, IA E 100 p1_ground_sourceHolds, ZA E 100 p1_ground_sourceTold]) [0, 1, 15, 18, 19, 20] ao.1 rfl rfl rfl rfl)) e_X5_readNumbers_89 (ao.2 0 _ rfl) (ov_get 0 ao.1 rfl rfl) rfl rfl rfl (Nat.le_of_ble_eq_true rfl) ⟨Nat.le_refl _, Nat.le_refl _⟩ (fun Py5 => ?_)
            refine g_goto e_X5_readNumbers_92 ?_
            obtain rfl := Option.some.inj hs
            exact g_vret rfl ⟨Py5.1, Py5.2.1, Py5.2.2.1, ok_p1_steps_many, ok_p1_steps_xs, ok_p1_steps_ys, ok_p1_steps_zs, ok_p1_planes_many, ok_p1_planes_xs, ok_p1_planes_ys, ok_p1_planes_zs, ok_p1_eyes_many, ok_p1_eyes_xs, ok_p1_eyes_ys, ok_p1_eyes_zs, Py5.2.2.2.1, ok_p1_ground_sourceMany, ok_p1_ground_baseTold, ok_p1_ground_baseLow, ok_p1_ground_baseHigh, ok_p1_ground_pushes, ok_p1_ground_pushTold, Py5.2.2.2.2.1, Py5.2.2.2.2.2.1, Py5.2.2.2.2.2.2, ok_p1_ground_sourceHolds, ok_p1_ground_sourceTold⟩ e_X5_readNumbers_114
          · rw [if_neg c1_4] at hs
            by_cases c1_5 : v2 = 5
            · rw [if_pos c1_5] at hs
              refine g_tableIn (off := 94) (tgt := 95) e_X5_readNumbers_1 ok_v2 (by rw [c1_5]; decide) (by rw [c1_5]; decide) (by rw [c1_5]; rfl) rfl ?_
              refine g_aload_n e_X5_readNumbers_95 rfl ?_
              refine g_aload_n e_X5_readNumbers_96 rfl ?_
              refine g_get 2 3 ao rfl rfl fsX1_g3 fl_X5_49 e_X5_readNumbers_97 ?_
              obtain ⟨y6, hy6, hs⟩ := bind_elim hs
              refine g_callVv [.ref (a_p1 + 13)] cv_X5_139 ⟨rfl, rfl, Nat.le_of_ble_eq_true rfl, Nat.le_of_ble_eq_true rfl⟩ (Ct_heap (ct_X5_readSource (AO_call [0, 1, 15, 21, 22] ao (by decide) rfl) (FA_call [0, 1, 15, 21, 22] ao.1 rfl rfl) ok_t_many ok_t_place ok_t_fault ok_t_numberPlace ok_t_bytes ok_p1_ground_sourceMany ok_p1_ground_sourceHolds ok_p1_ground_sourceTold hy6) (ov_call (esn := [.inr (5, fsX5 a_t t_many y6.1 y6.2.1 y6.2.2.1), IA E 400 t_bytes, .inr (1, fsX1 a_p1 p1_sightMany), .inr (8, fsX8 (a_p1 + 1) p1_steps_many), IA E 16 p1_steps_xs, IA E 16 p1_steps_ys, IA E 16 p1_steps_zs, .inr (8, fsX8 (a_p1 + 5) p1_planes_many), IA E 16 p1_planes_xs, IA E 16 p1_planes_ys, IA E 16 p1_planes_zs, .inr (8, fsX8 (a_p1 + 9) p1_eyes_many), IA E 16 p1_eyes_xs, IA E 16 p1_eyes_ys, IA E 16 p1_eyes_zs, .inr (3, fsX3 (a_p1 + 13) p1_ground_speckMany y6.2.2.2.1 p1_ground_baseTold p1_ground_baseLow p1_ground_baseHigh p1_ground_reach), IA E 21 p1_ground_pushes, ZA E 21 p1_ground_pushTold, IA E 100 p1_ground_lows, IA E 100 p1_ground_highs, ZA E 100 p1_ground_speckTold, IA E 100 y6.2.2.2.2.1, ZA E 100 y6.2.2.2.2.2]) [0, 1, 15, 21, 22] ao.1 rfl rfl rfl rfl)) e_X5_readNumbers_100 (ao.2 0 _ rfl) (ov_get 0 ao.1 rfl rfl) rfl rfl rfl (Nat.le_of_ble_eq_true rfl) ⟨Nat.le_refl _, Nat.le_refl _⟩ (fun Py6 => ?_)
              refine g_goto e_X5_readNumbers_103 ?_
              obtain rfl := Option.some.inj hs
              exact g_vret rfl ⟨Py6.1, Py6.2.1, Py6.2.2.1, ok_p1_steps_many, ok_p1_steps_xs, ok_p1_steps_ys, ok_p1_steps_zs, ok_p1_planes_many, ok_p1_planes_xs, ok_p1_planes_ys, ok_p1_planes_zs, ok_p1_eyes_many, ok_p1_eyes_xs, ok_p1_eyes_ys, ok_p1_eyes_zs, ok_p1_ground_speckMany, Py6.2.2.2.1, ok_p1_ground_baseTold, ok_p1_ground_baseLow, ok_p1_ground_baseHigh, ok_p1_ground_pushes, ok_p1_ground_pushTold, ok_p1_ground_lows, ok_p1_ground_highs, ok_p1_ground_speckTold, Py6.2.2.2.2.1, Py6.2.2.2.2.2⟩ e_X5_readNumbers_114
            · rw [if_neg c1_5] at hs
              refine g_tableOut (tgt := 106) e_X5_readNumbers_1 ok_v2 (by omega) rfl ?_
              refine g_aload_n e_X5_readNumbers_106 rfl ?_
              refine g_aload_n e_X5_readNumbers_107 rfl ?_
              refine g_get 2 3 ao rfl rfl fsX1_g3 fl_X5_49 e_X5_readNumbers_108 ?_
              obtain ⟨y7, hy7, hs⟩ := bind_elim hs
              refine g_callVv [.ref (a_p1 + 13)] cv_X5_142 ⟨rfl, rfl, Nat.le_of_ble_eq_true rfl, Nat.le_of_ble_eq_true rfl⟩ (Ct_heap (ct_X5_readBase (AO_call [0, 1, 15] ao (by decide) rfl) (FA_call [0, 1, 15] ao.1 rfl rfl) ok_t_many ok_t_place ok_t_fault ok_t_numberPlace ok_t_bytes ok_p1_ground_baseTold ok_p1_ground_baseLow ok_p1_ground_baseHigh hy7) (ov_call (esn := [.inr (5, fsX5 a_t t_many y7.1 y7.2.1 y7.2.2.1), IA E 400 t_bytes, .inr (1, fsX1 a_p1 p1_sightMany), .inr (8, fsX8 (a_p1 + 1) p1_steps_many), IA E 16 p1_steps_xs, IA E 16 p1_steps_ys, IA E 16 p1_steps_zs, .inr (8, fsX8 (a_p1 + 5) p1_planes_many), IA E 16 p1_planes_xs, IA E 16 p1_planes_ys, IA E 16 p1_planes_zs, .inr (8, fsX8 (a_p1 + 9) p1_eyes_many), IA E 16 p1_eyes_xs, IA E 16 p1_eyes_ys, IA E 16 p1_eyes_zs, .inr (3, fsX3 (a_p1 + 13) p1_ground_speckMany p1_ground_sourceMany y7.2.2.2.1 y7.2.2.2.2.1 y7.2.2.2.2.2 p1_ground_reach), IA E 21 p1_ground_pushes, ZA E 21 p1_ground_pushTold, IA E 100 p1_ground_lows, IA E 100 p1_ground_highs, ZA E 100 p1_ground_speckTold, IA E 100 p1_ground_sourceHolds, ZA E 100 p1_ground_sourceTold]) [0, 1, 15] ao.1 rfl rfl rfl rfl)) e_X5_readNumbers_111 (ao.2 0 _ rfl) (ov_get 0 ao.1 rfl rfl) rfl rfl rfl (Nat.le_of_ble_eq_true rfl) ⟨Nat.le_refl _, Nat.le_refl _⟩ (fun Py7 => ?_)
              obtain rfl := Option.some.inj hs
              exact g_vret rfl ⟨Py7.1, Py7.2.1, Py7.2.2.1, ok_p1_steps_many, ok_p1_steps_xs, ok_p1_steps_ys, ok_p1_steps_zs, ok_p1_planes_many, ok_p1_planes_xs, ok_p1_planes_ys, ok_p1_planes_zs, ok_p1_eyes_many, ok_p1_eyes_xs, ok_p1_eyes_ys, ok_p1_eyes_zs, ok_p1_ground_speckMany, ok_p1_ground_sourceMany, Py7.2.2.2.1, Py7.2.2.2.2.1, Py7.2.2.2.2.2, ok_p1_ground_pushes, ok_p1_ground_pushTold, ok_p1_ground_lows, ok_p1_ground_highs, ok_p1_ground_speckTold, ok_p1_ground_sourceHolds, ok_p1_ground_sourceTold⟩ e_X5_readNumbers_114

noncomputable def m_X5_readNumbers (t_many : Int) (t_place : Int) (t_fault : Int) (t_numberPlace : Int) (t_bytes : Nat → Int) (p1_steps_many : Int) (p1_steps_xs : Nat → Int) (p1_steps_ys : Nat → Int) (p1_steps_zs : Nat → Int) (p1_planes_many : Int) (p1_planes_xs : Nat → Int) (p1_planes_ys : Nat → Int) (p1_planes_zs : Nat → Int) (p1_eyes_many : Int) (p1_eyes_xs : Nat → Int) (p1_eyes_ys : Nat → Int) (p1_eyes_zs : Nat → Int) (p1_ground_speckMany : Int) (p1_ground_sourceMany : Int) (p1_ground_baseTold : Int) (p1_ground_baseLow : Int) (p1_ground_baseHigh : Int) (p1_ground_pushes : Nat → Int) (p1_ground_pushTold : Nat → Int) (p1_ground_lows : Nat → Int) (p1_ground_highs : Nat → Int) (p1_ground_speckTold : Nat → Int) (p1_ground_sourceHolds : Nat → Int) (p1_ground_sourceTold : Nat → Int) (v2 : Int) : Option (Int × Int × Int × Int × (Nat → Int) × (Nat → Int) × (Nat → Int) × Int × (Nat → Int) × (Nat → Int) × (Nat → Int) × Int × (Nat → Int) × (Nat → Int) × (Nat → Int) × Int × Int × Int × Int × Int × (Nat → Int) × (Nat → Int) × (Nat → Int) × (Nat → Int) × (Nat → Int) × (Nat → Int) × (Nat → Int)) := m_X5_readNumbers_0 t_many t_place t_fault t_numberPlace t_bytes p1_steps_many p1_steps_xs p1_steps_ys p1_steps_zs p1_planes_many p1_planes_xs p1_planes_ys p1_planes_zs p1_eyes_many p1_eyes_xs p1_eyes_ys p1_eyes_zs p1_ground_speckMany p1_ground_sourceMany p1_ground_baseTold p1_ground_baseLow p1_ground_baseHigh p1_ground_pushes p1_ground_pushTold p1_ground_lows p1_ground_highs p1_ground_speckTold p1_ground_sourceHolds p1_ground_sourceTold v2

set_option maxRecDepth 10000 in
theorem ct_X5_readNumbers {l : Launch} {E : EE} {b0 n : Nat} {h : AH} {a_t a_p1 : Nat} {t_many t_place t_fault t_numberPlace p1_sightMany p1_steps_many p1_planes_many p1_eyes_many p1_ground_speckMany p1_ground_sourceMany p1_ground_baseTold p1_ground_baseLow p1_ground_baseHigh p1_ground_reach : Int} {t_bytes p1_steps_xs p1_steps_ys p1_steps_zs p1_planes_xs p1_planes_ys p1_planes_zs p1_eyes_xs p1_eyes_ys p1_eyes_zs p1_ground_pushes p1_ground_pushTold p1_ground_lows p1_ground_highs p1_ground_speckTold p1_ground_sourceHolds p1_ground_sourceTold : Nat → Int} {v2 : Int} (ao : AO b0 n [a_t, (a_t + 1), a_p1, (a_p1 + 1), (a_p1 + 2), (a_p1 + 3), (a_p1 + 4), (a_p1 + 5), (a_p1 + 6), (a_p1 + 7), (a_p1 + 8), (a_p1 + 9), (a_p1 + 10), (a_p1 + 11), (a_p1 + 12), (a_p1 + 13), (a_p1 + 14), (a_p1 + 15), (a_p1 + 16), (a_p1 + 17), (a_p1 + 18), (a_p1 + 19), (a_p1 + 20)]) (hf : FA h [a_t, (a_t + 1), a_p1, (a_p1 + 1), (a_p1 + 2), (a_p1 + 3), (a_p1 + 4), (a_p1 + 5), (a_p1 + 6), (a_p1 + 7), (a_p1 + 8), (a_p1 + 9), (a_p1 + 10), (a_p1 + 11), (a_p1 + 12), (a_p1 + 13), (a_p1 + 14), (a_p1 + 15), (a_p1 + 16), (a_p1 + 17), (a_p1 + 18), (a_p1 + 19), (a_p1 + 20)] [.inr (5, fsX5 a_t t_many t_place t_fault t_numberPlace), IA E 400 t_bytes, .inr (1, fsX1 a_p1 p1_sightMany), .inr (8, fsX8 (a_p1 + 1) p1_steps_many), IA E 16 p1_steps_xs, IA E 16 p1_steps_ys, IA E 16 p1_steps_zs, .inr (8, fsX8 (a_p1 + 5) p1_planes_many), IA E 16 p1_planes_xs, IA E 16 p1_planes_ys, IA E 16 p1_planes_zs, .inr (8, fsX8 (a_p1 + 9) p1_eyes_many), IA E 16 p1_eyes_xs, IA E 16 p1_eyes_ys, IA E 16 p1_eyes_zs, .inr (3, fsX3 (a_p1 + 13) p1_ground_speckMany p1_ground_sourceMany p1_ground_baseTold p1_ground_baseLow p1_ground_baseHigh p1_ground_reach), IA E 21 p1_ground_pushes, ZA E 21 p1_ground_pushTold, IA E 100 p1_ground_lows, IA E 100 p1_ground_highs, ZA E 100 p1_ground_speckTold, IA E 100 p1_ground_sourceHolds, ZA E 100 p1_ground_sourceTold]) (ok_t_many : inI t_many) (ok_t_place : inI t_place) (ok_t_fault : inI t_fault) (ok_t_numberPlace : inI t_numberPlace) (ok_t_bytes : okA t_bytes) (ok_p1_steps_many : inI p1_steps_many) (ok_p1_steps_xs : okA p1_steps_xs) (ok_p1_steps_ys : okA p1_steps_ys) (ok_p1_steps_zs : okA p1_steps_zs) (ok_p1_planes_many : inI p1_planes_many) (ok_p1_planes_xs : okA p1_planes_xs) (ok_p1_planes_ys : okA p1_planes_ys) (ok_p1_planes_zs : okA p1_planes_zs) (ok_p1_eyes_many : inI p1_eyes_many) (ok_p1_eyes_xs : okA p1_eyes_xs) (ok_p1_eyes_ys : okA p1_eyes_ys) (ok_p1_eyes_zs : okA p1_eyes_zs) (ok_p1_ground_speckMany : inI p1_ground_speckMany) (ok_p1_ground_sourceMany : inI p1_ground_sourceMany) (ok_p1_ground_baseTold : inZ p1_ground_baseTold) (ok_p1_ground_baseLow : inI p1_ground_baseLow) (ok_p1_ground_baseHigh : inI p1_ground_baseHigh) (ok_p1_ground_pushes : okA p1_ground_pushes) (ok_p1_ground_pushTold : okZ p1_ground_pushTold) (ok_p1_ground_lows : okA p1_ground_lows) (ok_p1_ground_highs : okA p1_ground_highs) (ok_p1_ground_speckTold : okZ p1_ground_speckTold) (ok_p1_ground_sourceHolds : okA p1_ground_sourceHolds) (ok_p1_ground_sourceTold : okZ p1_ground_sourceTold) (ok_v2 : inI v2) {r : Int × Int × Int × Int × (Nat → Int) × (Nat → Int) × (Nat → Int) × Int × (Nat → Int) × (Nat → Int) × (Nat → Int) × Int × (Nat → Int) × (Nat → Int) × (Nat → Int) × Int × Int × Int × Int × Int × (Nat → Int) × (Nat → Int) × (Nat → Int) × (Nat → Int) × (Nat → Int) × (Nat → Int) × (Nat → Int)} (hm : m_X5_readNumbers t_many t_place t_fault t_numberPlace t_bytes p1_steps_many p1_steps_xs p1_steps_ys p1_steps_zs p1_planes_many p1_planes_xs p1_planes_ys p1_planes_zs p1_eyes_many p1_eyes_xs p1_eyes_ys p1_eyes_zs p1_ground_speckMany p1_ground_sourceMany p1_ground_baseTold p1_ground_baseLow p1_ground_baseHigh p1_ground_pushes p1_ground_pushTold p1_ground_lows p1_ground_highs p1_ground_speckTold p1_ground_sourceHolds p1_ground_sourceTold v2 = some r) : Ct l E b0 M_X5_readNumbers 0 0 [.ref a_t, .ref a_p1, vI v2] h n (none) (ov [a_t, (a_t + 1), a_p1, (a_p1 + 1), (a_p1 + 2), (a_p1 + 3), (a_p1 + 4), (a_p1 + 5), (a_p1 + 6), (a_p1 + 7), (a_p1 + 8), (a_p1 + 9), (a_p1 + 10), (a_p1 + 11), (a_p1 + 12), (a_p1 + 13), (a_p1 + 14), (a_p1 + 15), (a_p1 + 16), (a_p1 + 17), (a_p1 + 18), (a_p1 + 19), (a_p1 + 20)] [.inr (5, fsX5 a_t t_many r.1 r.2.1 r.2.2.1), IA E 400 t_bytes, .inr (1, fsX1 a_p1 p1_sightMany), .inr (8, fsX8 (a_p1 + 1) r.2.2.2.1), IA E 16 r.2.2.2.2.1, IA E 16 r.2.2.2.2.2.1, IA E 16 r.2.2.2.2.2.2.1, .inr (8, fsX8 (a_p1 + 5) r.2.2.2.2.2.2.2.1), IA E 16 r.2.2.2.2.2.2.2.2.1, IA E 16 r.2.2.2.2.2.2.2.2.2.1, IA E 16 r.2.2.2.2.2.2.2.2.2.2.1, .inr (8, fsX8 (a_p1 + 9) r.2.2.2.2.2.2.2.2.2.2.2.1), IA E 16 r.2.2.2.2.2.2.2.2.2.2.2.2.1, IA E 16 r.2.2.2.2.2.2.2.2.2.2.2.2.2.1, IA E 16 r.2.2.2.2.2.2.2.2.2.2.2.2.2.2.1, .inr (3, fsX3 (a_p1 + 13) r.2.2.2.2.2.2.2.2.2.2.2.2.2.2.2.1 r.2.2.2.2.2.2.2.2.2.2.2.2.2.2.2.2.1 r.2.2.2.2.2.2.2.2.2.2.2.2.2.2.2.2.2.1 r.2.2.2.2.2.2.2.2.2.2.2.2.2.2.2.2.2.2.1 r.2.2.2.2.2.2.2.2.2.2.2.2.2.2.2.2.2.2.2.1 p1_ground_reach), IA E 21 r.2.2.2.2.2.2.2.2.2.2.2.2.2.2.2.2.2.2.2.2.1, ZA E 21 r.2.2.2.2.2.2.2.2.2.2.2.2.2.2.2.2.2.2.2.2.2.1, IA E 100 r.2.2.2.2.2.2.2.2.2.2.2.2.2.2.2.2.2.2.2.2.2.2.1, IA E 100 r.2.2.2.2.2.2.2.2.2.2.2.2.2.2.2.2.2.2.2.2.2.2.2.1, ZA E 100 r.2.2.2.2.2.2.2.2.2.2.2.2.2.2.2.2.2.2.2.2.2.2.2.2.1, IA E 100 r.2.2.2.2.2.2.2.2.2.2.2.2.2.2.2.2.2.2.2.2.2.2.2.2.2.1, ZA E 100 r.2.2.2.2.2.2.2.2.2.2.2.2.2.2.2.2.2.2.2.2.2.2.2.2.2.2] h) n (inI r.1 ∧ inI r.2.1 ∧ inI r.2.2.1 ∧ inI r.2.2.2.1 ∧ okA r.2.2.2.2.1 ∧ okA r.2.2.2.2.2.1 ∧ okA r.2.2.2.2.2.2.1 ∧ inI r.2.2.2.2.2.2.2.1 ∧ okA r.2.2.2.2.2.2.2.2.1 ∧ okA r.2.2.2.2.2.2.2.2.2.1 ∧ okA r.2.2.2.2.2.2.2.2.2.2.1 ∧ inI r.2.2.2.2.2.2.2.2.2.2.2.1 ∧ okA r.2.2.2.2.2.2.2.2.2.2.2.2.1 ∧ okA r.2.2.2.2.2.2.2.2.2.2.2.2.2.1 ∧ okA r.2.2.2.2.2.2.2.2.2.2.2.2.2.2.1 ∧ inI r.2.2.2.2.2.2.2.2.2.2.2.2.2.2.2.1 ∧ inI r.2.2.2.2.2.2.2.2.2.2.2.2.2.2.2.2.1 ∧ inZ r.2.2.2.2.2.2.2.2.2.2.2.2.2.2.2.2.2.1 ∧ inI r.2.2.2.2.2.2.2.2.2.2.2.2.2.2.2.2.2.2.1 ∧ inI r.2.2.2.2.2.2.2.2.2.2.2.2.2.2.2.2.2.2.2.1 ∧ okA r.2.2.2.2.2.2.2.2.2.2.2.2.2.2.2.2.2.2.2.2.1 ∧ okZ r.2.2.2.2.2.2.2.2.2.2.2.2.2.2.2.2.2.2.2.2.2.1 ∧ okA r.2.2.2.2.2.2.2.2.2.2.2.2.2.2.2.2.2.2.2.2.2.2.1 ∧ okA r.2.2.2.2.2.2.2.2.2.2.2.2.2.2.2.2.2.2.2.2.2.2.2.1 ∧ okZ r.2.2.2.2.2.2.2.2.2.2.2.2.2.2.2.2.2.2.2.2.2.2.2.2.1 ∧ okA r.2.2.2.2.2.2.2.2.2.2.2.2.2.2.2.2.2.2.2.2.2.2.2.2.2.1 ∧ okZ r.2.2.2.2.2.2.2.2.2.2.2.2.2.2.2.2.2.2.2.2.2.2.2.2.2.2) := by
  rw [m_X5_readNumbers] at hm
  have hg : G l E b0 M_X5_readNumbers (fun _ => True) (ZM E b0 (none) (ov [a_t, (a_t + 1), a_p1, (a_p1 + 1), (a_p1 + 2), (a_p1 + 3), (a_p1 + 4), (a_p1 + 5), (a_p1 + 6), (a_p1 + 7), (a_p1 + 8), (a_p1 + 9), (a_p1 + 10), (a_p1 + 11), (a_p1 + 12), (a_p1 + 13), (a_p1 + 14), (a_p1 + 15), (a_p1 + 16), (a_p1 + 17), (a_p1 + 18), (a_p1 + 19), (a_p1 + 20)] [.inr (5, fsX5 a_t t_many r.1 r.2.1 r.2.2.1), IA E 400 t_bytes, .inr (1, fsX1 a_p1 p1_sightMany), .inr (8, fsX8 (a_p1 + 1) r.2.2.2.1), IA E 16 r.2.2.2.2.1, IA E 16 r.2.2.2.2.2.1, IA E 16 r.2.2.2.2.2.2.1, .inr (8, fsX8 (a_p1 + 5) r.2.2.2.2.2.2.2.1), IA E 16 r.2.2.2.2.2.2.2.2.1, IA E 16 r.2.2.2.2.2.2.2.2.2.1, IA E 16 r.2.2.2.2.2.2.2.2.2.2.1, .inr (8, fsX8 (a_p1 + 9) r.2.2.2.2.2.2.2.2.2.2.2.1), IA E 16 r.2.2.2.2.2.2.2.2.2.2.2.2.1, IA E 16 r.2.2.2.2.2.2.2.2.2.2.2.2.2.1, IA E 16 r.2.2.2.2.2.2.2.2.2.2.2.2.2.2.1, .inr (3, fsX3 (a_p1 + 13) r.2.2.2.2.2.2.2.2.2.2.2.2.2.2.2.1 r.2.2.2.2.2.2.2.2.2.2.2.2.2.2.2.2.1 r.2.2.2.2.2.2.2.2.2.2.2.2.2.2.2.2.2.1 r.2.2.2.2.2.2.2.2.2.2.2.2.2.2.2.2.2.2.1 r.2.2.2.2.2.2.2.2.2.2.2.2.2.2.2.2.2.2.2.1 p1_ground_reach), IA E 21 r.2.2.2.2.2.2.2.2.2.2.2.2.2.2.2.2.2.2.2.2.1, ZA E 21 r.2.2.2.2.2.2.2.2.2.2.2.2.2.2.2.2.2.2.2.2.2.1, IA E 100 r.2.2.2.2.2.2.2.2.2.2.2.2.2.2.2.2.2.2.2.2.2.2.1, IA E 100 r.2.2.2.2.2.2.2.2.2.2.2.2.2.2.2.2.2.2.2.2.2.2.2.1, ZA E 100 r.2.2.2.2.2.2.2.2.2.2.2.2.2.2.2.2.2.2.2.2.2.2.2.2.1, IA E 100 r.2.2.2.2.2.2.2.2.2.2.2.2.2.2.2.2.2.2.2.2.2.2.2.2.2.1, ZA E 100 r.2.2.2.2.2.2.2.2.2.2.2.2.2.2.2.2.2.2.2.2.2.2.2.2.2.2] h) n (inI r.1 ∧ inI r.2.1 ∧ inI r.2.2.1 ∧ inI r.2.2.2.1 ∧ okA r.2.2.2.2.1 ∧ okA r.2.2.2.2.2.1 ∧ okA r.2.2.2.2.2.2.1 ∧ inI r.2.2.2.2.2.2.2.1 ∧ okA r.2.2.2.2.2.2.2.2.1 ∧ okA r.2.2.2.2.2.2.2.2.2.1 ∧ okA r.2.2.2.2.2.2.2.2.2.2.1 ∧ inI r.2.2.2.2.2.2.2.2.2.2.2.1 ∧ okA r.2.2.2.2.2.2.2.2.2.2.2.2.1 ∧ okA r.2.2.2.2.2.2.2.2.2.2.2.2.2.1 ∧ okA r.2.2.2.2.2.2.2.2.2.2.2.2.2.2.1 ∧ inI r.2.2.2.2.2.2.2.2.2.2.2.2.2.2.2.1 ∧ inI r.2.2.2.2.2.2.2.2.2.2.2.2.2.2.2.2.1 ∧ inZ r.2.2.2.2.2.2.2.2.2.2.2.2.2.2.2.2.2.1 ∧ inI r.2.2.2.2.2.2.2.2.2.2.2.2.2.2.2.2.2.2.1 ∧ inI r.2.2.2.2.2.2.2.2.2.2.2.2.2.2.2.2.2.2.2.1 ∧ okA r.2.2.2.2.2.2.2.2.2.2.2.2.2.2.2.2.2.2.2.2.1 ∧ okZ r.2.2.2.2.2.2.2.2.2.2.2.2.2.2.2.2.2.2.2.2.2.1 ∧ okA r.2.2.2.2.2.2.2.2.2.2.2.2.2.2.2.2.2.2.2.2.2.2.1 ∧ okA r.2.2.2.2.2.2.2.2.2.2.2.2.2.2.2.2.2.2.2.2.2.2.2.1 ∧ okZ r.2.2.2.2.2.2.2.2.2.2.2.2.2.2.2.2.2.2.2.2.2.2.2.2.1 ∧ okA r.2.2.2.2.2.2.2.2.2.2.2.2.2.2.2.2.2.2.2.2.2.2.2.2.2.1 ∧ okZ r.2.2.2.2.2.2.2.2.2.2.2.2.2.2.2.2.2.2.2.2.2.2.2.2.2.2) 0 0) 0 0 n (ov [a_t, (a_t + 1), a_p1, (a_p1 + 1), (a_p1 + 2), (a_p1 + 3), (a_p1 + 4), (a_p1 + 5), (a_p1 + 6), (a_p1 + 7), (a_p1 + 8), (a_p1 + 9), (a_p1 + 10), (a_p1 + 11), (a_p1 + 12), (a_p1 + 13), (a_p1 + 14), (a_p1 + 15), (a_p1 + 16), (a_p1 + 17), (a_p1 + 18), (a_p1 + 19), (a_p1 + 20)] [.inr (5, fsX5 a_t t_many t_place t_fault t_numberPlace), IA E 400 t_bytes, .inr (1, fsX1 a_p1 p1_sightMany), .inr (8, fsX8 (a_p1 + 1) p1_steps_many), IA E 16 p1_steps_xs, IA E 16 p1_steps_ys, IA E 16 p1_steps_zs, .inr (8, fsX8 (a_p1 + 5) p1_planes_many), IA E 16 p1_planes_xs, IA E 16 p1_planes_ys, IA E 16 p1_planes_zs, .inr (8, fsX8 (a_p1 + 9) p1_eyes_many), IA E 16 p1_eyes_xs, IA E 16 p1_eyes_ys, IA E 16 p1_eyes_zs, .inr (3, fsX3 (a_p1 + 13) p1_ground_speckMany p1_ground_sourceMany p1_ground_baseTold p1_ground_baseLow p1_ground_baseHigh p1_ground_reach), IA E 21 p1_ground_pushes, ZA E 21 p1_ground_pushTold, IA E 100 p1_ground_lows, IA E 100 p1_ground_highs, ZA E 100 p1_ground_speckTold, IA E 100 p1_ground_sourceHolds, ZA E 100 p1_ground_sourceTold] h) 0 [some (.ref a_t), some (.ref a_p1), some (vI v2)] [] := by
    have hs := hm
    exact g_X5_readNumbers_0 ao ok_t_many ok_t_place ok_t_fault ok_t_numberPlace ok_t_bytes ok_p1_steps_many ok_p1_steps_xs ok_p1_steps_ys ok_p1_steps_zs ok_p1_planes_many ok_p1_planes_xs ok_p1_planes_ys ok_p1_planes_zs ok_p1_eyes_many ok_p1_eyes_xs ok_p1_eyes_ys ok_p1_eyes_zs ok_p1_ground_speckMany ok_p1_ground_sourceMany ok_p1_ground_baseTold ok_p1_ground_baseLow ok_p1_ground_baseHigh ok_p1_ground_pushes ok_p1_ground_pushTold ok_p1_ground_lows ok_p1_ground_highs ok_p1_ground_speckTold ok_p1_ground_sourceHolds ok_p1_ground_sourceTold ok_v2 hs
  rw [FA_id hf] at hg
  exact Ct_of [some (.ref a_t), some (.ref a_p1), some (vI v2)] ⟨by decide +kernel, rfl⟩ rfl (Nat.le_of_ble_eq_true rfl) hg


def M_J0_length_8abf5 : MB := (yJ0_length_8abf5, cJ0_length_8abf5, 1, (some .int), ({ frames := 2, cells := 0, slots := 0, locals := 60 } : Room), RJ0)
theorem cb_J0_length_8abf5 : CB M_J0_length_8abf5 0 := ⟨GW_of 619 (by decide +kernel) (by decide +kernel), GW_of 98 (by decide +kernel) (by decide +kernel), by decide +kernel, by decide +kernel, by decide +kernel⟩
def M_J0_charAt_5068e : MB := (yJ0_charAt_5068e, cJ0_charAt_5068e, 2, (some .char), ({ frames := 4, cells := 0, slots := 0, locals := 104 } : Room), RJ0)
theorem cb_J0_charAt_5068e : CB M_J0_charAt_5068e 1 := ⟨GW_of 629 (by decide +kernel) (by decide +kernel), GW_of 98 (by decide +kernel) (by decide +kernel), by decide +kernel, by decide +kernel, by decide +kernel⟩
def M_J0_coder_7d493 : MB := (yJ0_coder_7d493, cJ0_coder_7d493, 1, (some .byte), ({ frames := 1, cells := 0, slots := 0, locals := 40 } : Room), RJ0)
theorem cb_J0_coder_7d493 : CB M_J0_coder_7d493 0 := ⟨GW_of 623 (by decide +kernel) (by decide +kernel), GW_of 98 (by decide +kernel) (by decide +kernel), by decide +kernel, by decide +kernel, by decide +kernel⟩
def M_J0_isLatin1_aae02 : MB := (yJ0_isLatin1_aae02, cJ0_isLatin1_aae02, 1, (some .boolean), ({ frames := 1, cells := 0, slots := 0, locals := 40 } : Room), RJ0)
theorem cb_J0_isLatin1_aae02 : CB M_J0_isLatin1_aae02 0 := ⟨GW_of 633 (by decide +kernel) (by decide +kernel), GW_of 98 (by decide +kernel) (by decide +kernel), by decide +kernel, by decide +kernel, by decide +kernel⟩
def M_J0_checkIndex_df160 : MB := (yJ0_checkIndex_df160, cJ0_checkIndex_df160, 2, none, ({ frames := 2, cells := 0, slots := 0, locals := 62 } : Room), RJ0)
theorem cb_J0_checkIndex_df160 : CB M_J0_checkIndex_df160 2 := ⟨GW_of 639 (by decide +kernel) (by decide +kernel), GW_of 98 (by decide +kernel) (by decide +kernel), by decide +kernel, by decide +kernel, by decide +kernel⟩
def M_J1_charAt_3b067 : MB := (yJ1_charAt_3b067, cJ1_charAt_3b067, 2, (some .char), ({ frames := 3, cells := 0, slots := 0, locals := 83 } : Room), RJ1)
theorem cb_J1_charAt_3b067 : CB M_J1_charAt_3b067 2 := ⟨GW_of 636 (by decide +kernel) (by decide +kernel), GW_of 99 (by decide +kernel) (by decide +kernel), by decide +kernel, by decide +kernel, by decide +kernel⟩
def M_J3_checkIndex_8e157 : MB := (yJ3_checkIndex_8e157, cJ3_checkIndex_8e157, 3, (some .int), ({ frames := 1, cells := 0, slots := 0, locals := 40 } : Room), RJ3)
theorem cb_J3_checkIndex_8e157 : CB M_J3_checkIndex_8e157 3 := ⟨GW_of 644 (by decide +kernel) (by decide +kernel), GW_of 100 (by decide +kernel) (by decide +kernel), by decide +kernel, by decide +kernel, by decide +kernel⟩
theorem e_J0_length_8abf5_0 : DC cJ0_length_8abf5 0 (.aload_n 0) 1 1 := ⟨by decide +kernel, rfl⟩
theorem e_J0_length_8abf5_1 : DC cJ0_length_8abf5 1 (.getfield 9) 3 4 := ⟨by decide +kernel, rfl⟩
theorem e_J0_length_8abf5_4 : DC cJ0_length_8abf5 4 (.arraylength) 1 5 := ⟨by decide +kernel, rfl⟩
theorem e_J0_length_8abf5_5 : DC cJ0_length_8abf5 5 (.aload_n 0) 1 6 := ⟨by decide +kernel, rfl⟩
theorem e_J0_length_8abf5_6 : DC cJ0_length_8abf5 6 (.invokevirtual 335) 3 9 := ⟨by decide +kernel, rfl⟩
theorem e_J0_length_8abf5_9 : DC cJ0_length_8abf5 9 (.ishr) 1 10 := ⟨by decide +kernel, rfl⟩
theorem e_J0_length_8abf5_10 : DC cJ0_length_8abf5 10 (.ireturn) 1 11 := ⟨by decide +kernel, rfl⟩
theorem e_J0_coder_7d493_0 : DC cJ0_coder_7d493 0 (.getstatic 38) 3 3 := ⟨by decide +kernel, rfl⟩
theorem e_J0_coder_7d493_3 : DB cJ0_coder_7d493 3 (.ifCond .eq 10) (10) 3 6 13 := ⟨by decide +kernel, rfl, rfl⟩
theorem e_J0_coder_7d493_6 : DC cJ0_coder_7d493 6 (.aload_n 0) 1 7 := ⟨by decide +kernel, rfl⟩
theorem e_J0_coder_7d493_7 : DC cJ0_coder_7d493 7 (.getfield 15) 3 10 := ⟨by decide +kernel, rfl⟩
theorem e_J0_coder_7d493_10 : DB cJ0_coder_7d493 10 (.goto 4) (4) 3 13 14 := ⟨by decide +kernel, rfl, rfl⟩
theorem e_J0_coder_7d493_14 : DC cJ0_coder_7d493 14 (.ireturn) 1 15 := ⟨by decide +kernel, rfl⟩
theorem e_J0_isLatin1_aae02_0 : DC cJ0_isLatin1_aae02 0 (.getstatic 38) 3 3 := ⟨by decide +kernel, rfl⟩
theorem e_J0_isLatin1_aae02_3 : DB cJ0_isLatin1_aae02 3 (.ifCond .eq 14) (14) 3 6 17 := ⟨by decide +kernel, rfl, rfl⟩
theorem e_J0_isLatin1_aae02_6 : DC cJ0_isLatin1_aae02 6 (.aload_n 0) 1 7 := ⟨by decide +kernel, rfl⟩
theorem e_J0_isLatin1_aae02_7 : DC cJ0_isLatin1_aae02 7 (.getfield 15) 3 10 := ⟨by decide +kernel, rfl⟩
theorem e_J0_isLatin1_aae02_10 : DB cJ0_isLatin1_aae02 10 (.ifCond .ne 7) (7) 3 13 17 := ⟨by decide +kernel, rfl, rfl⟩
theorem e_J0_isLatin1_aae02_13 : DC cJ0_isLatin1_aae02 13 (.iconst 1) 1 14 := ⟨by decide +kernel, rfl⟩
theorem e_J0_isLatin1_aae02_14 : DB cJ0_isLatin1_aae02 14 (.goto 4) (4) 3 17 18 := ⟨by decide +kernel, rfl, rfl⟩
theorem e_J0_isLatin1_aae02_18 : DC cJ0_isLatin1_aae02 18 (.ireturn) 1 19 := ⟨by decide +kernel, rfl⟩
theorem e_J3_checkIndex_8e157_0 : DC cJ3_checkIndex_8e157 0 (.iload_n 0) 1 1 := ⟨by decide +kernel, rfl⟩
theorem e_J3_checkIndex_8e157_1 : DB cJ3_checkIndex_8e157 1 (.ifCond .lt 8) (8) 3 4 9 := ⟨by decide +kernel, rfl, rfl⟩
theorem e_J3_checkIndex_8e157_4 : DC cJ3_checkIndex_8e157 4 (.iload_n 0) 1 5 := ⟨by decide +kernel, rfl⟩
theorem e_J3_checkIndex_8e157_5 : DC cJ3_checkIndex_8e157 5 (.iload_n 1) 1 6 := ⟨by decide +kernel, rfl⟩
theorem e_J3_checkIndex_8e157_6 : DB cJ3_checkIndex_8e157 6 (.if_icmp .lt 10) (10) 3 9 16 := ⟨by decide +kernel, rfl, rfl⟩
theorem e_J3_checkIndex_8e157_16 : DC cJ3_checkIndex_8e157 16 (.iload_n 0) 1 17 := ⟨by decide +kernel, rfl⟩
theorem e_J3_checkIndex_8e157_17 : DC cJ3_checkIndex_8e157 17 (.ireturn) 1 18 := ⟨by decide +kernel, rfl⟩
theorem e_J0_checkIndex_df160_0 : DC cJ0_checkIndex_df160 0 (.iload_n 0) 1 1 := ⟨by decide +kernel, rfl⟩
theorem e_J0_checkIndex_df160_1 : DC cJ0_checkIndex_df160 1 (.iload_n 1) 1 2 := ⟨by decide +kernel, rfl⟩
theorem e_J0_checkIndex_df160_2 : DC cJ0_checkIndex_df160 2 (.getstatic 1053) 3 5 := ⟨by decide +kernel, rfl⟩
theorem e_J0_checkIndex_df160_5 : DC cJ0_checkIndex_df160 5 (.invokestatic 1059) 3 8 := ⟨by decide +kernel, rfl⟩
theorem e_J0_checkIndex_df160_8 : DC cJ0_checkIndex_df160 8 (.pop) 1 9 := ⟨by decide +kernel, rfl⟩
theorem e_J0_checkIndex_df160_9 : DC cJ0_checkIndex_df160 9 (.return_) 1 10 := ⟨by decide +kernel, rfl⟩
theorem e_J1_charAt_3b067_0 : DC cJ1_charAt_3b067 0 (.iload_n 1) 1 1 := ⟨by decide +kernel, rfl⟩
theorem e_J1_charAt_3b067_1 : DC cJ1_charAt_3b067 1 (.aload_n 0) 1 2 := ⟨by decide +kernel, rfl⟩
theorem e_J1_charAt_3b067_2 : DC cJ1_charAt_3b067 2 (.arraylength) 1 3 := ⟨by decide +kernel, rfl⟩
theorem e_J1_charAt_3b067_3 : DC cJ1_charAt_3b067 3 (.invokestatic 9) 3 6 := ⟨by decide +kernel, rfl⟩
theorem e_J1_charAt_3b067_6 : DC cJ1_charAt_3b067 6 (.aload_n 0) 1 7 := ⟨by decide +kernel, rfl⟩
theorem e_J1_charAt_3b067_7 : DC cJ1_charAt_3b067 7 (.iload_n 1) 1 8 := ⟨by decide +kernel, rfl⟩
theorem e_J1_charAt_3b067_8 : DC cJ1_charAt_3b067 8 (.baload) 1 9 := ⟨by decide +kernel, rfl⟩
theorem e_J1_charAt_3b067_9 : DC cJ1_charAt_3b067 9 (.sipush 255) 3 12 := ⟨by decide +kernel, rfl⟩
theorem e_J1_charAt_3b067_12 : DC cJ1_charAt_3b067 12 (.iand) 1 13 := ⟨by decide +kernel, rfl⟩
theorem e_J1_charAt_3b067_13 : DC cJ1_charAt_3b067 13 (.i2c) 1 14 := ⟨by decide +kernel, rfl⟩
theorem e_J1_charAt_3b067_14 : DC cJ1_charAt_3b067 14 (.ireturn) 1 15 := ⟨by decide +kernel, rfl⟩
theorem e_J0_charAt_5068e_0 : DC cJ0_charAt_5068e 0 (.aload_n 0) 1 1 := ⟨by decide +kernel, rfl⟩
theorem e_J0_charAt_5068e_1 : DC cJ0_charAt_5068e 1 (.invokevirtual 492) 3 4 := ⟨by decide +kernel, rfl⟩
theorem e_J0_charAt_5068e_4 : DB cJ0_charAt_5068e 4 (.ifCond .eq 12) (12) 3 7 16 := ⟨by decide +kernel, rfl, rfl⟩
theorem e_J0_charAt_5068e_7 : DC cJ0_charAt_5068e 7 (.aload_n 0) 1 8 := ⟨by decide +kernel, rfl⟩
theorem e_J0_charAt_5068e_8 : DC cJ0_charAt_5068e 8 (.getfield 9) 3 11 := ⟨by decide +kernel, rfl⟩
theorem e_J0_charAt_5068e_11 : DC cJ0_charAt_5068e 11 (.iload_n 1) 1 12 := ⟨by decide +kernel, rfl⟩
theorem e_J0_charAt_5068e_12 : DC cJ0_charAt_5068e 12 (.invokestatic 495) 3 15 := ⟨by decide +kernel, rfl⟩
theorem e_J0_charAt_5068e_15 : DC cJ0_charAt_5068e 15 (.ireturn) 1 16 := ⟨by decide +kernel, rfl⟩
theorem cv_J0_335 : CV RJ0 335 M_J0_coder_7d493 0 := ⟨cb_J0_coder_7d493, Or.inl (GW_of 620 (by decide +kernel) (by decide +kernel)), GW_of 621 (by decide +kernel) (by decide +kernel), GW_of 622 (by decide +kernel) (by decide +kernel)⟩
theorem cv_J0_492 : CV RJ0 492 M_J0_isLatin1_aae02 0 := ⟨cb_J0_isLatin1_aae02, Or.inl (GW_of 630 (by decide +kernel) (by decide +kernel)), GW_of 631 (by decide +kernel) (by decide +kernel), GW_of 632 (by decide +kernel) (by decide +kernel)⟩
theorem cs_J0_495 : CS RJ0 495 M_J1_charAt_3b067 2 := ⟨cb_J1_charAt_3b067, Or.inl (GW_of 634 (by decide +kernel) (by decide +kernel)), GW_of 635 (by decide +kernel) (by decide +kernel)⟩
theorem cs_J1_9 : CS RJ1 9 M_J0_checkIndex_df160 2 := ⟨cb_J0_checkIndex_df160, Or.inl (GW_of 637 (by decide +kernel) (by decide +kernel)), GW_of 638 (by decide +kernel) (by decide +kernel)⟩
theorem cs_J0_1059 : CS RJ0 1059 M_J3_checkIndex_8e157 3 := ⟨cb_J3_checkIndex_8e157, Or.inl (GW_of 642 (by decide +kernel) (by decide +kernel)), GW_of 643 (by decide +kernel) (by decide +kernel)⟩
theorem cv_X5_length : CV RX5 98 M_J0_length_8abf5 0 := ⟨cb_J0_length_8abf5, Or.inl (GW_of 616 (by decide +kernel) (by decide +kernel)), GW_of 617 (by decide +kernel) (by decide +kernel), GW_of 618 (by decide +kernel) (by decide +kernel)⟩
theorem cv_X5_charAt : CV RX5 103 M_J0_charAt_5068e 1 := ⟨cb_J0_charAt_5068e, Or.inl (GW_of 626 (by decide +kernel) (by decide +kernel)), GW_of 627 (by decide +kernel) (by decide +kernel), GW_of 628 (by decide +kernel) (by decide +kernel)⟩
theorem cv_X11_length : CV RX11 207 M_J0_length_8abf5 0 := ⟨cb_J0_length_8abf5, Or.inl (GW_of 1698 (by decide +kernel) (by decide +kernel)), GW_of 617 (by decide +kernel) (by decide +kernel), GW_of 618 (by decide +kernel) (by decide +kernel)⟩
theorem cv_X11_charAt : CV RX11 212 M_J0_charAt_5068e 1 := ⟨cb_J0_charAt_5068e, Or.inl (GW_of 1699 (by decide +kernel) (by decide +kernel)), GW_of 627 (by decide +kernel) (by decide +kernel), GW_of 628 (by decide +kernel) (by decide +kernel)⟩
theorem fk_J0_9 : Cond.fieldLink RJ0 9 "java/lang/String" "value" "[B" ∈ GW := GW_of 2106 (by decide +kernel) (by decide +kernel)
theorem fk_J0_15 : Cond.fieldLink RJ0 15 "java/lang/String" "coder" "B" ∈ GW := GW_of 2107 (by decide +kernel) (by decide +kernel)
theorem fk_J0_38 : Cond.fieldLink RJ0 38 "java/lang/String" "COMPACT_STRINGS" "Z" ∈ GW := GW_of 624 (by decide +kernel) (by decide +kernel)
theorem fk_J0_1053 : Cond.fieldLink RJ0 1053 "jdk/internal/util/Preconditions" "SIOOBE_FORMATTER" "Ljava/util/function/BiFunction;" ∈ GW := GW_of 640 (by decide +kernel) (by decide +kernel)
def sLen (i : Nat) : Int := (sLens.getD i 0 : Nat)
def sCh (i : Nat) (k : Int) : Int := ((sByts.getD i []).getD k.toNat 0).toInt
def bChar (a : Int) : Int := (((Int32.ofInt a).toUInt32 % 65536).toInt32).toInt
theorem sLen_I (i : Nat) : inI (sLen i) := by
  unfold sLen
  have h : sLens.getD i 0 ≤ 6 := by
    match i with
    | 0 | 1 | 2 | 3 | 4 | 5 | 6 => decide
    | i + 7 => simp [sLens]
  omega
theorem sCh_I (i : Nat) (k : Int) : inI (sCh i k) := inI_of32 _
theorem sCh_ok : ∀ i, i < 7 → ∀ j, j < sLens.getD i 0 → bAnd ((sByts.getD i []).getD j 0).toInt 255 = ((sByts.getD i []).getD j 0).toInt ∧ bChar ((sByts.getD i []).getD j 0).toInt = ((sByts.getD i []).getD j 0).toInt ∧ narrow .char (.int ((sByts.getD i []).getD j 0)) = .int ((sByts.getD i []).getD j 0) := by decide +kernel
theorem bShr_0 (a : Int) (h : inI a) : bShr a 0 = a := by
  unfold bShr
  rw [show (Int32.ofInt 0 &&& 31) = 0 by decide]
  rw [show Int32.ofInt a >>> (0 : Int32) = Int32.ofInt a by
    rw [← Int32.toInt_inj]; simp]
  exact ofI_toInt h
section GT
variable {l : Launch} {E : EE} {b0 : Nat} {M : MB} {X : State → Prop} {Z : ZT} {c1 c2 n pc pc' i o : Nat} {h : AH} {L : LL} {st : List Value} {a k : Int} {ρ : Type} {r : ρ} {B : Option ρ} {P : Prop}
theorem g_strv {idx : Nat} (hi : i < 7) (hw : Cond.fieldLink M.2.2.2.2.2 idx "java/lang/String" "value" "[B" ∈ GW) (hd : DC M.2.1 pc (.getfield idx) 3 pc') (kk : G l E b0 M X Z c1 c2 n h pc' L (.ref (E.2.2.2 i) :: st)) : G l E b0 M X Z c1 c2 n h pc L (.ref (E.2.2.1 i) :: st) := by
  intro p e s m args below meth c C hX hb H locs ls hR hS hl
  obtain ⟨hd, rfl⟩ := hd
  exact vk_getf C.1 C.2.1 (C.2.2.2.2.2.2.2.1.2.2.2.1.1 i hi).2.2.1 hS C.2.2.2.2.1 (C.2.2.2.2.2.1 _ hw) (fun _ h => h) hd (kk p e s m args below meth c C hX hb H locs ls hR hS hl)
theorem g_strc {idx : Nat} (hi : i < 7) (hw : Cond.fieldLink M.2.2.2.2.2 idx "java/lang/String" "coder" "B" ∈ GW) (hd : DC M.2.1 pc (.getfield idx) 3 pc') (kk : G l E b0 M X Z c1 c2 n h pc' L (vI 0 :: st)) : G l E b0 M X Z c1 c2 n h pc L (.ref (E.2.2.1 i) :: st) := by
  intro p e s m args below meth c C hX hb H locs ls hR hS hl
  obtain ⟨hd, rfl⟩ := hd
  exact vk_getf C.1 C.2.1 (C.2.2.2.2.2.2.2.1.2.2.2.1.1 i hi).2.1 hS C.2.2.2.2.1 (C.2.2.2.2.2.1 _ hw) (fun _ h => h) hd (kk p e s m args below meth c C hX hb H locs ls hR hS hl)
theorem g_compact {idx : Nat} (hw : Cond.fieldLink M.2.2.2.2.2 idx "java/lang/String" "COMPACT_STRINGS" "Z" ∈ GW) (hd : DC M.2.1 pc (.getstatic idx) 3 pc') (kk : G l E b0 M X Z c1 c2 n h pc' L (vI 1 :: st)) : G l E b0 M X Z c1 c2 n h pc L st := by
  intro p e s m args below meth c C hX hb H locs ls hR hS hl
  obtain ⟨hd, rfl⟩ := hd
  exact va_gets C.1 C.2.1 C.2.2.2.2.2.2.2.1.2.2.2.2.2.1 hS C.2.2.2.2.1 (C.2.2.2.2.2.1 _ hw) (fun _ h => h) hd (kk p e s m args below meth c C hX hb H locs ls hR hS hl)
theorem g_sio {idx : Nat} (hw : Cond.fieldLink M.2.2.2.2.2 idx "jdk/internal/util/Preconditions" "SIOOBE_FORMATTER" "Ljava/util/function/BiFunction;" ∈ GW) (hd : DC M.2.1 pc (.getstatic idx) 3 pc') (kk : ∀ r : Option Nat, G l E b0 M X Z c1 c2 n h pc' L (va_rf r :: st)) : G l E b0 M X Z c1 c2 n h pc L st := by
  intro p e s m args below meth c C hX hb H locs ls hR hS hl
  obtain ⟨hd, rfl⟩ := hd
  rcases C.2.2.2.2.2.2.2.1.2.2.2.2.2.2 with hz | ⟨t, hz⟩
  · exact va_gets C.1 C.2.1 hz hS C.2.2.2.2.1 (C.2.2.2.2.2.1 _ hw) (fun _ h => h) hd (kk none p e s m args below meth c C hX hb H locs ls hR hS hl)
  · exact va_gets C.1 C.2.1 hz hS C.2.2.2.2.1 (C.2.2.2.2.2.1 _ hw) (fun _ h => h) hd (kk (some t) p e s m args below meth c C hX hb H locs ls hR hS hl)
theorem g_tlen (hi : i < 7) (hd : DC M.2.1 pc .arraylength 1 pc') (kk : G l E b0 M X Z c1 c2 n h pc' L (vI (sLen i) :: st)) : G l E b0 M X Z c1 c2 n h pc L (.ref (E.2.2.2 i) :: st) := by
  intro p e s m args below meth c C hX hb H locs ls hR hS hl
  obtain ⟨hd, rfl⟩ := hd
  exact va_tlen C.1 C.2.1 (C.2.2.2.2.2.2.2.1.2.2.2.1.1 i hi).2.2.2 hS (show Int32.ofNat (sLens.getD i 0) = Int32.ofInt ((sLens.getD i 0 : Nat) : Int) from Int32.ofInt_eq_ofNat.symm) hd (kk p e s m args below meth c C hX hb H locs ls hR hS hl)
theorem g_tb (hi : i < 7) (hk : 0 ≤ k ∧ k < sLen i) (hd : DC M.2.1 pc .baload 1 pc') (kk : G l E b0 M X Z c1 c2 n h pc' L (vI (sCh i k) :: st)) : G l E b0 M X Z c1 c2 n h pc L (vI k :: .ref (E.2.2.2 i) :: st) := by
  intro p e s m args below meth c C hX hb H locs ls hR hS hl
  obtain ⟨hd, rfl⟩ := hd
  have hB : inB k (sLens.getD i 0) := hk
  have h6 : sLens.getD i 0 ≤ 2147483648 := by have := (sLen_I i).2; unfold sLen at this; omega
  obtain ⟨hin, hcl⟩ := inB_in hB h6
  exact va_tb C.1 C.2.1 (C.2.2.2.2.2.2.2.1.2.2.2.1.1 i hi).2.2.2 hS hin (v := vI (sCh i k)) (by rw [hcl]; exact (vI_of _).symm) hd (kk p e s m args below meth c C hX hb H locs ls hR hS hl)
theorem g_i2c (hd : DC M.2.1 pc .i2c 1 pc') (kk : G l E b0 M X Z c1 c2 n h pc' L (vI (bChar a) :: st)) : G l E b0 M X Z c1 c2 n h pc L (vI a :: st) := by
  intro p e s m args below meth c C hX hb H locs ls hR hS hl
  obtain ⟨hd, rfl⟩ := hd
  have kk := kk p e s m args below meth c C hX hb H locs ls hR hS hl
  rw [show vI (bChar a) = _ from vI_of _] at kk
  exact t_i2c C.1 C.2.1 hd rfl kk
theorem g_ldcS {idx : Nat} (q : Nat) (hq : SR[q]? = some (M.2.2.2.2.2, idx, (SR.getD q ("", 0, "", 0)).2.2.1, i)) (hd : DC M.2.1 pc (.ldc idx) 2 pc') (kk : G l E b0 M X Z c1 c2 n h pc' L (.ref (E.2.2.1 i) :: st)) : G l E b0 M X Z c1 c2 n h pc L st := by
  intro p e s m args below meth c C hX hb H locs ls hR hS hl
  obtain ⟨hd, rfl⟩ := hd
  exact va_ldcS C.1 C.2.1 C.2.2.2.2.1 (C.2.2.2.2.2.2.2.1.2.2.2.2.1 _ (List.mem_of_getElem? hq)) hd (kk p e s m args below meth c C hX hb H locs ls hR hS hl)
theorem g_nret {ty : FieldType} (hr : M.2.2.2.1 = some ty) (hn : narrow ty (vI a) = vI a) (hP : P) (hd : DC M.2.1 pc .ireturn 1 pc') : G l E b0 M X (ZM E b0 (some (vI a)) h n P c1 c2) c1 c2 n h pc L [vI a] := by
  intro p e s m args below meth c C hX hb H locs ls hR hS hl
  exact W.zret C.1 C.2.1 (C.2.2.2.1.trans hr) hn (fun t ht hW => ⟨rfl, by rw [ht]; exact hR, hS.F ht, hP⟩) hS.2.2 hd.1 C.2.2.2.2.2.2.1
/-- a call on a text constant -/
theorem g_callT (hi : i < 7) {Y : MB} {idx k : Nat} {rest : List Value} {v : Value} (As : List Value) (hY : Y.1.cls = "java/lang/String") (cv : CV M.2.2.2.2.2 idx Y k) (ro : RO M.2.2.2.2.1 Y 0 0) (ct : Ct l E b0 Y 0 0 (.ref (E.2.2.1 i) :: As) h n (some v) h n P) (hd : DC M.2.1 pc (.invokevirtual idx) 3 pc')
    (hA : As.length = k) (hst : st = As.reverse ++ .ref (E.2.2.1 i) :: rest) (hw : (rest.map fun v => v.category).sum ≤ 8) (hf : c1 ≤ M.2.2.2.2.1.cells ∧ c2 ≤ M.2.2.2.2.1.slots)
    (kk : P → G l E b0 M X Z c1 c2 n h pc' L (v :: rest)) : G l E b0 M X Z c1 c2 n h pc L st := by
  intro p e s m args below meth c C hX hb H locs ls hR hS hl
  obtain ⟨hd, rfl⟩ := hd
  obtain ⟨cb, mk, hin, hse⟩ := cv
  have S : CallFix p m c M.2.1 M.2.2.1 s args GW M.2.2.2.2.2 := ⟨C.1, C.2.1, C.2.2.1, C.2.2.2.2.1, C.2.2.2.2.2.1⟩
  obtain ⟨cell, g1, g2, g3⟩ := vk_recv C.2.2.2.2.2.2.2.1.2.2.2.1 hi hS
  have hp : PreV s H Y.1.cls (E.2.2.1 i) (va_Pc (.ref (E.2.2.1 i) :: As) (fun U => KX E b0 U ∧ RH E b0 n h U.heap)) As := ⟨pc_blind, ⟨cell, g1, g2, by rw [hY]; exact g3⟩, fun U hU hW => ⟨rfl, C.2.2.2.2.2.2.2.1.go hW (by rw [hU]; exact hS.2.1), by rw [hU]; exact hR⟩⟩
  rcases mk with mk | mk
  · exact g_after (va_runV (As := As) (rest := rest) S ct ⟨callB_g C cb mk ro, C.2.2.2.2.2.1 _ hin, C.2.2.2.2.2.1 _ hse⟩ hp rfl hA hl.1 hst (lv_room hw) hd hf) C hX hb hS hl kk
  · exact g_after (va_runVN (As := As) (rest := rest) S ct ⟨callN_g C cb mk ro, C.2.2.2.2.2.1 _ hin, C.2.2.2.2.2.1 _ hse⟩ hp rfl hA hl.1 hst (lv_room hw) hd hf) C hX hb hS hl kk
end GT
section CT
variable {l : Launch} {E : EE} {b0 n : Nat} {h : AH} {i : Nat} {k : Int}
theorem ct_coder (hi : i < 7) : Ct l E b0 M_J0_coder_7d493 0 0 [.ref (E.2.2.1 i)] h n (some (vI 0)) h n True := by
  refine Ct_of [some (.ref (E.2.2.1 i))] ⟨by decide +kernel, rfl⟩ rfl (Nat.le_of_ble_eq_true rfl) ?_
  refine g_compact fk_J0_38 e_J0_coder_7d493_0 ?_
  refine g_if_eqF e_J0_coder_7d493_3 (by decide) (by decide) ?_
  refine g_aload_n e_J0_coder_7d493_6 rfl ?_
  refine g_strc hi fk_J0_15 e_J0_coder_7d493_7 ?_
  refine g_goto e_J0_coder_7d493_10 ?_
  exact g_nret rfl rfl trivial e_J0_coder_7d493_14
theorem ct_isLatin1 (hi : i < 7) : Ct l E b0 M_J0_isLatin1_aae02 0 0 [.ref (E.2.2.1 i)] h n (some (vI 1)) h n True := by
  refine Ct_of [some (.ref (E.2.2.1 i))] ⟨by decide +kernel, rfl⟩ rfl (Nat.le_of_ble_eq_true rfl) ?_
  refine g_compact fk_J0_38 e_J0_isLatin1_aae02_0 ?_
  refine g_if_eqF e_J0_isLatin1_aae02_3 (by decide) (by decide) ?_
  refine g_aload_n e_J0_isLatin1_aae02_6 rfl ?_
  refine g_strc hi fk_J0_15 e_J0_isLatin1_aae02_7 ?_
  refine g_if_neT e_J0_isLatin1_aae02_10 (by decide) rfl ?_
  refine g_iconst e_J0_isLatin1_aae02_13 ?_
  refine g_goto e_J0_isLatin1_aae02_14 ?_
  exact g_zret rfl (Or.inr rfl) trivial e_J0_isLatin1_aae02_18
theorem ct_length (hi : i < 7) : Ct l E b0 M_J0_length_8abf5 0 0 [.ref (E.2.2.1 i)] h n (some (vI (sLen i))) h n True := by
  refine Ct_of [some (.ref (E.2.2.1 i))] ⟨by decide +kernel, rfl⟩ rfl (Nat.le_of_ble_eq_true rfl) ?_
  refine g_aload_n e_J0_length_8abf5_0 rfl ?_
  refine g_strv hi fk_J0_9 e_J0_length_8abf5_1 ?_
  refine g_tlen hi e_J0_length_8abf5_4 ?_
  refine g_aload_n e_J0_length_8abf5_5 rfl ?_
  refine g_callT hi [] rfl cv_J0_335 ⟨rfl, rfl, Nat.le_of_ble_eq_true rfl, Nat.le_of_ble_eq_true rfl⟩ (ct_coder hi) e_J0_length_8abf5_6 rfl rfl (Nat.le_of_ble_eq_true rfl) ⟨Nat.le_refl _, Nat.le_refl _⟩ (fun _ => ?_)
  refine g_ishr e_J0_length_8abf5_9 ?_
  rw [bShr_0 _ (sLen_I i)]
  exact g_iret rfl trivial e_J0_length_8abf5_10
theorem ct_pcheck {z : Int} {r : Option Nat} (hk : 0 ≤ k ∧ k < z) (hz : inI z) : Ct l E b0 M_J3_checkIndex_8e157 0 0 [vI k, vI z, va_rf r] h n (some (vI k)) h n True := by
  have hki : inI k := ⟨by omega, by have := hz.2; omega⟩
  refine Ct_of [some (vI k), some (vI z), some (va_rf r)] ⟨by decide +kernel, rfl⟩ rfl (by cases r <;> exact Nat.le_of_ble_eq_true rfl) ?_
  refine g_iload_n e_J3_checkIndex_8e157_0 rfl ?_
  refine g_if_ltF e_J3_checkIndex_8e157_1 hki (by omega) ?_
  refine g_iload_n e_J3_checkIndex_8e157_4 rfl ?_
  refine g_iload_n e_J3_checkIndex_8e157_5 rfl ?_
  refine g_icmp_ltT e_J3_checkIndex_8e157_6 hki hz hk.2 ?_
  refine g_iload_n e_J3_checkIndex_8e157_16 rfl ?_
  exact g_iret rfl trivial e_J3_checkIndex_8e157_17
theorem ct_scheck {z : Int} (hk : 0 ≤ k ∧ k < z) (hz : inI z) : Ct l E b0 M_J0_checkIndex_df160 0 0 [vI k, vI z] h n none h n True := by
  refine Ct_of [some (vI k), some (vI z)] ⟨by decide +kernel, rfl⟩ rfl (Nat.le_of_ble_eq_true rfl) ?_
  refine g_iload_n e_J0_checkIndex_df160_0 rfl ?_
  refine g_iload_n e_J0_checkIndex_df160_1 rfl ?_
  refine g_sio fk_J0_1053 e_J0_checkIndex_df160_2 (fun r => ?_)
  refine g_callSr [vI k, vI z, va_rf r] cs_J0_1059 ⟨rfl, rfl, Nat.le_of_ble_eq_true rfl, Nat.le_of_ble_eq_true rfl⟩ (ct_pcheck hk hz) e_J0_checkIndex_df160_5 rfl rfl (Nat.le_of_ble_eq_true rfl) ⟨Nat.le_refl _, Nat.le_refl _⟩ (fun _ => ?_)
  refine g_pop e_J0_checkIndex_df160_8 rfl ?_
  exact g_vret rfl trivial e_J0_checkIndex_df160_9
theorem ct_lcharAt (hi : i < 7) (hk : 0 ≤ k ∧ k < sLen i) : Ct l E b0 M_J1_charAt_3b067 0 0 [.ref (E.2.2.2 i), vI k] h n (some (vI (sCh i k))) h n True := by
  have hq := sCh_ok i hi k.toNat (by have := hk.1; have := hk.2; unfold sLen at this; omega)
  refine Ct_of [some (.ref (E.2.2.2 i)), some (vI k)] ⟨by decide +kernel, rfl⟩ rfl (Nat.le_of_ble_eq_true rfl) ?_
  refine g_iload_n e_J1_charAt_3b067_0 rfl ?_
  refine g_aload_n e_J1_charAt_3b067_1 rfl ?_
  refine g_tlen hi e_J1_charAt_3b067_2 ?_
  refine g_callSv [vI k, vI (sLen i)] cs_J1_9 ⟨rfl, rfl, Nat.le_of_ble_eq_true rfl, Nat.le_of_ble_eq_true rfl⟩ (ct_scheck hk (sLen_I i)) e_J1_charAt_3b067_3 rfl rfl (Nat.le_of_ble_eq_true rfl) ⟨Nat.le_refl _, Nat.le_refl _⟩ (fun _ => ?_)
  refine g_aload_n e_J1_charAt_3b067_6 rfl ?_
  refine g_iload_n e_J1_charAt_3b067_7 rfl ?_
  refine g_tb hi hk e_J1_charAt_3b067_8 ?_
  refine g_sipush e_J1_charAt_3b067_9 sp_255 ?_
  refine g_iand e_J1_charAt_3b067_12 ?_
  refine g_i2c e_J1_charAt_3b067_13 ?_
  rw [show bAnd (sCh i k) 255 = sCh i k from hq.1, show bChar (sCh i k) = sCh i k from hq.2.1]
  exact g_nret rfl (by rw [show vI (sCh i k) = _ from vI_of _]; exact hq.2.2) trivial e_J1_charAt_3b067_14
theorem ct_charAt (hi : i < 7) (hk : 0 ≤ k ∧ k < sLen i) : Ct l E b0 M_J0_charAt_5068e 0 0 [.ref (E.2.2.1 i), vI k] h n (some (vI (sCh i k))) h n True := by
  have hq := sCh_ok i hi k.toNat (by have := hk.1; have := hk.2; unfold sLen at this; omega)
  refine Ct_of [some (.ref (E.2.2.1 i)), some (vI k)] ⟨by decide +kernel, rfl⟩ rfl (Nat.le_of_ble_eq_true rfl) ?_
  refine g_aload_n e_J0_charAt_5068e_0 rfl ?_
  refine g_callT hi [] rfl cv_J0_492 ⟨rfl, rfl, Nat.le_of_ble_eq_true rfl, Nat.le_of_ble_eq_true rfl⟩ (ct_isLatin1 hi) e_J0_charAt_5068e_1 rfl rfl (Nat.le_of_ble_eq_true rfl) ⟨Nat.le_refl _, Nat.le_refl _⟩ (fun _ => ?_)
  refine g_if_eqF e_J0_charAt_5068e_4 (by decide) (by decide) ?_
  refine g_aload_n e_J0_charAt_5068e_7 rfl ?_
  refine g_strv hi fk_J0_9 e_J0_charAt_5068e_8 ?_
  refine g_iload_n e_J0_charAt_5068e_11 rfl ?_
  refine g_callSr [.ref (E.2.2.2 i), vI k] cs_J0_495 ⟨rfl, rfl, Nat.le_of_ble_eq_true rfl, Nat.le_of_ble_eq_true rfl⟩ (ct_lcharAt hi hk) e_J0_charAt_5068e_12 rfl rfl (Nat.le_of_ble_eq_true rfl) ⟨Nat.le_refl _, Nat.le_refl _⟩ (fun _ => ?_)
  exact g_nret rfl (by rw [show vI (sCh i k) = _ from vI_of _]; exact hq.2.2) trivial e_J0_charAt_5068e_15
end CT

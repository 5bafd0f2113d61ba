
/-! ===== PURE: least, the lines chosen ===== -/
theorem js_amt : ∀ k : Fin 61, (((Int32.ofInt (k.val : Int)).toInt64 &&& 63).toBitVec.smod 64).toNat = k.val ∧ (((Int32.ofInt (k.val : Int)).toInt64.toUInt64 &&& Int64.toUInt64 63).toBitVec % 64).toNat = k.val := by decide +kernel
theorem jShr_n {v : Int} {k : Nat} (hk : k < 61) : jShr v (k : Int) = ((Int64.ofInt v).toBitVec.sshiftRight k).toInt := by
  have h := (js_amt ⟨k, hk⟩).1
  dsimp only at h
  unfold jShr
  show (Int64.ofInt v >>> ((Int32.ofInt (k : Int)).toInt64 &&& 63)).toBitVec.toInt = _
  rw [Int64.toBitVec_shiftRight, BitVec.sshiftRight', h]
theorem jUshr_n {v : Int} {k : Nat} (hk : k < 61) : jUshr v (k : Int) = ((Int64.ofInt v).toBitVec >>> k).toInt := by
  have h := (js_amt ⟨k, hk⟩).2
  dsimp only at h
  unfold jUshr
  show ((Int64.ofInt v).toUInt64 >>> ((Int32.ofInt (k : Int)).toInt64.toUInt64 &&& Int64.toUInt64 63)).toBitVec.toInt = _
  rw [UInt64.toBitVec_shiftRight, BitVec.ushiftRight_eq', h]
  rfl
theorem jAnd1 (Z : BitVec 64) : jAnd Z.toInt 1 = if Z.getLsbD 0 then 1 else 0 := by
  unfold jAnd
  show ((Int64.ofInt Z.toInt).toBitVec &&& 1#64).toInt = _
  rw [Int64.toBitVec_ofInt, BitVec.ofInt_toInt]
  have hN : (Z &&& 1#64).toNat = Z.toNat % 2 := by
    rw [BitVec.toNat_and]
    exact Nat.and_two_pow_sub_one_eq_mod _ 1
  rw [BitVec.toInt_eq_toNat_of_lt (by rw [hN]; omega), hN]
  unfold BitVec.getLsbD
  rw [Nat.testBit_zero]
  by_cases c : Z.toNat % 2 = 1
  · rw [c]; rfl
  · rw [show Z.toNat % 2 = 0 by omega]; rfl
/-- bit k of a long -/
def jb (v : Int) (k : Nat) : Bool := (Int64.ofInt v).toBitVec.getLsbD k
theorem jbU {v : Int} {k : Nat} (hk : k < 60) : jAnd (jUshr v (k : Int)) 1 = if jb v k then 1 else 0 := by
  rw [jUshr_n (by omega), jAnd1, BitVec.getLsbD_ushiftRight, Nat.add_zero]
  rfl
theorem jbS {v : Int} {k : Nat} (hk : k < 60) : jAnd (jShr v (k : Int)) 1 = if jb v k then 1 else 0 := by
  have e : ((Int64.ofInt v).toBitVec.sshiftRight k).getLsbD 0 = jb v k := by
    rw [BitVec.getLsbD_sshiftRight, Nat.add_zero, if_pos (show k < 64 by omega)]
    rfl
  rw [jShr_n (by omega), jAnd1, e]
theorem j60 {v : Int} : jUshr v 60 = 0 ↔ jShr v 60 = 0 := by
  have h1 := jUshr_n (v := v) (k := 60) (by omega)
  have h2 := jShr_n (v := v) (k := 60) (by omega)
  have h1' : jUshr v 60 = ((Int64.ofInt v).toBitVec >>> 60).toInt := h1
  have h2' : jShr v 60 = ((Int64.ofInt v).toBitVec.sshiftRight 60).toInt := h2
  rw [h1', h2', BitVec.toInt_sshiftRight, Int.shiftRight_eq_div_pow]
  have hX := BitVec.toInt_eq_toNat_cond (Int64.ofInt v).toBitVec
  have hl := (Int64.ofInt v).toBitVec.isLt
  have hN : ((Int64.ofInt v).toBitVec >>> 60).toNat = (Int64.ofInt v).toBitVec.toNat / 2 ^ 60 := by
    rw [BitVec.toNat_ushiftRight, Nat.shiftRight_eq_div_pow]
  rw [BitVec.toInt_eq_toNat_of_lt (by rw [hN]; omega), hN, hX]
  generalize (Int64.ofInt v).toBitVec.toNat = N at *
  split <;> omega
theorem q_choose {L : Nat} {v v1 : Int} {there gone start goal ch co : Nat → Int} (hL : L ≤ 120) (hth : ∀ k, k < L → (there k = 1 ∧ gone k = 0) ∨ (there k = 0 ∧ gone k = 1)) (h60 : jShr v 60 = 0) (k101 k81 : ((Nat → Int) → Int → Int → Option (Int × Int × (Nat → Int) × (Nat → Int) × (Nat → Int) × (Nat → Int)))) :
    (∃ ch2 co2 a b, m_X9_choose start goal (L : Int) there ch v1 v = some (0, ch2) ∧ m_X11_least_25 (L : Int) gone start goal v1 v k101 k81 FU co 0 0 = k81 co2 a b) ∨ (∃ (n : Nat) (ch2 co2 : Nat → Int), n ≤ 8 ∧ m_X9_choose start goal (L : Int) there ch v1 v = some ((n : Int), ch2) ∧ m_X11_least_25 (L : Int) gone start goal v1 v k101 k81 FU co 0 0 = k101 co2 (n : Int) 60 ∧ (∀ j, j < n → ch2 j = co2 j ∧ ∃ l : Nat, l < L ∧ ch2 j = (l : Int) ∧ (start l = v1 ∨ goal l = v1))) := by
  rw [m_X9_choose, m_X9_choose_0, if_pos (j60.mpr h60)]
  exact loop_p 60 (fun F i => ∀ (c : Nat) (ch co : Nat → Int), c ≤ 8 → (∀ j, j < c → ch j = co j ∧ ∃ l : Nat, l < L ∧ ch j = (l : Int) ∧ (start l = v1 ∨ goal l = v1)) → (∃ ch2 co2 a b, m_X9_choose_17 start goal (L : Int) there v1 v (fun t_chosen' v4' v5' => m_X9_choose_105 t_chosen' v4') (fun t_chosen' v4' v5' => m_X9_choose_85 t_chosen') F ch (c : Int) (i : Int) = some (0, ch2) ∧ m_X11_least_25 (L : Int) gone start goal v1 v k101 k81 F co (c : Int) (i : Int) = k81 co2 a b) ∨ (∃ (n : Nat) (ch2 co2 : Nat → Int), n ≤ 8 ∧ m_X9_choose_17 start goal (L : Int) there v1 v (fun t_chosen' v4' v5' => m_X9_choose_105 t_chosen' v4') (fun t_chosen' v4' v5' => m_X9_choose_85 t_chosen') F ch (c : Int) (i : Int) = some ((n : Int), ch2) ∧ m_X11_least_25 (L : Int) gone start goal v1 v k101 k81 F co (c : Int) (i : Int) = k101 co2 (n : Int) 60 ∧ (∀ j, j < n → ch2 j = co2 j ∧ ∃ l : Nat, l < L ∧ ch2 j = (l : Int) ∧ (start l = v1 ∨ goal l = v1)))) (fun F c ch co hc hh => Or.inr ⟨c, ch, co, hc, by rw [m_X9_choose_17, if_pos (by omega)], by rw [m_X11_least_25, if_pos (by omega)]; rfl, hh⟩) (fun F i hi ih _ c ch co hc hh => by
    rw [m_X9_choose_17, if_neg (show ¬ (60 : Int) ≤ (i : Int) by omega), m_X11_least_25, if_neg (show ¬ (60 : Int) ≤ (i : Int) by omega), jbU hi, jbS hi]
    by_cases cb : jb v i = true
    · rw [if_pos cb, if_pos rfl, if_neg (show ¬ (1 : Int) = 0 by decide)]
      by_cases cl : i < L ∧ there i ≠ 0
      · have ht := hth i cl.1
        have ht1 : there i = 1 ∧ gone i = 0 := by rcases ht with h | h; exact h; exact absurd h.1 cl.2
        rw [isThere1 hL cl.1 ht1.1, bind_s, if_neg ne10, isLine1 hL cl.1 ht1.2, bind_s, if_neg ne10]
        simp (disch := omega) only [chkB, tn]
        have go : (start i = v1 ∨ goal i = v1) → c < 8 → (∃ ch2 co2 a b, m_X9_choose_66 start goal (L : Int) there ch v1 v (c : Int) (i : Int) (m_X9_choose_17 start goal (L : Int) there v1 v (fun t_chosen' v4' v5' => m_X9_choose_105 t_chosen' v4') (fun t_chosen' v4' v5' => m_X9_choose_85 t_chosen') F) (fun t_chosen' v4' v5' => m_X9_choose_105 t_chosen' v4') (fun t_chosen' v4' v5' => m_X9_choose_85 t_chosen') = some (0, ch2) ∧ m_X11_least_83 (L : Int) gone start goal co v1 v (c : Int) (i : Int) (m_X11_least_25 (L : Int) gone start goal v1 v k101 k81 F) k101 k81 = k81 co2 a b) ∨ (∃ (n : Nat) (ch2 co2 : Nat → Int), n ≤ 8 ∧ m_X9_choose_66 start goal (L : Int) there ch v1 v (c : Int) (i : Int) (m_X9_choose_17 start goal (L : Int) there v1 v (fun t_chosen' v4' v5' => m_X9_choose_105 t_chosen' v4') (fun t_chosen' v4' v5' => m_X9_choose_85 t_chosen') F) (fun t_chosen' v4' v5' => m_X9_choose_105 t_chosen' v4') (fun t_chosen' v4' v5' => m_X9_choose_85 t_chosen') = some ((n : Int), ch2) ∧ m_X11_least_83 (L : Int) gone start goal co v1 v (c : Int) (i : Int) (m_X11_least_25 (L : Int) gone start goal v1 v k101 k81 F) k101 k81 = k101 co2 (n : Int) 60 ∧ (∀ j, j < n → ch2 j = co2 j ∧ ∃ l : Nat, l < L ∧ ch2 j = (l : Int) ∧ (start l = v1 ∨ goal l = v1))) := fun hs h8 => by
          rw [m_X9_choose_66, m_X9_choose_71, if_neg ne10, if_pos (show (c : Int) < 8 by omega), chkB (by omega) (by omega), chkI (by omega) (by omega), m_X9_choose_99, chkI (by omega) (by omega), m_X11_least_83, chkB (by omega) (by omega), chkI (by omega) (by omega), m_X11_least_95, chkI (by omega) (by omega), tn]
          refine ih (c + 1) (up ch c (i : Int)) (up co c (i : Int)) (by omega) (fun j hj => ?_)
          by_cases cj : j = c
          · subst cj
            rw [up_at, up_at]
            exact ⟨rfl, i, cl.1, rfl, hs⟩
          · rw [up_ne _ _ cj, up_ne _ _ cj]
            exact hh j (by omega)
        by_cases c8 : c = 8
        · refine Or.inl ⟨ch, co, (c : Int), (i : Int), ?_, by rw [if_pos (show (c : Int) = 8 by omega)]⟩
          rw [m_X9_choose_66, m_X9_choose_71, if_neg ne10, if_neg (show ¬ (c : Int) < 8 by omega), m_X9_choose_70, m_X9_choose_71, if_pos rfl]
          split <;> first | rfl | (split <;> rfl)
        · rw [if_neg (show ¬ (c : Int) = 8 by omega)]
          by_cases d1 : start i = v1
          · rw [if_pos d1, if_pos d1]
            exact go (Or.inl d1) (by omega)
          · rw [if_neg d1, if_neg d1]
            by_cases d2 : goal i = v1
            · rw [if_pos d2, if_pos d2]
              exact go (Or.inr d2) (by omega)
            · rw [if_neg d2, if_neg d2]
              exact Or.inl ⟨ch, co, _, _, by rw [m_X9_choose_70, m_X9_choose_71, if_pos rfl], rfl⟩
      · have hg : ¬ (i < L ∧ gone i = 0) := fun h => by
          have ht := hth i h.1
          rcases ht with h3 | h3
          · exact cl ⟨h.1, by omega⟩
          · omega
        rw [isThere0 hL (fun h => cl ⟨by omega, h.2.2⟩), bind_s, if_pos rfl, isLine0 hL (fun h => hg ⟨by omega, h.2.2⟩), bind_s, if_pos rfl]
        refine Or.inl ⟨ch, co, (c : Int), (i : Int), by rw [m_X9_choose_70, m_X9_choose_71, if_pos rfl], ?_⟩
        split <;> rfl
    · rw [if_neg cb, if_neg (show ¬ (0 : Int) = 1 by decide), if_pos rfl, m_X9_choose_99, chkI (by omega) (by omega), m_X11_least_95, chkI (by omega) (by omega)]
      exact ih c ch co hc hh) 60 FU 0 (by omega) (by unfold FU; omega) 0 ch co (by omega) (fun j hj => by omega)

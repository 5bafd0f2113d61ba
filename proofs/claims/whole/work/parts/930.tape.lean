
/-! ===== PURE: the tape, counts ===== -/
/-- a byte as the model keeps it -/
def sb (b : Int) : Int := if b < 128 then b else b - 256
theorem by_core (X : BitVec 32) (s : Nat) (hs : s = 24 ∨ s = 16 ∨ s = 8 ∨ s = 0) : 0 ≤ ((X >>> s) &&& 255#32).toInt ∧ ((X >>> s) &&& 255#32).toInt ≤ 255 ∧ (X.toInt / ((2 ^ s : Nat) : Int)).bmod (2 ^ 8) = sb ((X >>> s) &&& 255#32).toInt := by
  have hN : ((X >>> s) &&& 255#32).toNat = (X.toNat / 2 ^ s) % 256 := by
    rw [BitVec.toNat_and, BitVec.toNat_ushiftRight, Nat.shiftRight_eq_div_pow]
    exact Nat.and_two_pow_sub_one_eq_mod _ 8
  have hT : ((X >>> s) &&& 255#32).toInt = ((((X >>> s) &&& 255#32).toNat : Nat) : Int) := BitVec.toInt_eq_toNat_of_lt (by rw [hN]; omega)
  have hX := BitVec.toInt_eq_toNat_cond X
  have hl := X.isLt
  rw [hT, hN, hX, Int.bmod_def]
  unfold sb
  generalize X.toNat = N at *
  rcases hs with h | h | h | h <;> subst h <;> refine ⟨by omega, by omega, ?_⟩ <;> split <;> split <;> split <;> omega
theorem by_s (v : Int) (s : Nat) (hs : s = 24 ∨ s = 16 ∨ s = 8 ∨ s = 0) : 0 ≤ bAnd (bUshr v (s : Int)) 255 ∧ bAnd (bUshr v (s : Int)) 255 ≤ 255 ∧ bByte (bShr v (s : Int)) = sb (bAnd (bUshr v (s : Int)) 255) := by
  have h := by_core (Int32.ofInt v).toBitVec s hs
  have e1 : bAnd (bUshr v (s : Int)) 255 = (((Int32.ofInt v).toBitVec >>> s) &&& 255#32).toInt := by
    unfold bAnd bUshr
    rw [Int32.ofInt_toInt]
    rcases hs with h | h | h | h <;> subst h <;> rfl
  have e2 : bByte (bShr v (s : Int)) = ((Int32.ofInt v).toBitVec.toInt / ((2 ^ s : Nat) : Int)).bmod (2 ^ 8) := by
    unfold bByte bShr
    rw [Int32.ofInt_toInt, Int8.toInt_toInt32, Int32.toInt_toInt8]
    have e3 : (Int32.ofInt v >>> (Int32.ofInt (s : Int) &&& 31)).toInt = ((Int32.ofInt v).toBitVec.sshiftRight s).toInt := by
      rcases hs with h | h | h | h <;> subst h <;> rfl
    rw [e3, BitVec.toInt_sshiftRight, Int.shiftRight_eq_div_pow]
  rw [e1, e2]
  exact h
/-- the tape, class and model -/
def tpR (n : Nat) (bytes tape : Nat → Int) : Prop := ∀ j, j < n → 0 ≤ bytes j ∧ bytes j ≤ 255 ∧ tape j = sb (bytes j)
def RTp (many taped : Int) (bytes tape : Nat → Int) : Prop := ∃ n : Nat, many = (n : Int) ∧ taped = (n : Int) ∧ n ≤ 400 ∧ tpR n bytes tape
theorem sb_bd {b : Int} (h : 0 ≤ b ∧ b ≤ 255) : -128 ≤ sb b ∧ sb b ≤ 127 := by unfold sb; split <;> omega
theorem q_turn {n : Nat} {bytes tape : Nat → Int} {v : Int} (s : Nat) (hs : s = 24 ∨ s = 16 ∨ s = 8 ∨ s = 0) (hn : n < 400) (h : tpR n bytes tape) (k49 : Int → (Nat → Int) → Int → Option (Int × (Nat → Int))) (k36 : Int → (Nat → Int) → Int → Option (Int × (Nat → Int))) :
    ∃ bytes' tape', tpR (n + 1) bytes' tape' ∧ (∀ F, m_X5_take_3 v k49 (F + 1) (n : Int) bytes (s : Int) = m_X5_take_3 v k49 F ((n + 1 : Nat) : Int) bytes' ((s : Int) + -8)) ∧ (∀ F, m_X11_put_3 v k36 (F + 1) (n : Int) tape (s : Int) = m_X11_put_3 v k36 F ((n + 1 : Nat) : Int) tape' ((s : Int) + -8)) := by
  obtain ⟨b1, b2, b3⟩ := by_s v s hs
  have b4 := sb_bd ⟨b1, b2⟩
  refine ⟨up bytes n (bAnd (bUshr v (s : Int)) 255), up tape n (bByte (bShr v (s : Int))), fun j hj => ?_, fun F => ?_, fun F => ?_⟩
  · by_cases c : j = n
    · subst c; rw [up_at, up_at]; exact ⟨b1, b2, b3⟩
    · rw [up_ne _ _ c, up_ne _ _ c]; exact h j (by omega)
  · rw [m_X5_take_3, if_neg (by omega), if_neg (by omega), chkB (by omega) (by omega), chkI (by omega) (by omega), m_X5_take_43, chkI (by omega) (by omega), tn]
    rfl
  · rw [m_X11_put_3, if_neg (by omega), chk_pos (show inY (bByte (bShr v (s : Int))) by rw [b3]; exact b4), chkB (by omega) (by omega), chkI (by omega) (by omega), chkI (by omega) (by omega), tn]
    rfl
theorem FU5 : ∃ F, FU = F + 1 + 1 + 1 + 1 + 1 := ⟨5995, rfl⟩
theorem q_take {n : Nat} {bytes tape : Nat → Int} (v : Int) (hn : n + 4 ≤ 400) (h : tpR n bytes tape) : ∃ bytes' tape', tpR (n + 4) bytes' tape' ∧ m_X5_take (n : Int) bytes v = some (((n + 4 : Nat) : Int), bytes') ∧ m_X11_put (n : Int) tape v = some (((n + 4 : Nat) : Int), tape') := by
  obtain ⟨F, hF⟩ := FU5
  obtain ⟨u1, t1, h1, a1, c1⟩ := q_turn (v := v) 24 (Or.inl rfl) (by omega) h (fun t_many' t_bytes' v2' => m_X5_take_49 t_many' t_bytes') (fun t_taped' t_tape' v2' => m_X11_put_36 t_taped' t_tape')
  obtain ⟨u2, t2, h2, a2, c2⟩ := q_turn (v := v) 16 (Or.inr (Or.inl rfl)) (by omega) h1 (fun t_many' t_bytes' v2' => m_X5_take_49 t_many' t_bytes') (fun t_taped' t_tape' v2' => m_X11_put_36 t_taped' t_tape')
  obtain ⟨u3, t3, h3, a3, c3⟩ := q_turn (v := v) 8 (Or.inr (Or.inr (Or.inl rfl))) (by omega) h2 (fun t_many' t_bytes' v2' => m_X5_take_49 t_many' t_bytes') (fun t_taped' t_tape' v2' => m_X11_put_36 t_taped' t_tape')
  obtain ⟨u4, t4, h4, a4, c4⟩ := q_turn (v := v) 0 (Or.inr (Or.inr (Or.inr rfl))) (by omega) h3 (fun t_many' t_bytes' v2' => m_X5_take_49 t_many' t_bytes') (fun t_taped' t_tape' v2' => m_X11_put_36 t_taped' t_tape')
  refine ⟨u4, t4, h4, ?_, ?_⟩
  · rw [m_X5_take, m_X5_take_0, hF]
    refine (a1 _).trans ((a2 _).trans ((a3 _).trans ((a4 _).trans ?_)))
    rw [m_X5_take_3, if_pos (by omega)]
  · rw [m_X11_put, m_X11_put_0, hF]
    refine (c1 _).trans ((c2 _).trans ((c3 _).trans ((c4 _).trans ?_)))
    rw [m_X11_put_3, if_pos (by omega)]
theorem pc_feed {many taped : Int} {bytes tape : Nat → Int} (h : RTp many taped bytes tape) (a b c d e : Int) :
    ∃ r r2, m_X10_feed many bytes a b c d e = some r ∧ m_X11_feed taped tape a b c d e = some r2 ∧ r.1 = r2.1 ∧ RTp r.2.1 r2.2.1 r.2.2 r2.2.2 := by
  have h0 := h
  obtain ⟨n, rfl, rfl, hn, ht⟩ := h
  rw [m_X10_feed, m_X10_feed_0, m_X5_hasRoom, m_X5_hasRoom_0, m_X11_feed, m_X11_feed_0, chkI (by omega) (by omega), chkI (by omega) (by omega)]
  by_cases k : n + 20 ≤ 400
  · obtain ⟨u1, t1, h1, a1, c1⟩ := q_take a (by omega) ht
    obtain ⟨u2, t2, h2, a2, c2⟩ := q_take b (by omega) h1
    obtain ⟨u3, t3, h3, a3, c3⟩ := q_take c (by omega) h2
    obtain ⟨u4, t4, h4, a4, c4⟩ := q_take d (by omega) h3
    obtain ⟨u5, t5, h5, a5, c5⟩ := q_take e (by omega) h4
    rw [if_neg (show ¬ 400 < (n : Int) + 20 by omega), if_pos (show (n : Int) + 20 ≤ 400 by omega), bind_s, if_neg ne10, a1, bind_s, c1, bind_s]
    dsimp only
    rw [a2, bind_s, c2, bind_s]
    dsimp only
    rw [a3, bind_s, c3, bind_s]
    dsimp only
    rw [a4, bind_s, c4, bind_s]
    dsimp only
    rw [a5, bind_s, c5, bind_s]
    dsimp only
    rw [m_X5_size, m_X5_size_0, bind_s]
    exact ⟨_, _, rfl, rfl, rfl, n + 20, rfl, rfl, by omega, h5⟩
  · rw [if_pos (show 400 < (n : Int) + 20 by omega), if_neg (show ¬ (n : Int) + 20 ≤ 400 by omega), bind_s, if_pos rfl]
    exact ⟨_, _, rfl, rfl, rfl, h0⟩
theorem pc_end {many taped : Int} {bytes tape : Nat → Int} (h : RTp many taped bytes tape) (v : Int) :
    ∃ r r2, m_X10_end many v = some r ∧ m_X11_end taped v = some r2 ∧ r.1 = r2.1 ∧ RTp r.2 r2.2 bytes tape := by
  have h0 := h
  obtain ⟨n, rfl, rfl, hn, ht⟩ := h
  rw [m_X10_end, m_X10_end_0, m_X5_cut, m_X5_cut_0, m_X11_end, m_X11_end_0]
  by_cases c : 0 ≤ v ∧ v ≤ n
  · obtain ⟨k, rfl⟩ : ∃ i : Nat, v = (i : Int) := ⟨v.toNat, by omega⟩
    rw [w1 c.1 c.2, bind_s, if_neg ne10, bind_s, if_neg (show ¬ (k : Int) < 0 by omega), if_pos (show (k : Int) ≤ (n : Int) by omega), if_neg ne10]
    exact ⟨_, _, rfl, rfl, rfl, k, rfl, rfl, by omega, fun j hj => ht j (by omega)⟩
  · rw [w0 c, bind_s, if_pos rfl, bind_s, if_pos rfl]
    by_cases c2 : v < 0
    · rw [if_pos c2]; exact ⟨_, _, rfl, rfl, rfl, h0⟩
    · rw [if_neg c2, if_neg (show ¬ v ≤ (n : Int) by omega)]; exact ⟨_, _, rfl, rfl, rfl, h0⟩
theorem q_count_108 {L : Nat} {gone : Nat → Int} (hL : L ≤ 120) : m_X11_count_108 (L : Int) gone (fun v2' v3' => m_X11_count_139 v2') FU 0 0 = some (cno gone L) := by
  exact loop_up L (fun F i => m_X11_count_108 (L : Int) gone (fun v2' v3' => m_X11_count_139 v2') F (cno gone i) (i : Int)) (fun _ => some (cno gone L)) (fun F => by
    show m_X11_count_108 _ _ _ (F + 1) _ _ = _
    rw [m_X11_count_108, if_pos (by omega)]) (fun F i hi ih => by
    show m_X11_count_108 _ _ _ (F + 1) _ _ = _
    have b := cno_bd gone i
    rw [cno_s] at ih
    rw [m_X11_count_108, if_neg (by omega), chkB (by omega) (by omega), tn]
    by_cases c : gone i = 0
    · rw [if_pos c] at ih
      rw [if_pos c, m_X11_count_131, chkI (by omega) (by omega), chkI (by omega) (by omega)]; exact ih
    · rw [if_neg c] at ih
      rw [if_neg c, m_X11_count_131, chkI (by omega) (by omega), chkI (by omega) (by omega)]; exact ih) L FU 0 (by omega) (by unfold FU; omega)
theorem q_count_144 {row : Nat → Int} : m_X11_count_144 row (fun v2' v3' => m_X11_count_173 v2') FU 0 0 = some (cnt row 100) := by
  exact loop_up 100 (fun F i => m_X11_count_144 row (fun v2' v3' => m_X11_count_173 v2') F (cnt row i) (i : Int)) (fun _ => some (cnt row 100)) (fun F => by
    show m_X11_count_144 _ _ (F + 1) _ _ = _
    rw [m_X11_count_144, if_pos (by omega)]) (fun F i hi ih => by
    show m_X11_count_144 _ _ (F + 1) _ _ = _
    have b := cnt_bd row i
    rw [cnt_s] at ih
    rw [m_X11_count_144, if_neg (by omega), chkB (by omega) (by omega), tn]
    by_cases c : row i = 0
    · rw [nz_0 c] at ih
      rw [if_pos c, m_X11_count_165, chkI (by omega) (by omega), chkI (by omega) (by omega)]; exact ih
    · rw [nz_1 c] at ih
      rw [if_neg c, m_X11_count_165, chkI (by omega) (by omega), chkI (by omega) (by omega)]; exact ih) 100 FU 0 (by omega) (by unfold FU; omega)
theorem pc_count {rm taped kn th knots lines fl s g wo o lo ca now undos gm systems sgm sights sm pm em : Int} {many2 isGone signs row sums : Nat → Int} {L : Nat} (h1 : rm = taped) (h2 : kn = knots) (h3 : lines = (L : Int)) (h4 : L ≤ 120) (h5 : th = cno isGone L) (hr : RRow fl s g wo o lo ca signs row sums) (h6 : now = undos) (h7 : gm = systems) (h8 : sgm = sights) (h9 : sm = many2 0) (h10 : pm = many2 1) (h11 : em = many2 2) (w : Int) :
    ∃ r, m_X10_count rm kn th fl s wo o lo ca now gm sgm sm pm em w = some r ∧ m_X11_count taped knots lines undos sights systems many2 isGone row sums w = some r := by
  obtain ⟨a1, a2, a3, a4, a5, a6, a7, a8⟩ := hr
  rw [h1, h2, h3, h5, h6, h7, h8, h9, h10, h11, a2, a3, a5, a6, a7, a8]
  rw [m_X10_count, m_X10_count_0, m_X11_count, m_X11_count_0, q_count_108 h4, q_count_144]
  by_cases c0 : w = 0
  · rw [if_pos c0, if_pos c0]; exact ⟨_, rfl, by rw [chkB (by omega) (by omega)]; rfl⟩
  rw [if_neg c0, if_neg c0]
  by_cases c1 : w = 1
  · rw [if_pos c1, if_pos c1]; exact ⟨_, rfl, by rw [chkB (by omega) (by omega)]; rfl⟩
  rw [if_neg c1, if_neg c1]
  by_cases c2 : w = 2
  · rw [if_pos c2, if_pos c2]; exact ⟨_, rfl, by rw [chkB (by omega) (by omega)]; rfl⟩
  rw [if_neg c2, if_neg c2]
  by_cases c3 : w = 3
  · rw [if_pos c3, if_pos c3]; exact ⟨_, rfl, rfl⟩
  rw [if_neg c3, if_neg c3]
  by_cases c4 : w = 4
  · rw [if_pos c4, if_pos c4]; exact ⟨_, rfl, rfl⟩
  rw [if_neg c4, if_neg c4]
  by_cases c5 : w = 5
  · rw [if_pos c5, if_pos c5]; exact ⟨_, rfl, rfl⟩
  rw [if_neg c5, if_neg c5]
  by_cases c6 : w = 6
  · rw [if_pos c6, if_pos c6]; exact ⟨_, rfl, by rw [chkB (by omega) (by omega)]; rfl⟩
  rw [if_neg c6, if_neg c6]
  by_cases c7 : w = 7
  · rw [if_pos c7, if_pos c7]; exact ⟨_, rfl, by rw [chkB (by omega) (by omega)]; rfl⟩
  rw [if_neg c7, if_neg c7]
  by_cases c8 : w = 8
  · rw [if_pos c8, if_pos c8]; exact ⟨_, rfl, by rw [chkB (by omega) (by omega)]; rfl⟩
  rw [if_neg c8, if_neg c8]
  by_cases c9 : w = 9
  · rw [if_pos c9, if_pos c9]; exact ⟨_, rfl, by rw [chkB (by omega) (by omega)]; rfl⟩
  rw [if_neg c9, if_neg c9]
  by_cases c10 : w = 10
  · rw [if_pos c10, if_pos c10]; exact ⟨_, rfl, by rw [chkB (by omega) (by omega)]; rfl⟩
  rw [if_neg c10, if_neg c10]
  by_cases c11 : w = 11
  · rw [if_pos c11, if_pos c11, m_X5_size, m_X5_size_0, bind_s]; exact ⟨_, rfl, rfl⟩
  rw [if_neg c11, if_neg c11]
  by_cases c12 : w = 12
  · rw [if_pos c12]; exact ⟨_, rfl, rfl⟩
  rw [if_neg c12]
  by_cases c13 : w = 13
  · rw [if_pos c13]; exact ⟨_, rfl, rfl⟩
  rw [if_neg c13]
  by_cases c14 : w = 14
  · rw [if_pos c14]; exact ⟨_, rfl, rfl⟩
  rw [if_neg c14]
  exact ⟨_, rfl, rfl⟩

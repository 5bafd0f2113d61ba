
/-! ===== PURE: read, words ===== -/
theorem q_isLetter {v : Int} : m_X5_isLetter v = some (if 97 ≤ v ∧ v ≤ 122 then 1 else 0) := by
  rw [m_X5_isLetter, m_X5_isLetter_0]
  by_cases c : v < 97
  · rw [if_pos c, if_neg (by omega)]
  · rw [if_neg c]
    by_cases c2 : 122 < v
    · rw [if_pos c2, if_neg (by omega)]
    · rw [if_neg c2, if_pos (by omega)]
theorem q_letters {n p : Nat} {bytes tape : Nat → Int} (hn : n ≤ 400) (ht : tpR n bytes tape) (hp : p ≤ n) (k41 : Int → Option (Int × Int × Int)) :
    ∃ len : Nat, p + len ≤ n ∧ m_X5_lettersAhead (n : Int) (p : Int) bytes = some (len : Int) ∧ m_X11_word_5 (n : Int) tape k41 FU (p : Int) = k41 ((p + len : Nat) : Int) := by
  rw [m_X5_lettersAhead, m_X5_lettersAhead_0]
  have key := loop_p (n - p) (fun F j => ∃ len : Nat, p + len ≤ n ∧ m_X5_lettersAhead_2 (n : Int) (p : Int) bytes (fun v1' => m_X5_lettersAhead_37 v1') F (j : Int) = some (len : Int) ∧ m_X11_word_5 (n : Int) tape k41 F ((p + j : Nat) : Int) = k41 ((p + len : Nat) : Int)) (fun F => ⟨n - p, by omega, by rw [m_X5_lettersAhead_2, chkI (by omega) (by omega), if_pos (by omega)], by rw [m_X11_word_5, if_pos (by omega)]⟩) (fun F j hj ih _ => by
    have h := bt_eq ht (p + j)
    have hb : bt n tape (p + j) = tape (p + j) := if_pos (by omega)
    rw [hb] at h
    have e : (p : Int) + (j : Int) = ((p + j : Nat) : Int) := by omega
    rw [m_X5_lettersAhead_2, e, chkI (by omega) (by omega), if_neg (show ¬ (n : Int) ≤ ((p + j : Nat) : Int) by omega), q_byteAt hn, bind_s, q_isLetter, bind_s, m_X11_word_5, if_neg (show ¬ (n : Int) ≤ ((p + j : Nat) : Int) by omega), chkB (by omega) (by omega), tn]
    by_cases c1 : tape (p + j) < 97
    · rw [if_pos c1, if_neg (show ¬ (97 ≤ bt n bytes (p + j) ∧ bt n bytes (p + j) ≤ 122) by omega), if_pos rfl]
      exact ⟨j, by omega, rfl, rfl⟩
    · rw [if_neg c1, chkB (by omega) (by omega)]
      by_cases c2 : 122 < tape (p + j)
      · rw [if_pos c2, if_neg (show ¬ (97 ≤ bt n bytes (p + j) ∧ bt n bytes (p + j) ≤ 122) by omega), if_pos rfl]
        exact ⟨j, by omega, rfl, rfl⟩
      · rw [if_neg c2, if_pos (show 97 ≤ bt n bytes (p + j) ∧ bt n bytes (p + j) ≤ 122 by omega), if_neg ne10, chkI (by omega) (by omega), chkI (by omega) (by omega)]
        exact ih) (n - p) FU 0 (by omega) (by unfold FU; omega)
  exact key
theorem ch_c : ∀ (w : Fin 7) (j : Fin 6), 0 ≤ sCh w.val (j.val : Int) ∧ sCh w.val (j.val : Int) ≤ 127 := by decide +kernel
theorem ln_c : ∀ w : Fin 7, 3 ≤ sLen w.val ∧ sLen w.val ≤ 6 := by decide +kernel
theorem q_isW {n p len w : Nat} {bytes tape : Nat → Int} (hn : n ≤ 400) (ht : tpR n bytes tape) (hw : w < 7) (hp : p + len ≤ n) :
    ∃ r, m_X5_isWord (n : Int) (p : Int) bytes w (len : Int) = some r ∧ m_X11_is (p : Int) tape w ((p + len : Nat) : Int) = some r ∧ (r = 0 ∨ r = 1) := by
  have hl := ln_c ⟨w, hw⟩
  dsimp only at hl
  rw [m_X5_isWord, m_X5_isWord_0, m_X11_is, m_X11_is_0, chkI (by omega) (by omega)]
  by_cases c : sLen w = (len : Int)
  · rw [if_pos c, if_pos (show ((p + len : Nat) : Int) - (p : Int) = sLen w by omega), m_X11_is_18]
    exact loop_p len (fun F j => len - j < F → ∃ r, m_X5_isWord_12 (n : Int) (p : Int) bytes w (len : Int) (fun v3' => m_X5_isWord_43) (fun v3' => m_X5_isWord_35) F (j : Int) = some r ∧ m_X11_is_22 (p : Int) tape w (fun v3' v4' => m_X11_is_68 v3') F 1 (j : Int) = some r ∧ (r = 0 ∨ r = 1)) (fun F _ => ⟨1, by rw [m_X5_isWord_12, if_pos (by omega)], by rw [m_X11_is_22, if_pos (by omega)], Or.inr rfl⟩) (fun F j hj ih _ hF => by
      have h := bt_eq ht (p + j)
      have hb : bt n tape (p + j) = tape (p + j) := if_pos (by omega)
      rw [hb] at h
      have hc := ch_c ⟨w, hw⟩ ⟨j, by omega⟩
      dsimp only at hc
      have e : (p : Int) + (j : Int) = ((p + j : Nat) : Int) := by omega
      rw [m_X5_isWord_12, if_neg (show ¬ (len : Int) ≤ (j : Int) by omega), e, chkI (by omega) (by omega), q_byteAt hn, bind_s, chk_pos (show (0 : Int) ≤ (j : Int) ∧ (j : Int) < sLen w from ⟨by omega, by omega⟩), m_X11_is_22, if_neg (show ¬ sLen w ≤ (j : Int) by omega), if_neg ne10, e, chkB (by omega) (by omega), chk_pos (show (0 : Int) ≤ (j : Int) ∧ (j : Int) < sLen w from ⟨by omega, by omega⟩), tn]
      by_cases c2 : bt n bytes (p + j) = sCh w (j : Int)
      · rw [if_pos c2, if_pos (show tape (p + j) = sCh w (j : Int) by omega), chkI (by omega) (by omega), m_X11_is_61, chkI (by omega) (by omega)]
        exact ih (by omega)
      · rw [if_neg c2, if_neg (show ¬ tape (p + j) = sCh w (j : Int) by omega), m_X11_is_61, chkI (by omega) (by omega)]
        obtain ⟨F', rfl⟩ : ∃ F', F = F' + 1 := ⟨F - 1, by omega⟩
        refine ⟨0, rfl, ?_, Or.inl rfl⟩
        rw [m_X11_is_22]
        split
        · rfl
        · rw [if_pos rfl]) len FU 0 (by omega) (by unfold FU; omega) (by unfold FU; omega)
  · rw [if_neg c, if_neg (show ¬ ((p + len : Nat) : Int) - (p : Int) = sLen w by omega), m_X11_is_18]
    obtain ⟨F, hF⟩ : ∃ F, FU = F + 1 := ⟨_, rfl⟩
    rw [hF, m_X11_is_22, if_neg (by omega), if_pos rfl]
    exact ⟨0, rfl, rfl, Or.inl rfl⟩
theorem q_wordOf {w : Nat} (hw : w < 7) : m_X11_wordOf (w : Int) = some w := by
  rw [m_X11_wordOf, m_X11_wordOf_0]
  rcases (by omega : w = 0 ∨ w = 1 ∨ w = 2 ∨ w = 3 ∨ w = 4 ∨ w = 5 ∨ w = 6) with h | h | h | h | h | h | h <;> subst h <;> rfl
theorem q_sort {n p len : Nat} {bytes tape : Nat → Int} (hn : n ≤ 400) (ht : tpR n bytes tape) (hp : p + len ≤ n) (k67 : Int → Option (Int × Int × Int)) :
    ∃ s : Nat, s ≤ 7 ∧ m_X5_sortAhead (n : Int) (p : Int) bytes (len : Int) = some (if s = 7 then -1 else (s : Int)) ∧ m_X11_word_43 (p : Int) tape ((p + len : Nat) : Int) k67 FU 0 = k67 (s : Int) := by
  have hx : ∀ w : Nat, ∃ r, w < 7 → m_X5_isWord (n : Int) (p : Int) bytes w (len : Int) = some r ∧ m_X11_is (p : Int) tape w ((p + len : Nat) : Int) = some r := fun w => by
    by_cases c : w < 7
    · obtain ⟨r, h1, h2, _⟩ := q_isW hn ht c hp
      exact ⟨r, fun _ => ⟨h1, h2⟩⟩
    · exact ⟨0, fun h => absurd h c⟩
  obtain ⟨rr, hr⟩ := Classical.axiomOfChoice hx
  have key := loop_p 7 (fun F i => ∃ s : Nat, s ≤ 7 ∧ (∀ w, i ≤ w → w < s → rr w = 0) ∧ (s < 7 → rr s ≠ 0) ∧ m_X11_word_43 (p : Int) tape ((p + len : Nat) : Int) k67 F (i : Int) = k67 (s : Int)) (fun F => ⟨7, Nat.le_refl _, fun w h1 h2 => by omega, fun h => by omega, by rw [m_X11_word_43, if_pos (by omega)]⟩) (fun F i hi ih _ => by
    rw [m_X11_word_43, if_neg (by omega), q_wordOf hi, bind_s, (hr i hi).2, bind_s]
    by_cases c : rr i = 0
    · obtain ⟨s, h1, h2, h3, h4⟩ := ih
      rw [if_pos c, chkI (by omega) (by omega)]
      refine ⟨s, h1, fun w hw1 hw2 => ?_, h3, h4⟩
      by_cases cw : w = i
      · subst cw; exact c
      · exact h2 w (by omega) hw2
    · rw [if_neg c]
      exact ⟨i, by omega, fun w h1 h2 => by omega, fun _ => c, rfl⟩) 7 FU 0 (by omega) (by unfold FU; omega)
  obtain ⟨s, s1, s2, s3, m43⟩ := key
  have z : ∀ w, w < s → w < 7 → rr w = 0 := fun w h1 h2 => s2 w (by omega) h1
  obtain ⟨a0, _⟩ := hr 0 (by omega)
  obtain ⟨a1, _⟩ := hr 1 (by omega)
  obtain ⟨a2, _⟩ := hr 2 (by omega)
  obtain ⟨a3, _⟩ := hr 3 (by omega)
  obtain ⟨a4, _⟩ := hr 4 (by omega)
  obtain ⟨a5, _⟩ := hr 5 (by omega)
  obtain ⟨a6, _⟩ := hr 6 (by omega)
  rcases (by omega : s = 0 ∨ s = 1 ∨ s = 2 ∨ s = 3 ∨ s = 4 ∨ s = 5 ∨ s = 6 ∨ s = 7) with h | h | h | h | h | h | h | h <;> subst h
  · refine ⟨0, by omega, ?_, m43⟩
    have hs2 := s3 (by omega)
    rw [m_X5_sortAhead, m_X5_sortAhead_0, a0, bind_s, if_neg hs2]
    rfl
  · refine ⟨1, by omega, ?_, m43⟩
    have hs2 := s3 (by omega)
    rw [m_X5_sortAhead, m_X5_sortAhead_0, a0, bind_s, if_pos (z 0 (by omega) (by omega)), a1, bind_s, if_neg hs2]
    rfl
  · refine ⟨2, by omega, ?_, m43⟩
    have hs2 := s3 (by omega)
    rw [m_X5_sortAhead, m_X5_sortAhead_0, a0, bind_s, if_pos (z 0 (by omega) (by omega)), a1, bind_s, if_pos (z 1 (by omega) (by omega)), a2, bind_s, if_neg hs2]
    rfl
  · refine ⟨3, by omega, ?_, m43⟩
    have hs2 := s3 (by omega)
    rw [m_X5_sortAhead, m_X5_sortAhead_0, a0, bind_s, if_pos (z 0 (by omega) (by omega)), a1, bind_s, if_pos (z 1 (by omega) (by omega)), a2, bind_s, if_pos (z 2 (by omega) (by omega)), a3, bind_s, if_neg hs2]
    rfl
  · refine ⟨4, by omega, ?_, m43⟩
    have hs2 := s3 (by omega)
    rw [m_X5_sortAhead, m_X5_sortAhead_0, a0, bind_s, if_pos (z 0 (by omega) (by omega)), a1, bind_s, if_pos (z 1 (by omega) (by omega)), a2, bind_s, if_pos (z 2 (by omega) (by omega)), a3, bind_s, if_pos (z 3 (by omega) (by omega)), a4, bind_s, if_neg hs2]
    rfl
  · refine ⟨5, by omega, ?_, m43⟩
    have hs2 := s3 (by omega)
    rw [m_X5_sortAhead, m_X5_sortAhead_0, a0, bind_s, if_pos (z 0 (by omega) (by omega)), a1, bind_s, if_pos (z 1 (by omega) (by omega)), a2, bind_s, if_pos (z 2 (by omega) (by omega)), a3, bind_s, if_pos (z 3 (by omega) (by omega)), a4, bind_s, if_pos (z 4 (by omega) (by omega)), a5, bind_s, if_neg hs2]
    rfl
  · refine ⟨6, by omega, ?_, m43⟩
    have hs2 := s3 (by omega)
    rw [m_X5_sortAhead, m_X5_sortAhead_0, a0, bind_s, if_pos (z 0 (by omega) (by omega)), a1, bind_s, if_pos (z 1 (by omega) (by omega)), a2, bind_s, if_pos (z 2 (by omega) (by omega)), a3, bind_s, if_pos (z 3 (by omega) (by omega)), a4, bind_s, if_pos (z 4 (by omega) (by omega)), a5, bind_s, if_pos (z 5 (by omega) (by omega)), a6, bind_s, if_neg hs2]
    rfl
  · refine ⟨7, by omega, ?_, m43⟩
    skip
    rw [m_X5_sortAhead, m_X5_sortAhead_0, a0, bind_s, if_pos (z 0 (by omega) (by omega)), a1, bind_s, if_pos (z 1 (by omega) (by omega)), a2, bind_s, if_pos (z 2 (by omega) (by omega)), a3, bind_s, if_pos (z 3 (by omega) (by omega)), a4, bind_s, if_pos (z 4 (by omega) (by omega)), a5, bind_s, if_pos (z 5 (by omega) (by omega)), a6, bind_s, if_pos (z 6 (by omega) (by omega))]
    rfl
theorem q_word {n p : Nat} {f v1 : Int} {bytes tape nm : Nat → Int} (hn : n ≤ 400) (ht : tpR n bytes tape) (hp : p ≤ n) :
    ∃ len s : Nat, p + len ≤ n ∧ s ≤ 7 ∧ m_X5_lettersAhead (n : Int) (p : Int) bytes = some (len : Int) ∧ m_X5_sortAhead (n : Int) (p : Int) bytes (len : Int) = some (if s = 7 then -1 else (s : Int)) ∧ m_X11_word (n : Int) (p : Int) f tape nm v1 = m_X11_word_67 (p : Int) f nm v1 ((p + len : Nat) : Int) (s : Int) := by
  rw [m_X11_word, m_X11_word_0]
  obtain ⟨len, h1, h2, h3⟩ := q_letters hn ht hp (fun v2' => m_X11_word_41 (p : Int) f tape nm v1 v2')
  obtain ⟨s, s1, s2, s3⟩ := q_sort hn ht h1 (fun v3' => m_X11_word_67 (p : Int) f nm v1 ((p + len : Nat) : Int) v3')
  refine ⟨len, s, h1, s1, h2, s2, ?_⟩
  rw [h3, m_X11_word_41, s3]


theorem up_comm {α : Type} (f : Nat → α) {i j : Nat} (v w : α) (h : i ≠ j) : up (up f i v) j w = up (up f j w) i v := by
  funext x; unfold up
  by_cases h1 : x = i
  · by_cases h2 : x = j
    · exact absurd (h1.symm.trans h2) h
    · rw [if_neg h2, if_pos h1, if_pos h1]
  · by_cases h2 : x = j
    · rw [if_pos h2, if_neg h1, if_pos h2]
    · rw [if_neg h2, if_neg h1, if_neg h1, if_neg h2]
theorem q_X11_tick_180 {sh push : Nat → Int} {q B : Int} {s : WS} {k335 : (Nat → Int) → (Nat → Int) → Int → Int → Option (Int × (Nat → Int) × (Nat → Int) × (Nat → Int) × (Nat → Int))} (hs : sg s.1) (hz : Zf 100 s.1) (hzS : Zf 6 s.2.1) (hc : cnt s.1 100 ≤ 30) (hv : s.2.2 = 0 ∨ s.2.2 = 1) (h4 : 0 ≤ s.2.1 4 ∧ s.2.1 4 ≤ 7 * B) (hB : B ≤ 20000000) (hp : pW push) (h1 : -9999 ≤ q) (h2 : q ≤ 9999) (hsh : ∀ j, j < 100 → -1 ≤ sh j ∧ sh j ≤ 9999) :
    m_X11_tick_180 sh push q k335 FU s.1 s.2.1 s.2.2 1 = k335 (sr push sh q s 98).1 (sr push sh q s 98).2.1 (sr push sh q s 98).2.2 99 := by
  exact loop_up 98 (fun F n => m_X11_tick_180 sh push q k335 F (sr push sh q s n).1 (sr push sh q s n).2.1 (sr push sh q s n).2.2 ((n + 1 : Nat) : Int)) (fun _ => k335 (sr push sh q s 98).1 (sr push sh q s 98).2.1 (sr push sh q s 98).2.2 99) (fun F => by
    show m_X11_tick_180 _ _ _ _ (F + 1) _ _ _ _ = _
    rw [m_X11_tick_180, if_pos (by omega)]; rfl) (fun F n hn ih => by
    show m_X11_tick_180 _ _ _ _ (F + 1) _ _ _ _ = _
    obtain ⟨i1, i2, i3, i4, i5, i6, i7, i8⟩ := sr_ok (push := push) (sh := sh) (q := q) hs hz hzS hc hv n (by omega)
    have hsk := hsh (n + 1) (by omega)
    rw [sr_s n, sr1] at ih
    generalize sr push sh q s n = st at *
    obtain ⟨cur, S, v⟩ := st
    dsimp only at *
    have fb := frc_bd (p := n + 1) i1 hp h1 h2
    have em : Int.toNat (((n + 1 : Nat) : Int) - 1) = n + 1 - 1 := by omega
    have ep : Int.toNat (((n + 1 : Nat) : Int) + 1) = n + 1 + 1 := by omega
    have stay : gv cur push (sh (n + 1)) (n + 1) q = 0 → m_X11_tick_329 sh cur push S q v ((n + 1 : Nat) : Int) (m_X11_tick_180 sh push q k335 F) k335 = k335 (sr push sh q s 98).1 (sr push sh q s 98).2.1 (sr push sh q s 98).2.2 99 := by
      intro h
      rw [if_pos h] at ih
      rw [m_X11_tick_329, chkI (by omega) (by omega)]
      exact ih
    rw [m_X11_tick_180, if_neg (by omega), chkB (by omega) (by omega), tn]
    by_cases c1 : sh (n + 1) = -1
    · rw [if_pos c1]; exact stay (by unfold gv; rw [if_pos (Or.inl c1)])
    · rw [if_neg c1, chkB (by omega) (by omega)]
      by_cases c2 : cur (n + 1) = 0
      · rw [if_pos c2, chkB (by omega) (by omega), em]
        by_cases c3 : cur (n + 1 - 1) = 0
        · rw [if_pos c3, chkB (by omega) (by omega), ep]
          by_cases c4 : cur (n + 1 + 1) = 0
          · rw [if_pos c4, q_X11_flaws, bind_s]
            by_cases c5 : 28 < cnt cur 100
            · rw [if_pos c5]; exact stay (by unfold gv; rw [if_pos (Or.inr (Or.inr (Or.inr (Or.inr c5))))])
            · rw [if_neg c5, q_X11_feels i1 hp (by omega) (by omega) h1 h2, bind_s, Int.one_mul, chkB (by omega) (by omega)]
              have hgv : gv cur push (sh (n + 1)) (n + 1) q = bw (frc cur push (n + 1) q) (sh (n + 1)) := by
                unfold gv; rw [if_neg]
                rintro (h | h | h | h | h)
                · exact c1 h
                · exact h c2
                · exact h c3
                · exact h c4
                · exact c5 h
              have go : ∀ b : Int, b = 1 ∨ b = -1 → gv cur push (sh (n + 1)) (n + 1) q = b → m_X11_tick_285 sh cur push S q v ((n + 1 : Nat) : Int) b (m_X11_tick_180 sh push q k335 F) k335 = k335 (sr push sh q s 98).1 (sr push sh q s 98).2.1 (sr push sh q s 98).2.2 99 := by
                intro b hb hg
                rw [hg, if_neg (by omega)] at ih
                rw [m_X11_tick_285, if_neg (by omega), chkB (by omega) (by omega), chkB (by omega) (by omega), chkB (by omega) (by omega), show S (Int.toNat 4) = S 4 from rfl, chkJ (by omega) (by omega), chkB (by omega) (by omega), m_X11_tick_329, chkI (by omega) (by omega), show Int.toNat 4 = 4 from rfl]
                have e : up (up cur (Int.toNat (((n + 1 : Nat) : Int) + b)) 1) (Int.toNat (((n + 1 : Nat) : Int) - b)) (-1) = up (up cur (n + 1 + 1) b) (n + 1 - 1) (-b) := by
                  rcases hb with rfl | rfl
                  · rw [ep, em]
                  · rw [show Int.toNat (((n + 1 : Nat) : Int) + -1) = n + 1 - 1 by omega, show Int.toNat (((n + 1 : Nat) : Int) - -1) = n + 1 + 1 by omega, up_comm _ _ _ (by omega)]
                    rfl
                rw [e]
                exact ih
              by_cases c6 : frc cur push (n + 1) q ≤ sh (n + 1)
              · rw [if_pos c6, chkB (by omega) (by omega), chkI (by omega) (by omega)]
                by_cases c7 : -(sh (n + 1)) ≤ frc cur push (n + 1) q
                · rw [if_pos c7, m_X11_tick_285, if_pos rfl]
                  exact stay (by rw [hgv]; unfold bw; rw [if_pos c6, if_pos (by omega)])
                · rw [if_neg c7]
                  exact go (-1) (Or.inr rfl) (by rw [hgv]; unfold bw; rw [if_pos c6, if_neg (by omega)])
              · rw [if_neg c6]
                exact go 1 (Or.inl rfl) (by rw [hgv]; unfold bw; rw [if_neg c6])
          · rw [if_neg c4]; exact stay (by unfold gv; rw [if_pos (Or.inr (Or.inr (Or.inr (Or.inl c4))))])
        · rw [if_neg c3]; exact stay (by unfold gv; rw [if_pos (Or.inr (Or.inr (Or.inl c3)))])
      · rw [if_neg c2]; exact stay (by unfold gv; rw [if_pos (Or.inr (Or.inl c2))])) 98 FU 0 (by omega) (by unfold FU; omega)
theorem q_X11_tick {bl bh side more q B : Int} {lo hi sh cur push S was feel : Nat → Int} (hw : rW B cur S) (hB : B ≤ 19000000) (hp : pW push) (h1 : -9999 ≤ q) (h2 : q ≤ 9999) (hm : 0 ≤ more ∧ more ≤ 2000000000) (hh : ∀ k, k < 100 → 0 ≤ hdM bl bh lo hi side k ∧ hdM bl bh lo hi side k ≤ 9999) (hsh : ∀ j, j < 100 → -1 ≤ sh j ∧ sh j ≤ 9999) :
    ∃ was' feel', m_X11_tick bl bh lo hi sh cur was feel push S q side more = some ((tk push (fun k => hdM bl bh lo hi side k + more) sh q (cur, S)).2.2, (tk push (fun k => hdM bl bh lo hi side k + more) sh q (cur, S)).1, was', feel', (tk push (fun k => hdM bl bh lo hi side k + more) sh q (cur, S)).2.1) := by
  obtain ⟨r1, r2, r3, r4, r5⟩ := hw
  obtain ⟨w1, w2, w3, w4, w5, w6, w7, w8⟩ := wk_ok (push := push) (H := fun k => hdM bl bh lo hi side k + more) (q := q) r1 r2 r4 100 (by omega)
  obtain ⟨s1, s2, s3, s4, s5, s6, s7, s8⟩ := sr_ok (push := push) (sh := sh) (q := q) w1 w2 w3 (by omega) w8 98 (by omega)
  have hc := cnt_bd cur 100
  obtain ⟨wa, hx⟩ := q_X11_tick_79 (was := mix 100 cur was) (feel := mix 100 (fun j => cur j * frc cur push j q) feel) (k177 := fun t_cur' t_was' t_curSum' v4' v7' => m_X11_tick_177 sh t_cur' t_was' (mix 100 (fun j => cur j * frc cur push j q) feel) push t_curSum' q v4' (S (Int.toNat 0))) ⟨r1, r2, r3, r4, r5⟩ hB hp h1 h2 hm hh (fun j hj => if_pos hj) (fun j hj => if_pos hj)
  refine ⟨wa, mix 100 (fun j => cur j * frc cur push j q) feel, ?_⟩
  have t4 : 0 ≤ (wk cur push (fun k => hdM bl bh lo hi side k + more) S q 100).2.1 4 ∧ (wk cur push (fun k => hdM bl bh lo hi side k + more) S q 100).2.1 4 ≤ 7 * B := by
    rw [w7.2.2.2.2.1]; exact r5.2.2.2.2.1
  have hl := q_X11_tick_180 (sh := sh) (push := push) (q := q) (s := wk cur push (fun k => hdM bl bh lo hi side k + more) S q 100) (k335 := fun t_cur' t_curSum' v4' v7' => m_X11_tick_335 t_cur' wa (mix 100 (fun j => cur j * frc cur push j q) feel) t_curSum' q v4' (S (Int.toNat 0))) w1 w2 w3 (by omega) w8 t4 (by omega) hp h1 h2 hsh
  obtain ⟨⟨a1, a2⟩, b1, b2, b3, b4, b5⟩ := w7
  obtain ⟨t0, t1, t2, t3, t5, t6⟩ := r5
  have e0 := s7 0 (by decide)
  have e1 := s7 1 (by decide)
  have m := mul_bd (a := q) (b := (sr push sh q (wk cur push (fun k => hdM bl bh lo hi side k + more) S q 100) 98).2.1 0 - S 0) (A := 9999) (B := 30) h1 h2 (by omega) (by omega)
  rw [m_X11_tick, m_X11_tick_0, chkB (by omega) (by omega), q_X11_tick_14 r1 hp h1 h2]
  show m_X11_tick_79 _ _ _ _ _ _ _ _ _ _ _ _ _ _ = _
  refine hx.trans ?_
  show m_X11_tick_177 _ _ _ _ _ _ _ _ _ = _
  rw [m_X11_tick_177]
  refine hl.trans ?_
  show m_X11_tick_335 _ _ _ _ _ _ _ = _
  rw [m_X11_tick_335, chkB (by omega) (by omega), chkB (by omega) (by omega), show Int.toNat 0 = 0 from rfl, show Int.toNat 1 = 1 from rfl, chkJ (by omega) (by omega), chkB (by omega) (by omega)]
  rfl


/-! ===== PURE: the sources, a tick ===== -/
/-- what a source at k brings: the sign to its right, or nought -/
def gv (cur push : Nat → Int) (sh : Int) (k : Nat) (q : Int) : Int := if sh = -1 ∨ cur k ≠ 0 ∨ cur (k - 1) ≠ 0 ∨ cur (k + 1) ≠ 0 ∨ 28 < cnt cur 100 then 0 else bw (frc cur push k q) sh
def sr1 (push sh : Nat → Int) (q : Int) (k : Nat) (s : WS) : WS := if gv s.1 push (sh k) k q = 0 then s else (up (up s.1 (k + 1) (gv s.1 push (sh k) k q)) (k - 1) (-(gv s.1 push (sh k) k q)), up s.2.1 4 (s.2.1 4 + 2), 1)
/-- the state behind the sources at 1 to n -/
def sr (push sh : Nat → Int) (q : Int) (s : WS) : Nat → WS
  | 0 => s
  | n + 1 => sr1 push sh q (n + 1) (sr push sh q s n)
theorem sr_s {push sh : Nat → Int} {q : Int} {s : WS} (n : Nat) : sr push sh q s (n + 1) = sr1 push sh q (n + 1) (sr push sh q s n) := rfl
/-- a tick: cells, sums, whether anything went or came -/
def tk (push H sh : Nat → Int) (q : Int) (s : (Nat → Int) × (Nat → Int)) : WS :=
  ((sr push sh q (wk s.1 push H s.2 q 100) 98).1, up (sr push sh q (wk s.1 push H s.2 q 100) 98).2.1 1 ((sr push sh q (wk s.1 push H s.2 q 100) 98).2.1 1 + q * ((sr push sh q (wk s.1 push H s.2 q 100) 98).2.1 0 - s.2 0)), (sr push sh q (wk s.1 push H s.2 q 100) 98).2.2)
/-- a row that is well -/
def rW (B : Int) (cur S : Nat → Int) : Prop := sg cur ∧ Zf 100 cur ∧ cnt cur 100 ≤ 30 ∧ Zf 6 S ∧ sB B S
theorem gv_bd {cur push : Nat → Int} {sh : Int} {k : Nat} {q : Int} : -1 ≤ gv cur push sh k q ∧ gv cur push sh k q ≤ 1 := by
  unfold gv; split
  · omega
  · exact bw_bd _ _
theorem sr_ok {push sh : Nat → Int} {q : Int} {s : WS} (hs : sg s.1) (hz : Zf 100 s.1) (hzS : Zf 6 s.2.1) (hc : cnt s.1 100 ≤ 30) (h2 : s.2.2 = 0 ∨ s.2.2 = 1) : ∀ n : Nat, n ≤ 98 →
    sg (sr push sh q s n).1 ∧ Zf 100 (sr push sh q s n).1 ∧ Zf 6 (sr push sh q s n).2.1 ∧ cnt (sr push sh q s n).1 100 ≤ 30 ∧ ((sr push sh q s n).2.2 = 0 ∨ (sr push sh q s n).2.2 = 1) ∧ (s.2.1 4 ≤ (sr push sh q s n).2.1 4 ∧ (sr push sh q s n).2.1 4 ≤ s.2.1 4 + 2 * n) ∧ (∀ j, j ≠ 4 → (sr push sh q s n).2.1 j = s.2.1 j) ∧ (sr push sh q s n).2.2 = (if (sr push sh q s n).2.1 4 = s.2.1 4 then s.2.2 else 1) := by
  intro n
  induction n with
  | zero => intro _; exact ⟨hs, hz, hzS, hc, h2, by simp [sr], fun j _ => rfl, by rw [if_pos (show (sr push sh q s 0).2.1 4 = s.2.1 4 from rfl)]; rfl⟩
  | succ n ih =>
    intro hn
    obtain ⟨i1, i2, i3, i4, i5, i6, i7, i8⟩ := ih (by omega)
    rw [sr_s n, sr1]
    by_cases hg : gv (sr push sh q s n).1 push (sh (n + 1)) (n + 1) q = 0
    · rw [if_pos hg]
      exact ⟨i1, i2, i3, i4, i5, by omega, i7, i8⟩
    · rw [if_neg hg]
      have hb := gv_bd (cur := (sr push sh q s n).1) (push := push) (sh := sh (n + 1)) (k := n + 1) (q := q)
      have hgg : ¬ (sh (n + 1) = -1 ∨ (sr push sh q s n).1 (n + 1) ≠ 0 ∨ (sr push sh q s n).1 (n + 1 - 1) ≠ 0 ∨ (sr push sh q s n).1 (n + 1 + 1) ≠ 0 ∨ 28 < cnt (sr push sh q s n).1 100) := fun h => hg (by unfold gv; rw [if_pos h])
      have h3 : (sr push sh q s n).1 (n + 1 - 1) = 0 := by by_cases h : (sr push sh q s n).1 (n + 1 - 1) = 0; exact h; exact absurd (Or.inr (Or.inr (Or.inl h))) hgg
      have h4 : (sr push sh q s n).1 (n + 1 + 1) = 0 := by by_cases h : (sr push sh q s n).1 (n + 1 + 1) = 0; exact h; exact absurd (Or.inr (Or.inr (Or.inr (Or.inl h)))) hgg
      have h5 : cnt (sr push sh q s n).1 100 ≤ 28 := by by_cases h : 28 < cnt (sr push sh q s n).1 100; exact absurd (Or.inr (Or.inr (Or.inr (Or.inr h)))) hgg; omega
      refine ⟨sg_up (sg_up i1 hb) (by omega), Zf_up (Zf_up i2 (by omega)) (by omega), Zf_up i3 (by omega), ?_, Or.inr rfl, ?_, fun j hj => ?_, ?_⟩
      · dsimp only
        rw [cnt_up (by omega), cnt_up (by omega), up_ne _ _ (by omega), h3, h4]
        have := nz_bd (gv (sr push sh q s n).1 push (sh (n + 1)) (n + 1) q)
        have := nz_bd (-(gv (sr push sh q s n).1 push (sh (n + 1)) (n + 1) q))
        have := nz_bd 0
        rw [nz_0 (x := 0) rfl] at *
        omega
      · dsimp only; rw [up_at]; omega
      · dsimp only; rw [up_ne _ _ hj, i7 j hj]
      · dsimp only; rw [if_neg (by rw [up_at]; omega)]
theorem tk_ok {push H sh : Nat → Int} {q B : Int} {cur S : Nat → Int} (h : rW B cur S) (h1 : -9999 ≤ q) (h2 : q ≤ 9999) : rW (B + 30) (tk push H sh q (cur, S)).1 (tk push H sh q (cur, S)).2.1 ∧ ((tk push H sh q (cur, S)).2.2 = 0 ∨ (tk push H sh q (cur, S)).2.2 = 1) := by
  obtain ⟨r1, r2, r3, r4, r5⟩ := h
  obtain ⟨w1, w2, w3, w4, w5, w6, w7, w8⟩ := wk_ok (push := push) (H := H) (q := q) r1 r2 r4 100 (by omega)
  obtain ⟨s1, s2, s3, s4, s5, s6, s7, s8⟩ := sr_ok (push := push) (sh := sh) (q := q) w1 w2 w3 (by omega) w8 98 (by omega)
  have c0 := cnt_bd cur 100
  refine ⟨⟨s1, s2, s4, Zf_up s3 (by omega), ?_⟩, s5⟩
  obtain ⟨a, b, c, d, e, f⟩ := w7
  obtain ⟨b0, b1, b2, b3, b4, b5⟩ := r5
  have e0 := s7 0 (by decide)
  have e1 := s7 1 (by decide)
  have e2 := s7 2 (by decide)
  have e3 := s7 3 (by decide)
  have e5 := s7 5 (by decide)
  have m := mul_bd (a := q) (b := (sr push sh q (wk cur push H S q 100) 98).2.1 0 - S 0) (A := 9999) (B := 30) h1 h2 (by omega) (by omega)
  unfold tk
  dsimp only
  refine ⟨?_, ?_, ?_, ?_, ?_, ?_⟩
  · rw [up_ne _ _ (by decide)]; omega
  · rw [up_at]; omega
  · rw [up_ne _ _ (by decide)]; omega
  · rw [up_ne _ _ (by decide)]; omega
  · rw [up_ne _ _ (by decide)]; omega
  · rw [up_ne _ _ (by decide)]; omega

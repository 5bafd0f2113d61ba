
/-! ===== PURE: one flaw goes ===== -/
def bw (f h : Int) : Int := if f ≤ h then (if -f ≤ h then 0 else -1) else 1
theorem bw_bd (f h : Int) : -1 ≤ bw f h ∧ bw f h ≤ 1 := by unfold bw; split <;> (try split) <;> omega
/-- does it go (1) or not (0) -/
def gm (cur : Nat → Int) (k : Nat) (b : Int) : Int := if b = 0 then 0 else if 0 ≤ (k : Int) + b ∧ (k : Int) + b < 100 ∧ cur ((k : Int) + b).toNat = cur k then 0 else 1
def gc (cur : Nat → Int) (k : Nat) (b : Int) : Nat → Int := if 0 ≤ (k : Int) + b ∧ (k : Int) + b < 100 then up (up cur k 0) ((k : Int) + b).toNat (if cur ((k : Int) + b).toNat = 0 then cur k else 0) else up cur k 0
def gS1 (cur S : Nat → Int) (k : Nat) (b : Int) : Nat → Int := up (up S 0 (S 0 + b * cur k)) 5 (S 5 + 1)
def gS (cur S : Nat → Int) (k : Nat) (b : Int) : Nat → Int := if 0 ≤ (k : Int) + b ∧ (k : Int) + b < 100 then (if cur ((k : Int) + b).toNat = 0 then gS1 cur S k b else up (gS1 cur S k b) 3 (S 3 + 2)) else up (gS1 cur S k b) 2 (S 2 + 1)
def gw (cur was : Nat → Int) (k : Nat) (b : Int) : Nat → Int := if 0 ≤ (k : Int) + b ∧ (k : Int) + b < 100 ∧ cur ((k : Int) + b).toNat ≠ 0 then up was ((k : Int) + b).toNat 0 else was
/-- bounds of a row's sums -/
def sB (B : Int) (S : Nat → Int) : Prop := (-B ≤ S 0 ∧ S 0 ≤ B) ∧ (-(9999 * B) ≤ S 1 ∧ S 1 ≤ 9999 * B) ∧ (0 ≤ S 2 ∧ S 2 ≤ B) ∧ (0 ≤ S 3 ∧ S 3 ≤ 2 * B) ∧ (0 ≤ S 4 ∧ S 4 ≤ 7 * B) ∧ (0 ≤ S 5 ∧ S 5 ≤ B)
theorem q_X11_goes {cur was S : Nat → Int} {k : Nat} {b B : Int} (hs : sg cur) (hk : k < 100) (hb : -1 ≤ b ∧ b ≤ 1) (hb0 : b ≠ 0) (hB : sB B S) (hB2 : B ≤ 20000000) : m_X11_goes cur was S (k : Int) b = some (if gm cur k b = 0 then (0, cur, was, S) else (1, gc cur k b, gw cur was k b, gS cur S k b)) := by
  obtain ⟨s0, s1, s2, s3, s4, s5⟩ := hB
  have c0 := hs k
  have m0 := mul_bd (a := b) (b := cur k) (A := 1) (B := 1) hb.1 hb.2 c0.1 c0.2
  have e5 : (up S (Int.toNat 0) (S (Int.toNat 0) + b * cur k)) (Int.toNat 5) = S 5 := rfl
  have e3 : (up (up S (Int.toNat 0) (S (Int.toNat 0) + b * cur k)) (Int.toNat 5) (S 5 + 1)) (Int.toNat 3) = S 3 := rfl
  have e2 : (up (up S (Int.toNat 0) (S (Int.toNat 0) + b * cur k)) (Int.toNat 5) (S 5 + 1)) (Int.toNat 2) = S 2 := rfl
  have e0 : S (Int.toNat 0) = S 0 := rfl
  rw [m_X11_goes, m_X11_goes_0, chkB (by omega) (by omega), chkI (by omega) (by omega), tn]
  by_cases ho : 0 ≤ (k : Int) + b ∧ (k : Int) + b < 100
  · have hne : ((k : Int) + b).toNat ≠ k := by omega
    have en : (up cur k 0) ((k : Int) + b).toNat = cur ((k : Int) + b).toNat := up_ne _ _ hne
    rw [if_neg (by omega), if_pos (by omega), m_X11_goes_27, if_pos rfl, chkB (by omega) (by omega)]
    by_cases h1 : cur ((k : Int) + b).toNat = cur k
    · rw [if_pos h1, if_pos (show gm cur k b = 0 by unfold gm; rw [if_neg hb0, if_pos ⟨ho.1, ho.2, h1⟩])]
    · rw [if_neg h1, if_neg (show ¬ gm cur k b = 0 by unfold gm; rw [if_neg hb0, if_neg (fun h => h1 h.2.2)]; decide), m_X11_goes_47, chkB (by omega) (by omega), chkB (by omega) (by omega), chkI (by omega) (by omega), chkJ (by omega) (by omega), chkB (by omega) (by omega), chkB (by omega) (by omega), e5, chkJ (by omega) (by omega), chkB (by omega) (by omega), if_pos rfl, chkB (by omega) (by omega), tn, en]
      by_cases h2 : cur ((k : Int) + b).toNat = 0
      · rw [if_pos h2, chkB (by omega) (by omega)]
        unfold gc gw gS
        rw [if_pos ho, if_pos ho, if_pos h2, if_pos h2, if_neg (fun h => h.2.2 h2)]
        rfl
      · rw [if_neg h2, chkB (by omega) (by omega), chkB (by omega) (by omega), e3, chkJ (by omega) (by omega), chkB (by omega) (by omega), chkB (by omega) (by omega)]
        unfold gc gw gS
        rw [if_pos ho, if_pos ho, if_neg h2, if_neg h2, if_pos ⟨ho.1, ho.2, h2⟩]
        rfl
  · have g1 : m_X11_goes_22 cur was S (k : Int) b ((k : Int) + b) (cur k) = some (if gm cur k b = 0 then (0, cur, was, S) else (1, gc cur k b, gw cur was k b, gS cur S k b)) := by
      rw [if_neg (show ¬ gm cur k b = 0 by unfold gm; rw [if_neg hb0, if_neg (fun h => ho ⟨h.1, h.2.1⟩)]; decide), m_X11_goes_22, m_X11_goes_27, if_neg (by decide), m_X11_goes_47, chkB (by omega) (by omega), chkB (by omega) (by omega), chkI (by omega) (by omega), chkJ (by omega) (by omega), chkB (by omega) (by omega), chkB (by omega) (by omega), e5, chkJ (by omega) (by omega), chkB (by omega) (by omega), if_neg (by decide), chkB (by omega) (by omega), e2, chkJ (by omega) (by omega), chkB (by omega) (by omega), tn]
      unfold gc gw gS
      rw [if_neg ho, if_neg ho, if_neg (fun h => ho ⟨h.1, h.2.1⟩)]
      rfl
    by_cases h3 : (k : Int) + b < 0
    · rw [if_pos h3]; exact g1
    · rw [if_neg h3, if_neg (by omega)]; exact g1
theorem q_X6_signAt {cur : Nat → Int} {p : Int} : m_X6_signAt cur p = some (if 0 ≤ p ∧ p < 100 then cur p.toNat else 0) := by
  rw [m_X6_signAt, m_X6_signAt_0]
  by_cases h : 0 ≤ p ∧ p < 100
  · rw [if_neg (by omega), if_neg (by omega), chkB (by omega) (by omega), if_pos h]
  · rw [if_neg h]
    by_cases h2 : p < 0
    · rw [if_pos h2]
    · rw [if_neg h2, if_pos (by omega)]
theorem q_X6_isFree {cur : Nat → Int} {p : Int} : m_X6_isFree cur p = some (if 0 ≤ p ∧ p < 100 ∧ cur p.toNat = 0 then 1 else 0) := by
  rw [m_X6_isFree, m_X6_isFree_0]
  by_cases h2 : p < 0
  · rw [if_pos h2, if_neg (by omega)]
  · by_cases h3 : 100 ≤ p
    · rw [if_neg h2, if_pos h3, if_neg (by omega)]
    · rw [if_neg h2, if_neg h3, chkB (by omega) (by omega)]
      by_cases h4 : cur p.toNat = 0
      · rw [if_pos h4, if_pos ⟨by omega, by omega, h4⟩]
      · rw [if_neg h4, if_neg (fun h => h4 h.2.2)]
theorem q_X10_isPlace {p : Int} : m_X10_isPlace p = some (if 0 ≤ p ∧ p < 100 then 1 else 0) := by
  rw [m_X10_isPlace, m_X10_isPlace_0]
  by_cases h2 : p < 0
  · rw [if_pos h2, if_neg (by omega)]
  · by_cases h3 : 100 ≤ p
    · rw [if_neg h2, if_pos h3, if_neg (by omega)]
    · rw [if_neg h2, if_neg h3, if_pos (by omega)]
/-- the state behind one flaw's turn: cells, sums, whether it went -/
def gst (cur S : Nat → Int) (k : Nat) (b : Int) : (Nat → Int) × (Nat → Int) × Int := if cur k = 0 ∨ gm cur k b = 0 then (cur, S, 0) else (gc cur k b, gS cur S k b, 1)
theorem gc_cnt {cur : Nat → Int} {k : Nat} {b : Int} (hk : k < 100) (hb : -1 ≤ b ∧ b ≤ 1) (hb0 : b ≠ 0) (h0 : cur k ≠ 0) : cnt (gc cur k b) 100 = if 0 ≤ (k : Int) + b ∧ (k : Int) + b < 100 then (if cur ((k : Int) + b).toNat = 0 then cnt cur 100 else cnt cur 100 - 2) else cnt cur 100 - 1 := by
  unfold gc
  by_cases ho : 0 ≤ (k : Int) + b ∧ (k : Int) + b < 100
  · have hne : ((k : Int) + b).toNat ≠ k := by omega
    rw [if_pos ho, if_pos ho, cnt_up (by omega), cnt_up hk, up_ne _ _ hne, nz_0 (x := 0) rfl, nz_1 h0]
    by_cases h2 : cur ((k : Int) + b).toNat = 0
    · rw [if_pos h2, if_pos h2, nz_1 h0, nz_0 h2]; omega
    · rw [if_neg h2, if_neg h2, nz_1 h2, nz_0 (x := 0) rfl]; omega
  · rw [if_neg ho, if_neg ho, cnt_up hk, nz_0 (x := 0) rfl, nz_1 h0]; omega
theorem q_X6_go {cur S stood felt : Nat → Int} {i k : Nat} {H B : Int} (hs : sg cur) (hi : i < 30) (hst : stood i = (k : Int)) (hk : k < 100) (hf : -50000 ≤ felt i ∧ felt i ≤ 50000) (hB : sB B S) (hB2 : B ≤ 20000000) :
    m_X6_go (cnt cur 100) (S 0) (S 5) (S 2) (S 3) cur stood felt (i : Int) H = some ((gst cur S k (bw (felt i) H)).2.2, cnt (gst cur S k (bw (felt i) H)).1 100, (gst cur S k (bw (felt i) H)).2.1 0, (gst cur S k (bw (felt i) H)).2.1 5, (gst cur S k (bw (felt i) H)).2.1 2, (gst cur S k (bw (felt i) H)).2.1 3, (gst cur S k (bw (felt i) H)).1) := by
  obtain ⟨s0, s1, s2, s3, s4, s5⟩ := hB
  have c0 := hs k
  have n0 := cnt_bd cur 100
  have key : ∀ b, -1 ≤ b → b ≤ 1 → m_X6_go_50 (cnt cur 100) (S 0) (S 5) (S 2) (S 3) cur (k : Int) (cur k) b = some ((gst cur S k b).2.2, cnt (gst cur S k b).1 100, (gst cur S k b).2.1 0, (gst cur S k b).2.1 5, (gst cur S k b).2.1 2, (gst cur S k b).2.1 3, (gst cur S k b).1) := by
    intro b hb1 hb2
    have m0 := mul_bd (a := b) (b := cur k) (A := 1) (B := 1) hb1 hb2 c0.1 c0.2
    rw [m_X6_go_50]
    by_cases h0 : cur k = 0
    · rw [if_pos h0]; unfold gst; rw [if_pos (Or.inl h0)]
    · by_cases hb0 : b = 0
      · rw [if_neg h0, if_pos hb0]; unfold gst gm; rw [if_pos (Or.inr (if_pos hb0))]
      · rw [if_neg h0, if_neg hb0, chkI (by omega) (by omega), q_X6_signAt, bind_s]
        have hcn := gc_cnt hk ⟨hb1, hb2⟩ hb0 h0
        by_cases ho : 0 ≤ (k : Int) + b ∧ (k : Int) + b < 100
        · rw [if_pos ho] at hcn ⊢
          have hne : ((k : Int) + b).toNat ≠ k := by omega
          have en : (up cur k 0) ((k : Int) + b).toNat = cur ((k : Int) + b).toNat := up_ne _ _ hne
          by_cases h1 : cur ((k : Int) + b).toNat = cur k
          · rw [if_pos h1]; unfold gst; rw [if_pos (Or.inr (by unfold gm; rw [if_neg hb0, if_pos ⟨ho.1, ho.2, h1⟩]))]
          · have hg : ¬ (cur k = 0 ∨ gm cur k b = 0) := by
              intro h
              rcases h with h | h
              · exact h0 h
              · unfold gm at h; rw [if_neg hb0, if_neg (fun h => h1 h.2.2)] at h; exact absurd h (by decide)
            rw [if_neg h1, chkB (by omega) (by omega), q_X10_isPlace, bind_s, if_pos ho, if_neg (by decide), chkB (by omega) (by omega), tn, en]
            unfold gst
            rw [if_neg hg]
            dsimp only
            rw [hcn]
            by_cases h2 : cur ((k : Int) + b).toNat = 0
            · rw [if_pos h2, if_pos h2, chkB (by omega) (by omega), m_X6_go_171, chkI (by omega) (by omega), chkI (by omega) (by omega)]
              unfold gc gS
              rw [if_pos ho, if_pos ho, if_pos h2, if_pos h2]
              rfl
            · rw [if_neg h2, if_neg h2, chkB (by omega) (by omega), chkI (by omega) (by omega), chkI (by omega) (by omega), m_X6_go_171, chkI (by omega) (by omega), chkI (by omega) (by omega)]
              unfold gc gS
              rw [if_pos ho, if_pos ho, if_neg h2, if_neg h2]
              rfl
        · rw [if_neg ho] at hcn ⊢
          have hg : ¬ (cur k = 0 ∨ gm cur k b = 0) := by
            intro h
            rcases h with h | h
            · exact h0 h
            · unfold gm at h; rw [if_neg hb0, if_neg (fun h => ho ⟨h.1, h.2.1⟩)] at h; exact absurd h (by decide)
          rw [if_neg (fun h => h0 h.symm), chkB (by omega) (by omega), q_X10_isPlace, bind_s, if_neg ho, if_pos rfl, chkI (by omega) (by omega), chkI (by omega) (by omega), m_X6_go_171, chkI (by omega) (by omega), chkI (by omega) (by omega), tn]
          unfold gst
          rw [if_neg hg]
          dsimp only
          rw [hcn]
          unfold gc gS
          rw [if_neg ho, if_neg ho]
          rfl
  have hsn : m_X6_signAt cur (stood (Int.toNat (i : Int))) = some (cur k) := by
    rw [q_X6_signAt, tn, hst, if_pos (by omega), tn]
  rw [m_X6_go, m_X6_go_0, chkB (by omega) (by omega), hsn, bind_s, chkB (by omega) (by omega), tn, hst]
  by_cases h1 : felt i ≤ H
  · rw [if_pos h1, chkB (by omega) (by omega), chkI (by omega) (by omega)]
    by_cases h2 : -felt i ≤ H
    · rw [if_pos h2, show bw (felt i) H = 0 by unfold bw; rw [if_pos h1, if_pos h2]]
      exact key 0 (by omega) (by omega)
    · rw [if_neg h2, show bw (felt i) H = -1 by unfold bw; rw [if_pos h1, if_neg h2]]
      exact key (-1) (by omega) (by omega)
  · rw [if_neg h1, show bw (felt i) H = 1 by unfold bw; rw [if_neg h1]]
    exact key 1 (by omega) (by omega)

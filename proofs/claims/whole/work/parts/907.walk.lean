
/-! ===== PURE: all flaws go in their turn ===== -/
abbrev WS : Type := (Nat → Int) × (Nat → Int) × Int
def wk1 (og push H : Nat → Int) (q : Int) (k : Nat) (s : WS) : WS := if og k = 0 then s else ((gst s.1 s.2.1 k (bw (og k * frc og push k q) (H k))).1, (gst s.1 s.2.1 k (bw (og k * frc og push k q) (H k))).2.1, if (gst s.1 s.2.1 k (bw (og k * frc og push k q) (H k))).2.2 = 0 then s.2.2 else 1)
def wk (og push H S : Nat → Int) (q : Int) : Nat → WS
  | 0 => (og, S, 0)
  | k + 1 => wk1 og push H q k (wk og push H S q k)
theorem wk_s {og push H S : Nat → Int} {q : Int} (k : Nat) : wk og push H S q (k + 1) = wk1 og push H q k (wk og push H S q k) := rfl
/-- sums a little on: d goings more -/
def sG (S T : Nat → Int) (d : Int) : Prop := (S 0 - d ≤ T 0 ∧ T 0 ≤ S 0 + d) ∧ T 1 = S 1 ∧ (S 2 ≤ T 2 ∧ T 2 ≤ S 2 + d) ∧ (S 3 ≤ T 3 ∧ T 3 ≤ S 3 + 2 * d) ∧ T 4 = S 4 ∧ (S 5 ≤ T 5 ∧ T 5 ≤ S 5 + d)
theorem sG_sB {S T : Nat → Int} {d B : Int} (h : sG S T d) (hB : sB B S) (hd : 0 ≤ d) : sB (B + d) T := by
  obtain ⟨a, b, c, e, f, g⟩ := h
  obtain ⟨s0, s1, s2, s3, s4, s5⟩ := hB
  refine ⟨?_, ?_, ?_, ?_, ?_, ?_⟩ <;> omega
theorem sG_refl {S : Nat → Int} {d : Int} (hd : 0 ≤ d) : sG S S d := by
  refine ⟨?_, rfl, ?_, ?_, rfl, ?_⟩ <;> omega
/-- what one turn keeps -/
theorem gst_ok {cur S : Nat → Int} {k : Nat} {b : Int} (hs : sg cur) (hz : Zf 100 cur) (hzS : Zf 6 S) (hk : k < 100) (hb : -1 ≤ b ∧ b ≤ 1) :
    sg (gst cur S k b).1 ∧ Zf 100 (gst cur S k b).1 ∧ Zf 6 (gst cur S k b).2.1 ∧ cnt (gst cur S k b).1 100 ≤ cnt cur 100 ∧ (∀ j, k + 1 < j → (gst cur S k b).1 j = cur j) ∧ ((gst cur S k b).1 (k + 1) = cur (k + 1) ∨ cur (k + 1) = 0 ∨ (gst cur S k b).1 (k + 1) = 0) ∧ sG S (gst cur S k b).2.1 1 ∧ ((gst cur S k b).2.2 = 0 ∨ (gst cur S k b).2.2 = 1) := by
  unfold gst
  split
  · exact ⟨hs, hz, hzS, Int.le_refl _, fun j _ => rfl, Or.inl rfl, sG_refl (by omega), Or.inl rfl⟩
  · rename_i hg
    have h0 : cur k ≠ 0 := fun h => hg (Or.inl h)
    have hb0 : b ≠ 0 := fun h => hg (Or.inr (by unfold gm; rw [if_pos h]))
    have hcn := gc_cnt hk hb hb0 h0
    have c0 := hs k
    have m0 := mul_bd (a := b) (b := cur k) (A := 1) (B := 1) hb.1 hb.2 c0.1 c0.2
    have z1 : Zf 6 (gS1 cur S k b) := Zf_up (Zf_up hzS (by omega)) (by omega)
    have g0 : (gS1 cur S k b) 0 = S 0 + b * cur k := rfl
    have g1 : (gS1 cur S k b) 1 = S 1 := rfl
    have g2 : (gS1 cur S k b) 2 = S 2 := rfl
    have g3 : (gS1 cur S k b) 3 = S 3 := rfl
    have g4 : (gS1 cur S k b) 4 = S 4 := rfl
    have g5 : (gS1 cur S k b) 5 = S 5 + 1 := rfl
    by_cases ho : 0 ≤ (k : Int) + b ∧ (k : Int) + b < 100
    · rw [if_pos ho] at hcn
      by_cases h2 : cur ((k : Int) + b).toNat = 0
      · rw [if_pos h2] at hcn
        refine ⟨?_, ?_, ?_, by dsimp only; omega, ?_, ?_, ?_, Or.inr rfl⟩
        · show sg (gc cur k b); unfold gc; rw [if_pos ho, if_pos h2]; exact sg_up (sg_up hs (by omega)) c0
        · show Zf 100 (gc cur k b); unfold gc; rw [if_pos ho]; exact Zf_up (Zf_up hz hk) (by omega)
        · show Zf 6 (gS cur S k b); unfold gS; rw [if_pos ho, if_pos h2]; exact z1
        · intro j hj; show gc cur k b j = cur j; unfold gc; rw [if_pos ho, up_ne _ _ (by omega), up_ne _ _ (by omega)]
        · show gc cur k b (k + 1) = _ ∨ _ ∨ gc cur k b (k + 1) = _
          by_cases h3 : ((k : Int) + b).toNat = k + 1
          · rw [h3] at h2; exact Or.inr (Or.inl h2)
          · refine Or.inl ?_; unfold gc; rw [if_pos ho, up_ne _ _ (by omega), up_ne _ _ (by omega)]
        · show sG S (gS cur S k b) 1; unfold gS; rw [if_pos ho, if_pos h2]; unfold sG; rw [g0, g1, g2, g3, g4, g5]; omega
      · rw [if_neg h2] at hcn
        refine ⟨?_, ?_, ?_, by dsimp only; omega, ?_, ?_, ?_, Or.inr rfl⟩
        · show sg (gc cur k b); unfold gc; rw [if_pos ho, if_neg h2]; exact sg_up (sg_up hs (by omega)) (by omega)
        · show Zf 100 (gc cur k b); unfold gc; rw [if_pos ho]; exact Zf_up (Zf_up hz hk) (by omega)
        · show Zf 6 (gS cur S k b); unfold gS; rw [if_pos ho, if_neg h2]; exact Zf_up z1 (by omega)
        · intro j hj; show gc cur k b j = cur j; unfold gc; rw [if_pos ho, up_ne _ _ (by omega), up_ne _ _ (by omega)]
        · show gc cur k b (k + 1) = _ ∨ _ ∨ gc cur k b (k + 1) = _
          by_cases h3 : ((k : Int) + b).toNat = k + 1
          · refine Or.inr (Or.inr ?_); unfold gc; rw [if_pos ho, if_neg h2, h3, up_at]
          · refine Or.inl ?_; unfold gc; rw [if_pos ho, up_ne _ _ (by omega), up_ne _ _ (by omega)]
        · show sG S (gS cur S k b) 1; unfold gS; rw [if_pos ho, if_neg h2]; unfold sG
          rw [up_ne _ _ (by decide), up_ne _ _ (by decide), up_ne _ _ (by decide), up_at, up_ne _ _ (by decide), up_ne _ _ (by decide), g0, g1, g2, g4, g5]; omega
    · rw [if_neg ho] at hcn
      refine ⟨?_, ?_, ?_, by dsimp only; omega, ?_, ?_, ?_, Or.inr rfl⟩
      · show sg (gc cur k b); unfold gc; rw [if_neg ho]; exact sg_up hs (by omega)
      · show Zf 100 (gc cur k b); unfold gc; rw [if_neg ho]; exact Zf_up hz hk
      · show Zf 6 (gS cur S k b); unfold gS; rw [if_neg ho]; exact Zf_up z1 (by omega)
      · intro j hj; show gc cur k b j = cur j; unfold gc; rw [if_neg ho, up_ne _ _ (by omega)]
      · refine Or.inl ?_; show gc cur k b (k + 1) = _; unfold gc; rw [if_neg ho, up_ne _ _ (by omega)]
      · show sG S (gS cur S k b) 1; unfold gS; rw [if_neg ho]; unfold sG
        rw [up_ne _ _ (by decide), up_ne _ _ (by decide), up_at, up_ne _ _ (by decide), up_ne _ _ (by decide), up_ne _ _ (by decide), g0, g1, g3, g4, g5]; omega
theorem wk_ok {og push H S : Nat → Int} {q : Int} (hs : sg og) (hz : Zf 100 og) (hzS : Zf 6 S) : ∀ k, k ≤ 100 →
    sg (wk og push H S q k).1 ∧ Zf 100 (wk og push H S q k).1 ∧ Zf 6 (wk og push H S q k).2.1 ∧ cnt (wk og push H S q k).1 100 ≤ cnt og 100 ∧ (∀ j, k < j → (wk og push H S q k).1 j = og j) ∧ (og k ≠ 0 → (wk og push H S q k).1 k = og k ∨ (wk og push H S q k).1 k = 0) ∧ sG S (wk og push H S q k).2.1 (cnt og k) ∧ ((wk og push H S q k).2.2 = 0 ∨ (wk og push H S q k).2.2 = 1) := by
  intro k
  induction k with
  | zero =>
    intro _
    exact ⟨hs, hz, hzS, Int.le_refl _, fun j _ => rfl, fun _ => Or.inl rfl, sG_refl (by rw [cnt_z]; omega), Or.inl rfl⟩
  | succ k ih =>
    intro hk
    obtain ⟨i1, i2, i3, i4, i5, i6, i7, i8⟩ := ih (by omega)
    rw [wk_s, wk1, cnt_s og k]
    by_cases h0 : og k = 0
    · rw [if_pos h0, nz_0 h0, Int.add_zero]
      refine ⟨i1, i2, i3, i4, fun j hj => i5 j (by omega), fun _ => Or.inl (i5 _ (by omega)), i7, i8⟩
    · rw [if_neg h0, nz_1 h0]
      obtain ⟨g1, g2, g3, g4, g5, g6, g7, g8⟩ := gst_ok (k := k) (b := bw (og k * frc og push k q) (H k)) i1 i2 i3 (by omega) (bw_bd _ _)
      refine ⟨g1, g2, g3, by dsimp only; omega, fun j hj => ?_, fun hh => ?_, ?_, ?_⟩
      · dsimp only; rw [g5 j (by omega), i5 j (by omega)]
      · dsimp only
        have := i5 (k + 1) (by omega)
        rcases g6 with h | h | h
        · exact Or.inl (h.trans this)
        · exact absurd (this.symm.trans h) hh
        · exact Or.inr h
      · dsimp only
        obtain ⟨a, b, c, d, e, f⟩ := i7
        obtain ⟨a', b', c', d', e', f'⟩ := g7
        refine ⟨?_, ?_, ?_, ?_, ?_, ?_⟩ <;> omega
      · dsimp only
        split
        · exact i8
        · exact Or.inr rfl

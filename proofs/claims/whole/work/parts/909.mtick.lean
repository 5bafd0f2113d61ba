
/-! ===== PURE: the model's tick ===== -/
theorem loop_p (N : Nat) (P : Nat → Nat → Prop) (he : ∀ F, P (F + 1) N) (hs : ∀ F i, i < N → P F (i + 1) → P (F + 1) (i + 1) → P (F + 1) i) : ∀ n F i, i + n = N → n < F → P F i := by
  intro n
  induction n with
  | zero =>
    intro F i hi hF
    obtain ⟨G, rfl⟩ : ∃ G, F = G + 1 := ⟨F - 1, by omega⟩
    obtain rfl : i = N := by omega
    exact he G
  | succ n ih =>
    intro F i hi hF
    obtain ⟨G, rfl⟩ : ∃ G, F = G + 1 := ⟨F - 1, by omega⟩
    exact hs G i (by omega) (ih G (i + 1) (by omega) (by omega)) (ih (G + 1) (i + 1) (by omega) (by omega))
def hdM (bl bh : Int) (lo hi : Nat → Int) (side : Int) (k : Nat) : Int := if side = 0 then (if lo k = -1 then bl else lo k) else (if lo k = -1 then bh else hi k)
theorem q_X11_holdAt {bl bh side : Int} {lo hi : Nat → Int} {k : Nat} (hk : k < 100) : m_X11_holdAt bl bh lo hi (k : Int) side = some (hdM bl bh lo hi side k) := by
  rw [m_X11_holdAt, m_X11_holdAt_0, chkB (by omega) (by omega), tn]
  unfold hdM
  by_cases h1 : lo k = -1
  · rw [if_pos h1, m_X11_holdAt_23, chkB (by omega) (by omega), tn, if_pos h1, m_X11_holdAt_47, if_pos h1, if_pos h1]
    by_cases h2 : side = 0
    · rw [if_pos h2, if_pos h2]
    · rw [if_neg h2, if_neg h2]
  · rw [if_neg h1, chkB (by omega) (by omega), m_X11_holdAt_23, chkB (by omega) (by omega), tn, if_neg h1, chkB (by omega) (by omega), m_X11_holdAt_47, if_neg h1, if_neg h1]
    by_cases h2 : side = 0
    · rw [if_pos h2, if_pos h2]
    · rw [if_neg h2, if_neg h2]
theorem q_X11_tick_14 {cur push was feel : Nat → Int} {q : Int} {k76 : (Nat → Int) → (Nat → Int) → Int → Option (Int × (Nat → Int) × (Nat → Int) × (Nat → Int) × (Nat → Int))} (hs : sg cur) (hp : pW push) (h1 : -9999 ≤ q) (h2 : q ≤ 9999) :
    m_X11_tick_14 cur push q k76 FU was feel 0 = k76 (mix 100 cur was) (mix 100 (fun j => cur j * frc cur push j q) feel) 100 := by
  have key := loop_up 100 (fun F i => m_X11_tick_14 cur push q k76 F (mix i cur was) (mix i (fun j => cur j * frc cur push j q) feel) (i : Int)) (fun _ => k76 (mix 100 cur was) (mix 100 (fun j => cur j * frc cur push j q) feel) 100) (fun F => by
    show m_X11_tick_14 _ _ _ _ (F + 1) _ _ _ = _
    rw [m_X11_tick_14, if_pos (by omega)]; rfl) (fun F i hi ih => by
    show m_X11_tick_14 _ _ _ _ (F + 1) _ _ _ = _
    have e := mix_s (n := i) (f := fun j => cur j * frc cur push j q) (g := feel)
    rw [m_X11_tick_14, if_neg (by omega), chkB (by omega) (by omega), chkB (by omega) (by omega), chkB (by omega) (by omega), tn, mix_s]
    by_cases c : cur i = 0
    · rw [if_pos c, m_X11_tick_69, chkB (by omega) (by omega), chkI (by omega) (by omega), tn]
      rw [c, Int.zero_mul] at e
      rw [e]; exact ih
    · rw [if_neg c, chkB (by omega) (by omega), q_X11_feels hs hp hi (hs i) h1 h2, bind_s, m_X11_tick_69, chkB (by omega) (by omega), chkI (by omega) (by omega), tn, e]
      exact ih) 100 FU 0 (by omega) (by unfold FU; omega)
  rw [mix_z, mix_z] at key
  exact key
theorem q_X11_tick_79 {bl bh side more q B : Int} {lo hi og push S was feel : Nat → Int} {k177 : (Nat → Int) → (Nat → Int) → (Nat → Int) → Int → Int → Option (Int × (Nat → Int) × (Nat → Int) × (Nat → Int) × (Nat → Int))} (hw : rW B og S) (hB : B ≤ 19000000) (hp : pW push) (h1 : -9999 ≤ q) (h2 : q ≤ 9999) (hm : 0 ≤ more ∧ more ≤ 2000000000) (hh : ∀ k, k < 100 → 0 ≤ hdM bl bh lo hi side k ∧ hdM bl bh lo hi side k ≤ 9999)
    (hwas : ∀ j, j < 100 → was j = og j) (hfe : ∀ j, j < 100 → feel j = og j * frc og push j q) : ∃ was', m_X11_tick_79 bl bh lo hi feel side more k177 FU og was S 0 0 = k177 (wk og push (fun k => hdM bl bh lo hi side k + more) S q 100).1 was' (wk og push (fun k => hdM bl bh lo hi side k + more) S q 100).2.1 (wk og push (fun k => hdM bl bh lo hi side k + more) S q 100).2.2 100 := by
  obtain ⟨r1, r2, r3, r4, r5⟩ := hw
  have hB0 : 0 ≤ B := by have := r5.1; omega
  have key := loop_p 100 (fun F i => ∀ was, (∀ j, i < j → j < 100 → was j = og j) → (i < 100 → (was i = 0 ↔ (og i = 0 ∨ (wk og push (fun k => hdM bl bh lo hi side k + more) S q i).1 i = 0))) → ∃ was', m_X11_tick_79 bl bh lo hi feel side more k177 F (wk og push (fun k => hdM bl bh lo hi side k + more) S q i).1 was (wk og push (fun k => hdM bl bh lo hi side k + more) S q i).2.1 (wk og push (fun k => hdM bl bh lo hi side k + more) S q i).2.2 (i : Int) = k177 (wk og push (fun k => hdM bl bh lo hi side k + more) S q 100).1 was' (wk og push (fun k => hdM bl bh lo hi side k + more) S q 100).2.1 (wk og push (fun k => hdM bl bh lo hi side k + more) S q 100).2.2 100) (fun F was _ _ => ⟨was, by
    rw [m_X11_tick_79, if_pos (by omega)]; rfl⟩) (fun F i hi' ih _ was hw1 hw2 => by
    have hw2 := hw2 hi'
    obtain ⟨i1, i2, i3, i4, i5, i6, i7, i8⟩ := wk_ok (push := push) (H := fun k => hdM bl bh lo hi side k + more) (q := q) r1 r2 r4 i (by omega)
    have hBi := sG_sB i7 r5 (cnt_bd og i).1
    have hci := cnt_mono (f := og) (show i ≤ 100 by omega)
    have hi1 := i5 (i + 1) (by omega)
    rw [m_X11_tick_79, if_neg (by omega), chkB (by omega) (by omega), tn]
    by_cases c0 : was i = 0
    · have e : wk og push (fun k => hdM bl bh lo hi side k + more) S q (i + 1) = wk og push (fun k => hdM bl bh lo hi side k + more) S q i := by
        rw [wk_s i, wk1]
        rcases hw2.mp c0 with h | h
        · rw [if_pos h]
        · by_cases h3 : og i = 0
          · rw [if_pos h3]
          · rw [if_neg h3]; unfold gst; rw [if_pos (Or.inl h)]; rw [if_pos rfl]
      rw [if_pos c0, m_X11_tick_171, chkI (by omega) (by omega)]
      obtain ⟨was', hx⟩ := ih was (fun j hj hj2 => hw1 j (by omega) hj2) (fun h3 => by rw [hw1 (i + 1) (by omega) h3, e, hi1]; exact ⟨Or.inl, fun h => h.elim id id⟩)
      refine ⟨was', ?_⟩
      rw [e] at hx
      exact hx
    · have hog : og i ≠ 0 := fun h => c0 (hw2.mpr (Or.inl h))
      have hcu : (wk og push (fun k => hdM bl bh lo hi side k + more) S q i).1 i ≠ 0 := fun h => c0 (hw2.mpr (Or.inr h))
      have f1 := frc_bd (p := i) r1 hp h1 h2
      have f2 := r1 i
      have f3 := mul_bd (a := og i) (b := frc og push i q) (A := 1) (B := 50000) f2.1 f2.2 f1.1 f1.2
      have hhi := hh i hi'
      rw [if_neg c0, q_X11_holdAt hi', bind_s, chkB (by omega) (by omega), chkI (by omega) (by omega), hfe i hi']
      have step : ∀ b, -1 ≤ b → b ≤ 1 → b = bw (og i * frc og push i q) (hdM bl bh lo hi side i + more) → ∃ was', m_X11_tick_141 bl bh lo hi (wk og push (fun k => hdM bl bh lo hi side k + more) S q i).1 was feel (wk og push (fun k => hdM bl bh lo hi side k + more) S q i).2.1 side more (wk og push (fun k => hdM bl bh lo hi side k + more) S q i).2.2 (i : Int) b (m_X11_tick_79 bl bh lo hi feel side more k177 F) k177 = k177 (wk og push (fun k => hdM bl bh lo hi side k + more) S q 100).1 was' (wk og push (fun k => hdM bl bh lo hi side k + more) S q 100).2.1 (wk og push (fun k => hdM bl bh lo hi side k + more) S q 100).2.2 100 := by
        intro b hb1 hb2 hb
        have e : wk og push (fun k => hdM bl bh lo hi side k + more) S q (i + 1) = ((gst (wk og push (fun k => hdM bl bh lo hi side k + more) S q i).1 (wk og push (fun k => hdM bl bh lo hi side k + more) S q i).2.1 i b).1, (gst (wk og push (fun k => hdM bl bh lo hi side k + more) S q i).1 (wk og push (fun k => hdM bl bh lo hi side k + more) S q i).2.1 i b).2.1, if (gst (wk og push (fun k => hdM bl bh lo hi side k + more) S q i).1 (wk og push (fun k => hdM bl bh lo hi side k + more) S q i).2.1 i b).2.2 = 0 then (wk og push (fun k => hdM bl bh lo hi side k + more) S q i).2.2 else 1) := by
          rw [wk_s i, wk1, if_neg hog, ← hb]
        obtain ⟨g1, g2, g3, g4, g5, g6, g7, g8⟩ := gst_ok (k := i) (b := b) i1 i2 i3 hi' ⟨hb1, hb2⟩
        -- the next turn, for any was that fits
        have nxt : ∀ was2 : Nat → Int, (∀ j, i + 1 < j → j < 100 → was2 j = og j) → (i + 1 < 100 → (was2 (i + 1) = 0 ↔ (og (i + 1) = 0 ∨ (gst (wk og push (fun k => hdM bl bh lo hi side k + more) S q i).1 (wk og push (fun k => hdM bl bh lo hi side k + more) S q i).2.1 i b).1 (i + 1) = 0))) → ∀ v, v = (if (gst (wk og push (fun k => hdM bl bh lo hi side k + more) S q i).1 (wk og push (fun k => hdM bl bh lo hi side k + more) S q i).2.1 i b).2.2 = 0 then (wk og push (fun k => hdM bl bh lo hi side k + more) S q i).2.2 else 1) → ∃ was', m_X11_tick_171 bl bh lo hi (gst (wk og push (fun k => hdM bl bh lo hi side k + more) S q i).1 (wk og push (fun k => hdM bl bh lo hi side k + more) S q i).2.1 i b).1 was2 feel (gst (wk og push (fun k => hdM bl bh lo hi side k + more) S q i).1 (wk og push (fun k => hdM bl bh lo hi side k + more) S q i).2.1 i b).2.1 side more v (i : Int) (m_X11_tick_79 bl bh lo hi feel side more k177 F) k177 = k177 (wk og push (fun k => hdM bl bh lo hi side k + more) S q 100).1 was' (wk og push (fun k => hdM bl bh lo hi side k + more) S q 100).2.1 (wk og push (fun k => hdM bl bh lo hi side k + more) S q 100).2.2 100 := by
          intro was2 q1 q2 v hv
          rw [e] at ih
          obtain ⟨was', hx⟩ := ih was2 q1 q2
          refine ⟨was', ?_⟩
          rw [m_X11_tick_171, chkI (by omega) (by omega), hv]
          exact hx
        have t159 : ∀ v, (v = 0 ∨ v = 1) → ∀ cu wa su, m_X11_tick_159 bl bh lo hi cu wa feel su side more v (i : Int) (m_X11_tick_79 bl bh lo hi feel side more k177 F) k177 = m_X11_tick_171 bl bh lo hi cu wa feel su side more v (i : Int) (m_X11_tick_79 bl bh lo hi feel side more k177 F) k177 := by
          intro v hv cu wa su
          rw [m_X11_tick_159]
          rcases hv with hv | hv
          · rw [if_pos hv, m_X11_tick_169, hv]
          · rw [if_neg (by omega), m_X11_tick_164, m_X11_tick_169, hv]
        have stay : gm (wk og push (fun k => hdM bl bh lo hi side k + more) S q i).1 i b = 0 → gst (wk og push (fun k => hdM bl bh lo hi side k + more) S q i).1 (wk og push (fun k => hdM bl bh lo hi side k + more) S q i).2.1 i b = ((wk og push (fun k => hdM bl bh lo hi side k + more) S q i).1, (wk og push (fun k => hdM bl bh lo hi side k + more) S q i).2.1, 0) := fun h => by unfold gst; rw [if_pos (Or.inr h)]
        have same : gm (wk og push (fun k => hdM bl bh lo hi side k + more) S q i).1 i b = 0 → ∃ was', m_X11_tick_171 bl bh lo hi (wk og push (fun k => hdM bl bh lo hi side k + more) S q i).1 was feel (wk og push (fun k => hdM bl bh lo hi side k + more) S q i).2.1 side more (wk og push (fun k => hdM bl bh lo hi side k + more) S q i).2.2 (i : Int) (m_X11_tick_79 bl bh lo hi feel side more k177 F) k177 = k177 (wk og push (fun k => hdM bl bh lo hi side k + more) S q 100).1 was' (wk og push (fun k => hdM bl bh lo hi side k + more) S q 100).2.1 (wk og push (fun k => hdM bl bh lo hi side k + more) S q 100).2.2 100 := by
          intro h
          rw [stay h] at nxt
          exact nxt was (fun j hj hj2 => hw1 j (by omega) hj2) (fun h3 => by rw [hw1 (i + 1) (by omega) h3, hi1]; exact ⟨Or.inl, fun h => h.elim id id⟩) _ (by rw [if_pos rfl])
        rw [m_X11_tick_141]
        by_cases hb0 : b = 0
        · rw [if_pos hb0, t159 _ i8]
          exact same (by unfold gm; rw [if_pos hb0])
        · rw [if_neg hb0, q_X11_goes i1 hi' ⟨hb1, hb2⟩ hb0 hBi (by omega), bind_s]
          by_cases hg : gm (wk og push (fun k => hdM bl bh lo hi side k + more) S q i).1 i b = 0
          · rw [if_pos hg, if_pos rfl, t159 _ i8]
            exact same hg
          · have eg : gst (wk og push (fun k => hdM bl bh lo hi side k + more) S q i).1 (wk og push (fun k => hdM bl bh lo hi side k + more) S q i).2.1 i b = (gc (wk og push (fun k => hdM bl bh lo hi side k + more) S q i).1 i b, gS (wk og push (fun k => hdM bl bh lo hi side k + more) S q i).1 (wk og push (fun k => hdM bl bh lo hi side k + more) S q i).2.1 i b, 1) := by unfold gst; rw [if_neg (fun h => h.elim hcu hg)]
            rw [if_neg hg, if_neg (show ¬(1 : Int) = 0 by decide), m_X11_tick_164, m_X11_tick_169]
            rw [eg] at nxt
            refine nxt _ (fun j hj hj2 => ?_) (fun h3 => ?_) 1 (by rw [if_neg (show ¬(1 : Int) = 0 by decide)])
            · dsimp only
              unfold gw
              split
              · rw [up_ne _ _ (by omega)]; exact hw1 j (by omega) hj2
              · exact hw1 j (by omega) hj2
            · have hwi := hw1 (i + 1) (by omega) h3
              dsimp only
              unfold gw gc
              by_cases ho : 0 ≤ (i : Int) + b ∧ (i : Int) + b < 100
              · rw [if_pos ho]
                by_cases ht : ((i : Int) + b).toNat = i + 1
                · rw [ht, up_at, hi1]
                  by_cases hz : og (i + 1) = 0
                  · rw [if_neg (fun h => h.2.2 hz), hwi]; exact ⟨Or.inl, fun _ => hz⟩
                  · rw [if_pos ⟨ho.1, ho.2, hz⟩, up_at, if_neg hz]; exact ⟨fun _ => Or.inr rfl, fun _ => rfl⟩
                · rw [up_ne _ _ (fun h => ht h.symm), up_ne _ _ (by omega), hi1]
                  have e3 : (if 0 ≤ (i : Int) + b ∧ (i : Int) + b < 100 ∧ (wk og push (fun k => hdM bl bh lo hi side k + more) S q i).1 ((i : Int) + b).toNat ≠ 0 then up was ((i : Int) + b).toNat 0 else was) (i + 1) = og (i + 1) := by
                    split
                    · rw [up_ne _ _ (fun h => ht h.symm), hwi]
                    · exact hwi
                  rw [e3]; exact ⟨Or.inl, fun h => h.elim id id⟩
              · rw [if_neg ho, if_neg (fun h => ho ⟨h.1, h.2.1⟩), up_ne _ _ (by omega), hwi, hi1]; exact ⟨Or.inl, fun h => h.elim id id⟩
      by_cases c1 : og i * frc og push i q ≤ hdM bl bh lo hi side i + more
      · rw [if_pos c1, chkB (by omega) (by omega), chkI (by omega) (by omega)]
        by_cases c2 : -(og i * frc og push i q) ≤ hdM bl bh lo hi side i + more
        · rw [if_pos c2]; exact step 0 (by omega) (by omega) (by unfold bw; rw [if_pos c1, if_pos c2])
        · rw [if_neg c2]; exact step (-1) (by omega) (by omega) (by unfold bw; rw [if_pos c1, if_neg c2])
      · rw [if_neg c1]; exact step 1 (by omega) (by omega) (by unfold bw; rw [if_neg c1])) 100 FU 0 (by omega) (by unfold FU; omega) was (fun j _ hj => hwas j hj) (fun _ => by rw [hwas 0 (by omega)]; exact ⟨Or.inl, fun h => h.elim id id⟩)
  exact key


/-! ===== PURE: least, what is least worth ===== -/
theorem q_worthOne {n g : Nat} {smany : Int} {SX SY SZ sx sy sz many2 way : Nat → Int} (hn : n ≤ 8) (hg0 : 0 < g) (hg : g < 2 ^ n) (hb : bd3 792 (SX g) (SY g) (SZ g)) (h : RWy smany sx sy sz (many2 0) way 0) :
    ∃ r, m_X9_worthAsOne 16 ((2 ^ n : Nat) : Int) SX SY SZ smany sx sy sz (g : Int) = some r ∧ m_X11_costOf_133 many2 way (SX g) (SY g) (SZ g) (bsum (fun _ => 1) g n) = some r ∧ -1 ≤ r ∧ r ≤ 2000000 ∧ (rs g = 0 → 0 ≤ r) := by
  have h2 := p2_bd hn
  have hd := bdec_c ⟨g, by omega⟩ (by dsimp only; omega)
  have h1 := bone_c ⟨n, by omega⟩ ⟨g, by omega⟩ (by dsimp only; omega) hg
  dsimp only at hd h1
  have hs := sq3_bd hb
  have hsq : m_X11_costOf_167 (SX g) (SY g) (SZ g) = some (sq3 (SX g) (SY g) (SZ g)) := by
    rw [m_X11_costOf_167, m_X11_costOf_172, if_neg ne10, q_X11_square hb (by omega), bind_s]
  have hbig : bd3 1000000 (SX g) (SY g) (SZ g) := by unfold bd3 at *; omega
  obtain ⟨e, e1, e2, e3⟩ := q_X11_isStep h hbig
  obtain ⟨m, rfl, m2, m3, m4⟩ := h
  obtain ⟨w, v1, v2, v3⟩ := q_haveEitherWay (N := 16) (n := m) (xs := sx) (ys := sy) (zs := sz) m3 (by omega) hbig
  have hew : e = w := by
    have hiff : e = 1 ↔ w = 1 := by
      rw [e3, v3]
      exact ⟨fun ⟨n', a1, a2⟩ => by rwa [show m = n' by omega], fun a => ⟨m, rfl, a⟩⟩
    omega
  subst hew
  rw [m_X9_worthAsOne, m_X9_worthAsOne_0, q_worthOf (by omega) hg hb (by omega), bind_s, hd, m_X11_costOf_133]
  by_cases c1 : rs g = 0
  · rw [if_pos (show ((rs g : Nat) : Int) = 0 by omega), m_X9_worthAsOne_22, if_neg ne10, if_pos (h1.mpr c1), hsq]
    exact ⟨_, rfl, rfl, by omega, by omega, fun _ => hs.1⟩
  · rw [if_neg (show ¬ ((rs g : Nat) : Int) = 0 by omega), m_X9_worthAsOne_22, if_pos rfl, if_neg (fun hh => c1 (h1.mp hh))]
    by_cases c2 : sq3 (SX g) (SY g) (SZ g) = 0
    · obtain ⟨z1, z2, z3⟩ := sq3_0.mp c2
      rw [if_pos c2, if_pos z1, if_pos z2, if_pos z3, hsq]
      exact ⟨_, rfl, rfl, by omega, by omega, fun hh => absurd hh c1⟩
    · have k154 : (if SX g = 0 then (if SY g = 0 then (if SZ g = 0 then (m_X11_costOf_167 (SX g) (SY g) (SZ g)) else (m_X11_costOf_154 many2 way (SX g) (SY g) (SZ g))) else (m_X11_costOf_154 many2 way (SX g) (SY g) (SZ g))) else (m_X11_costOf_154 many2 way (SX g) (SY g) (SZ g))) = m_X11_costOf_154 many2 way (SX g) (SY g) (SZ g) := by
        by_cases d1 : SX g = 0
        · by_cases d2 : SY g = 0
          · by_cases d3 : SZ g = 0
            · exact absurd (sq3_0.mpr ⟨d1, d2, d3⟩) c2
            · rw [if_pos d1, if_pos d2, if_neg d3]
          · rw [if_pos d1, if_neg d2]
        · rw [if_neg d1]
      rw [if_neg c2, k154, q_partOf (by omega) hg, bind_s, q_partOf (by omega) hg, bind_s, q_partOf (by omega) hg, bind_s, show pt SX SY SZ g 0 = SX g from rfl, show pt SX SY SZ g 1 = SY g from rfl, show pt SX SY SZ g 2 = SZ g from rfl, v1, bind_s, m_X11_costOf_154, e1, bind_s]
      by_cases c3 : e = 0
      · rw [if_pos c3, if_pos c3, m_X11_costOf_172, if_pos rfl]
        exact ⟨_, rfl, rfl, by omega, by omega, fun hh => absurd hh c1⟩
      · rw [if_neg c3, if_neg c3, hsq]
        exact ⟨_, rfl, rfl, by omega, by omega, fun hh => absurd hh c1⟩
/-- a part of g that holds its lowest and may stand as one -/
def Vd (c : Nat → Int) (g u : Nat) : Prop := u < 256 ∧ dif u g = 0 ∧ u &&& lw g ≠ 0 ∧ c u ≠ -1
def Bst (c B : Nat → Int) (g : Nat) : Prop := (∃ u, Vd c g u ∧ B g = c u + B (dif g u)) ∧ ∀ u, Vd c g u → B g ≤ c u + B (dif g u)
def Fst (c B : Nat → Int) (g u : Nat) : Prop := Vd c g u ∧ B g = c u + B (dif g u) ∧ ∀ u', u' < u → Vd c g u' → B g ≠ c u' + B (dif g u')
theorem Vd_lt {c : Nat → Int} {g u : Nat} (hg0 : 0 < g) (hg : g < 256) (h : Vd c g u) : 0 < u ∧ u ≤ g ∧ dif g u < g ∧ dif g u + u = g ∧ lw g ≤ u ∧ dif (u - lw g) (rs g) = 0 ∧ u - lw g ≤ rs g ∧ u.testBit (lx g) = true := by
  obtain ⟨h1, h2, h3, h4⟩ := h
  obtain ⟨b1, b2, b3, b4, b5, b6⟩ := sub_b ⟨u, h1⟩ ⟨g, hg⟩ ⟨hg0, h2, h3⟩
  obtain ⟨r1, r2, r3, r4, r5⟩ := lw_c ⟨g, hg⟩ hg0
  dsimp only at b1 b2 b3 b4 b5 b6 r1 r2 r3 r4 r5
  exact ⟨by omega, b4, by omega, b5, b1, b2, b3, b6⟩
theorem Bst_congr {c B B' : Nat → Int} {g : Nat} (hg0 : 0 < g) (hg : g < 256) (h : ∀ k, k ≤ g → B k = B' k) (hb : Bst c B g) : Bst c B' g := by
  obtain ⟨⟨u, h1, h2⟩, h3⟩ := hb
  refine ⟨⟨u, h1, ?_⟩, fun u hu => ?_⟩
  · have := Vd_lt hg0 hg h1
    rw [← h g (by omega), ← h (dif g u) (by omega)]; exact h2
  · have := Vd_lt hg0 hg hu
    rw [← h g (by omega), ← h (dif g u) (by omega)]; exact h3 u hu
theorem Fst_congr {c B B' : Nat → Int} {g u : Nat} (hg0 : 0 < g) (hg : g < 256) (h : ∀ k, k ≤ g → B k = B' k) (hb : Fst c B g u) : Fst c B' g u := by
  obtain ⟨h1, h2, h3⟩ := hb
  refine ⟨h1, ?_, fun u' hu' hv => ?_⟩
  · have := Vd_lt hg0 hg h1
    rw [← h g (by omega), ← h (dif g u) (by omega)]; exact h2
  · have := Vd_lt hg0 hg hv
    rw [← h g (by omega), ← h (dif g u') (by omega)]; exact h3 u' hu' hv
theorem Bst_un {c B B' : Nat → Int} {N : Nat} (hN : N ≤ 256) (h0 : B 0 = B' 0) (h1 : ∀ g, 0 < g → g < N → Bst c B g) (h2 : ∀ g, 0 < g → g < N → Bst c B' g) : ∀ g, g < N → B g = B' g := by
  intro g
  induction g using Nat.strongRecOn with
  | ind g ih =>
    intro hg
    by_cases c0 : g = 0
    · subst c0; exact h0
    · obtain ⟨⟨u, a1, a2⟩, a3⟩ := h1 g (by omega) hg
      obtain ⟨⟨u', b1, b2⟩, b3⟩ := h2 g (by omega) hg
      have x1 := Vd_lt (by omega) (by omega) a1
      have x2 := Vd_lt (by omega) (by omega) b1
      have y1 := a3 u' b1
      have y2 := b3 u a1
      have z1 := ih (dif g u) (by omega) (by omega)
      have z2 := ih (dif g u') (by omega) (by omega)
      omega
theorem Fst_un {c B : Nat → Int} {g u u' : Nat} (h : Fst c B g u) (h' : Fst c B g u') : u = u' := by
  obtain ⟨a1, a2, a3⟩ := h
  obtain ⟨b1, b2, b3⟩ := h'
  rcases Nat.lt_trichotomy u u' with h | h | h
  · exact absurd a2 (b3 u h a1)
  · exact h
  · exact absurd b2 (a3 u' h b1)
theorem q_findLeast {g : Nat} {c W Lst Fs : Nat → Int} (hg0 : 0 < g) (hg : g < 256) (hW : ∀ u, 0 < u → u ≤ g → W u = c u) (hc : ∀ u, 0 < u → u ≤ g → -1 ≤ c u ∧ c u ≤ 2000000 ∧ (rs u = 0 → 0 ≤ c u)) (hA : ∀ k, 0 < k → k < g → 0 ≤ Lst k ∧ Lst k ≤ 2000000 * k) :
    ∃ Ls2 Fs2, m_X9_findLeast W Lst Fs (g : Int) = some (Ls2, Fs2) ∧ Ls2 0 = 0 ∧ (∀ k, 0 < k → k ≠ g → Ls2 k = Lst k) ∧ (∀ k, k ≠ g → Fs2 k = Fs k) ∧ Bst c Ls2 g ∧ (∃ u : Nat, Fs2 g = (u : Int) ∧ Fst c Ls2 g u) ∧ 0 ≤ Ls2 g ∧ Ls2 g ≤ 2000000 * g := by
  obtain ⟨r1, r2, r3, r4, r5, r6, r7, r8⟩ := lw_c ⟨g, hg⟩ hg0
  have hd := bdec_c ⟨g, hg⟩ hg0
  dsimp only at r1 r2 r3 r4 r5 r6 r7 r8 hd
  obtain ⟨A, hAd⟩ : ∃ A : Nat → Int, A = fun k => if k = 0 then 0 else Lst k := ⟨_, rfl⟩
  have hAb : ∀ k, k < g → 0 ≤ A k ∧ A k ≤ 2000000 * k := fun k hk => by
    rw [hAd]; dsimp only
    by_cases c0 : k = 0
    · rw [if_pos c0]; omega
    · rw [if_neg c0]; exact hA k (by omega) hk
  have hsa : ∀ h, h < 256 → dif h (rs g) = 0 → lw g ||| h = lw g + h ∧ dif (lw g + h) g = 0 ∧ (lw g + h) &&& lw g ≠ 0 ∧ lw g + h ≤ g ∧ g ^^^ (lw g + h) = dif g (lw g + h) := fun h hh hz => sub_a ⟨h, hh⟩ ⟨g, hg⟩ ⟨hg0, hz⟩
  have hVd : ∀ h, h < 256 → dif h (rs g) = 0 → c (lw g + h) ≠ -1 → Vd c g (lw g + h) := fun h hh hz hv => by
    obtain ⟨s1, s2, s3, s4, s5⟩ := hsa h hh hz
    exact ⟨by omega, s2, s3, hv⟩
  have hval : ∀ h, h < 256 → dif h (rs g) = 0 → c (lw g + h) ≠ -1 → 0 ≤ c (lw g + h) + A (dif g (lw g + h)) ∧ c (lw g + h) + A (dif g (lw g + h)) ≤ 2000000 * g := fun h hh hz hv => by
    have x := Vd_lt hg0 hg (hVd h hh hz hv)
    have y := hc (lw g + h) (by omega) (by omega)
    have z := hAb (dif g (lw g + h)) (by omega)
    omega
  obtain ⟨I, hI⟩ : ∃ I : Nat → Int → Int → Prop, I = fun i x y => (x = 1073741824 ∧ ∀ h, h < i → dif h (rs g) = 0 → c (lw g + h) = -1) ∨ (∃ h0, h0 < i ∧ dif h0 (rs g) = 0 ∧ c (lw g + h0) ≠ -1 ∧ y = ((lw g + h0 : Nat) : Int) ∧ x = c (lw g + h0) + A (dif g (lw g + h0)) ∧ (∀ h, h < i → dif h (rs g) = 0 → c (lw g + h) ≠ -1 → x ≤ c (lw g + h) + A (dif g (lw g + h))) ∧ (∀ h, h < h0 → dif h (rs g) = 0 → c (lw g + h) ≠ -1 → x < c (lw g + h) + A (dif g (lw g + h)))) := ⟨_, rfl⟩
  have key := loop_p (rs g + 1) (fun F i => ∀ L1 F1 : Nat → Int, (∀ k, k ≠ g → L1 k = A k) → (∀ k, k ≠ g → F1 k = Fs k) → I i (L1 g) (F1 g) → ∃ Ls2 Fs2, m_X9_findLeast_28 W (g : Int) ((rs g : Nat) : Int) ((lw g : Nat) : Int) (fun t_leasts' t_firsts' v4' => m_X9_findLeast_135 t_leasts' t_firsts') F L1 F1 (i : Int) = some (Ls2, Fs2) ∧ (∀ k, k ≠ g → Ls2 k = A k) ∧ (∀ k, k ≠ g → Fs2 k = Fs k) ∧ I (rs g + 1) (Ls2 g) (Fs2 g)) (fun F L1 F1 h1 h2 h3 => ⟨L1, F1, by rw [m_X9_findLeast_28, if_pos (by omega)], h1, h2, h3⟩) (fun F i hi ih _ L1 F1 h1 h2 h3 => by
    rw [m_X9_findLeast_28, if_neg (by omega), bNot_n (by omega) (by omega)]
    have skip : (dif i (rs g) = 0 → c (lw g + i) = -1) → I (i + 1) (L1 g) (F1 g) := fun hs => by
      rw [hI] at h3 ⊢
      rcases h3 with ⟨x1, x2⟩ | ⟨h0, x1, x2, x3, x4, x5, x6, x7⟩
      · refine Or.inl ⟨x1, fun h hh hz => ?_⟩
        by_cases ch : h = i
        · subst ch; exact hs hz
        · exact x2 h (by omega) hz
      · refine Or.inr ⟨h0, by omega, x2, x3, x4, x5, fun h hh hz hv => ?_, x7⟩
        by_cases ch : h = i
        · subst ch; exact absurd (hs hz) hv
        · exact x6 h (by omega) hz hv
    by_cases cz : dif i (rs g) = 0
    · obtain ⟨s1, s2, s3, s4, s5⟩ := hsa i (by omega) cz
      rw [if_pos (show ((dif i (rs g) : Nat) : Int) = 0 by omega), bOr_n (by omega) (by omega), s1, chkB (by omega) (by omega), tn, hW _ (by omega) s4]
      by_cases cv : c (lw g + i) = -1
      · rw [if_pos cv, m_X9_findLeast_64, m_X9_findLeast_65, if_pos rfl, m_X9_findLeast_129, chkI (by omega) (by omega)]
        exact ih L1 F1 h1 h2 (skip (fun _ => cv))
      · have hb := hval i (by omega) cz cv
        have x := Vd_lt hg0 hg (hVd i (by omega) cz cv)
        rw [if_neg cv, m_X9_findLeast_65, if_neg ne10, bXor_n (by omega) (by omega), s5, tn, tn, tn, hW _ (by omega) s4, h1 _ (show dif g (lw g + i) ≠ g by omega), chkB (by omega) (by omega), chkB (by omega) (by omega), chkB (by omega) (by omega), chkI (by omega) (by omega)]
        by_cases cl : L1 g ≤ c (lw g + i) + A (dif g (lw g + i))
        · rw [if_pos cl, m_X9_findLeast_129, chkI (by omega) (by omega)]
          refine ih L1 F1 h1 h2 ?_
          rw [hI] at h3 ⊢
          rcases h3 with ⟨x1, x2⟩ | ⟨h0, x1, x2, x3, x4, x5, x6, x7⟩
          · omega
          · refine Or.inr ⟨h0, by omega, x2, x3, x4, x5, fun h hh hz hv => ?_, x7⟩
            by_cases ch : h = i
            · subst ch; exact cl
            · exact x6 h (by omega) hz hv
        · rw [if_neg cl, chkB (by omega) (by omega), chkB (by omega) (by omega), chkB (by omega) (by omega), chkB (by omega) (by omega), m_X9_findLeast_129, chkI (by omega) (by omega)]
          refine ih _ _ (fun k hk => by rw [up_ne _ _ hk]; exact h1 k hk) (fun k hk => by rw [up_ne _ _ hk]; exact h2 k hk) ?_
          rw [up_at, up_at]
          rw [hI] at h3 ⊢
          refine Or.inr ⟨i, by omega, cz, cv, rfl, rfl, fun h hh hz hv => ?_, fun h hh hz hv => ?_⟩
          · by_cases ch : h = i
            · subst ch; exact Int.le_refl _
            · rcases h3 with ⟨x1, x2⟩ | ⟨h0, x1, x2, x3, x4, x5, x6, x7⟩
              · exact absurd (x2 h (by omega) hz) hv
              · have := x6 h (by omega) hz hv; omega
          · rcases h3 with ⟨x1, x2⟩ | ⟨h0, x1, x2, x3, x4, x5, x6, x7⟩
            · exact absurd (x2 h (by omega) hz) hv
            · have := x6 h (by omega) hz hv; omega
    · rw [if_neg (show ¬ ((dif i (rs g) : Nat) : Int) = 0 by omega), m_X9_findLeast_64, m_X9_findLeast_65, if_pos rfl, m_X9_findLeast_129, chkI (by omega) (by omega)]
      exact ih L1 F1 h1 h2 (skip (fun h => absurd h cz)))
  obtain ⟨Ls2, Fs2, k1, k2, k3, k4⟩ := key (rs g + 1) FU 0 (by omega) (by unfold FU; omega) (up (up Lst 0 0) g 1073741824) Fs (fun k hk => by
    rw [up_ne _ _ hk, hAd]; dsimp only
    by_cases c0 : k = 0
    · subst c0; rw [up_at, if_pos rfl]
    · rw [up_ne _ _ c0, if_neg c0]) (fun k _ => rfl) (by
    rw [up_at, hI]
    exact Or.inl ⟨rfl, fun h hh => by omega⟩)
  have heq : ∀ k, k < g → Ls2 k = A k := fun k hk => k2 k (by omega)
  refine ⟨Ls2, Fs2, ?_, by rw [heq 0 hg0, hAd]; rfl, fun k hk hkg => by rw [k2 k hkg, hAd]; exact if_neg (by omega), k3, ?_⟩
  · rw [m_X9_findLeast, m_X9_findLeast_0, chkB (by omega) (by omega), chkB (by omega) (by omega), hd, r1, tn]
    exact k1
  · rw [hI] at k4
    rcases k4 with ⟨x1, x2⟩ | ⟨h0, x1, x2, x3, x4, x5, x6, x7⟩
    · exfalso
      have z0 : dif 0 (rs g) = 0 := by unfold dif; rw [Nat.zero_and]; rfl
      have := x2 0 (by omega) z0
      have y := (hc (lw g) r3 r5).2.2 r8
      rw [Nat.add_zero] at this
      omega
    · have hu := hVd h0 (by omega) x2 x3
      have xx := Vd_lt hg0 hg hu
      have hb := hval h0 (by omega) x2 x3
      have conv : ∀ u, Vd c g u → u - lw g < rs g + 1 ∧ dif (u - lw g) (rs g) = 0 ∧ lw g + (u - lw g) = u ∧ Ls2 (dif g u) = A (dif g u) := fun u hv => by
        have y := Vd_lt hg0 hg hv
        exact ⟨by omega, y.2.2.2.2.2.1, by omega, heq _ y.2.2.1⟩
      refine ⟨⟨⟨lw g + h0, hu, by rw [heq _ xx.2.2.1]; exact x5⟩, fun u hv => ?_⟩, ⟨lw g + h0, x4, hu, by rw [heq _ xx.2.2.1]; exact x5, fun u' hu' hv => ?_⟩, by omega, by omega⟩
      · obtain ⟨y1, y2, y3, y4⟩ := conv u hv
        have := x6 (u - lw g) y1 y2 (by rw [y3]; exact hv.2.2.2)
        rw [y3] at this
        rw [y4]; exact this
      · obtain ⟨y1, y2, y3, y4⟩ := conv u' hv
        have := x7 (u' - lw g) (by omega) y2 (by rw [y3]; exact hv.2.2.2)
        rw [y3] at this
        rw [y4]; omega

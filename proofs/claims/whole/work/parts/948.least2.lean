
/-! ===== PURE: least, class and model ===== -/
theorem q_w34 {n : Nat} {smany : Int} {c SX SY SZ sx sy sz W : Nat → Int} (hn : n ≤ 8) (hw : ∀ g : Nat, 0 < g → g < 2 ^ n → m_X9_worthAsOne 16 ((2 ^ n : Nat) : Int) SX SY SZ smany sx sy sz (g : Int) = some (c g)) (k61 : (Nat → Int) → Int → Option (Int × Int × (Nat → Int) × (Nat → Int) × Int × (Nat → Int) × (Nat → Int) × (Nat → Int) × (Nat → Int) × (Nat → Int) × (Nat → Int))) :
    ∃ W2, (∀ u, 0 < u → u < 2 ^ n → W2 u = c u) ∧ m_X9_leastWorth_34 16 ((2 ^ n : Nat) : Int) SX SY SZ smany sx sy sz ((2 ^ n : Nat) : Int) k61 FU W 1 = k61 W2 ((2 ^ n : Nat) : Int) := by
  have h2 := p2_bd hn
  exact loop_p (2 ^ n) (fun F g => ∀ W : Nat → Int, 1 ≤ g → (∀ u, 0 < u → u < g → W u = c u) → ∃ W2, (∀ u, 0 < u → u < 2 ^ n → W2 u = c u) ∧ m_X9_leastWorth_34 16 ((2 ^ n : Nat) : Int) SX SY SZ smany sx sy sz ((2 ^ n : Nat) : Int) k61 F W (g : Int) = k61 W2 ((2 ^ n : Nat) : Int)) (fun F W _ h => ⟨W, h, by rw [m_X9_leastWorth_34, if_pos (Int.le_refl _)]⟩) (fun F g hg ih _ W hg1 h => by
    rw [m_X9_leastWorth_34, if_neg (by omega), hw g (by omega) hg, bind_s, chkB (by omega) (by omega), chkI (by omega) (by omega), tn]
    exact ih _ (by omega) (fun u hu1 hu2 => by
      by_cases cu : u = g
      · subst cu; rw [up_at]
      · rw [up_ne _ _ cu]; exact h u hu1 (by omega))) (2 ^ n - 1) FU 1 (by omega) (by unfold FU; omega) W (by omega) (fun u h3 h4 => by omega)
theorem q_c112 {n : Nat} {v1 : Int} {c co start line many2 way C : Nat → Int} (hn : n ≤ 8) (hw : ∀ g : Nat, 0 < g → g < 2 ^ n → m_X11_costOf many2 way start line co v1 (n : Int) (g : Int) = some (c g)) (k143 : (Nat → Int) → Int → Option (Int × Int × (Nat → Int) × (Nat → Int) × (Nat → Int) × (Nat → Int))) :
    ∃ C2, (∀ u, 0 < u → u < 2 ^ n → C2 u = c u) ∧ m_X11_least_112 many2 way start line co v1 (n : Int) k143 FU C 1 = k143 C2 ((2 ^ n : Nat) : Int) := by
  have h2 := p2_bd hn
  have hb := bsh1 ⟨n, by omega⟩
  dsimp only at hb
  exact loop_p (2 ^ n) (fun F g => ∀ C : Nat → Int, 1 ≤ g → (∀ u, 0 < u → u < g → C u = c u) → ∃ C2, (∀ u, 0 < u → u < 2 ^ n → C2 u = c u) ∧ m_X11_least_112 many2 way start line co v1 (n : Int) k143 F C (g : Int) = k143 C2 ((2 ^ n : Nat) : Int)) (fun F C _ h => ⟨C, h, by rw [m_X11_least_112, hb, if_pos (Int.le_refl _)]⟩) (fun F g hg ih _ C hg1 h => by
    rw [m_X11_least_112, hb, if_neg (by omega), hw g (by omega) hg, bind_s, chkB (by omega) (by omega), chkI (by omega) (by omega), tn]
    exact ih _ (by omega) (fun u hu1 hu2 => by
      by_cases cu : u = g
      · subst cu; rw [up_at]
      · rw [up_ne _ _ cu]; exact h u hu1 (by omega))) (2 ^ n - 1) FU 1 (by omega) (by unfold FU; omega) C (by omega) (fun u h3 h4 => by omega)
theorem q_l64 {n : Nat} {c W Lst Fs : Nat → Int} (hn : 1 ≤ n ∧ n ≤ 8) (hW : ∀ u, 0 < u → u < 2 ^ n → W u = c u) (hc : ∀ u, 0 < u → u < 2 ^ n → -1 ≤ c u ∧ c u ≤ 2000000 ∧ (rs u = 0 → 0 ≤ c u)) (k83 : (Nat → Int) → (Nat → Int) → Int → Option (Int × Int × (Nat → Int) × (Nat → Int) × Int × (Nat → Int) × (Nat → Int) × (Nat → Int) × (Nat → Int) × (Nat → Int) × (Nat → Int))) :
    ∃ Ls2 Fs2, Ls2 0 = 0 ∧ (∀ g, 0 < g → g < 2 ^ n → Bst c Ls2 g ∧ (∃ u : Nat, Fs2 g = (u : Int) ∧ Fst c Ls2 g u) ∧ 0 ≤ Ls2 g ∧ Ls2 g ≤ 2000000 * g) ∧ m_X9_leastWorth_64 16 W ((2 ^ n : Nat) : Int) k83 FU Lst Fs 1 = k83 Ls2 Fs2 ((2 ^ n : Nat) : Int) := by
  have h2 := p2_bd hn.2
  have h3 : 2 ≤ 2 ^ n := by
    have : 2 ^ 1 ≤ 2 ^ n := Nat.pow_le_pow_right (by decide) hn.1
    omega
  exact loop_p (2 ^ n) (fun F g => ∀ Lst Fs : Nat → Int, 1 ≤ g → (1 < g → Lst 0 = 0) → (∀ k, 0 < k → k < g → Bst c Lst k ∧ (∃ u : Nat, Fs k = (u : Int) ∧ Fst c Lst k u) ∧ 0 ≤ Lst k ∧ Lst k ≤ 2000000 * k) → ∃ Ls2 Fs2, Ls2 0 = 0 ∧ (∀ g, 0 < g → g < 2 ^ n → Bst c Ls2 g ∧ (∃ u : Nat, Fs2 g = (u : Int) ∧ Fst c Ls2 g u) ∧ 0 ≤ Ls2 g ∧ Ls2 g ≤ 2000000 * g) ∧ m_X9_leastWorth_64 16 W ((2 ^ n : Nat) : Int) k83 F Lst Fs (g : Int) = k83 Ls2 Fs2 ((2 ^ n : Nat) : Int)) (fun F Lst Fs _ h4 h5 => ⟨Lst, Fs, h4 (by omega), h5, by rw [m_X9_leastWorth_64, if_pos (Int.le_refl _)]⟩) (fun F g hg ih _ Lst Fs hg1 h4 h5 => by
    obtain ⟨L2, F2, a1, a2, a3, a4, a5, a6, a7, a8⟩ := q_findLeast (g := g) (c := c) (W := W) (Lst := Lst) (Fs := Fs) (by omega) (by omega) (fun u h6 h7 => hW u h6 (by omega)) (fun u h6 h7 => hc u h6 (by omega)) (fun k h6 h7 => (h5 k h6 h7).2.2)
    rw [m_X9_leastWorth_64, if_neg (by omega), a1, bind_s, chkI (by omega) (by omega)]
    refine ih L2 F2 (by omega) (fun _ => a2) (fun k hk1 hk2 => ?_)
    by_cases ck : k = g
    · subst ck; exact ⟨a5, a6, a7, a8⟩
    · obtain ⟨b1, ⟨u, b2, b3⟩, b4, b5⟩ := h5 k hk1 (by omega)
      have hag : ∀ j, j ≤ k → Lst j = L2 j := fun j hj => by
        by_cases cj : j = 0
        · subst cj; rw [a2]; exact h4 (by omega)
        · exact (a3 j (by omega) (by omega)).symm
      refine ⟨Bst_congr hk1 (by omega) hag b1, ⟨u, by rw [a4 k ck]; exact b2, Fst_congr hk1 (by omega) hag b3⟩, ?_, ?_⟩
      · rw [← hag k (Nat.le_refl _)]; exact b4
      · rw [← hag k (Nat.le_refl _)]; exact b5) (2 ^ n - 1) FU 1 (by omega) (by unfold FU; omega) Lst Fs (by omega) (fun h => by omega) (fun k h4 h5 => by omega)
theorem q_b153 {n : Nat} {c C T : Nat → Int} (hn : 1 ≤ n ∧ n ≤ 8) (hC : ∀ u, 0 < u → u < 2 ^ n → C u = c u) (hc : ∀ u, 0 < u → u < 2 ^ n → -1 ≤ c u ∧ c u ≤ 2000000 ∧ (rs u = 0 → 0 ≤ c u)) (hT0 : T 0 = 0) (k297 : (Nat → Int) → Int → Option (Int × Int × (Nat → Int) × (Nat → Int) × (Nat → Int) × (Nat → Int))) :
    ∃ T2, T2 0 = 0 ∧ (∀ g, 0 < g → g < 2 ^ n → Bst c T2 g ∧ 0 ≤ T2 g ∧ T2 g ≤ 2000000 * g) ∧ m_X11_least_153 C (n : Int) k297 FU T 1 = k297 T2 ((2 ^ n : Nat) : Int) := by
  have h2 := p2_bd hn.2
  have hb := bsh1 ⟨n, by omega⟩
  dsimp only at hb
  exact loop_p (2 ^ n) (fun F g => ∀ T : Nat → Int, 1 ≤ g → T 0 = 0 → (∀ k, 0 < k → k < g → Bst c T k ∧ 0 ≤ T k ∧ T k ≤ 2000000 * k) → ∃ T2, T2 0 = 0 ∧ (∀ g, 0 < g → g < 2 ^ n → Bst c T2 g ∧ 0 ≤ T2 g ∧ T2 g ≤ 2000000 * g) ∧ m_X11_least_153 C (n : Int) k297 F T (g : Int) = k297 T2 ((2 ^ n : Nat) : Int)) (fun F T _ h4 h5 => ⟨T, h4, h5, by rw [m_X11_least_153, hb, if_pos (Int.le_refl _)]⟩) (fun F g hg ih _ T hg1 h4 h5 => by
    obtain ⟨r1, r2, r3⟩ := lw_c ⟨g, by omega⟩ (by dsimp only; omega)
    dsimp only at r1 r2 r3
    obtain ⟨T2, a1, a2, a3, a4, a5⟩ := q_best183 (g := g) (c := c) (C := C) (T := T) (by omega) (by omega) (fun u h6 h7 => hC u h6 (by omega)) (fun u h6 h7 => hc u h6 (by omega)) (fun k hk => by
      by_cases ck : k = 0
      · subst ck; rw [h4]; omega
      · exact (h5 k (by omega) hk).2) (fun t_best' v7' => m_X11_least_291 C t_best' (n : Int) (g : Int) (m_X11_least_153 C (n : Int) k297 F) k297)
    rw [m_X11_least_153, hb, if_neg (by omega), chkB (by omega) (by omega), r2, tn, a1, m_X11_least_291, chkI (by omega) (by omega)]
    refine ih T2 (by omega) (by rw [a2 0 (by omega)]; exact h4) (fun k hk1 hk2 => ?_)
    by_cases ck : k = g
    · subst ck; exact ⟨a3, a4, a5⟩
    · obtain ⟨b1, b4, b5⟩ := h5 k hk1 (by omega)
      have hag : ∀ j, j ≤ k → T j = T2 j := fun j hj => (a2 j (by omega)).symm
      refine ⟨Bst_congr hk1 (by omega) hag b1, ?_, ?_⟩
      · rw [← hag k (Nat.le_refl _)]; exact b4
      · rw [← hag k (Nat.le_refl _)]; exact b5) (2 ^ n - 1) FU 1 (by omega) (by unfold FU; omega) T (by omega) hT0 (fun k h4 h5 => by omega)
theorem pc_least {kn th sm knots lines gm chosenN csm pm em v1 v2 suM : Int} {rims froms tos xs ys zs there isRim isGone start goal line ch groups suX suY suZ worths leasts firsts sx sy sz px py pz ex ey ez many2 way co cost best groupOf : Nat → Int} (h : RWb kn th rims froms tos sm xs ys zs there knots lines isRim isGone start goal line) (hcw : RCw csm sx sy sz pm px py pz em ex ey ez many2 way) (hgp : RGp gm groups chosenN groupOf) :
    ∃ r r2, m_X10_least kn gm froms tos sm xs ys zs there ch groups suM suX suY suZ worths leasts firsts csm sx sy sz v1 v2 = some r ∧ m_X11_least knots lines chosenN many2 way isGone start goal line co cost best groupOf v1 v2 = some r2 ∧ r.1 = r2.1 ∧ RGp r.2.1 r.2.2.2.1 r2.2.1 r2.2.2.2.2.2 := by
  obtain ⟨K, L, rfl, rfl, hK, rfl, rfl, hL, rfl, rfl, rfl, hth, hl, hg⟩ := h
  rw [m_X10_least, m_X10_least_0, m_X11_least, m_X11_least_0]
  by_cases c0 : 0 ≤ v1 ∧ v1 < K
  · rw [isKnotc1 hK c0, isKnotm1 hK c0, bind_s, bind_s, if_neg ne10, if_neg ne10, m_X9_leastWorth, m_X9_leastWorth_0]
    by_cases c1 : jShr v2 60 = 0
    · rw [if_pos c1]
      have hkch := q_choose (L := L) (v := v2) (v1 := v1) (there := there) (gone := isGone) (start := froms) (goal := tos) (ch := ch) (co := co) hL (fun k hk => (hl k hk).2.2.2.2.1) c1 (fun t_choice' v4' v5' => m_X11_least_101 chosenN many2 way froms line t_choice' cost best groupOf v1 v4') (fun t_choice' v4' v5' => m_X11_least_81 chosenN t_choice' cost best groupOf)
      rcases hkch with ⟨ch2, co2, a, b, e1, e2⟩ | ⟨n, ch2, co2, hn, e1, e2, hco⟩
      · rw [e1, bind_s, if_neg (show ¬ (2 : Int) ≤ 0 by decide), bind_s, e2, m_X11_least_81]
        exact ⟨_, _, rfl, rfl, rfl, hgp⟩
      · rw [e1, bind_s, e2, m_X11_least_101]
        by_cases c2 : 2 ≤ n
        · rw [if_pos (show (2 : Int) ≤ (n : Int) by omega), if_pos (show (2 : Int) ≤ (n : Int) by omega)]
          have h2 := p2_bd hn
          have h3 : 2 ≤ 2 ^ n := by
            have : 2 ^ 1 ≤ 2 ^ n := Nat.pow_le_pow_right (by decide) (show 1 ≤ n by omega)
            omega
          have hb := bsh1 ⟨n, by omega⟩
          dsimp only at hb
          have hlb : ∀ k, k < L → bd3 99 (xs k) (ys k) (zs k) := fun k hk => (hl k hk).2.2.2.1
          have hch2 : ∀ j, j < n → ∃ l : Nat, l < L ∧ ch2 j = (l : Int) := fun j hj => by
            obtain ⟨_, l, q1, q2, _⟩ := hco j hj
            exact ⟨l, q1, q2⟩
          obtain ⟨SX, SY, SZ, s1, s2⟩ := q_addUp (L := L) (n := n) (v1 := v1) (sm0 := suM) (start := froms) (xs := xs) (ys := ys) (zs := zs) (ch := ch2) (SX := suX) (SY := suY) (SZ := suZ) hL ⟨by omega, hn⟩ hch2 hlb
          have hwx : ∀ g : Nat, ∃ r, 0 < g → g < 2 ^ n → m_X9_worthAsOne 16 ((2 ^ n : Nat) : Int) SX SY SZ csm sx sy sz (g : Int) = some r ∧ m_X11_costOf many2 way froms line co2 v1 (n : Int) (g : Int) = some r ∧ -1 ≤ r ∧ r ≤ 2000000 ∧ (rs g = 0 → 0 ≤ r) := fun g => by
            by_cases cg : 0 < g ∧ g < 2 ^ n
            · obtain ⟨t1, t2, t3⟩ := s2 g cg.2
              have hbd : bd3 792 (SX g) (SY g) (SZ g) := by
                rw [t1, t2, t3]
                have f : ∀ f : Nat → Int, (∀ k, k < L → -99 ≤ f k ∧ f k ≤ 99) → -792 ≤ bsum (gX froms ch2 v1 f) g n ∧ bsum (gX froms ch2 v1 f) g n ≤ 792 := fun f hf => by
                  have := bsum_bd2 (f := gX froms ch2 v1 f) (g := g) n (fun j hj => by
                    obtain ⟨l, q1, q2⟩ := hch2 j hj
                    exact gX_bd (by rw [q2]; exact hf l q1))
                  omega
                exact ⟨f xs (fun k hk => (hlb k hk).1), f ys (fun k hk => (hlb k hk).2.1), f zs (fun k hk => (hlb k hk).2.2)⟩
              obtain ⟨r, w1, w2, w3, w4, w5⟩ := q_worthOne (smany := csm) (sx := sx) (sy := sy) (sz := sz) hn cg.1 cg.2 hbd hcw.1
              refine ⟨r, fun _ _ => ⟨w1, ?_, w3, w4, w5⟩⟩
              rw [q_costOf (xs := xs) (ys := ys) (zs := zs) (ch := ch2) hL hn (by omega) (fun j hj => by
                obtain ⟨p1, l, q1, q2, _⟩ := hco j hj
                exact ⟨p1.symm, l, q1, q2⟩) (fun k hk => ⟨(hl k hk).1, (hl k hk).2.1, (hl k hk).2.2.1, hlb k hk⟩), ← t1, ← t2, ← t3]
              exact w2
            · exact ⟨0, fun q1 q2 => absurd ⟨q1, q2⟩ cg⟩
          obtain ⟨c, hcc⟩ := Classical.axiomOfChoice hwx
          have hcb : ∀ u, 0 < u → u < 2 ^ n → -1 ≤ c u ∧ c u ≤ 2000000 ∧ (rs u = 0 → 0 ≤ c u) := fun u q1 q2 => (hcc u q1 q2).2.2
          obtain ⟨W2, x1, x2⟩ := q_w34 (smany := csm) (c := c) (SX := SX) (SY := SY) (SZ := SZ) (sx := sx) (sy := sy) (sz := sz) (W := worths) hn (fun g q1 q2 => (hcc g q1 q2).1) (fun t_worths' v7' => m_X9_leastWorth_61 16 gm ch2 groups ((2 ^ n : Nat) : Int) SX SY SZ t_worths' leasts firsts (n : Int) ((2 ^ n : Nat) : Int))
          obtain ⟨Ls2, Fs2, y1, y2, y3⟩ := q_l64 (c := c) (W := W2) (Lst := leasts) (Fs := firsts) ⟨by omega, hn⟩ x1 hcb (fun t_leasts' t_firsts' v7' => m_X9_leastWorth_83 16 gm ch2 groups ((2 ^ n : Nat) : Int) SX SY SZ W2 t_leasts' t_firsts' (n : Int) ((2 ^ n : Nat) : Int))
          obtain ⟨C2, u1, u2⟩ := q_c112 (co := co2) (c := c) (C := cost) (v1 := v1) (start := froms) (line := line) (many2 := many2) (way := way) hn (fun g q1 q2 => (hcc g q1 q2).2.1) (fun t_cost' v5' => m_X11_least_143 chosenN co2 t_cost' best groupOf (n : Int))
          obtain ⟨T2, z1, z2, z3⟩ := q_b153 (c := c) (C := C2) (T := up best 0 0) ⟨by omega, hn⟩ u1 hcb (up_at _ _ _) (fun t_best' v5' => m_X11_least_297 chosenN co2 C2 t_best' groupOf (n : Int))
          have hLT := Bst_un (c := c) (B := Ls2) (B' := T2) (N := 2 ^ n) h2.2 (by rw [y1, z1]) (fun g q1 q2 => (y2 g q1 q2).1) (fun g q1 q2 => (z2 g q1 q2).1)
          obtain ⟨gr, go, a, b, a2, b2, n1, n2, n3⟩ := q_names (c := c) (C := C2) (T := T2) (Fs := Fs2) hn u1 hcb (fun k hk => by
            by_cases ck : k = 0
            · subst ck; rw [z1]; omega
            · exact (z2 k (by omega) hk).2) (fun g q1 q2 => by
            obtain ⟨_, ⟨u, p1, p2⟩, _⟩ := y2 g q1 q2
            exact ⟨u, p1, Fst_congr q1 (by omega) (fun k hk => hLT k (by omega)) p2⟩) (fun t_groups' v3' v4' => m_X9_nameGroups_75 (n : Int) t_groups') (fun t_groupOf' v5' v6' => m_X11_least_451 chosenN co2 C2 T2 t_groupOf' (n : Int)) (2 ^ n - 1) (by omega) 0 groups groupOf FU FU (by unfold FU; omega) (by unfold FU; omega) (fun j hj hbit => by
            rw [Nat.testBit_two_pow_sub_one] at hbit
            exact absurd hj (of_decide_eq_false hbit)) (by have := bone_bd (g := 2 ^ n - 1) n; omega)
          have eN : ((2 ^ n : Nat) : Int) - 1 = ((2 ^ n - 1 : Nat) : Int) := by omega
          rw [hb, s1, bind_s]
          dsimp only
          rw [x2, m_X9_leastWorth_61, y3, m_X9_leastWorth_83, eN, chkI (by omega) (by omega), m_X9_nameGroups, m_X9_nameGroups_0]
          have n1' : m_X9_nameGroups_10 Fs2 (n : Int) (fun t_groups' v3' v4' => m_X9_nameGroups_75 (n : Int) t_groups') FU groups ((2 ^ n - 1 : Nat) : Int) 0 = m_X9_nameGroups_75 (n : Int) gr := n1
          have n2' : m_X11_least_308 C2 T2 (n : Int) (fun t_groupOf' v5' v6' => m_X11_least_451 chosenN co2 C2 T2 t_groupOf' (n : Int)) FU groupOf ((2 ^ n - 1 : Nat) : Int) 0 = m_X11_least_451 chosenN co2 C2 T2 go (n : Int) := n2
          rw [n1', m_X9_nameGroups_75, bind_s, chkB (by omega) (by omega), bind_s, u2, m_X11_least_143, chkB (by omega) (by omega), show Int.toNat 0 = 0 from rfl, z3, m_X11_least_297, hb, eN, chkI (by omega) (by omega), n2', m_X11_least_451, hb, eN, chkB (by omega) (by omega), tn]
          exact ⟨_, _, rfl, rfl, hLT _ (by omega), n, rfl, rfl, hn, n3⟩
        · rw [if_neg (show ¬ (2 : Int) ≤ (n : Int) by omega), if_neg (show ¬ (2 : Int) ≤ (n : Int) by omega), bind_s]
          exact ⟨_, _, rfl, rfl, rfl, hgp⟩
    · rw [if_neg c1, m_X9_choose, m_X9_choose_0, if_neg (fun hh => c1 (j60.mp hh)), bind_s, if_neg (show ¬ (2 : Int) ≤ 0 by decide), bind_s]
      exact ⟨_, _, rfl, rfl, rfl, hgp⟩
  · rw [isKnotc0 hK c0, isKnotm0 hK c0, bind_s, bind_s, if_pos rfl, if_pos rfl]
    exact ⟨_, _, rfl, rfl, rfl, hgp⟩


/-! ===== PURE: least, the model's best; the groups named ===== -/
theorem q_best183 {g : Nat} {c C T : Nat → Int} (hg0 : 0 < g) (hg : g < 256) (hC : ∀ u, 0 < u → u ≤ g → C u = c u) (hc : ∀ u, 0 < u → u ≤ g → -1 ≤ c u ∧ c u ≤ 2000000 ∧ (rs u = 0 → 0 ≤ c u)) (hT : ∀ k, k < g → 0 ≤ T k ∧ T k ≤ 2000000 * k) (k291 : ((Nat → Int) → Int → Option (Int × Int × (Nat → Int) × (Nat → Int) × (Nat → Int) × (Nat → Int)))) :
    ∃ T2, m_X11_least_183 C (g : Int) ((lw g : Nat) : Int) k291 FU (up T g (-1000000000)) 1 = k291 T2 ((g : Int) + 1) ∧ (∀ k, k ≠ g → T2 k = T k) ∧ Bst c T2 g ∧ 0 ≤ T2 g ∧ T2 g ≤ 2000000 * g := by
  obtain ⟨r1, r2, r3, r4, r5, r6, r7, r8⟩ := lw_c ⟨g, hg⟩ hg0
  dsimp only at r1 r2 r3 r4 r5 r6 r7 r8
  have hval : ∀ u, Vd c g u → 0 ≤ c u + T (dif g u) ∧ c u + T (dif g u) ≤ 2000000 * g := fun u hv => by
    have x := Vd_lt hg0 hg hv
    have y := hc u (by omega) (by omega)
    have z := hT (dif g u) (by omega)
    have := hv.2.2.2
    omega
  obtain ⟨J, hJ⟩ : ∃ J : Nat → Int → Prop, J = fun i x => (x = -1000000000 ∧ ∀ u, u < i → ¬ Vd c g u) ∨ ((∃ u, u < i ∧ Vd c g u ∧ x = c u + T (dif g u)) ∧ ∀ u, u < i → Vd c g u → x ≤ c u + T (dif g u)) := ⟨_, rfl⟩
  have key := loop_p (g + 1) (fun F i => ∀ T1 : Nat → Int, 1 ≤ i → (∀ k, k ≠ g → T1 k = T k) → J i (T1 g) → ∃ T2, m_X11_least_183 C (g : Int) ((lw g : Nat) : Int) k291 F T1 (i : Int) = k291 T2 ((g : Int) + 1) ∧ (∀ k, k ≠ g → T2 k = T k) ∧ J (g + 1) (T2 g)) (fun F T1 _ h1 h2 => ⟨T1, by rw [m_X11_least_183, if_pos (by omega)]; rfl, h1, h2⟩) (fun F i hi ih _ T1 hi1 h1 h2 => by
    rw [m_X11_least_183, if_neg (by omega), bNot_n (by omega) (by omega)]
    have skip : ¬ Vd c g i → J (i + 1) (T1 g) := fun hs => by
      rw [hJ] at h2 ⊢
      rcases h2 with ⟨x1, x2⟩ | ⟨⟨u, x1, x2, x3⟩, x4⟩
      · refine Or.inl ⟨x1, fun u hu => ?_⟩
        by_cases cu : u = i
        · subst cu; exact hs
        · exact x2 u (by omega)
      · refine Or.inr ⟨⟨u, by omega, x2, x3⟩, fun u hu hv => ?_⟩
        by_cases cu : u = i
        · subst cu; exact absurd hv hs
        · exact x4 u (by omega) hv
    have nx : ∀ T3 : Nat → Int, (∀ k, k ≠ g → T3 k = T k) → J (i + 1) (T3 g) → ∃ T2, m_X11_least_285 C T3 (g : Int) ((lw g : Nat) : Int) (i : Int) (m_X11_least_183 C (g : Int) ((lw g : Nat) : Int) k291 F) k291 = k291 T2 ((g : Int) + 1) ∧ (∀ k, k ≠ g → T2 k = T k) ∧ J (g + 1) (T2 g) := fun T3 a b => by
      rw [m_X11_least_285, chkI (by omega) (by omega)]
      exact ih T3 (by omega) a b
    by_cases cz : dif i g = 0
    · rw [if_pos (show ((dif i g : Nat) : Int) = 0 by omega), bAnd_n (by omega) (by omega)]
      by_cases cl : i &&& lw g = 0
      · rw [if_pos (show ((i &&& lw g : Nat) : Int) = 0 by omega)]
        exact nx T1 h1 (skip (fun hv => hv.2.2.1 cl))
      · rw [if_neg (show ¬ ((i &&& lw g : Nat) : Int) = 0 by omega), chkB (by omega) (by omega), tn, hC i (by omega) (by omega)]
        by_cases cv : c i = -1
        · rw [if_pos cv]
          exact nx T1 h1 (skip (fun hv => hv.2.2.2 cv))
        · have hv : Vd c g i := ⟨by omega, cz, cl, cv⟩
          have x := Vd_lt hg0 hg hv
          have hb := hval i hv
          have e285 : ∀ T3 : Nat → Int, m_X11_least_284 C T1 (g : Int) ((lw g : Nat) : Int) (i : Int) (g : Int) (T3 g) (m_X11_least_183 C (g : Int) ((lw g : Nat) : Int) k291 F) k291 = m_X11_least_285 C (up T1 g (T3 g)) (g : Int) ((lw g : Nat) : Int) (i : Int) (m_X11_least_183 C (g : Int) ((lw g : Nat) : Int) k291 F) k291 := fun T3 => by
            rw [m_X11_least_284, chkB (by omega) (by omega), tn]
          rw [if_neg cv, bNot_n (by omega) (by omega), tn, tn, h1 _ (show dif g i ≠ g by omega), chkB (by omega) (by omega), chkB (by omega) (by omega), chkB (by omega) (by omega)]
          have better : T1 g = -1000000000 ∨ c i + T (dif g i) ≤ T1 g → ∃ T2, m_X11_least_272 C T1 (g : Int) ((lw g : Nat) : Int) (i : Int) (c i + T (dif g i)) (g : Int) (m_X11_least_183 C (g : Int) ((lw g : Nat) : Int) k291 F) k291 = k291 T2 ((g : Int) + 1) ∧ (∀ k, k ≠ g → T2 k = T k) ∧ J (g + 1) (T2 g) := fun hh => by
            rw [m_X11_least_272, m_X11_least_284, chkB (by omega) (by omega), tn]
            refine nx _ (fun k hk => by rw [up_ne _ _ hk]; exact h1 k hk) ?_
            rw [up_at]
            rw [hJ] at h2 ⊢
            refine Or.inr ⟨⟨i, by omega, hv, rfl⟩, fun u hu hv2 => ?_⟩
            by_cases cu : u = i
            · subst cu; exact Int.le_refl _
            · rcases h2 with ⟨x1, x2⟩ | ⟨⟨u', x1, x2, x3⟩, x4⟩
              · exact absurd hv2 (x2 u (by omega))
              · have y1 := x4 u (by omega) hv2
                have y2 := hval u' x2
                omega
          by_cases cn : T1 g = -1000000000
          · rw [if_pos cn, chkI (by omega) (by omega)]
            exact better (Or.inl cn)
          · rw [if_neg cn, chkB (by omega) (by omega), chkI (by omega) (by omega)]
            by_cases cle : T1 g ≤ c i + T (dif g i)
            · rw [if_pos cle, chkB (by omega) (by omega), m_X11_least_284, chkB (by omega) (by omega), tn]
              refine nx _ (fun k hk => by rw [up_ne _ _ hk]; exact h1 k hk) ?_
              rw [up_at]
              rw [hJ] at h2 ⊢
              rcases h2 with ⟨x1, x2⟩ | ⟨⟨u', x1, x2, x3⟩, x4⟩
              · exact absurd x1 cn
              · refine Or.inr ⟨⟨u', by omega, x2, x3⟩, fun u hu hv2 => ?_⟩
                by_cases cu : u = i
                · subst cu; exact cle
                · exact x4 u (by omega) hv2
            · rw [if_neg cle]
              exact better (Or.inr (by omega))
    · rw [if_neg (show ¬ ((dif i g : Nat) : Int) = 0 by omega)]
      exact nx T1 h1 (skip (fun hv => cz hv.2.1)))
  obtain ⟨T2, k1, k2, k3⟩ := key g FU 1 (by omega) (by unfold FU; omega) (up T g (-1000000000)) (by omega) (fun k hk => up_ne _ _ hk) (by
    rw [up_at, hJ]
    refine Or.inl ⟨rfl, fun u hu hv => ?_⟩
    have := Vd_lt hg0 hg hv
    omega)
  have hlt : ∀ u, Vd c g u → T2 (dif g u) = T (dif g u) := fun u hv => by
    have := Vd_lt hg0 hg hv
    exact k2 _ (by omega)
  rw [hJ] at k3
  rcases k3 with ⟨x1, x2⟩ | ⟨⟨u, x1, x2, x3⟩, x4⟩
  · exact absurd ⟨by omega, r6, r7, by have := (hc (lw g) r3 r5).2.2 r8; omega⟩ (x2 (lw g) (by omega))
  · have hb := hval u x2
    refine ⟨T2, k1, k2, ⟨⟨u, x2, by rw [hlt u x2]; exact x3⟩, fun u' hv => by rw [hlt u' hv]; exact x4 u' (by have := Vd_lt hg0 hg hv; omega) hv⟩, by omega, by omega⟩
theorem q_first325 {g u : Nat} {c C T : Nat → Int} (hg0 : 0 < g) (hg : g < 256) (hC : ∀ u, 0 < u → u ≤ g → C u = c u) (hc : ∀ u, 0 < u → u ≤ g → -1 ≤ c u ∧ c u ≤ 2000000 ∧ (rs u = 0 → 0 ≤ c u)) (hT : ∀ k, k ≤ g → 0 ≤ T k ∧ T k ≤ 2000000 * k) (hf : Fst c T g u) (k390 : Int → Option (Int × Int × (Nat → Int) × (Nat → Int) × (Nat → Int) × (Nat → Int))) :
    m_X11_least_325 C T (g : Int) ((lw g : Nat) : Int) k390 FU ((lw g : Nat) : Int) = k390 (u : Int) := by
  obtain ⟨hv, h2, h3⟩ := hf
  have x := Vd_lt hg0 hg hv
  obtain ⟨r1, r2, r3, r4, r5, r6, r7, r8⟩ := lw_c ⟨g, hg⟩ hg0
  dsimp only at r1 r2 r3 r4 r5 r6 r7 r8
  exact loop_p u (fun F i => 0 < i → m_X11_least_325 C T (g : Int) ((lw g : Nat) : Int) k390 F (i : Int) = k390 (u : Int)) (fun F _ => by
    have t1 := hT (dif g u) (by omega)
    have t2 := hc u (by omega) (by omega)
    rw [m_X11_least_325, bNot_n (by omega) (by omega), hv.2.1, if_pos (show ((0 : Nat) : Int) = 0 from rfl), bAnd_n (by omega) (by omega), if_neg (show ¬ ((u &&& lw g : Nat) : Int) = 0 by have := hv.2.2.1; omega), chkB (by omega) (by omega), tn, hC u (by omega) (by omega), if_neg hv.2.2.2, bNot_n (by omega) (by omega), tn, tn, chkB (by omega) (by omega), chkB (by omega) (by omega), chkB (by omega) (by omega), chkI (by omega) (by omega), if_pos h2.symm]) (fun F i hi ih _ hi0 => by
    have nx : m_X11_least_384 C T (g : Int) ((lw g : Nat) : Int) (i : Int) (m_X11_least_325 C T (g : Int) ((lw g : Nat) : Int) k390 F) k390 = k390 (u : Int) := by
      rw [m_X11_least_384, chkI (by omega) (by omega)]
      exact ih (by omega)
    rw [m_X11_least_325, bNot_n (by omega) (by omega)]
    by_cases cz : dif i g = 0
    · rw [if_pos (show ((dif i g : Nat) : Int) = 0 by omega), bAnd_n (by omega) (by omega)]
      by_cases cl : i &&& lw g = 0
      · rw [if_pos (show ((i &&& lw g : Nat) : Int) = 0 by omega)]
        exact nx
      · rw [if_neg (show ¬ ((i &&& lw g : Nat) : Int) = 0 by omega), chkB (by omega) (by omega), tn, hC i (by omega) (by omega)]
        by_cases cv : c i = -1
        · rw [if_pos cv]
          exact nx
        · have hv' : Vd c g i := ⟨by omega, cz, cl, cv⟩
          have y := Vd_lt hg0 hg hv'
          have t1 := hT (dif g i) (by omega)
          have t2 := hc i (by omega) (by omega)
          have t3 := h3 i hi hv'
          rw [if_neg cv, bNot_n (by omega) (by omega), tn, tn, chkB (by omega) (by omega), chkB (by omega) (by omega), chkB (by omega) (by omega), chkI (by omega) (by omega), if_neg (fun hh => t3 hh.symm)]
          exact nx
    · rw [if_neg (show ¬ ((dif i g : Nat) : Int) = 0 by omega)]
      exact nx) (u - lw g) FU (lw g) (by omega) (by unfold FU; omega) r3
theorem q_name31 {n f : Nat} {t : Int} {groups : Nat → Int} (hn : n ≤ 8) (hf : f < 256) (k62 : (Nat → Int) → Int → Option (Int × (Nat → Int))) :
    ∃ gr, (∀ j, j < n → gr j = if f.testBit j then t else groups j) ∧ m_X9_nameGroups_31 (n : Int) t (f : Int) k62 FU groups 0 = k62 gr (n : Int) := by
  exact loop_p n (fun F i => ∀ g1 : Nat → Int, (∀ j, j < i → g1 j = if f.testBit j then t else groups j) → (∀ j, i ≤ j → g1 j = groups j) → ∃ gr, (∀ j, j < n → gr j = if f.testBit j then t else groups j) ∧ m_X9_nameGroups_31 (n : Int) t (f : Int) k62 F g1 (i : Int) = k62 gr (n : Int)) (fun F g1 h1 _ => ⟨g1, h1, by rw [m_X9_nameGroups_31, if_pos (by omega)]⟩) (fun F i hi ih _ g1 h1 h2 => by
    have h := bit_c ⟨f, hf⟩ ⟨i, by omega⟩
    dsimp only at h
    rw [m_X9_nameGroups_31, if_neg (by omega), h]
    by_cases c : f.testBit i = true
    · rw [if_pos c, if_neg ne10, chkB (by omega) (by omega), m_X9_nameGroups_56, chkI (by omega) (by omega), tn]
      refine ih _ (fun j hj => ?_) (fun j hj => by rw [up_ne _ _ (by omega)]; exact h2 j (by omega))
      by_cases cj : j = i
      · subst cj; rw [up_at, if_pos c]
      · rw [up_ne _ _ cj]; exact h1 j (by omega)
    · rw [if_neg c, if_pos rfl, m_X9_nameGroups_56, chkI (by omega) (by omega)]
      refine ih _ (fun j hj => ?_) (fun j hj => h2 j (by omega))
      by_cases cj : j = i
      · subst cj; rw [if_neg c]; exact h2 j (Nat.le_refl _)
      · exact h1 j (by omega)) n FU 0 (by omega) (by unfold FU; omega) groups (fun j hj => by omega) (fun j _ => rfl)
theorem q_name393 {n f : Nat} {t : Int} {groups : Nat → Int} (hn : n ≤ 8) (hf : f < 256) (k436 : ((Nat → Int) → Int → Option (Int × Int × (Nat → Int) × (Nat → Int) × (Nat → Int) × (Nat → Int)))) :
    ∃ gr, (∀ j, j < n → gr j = if f.testBit j then t else groups j) ∧ m_X11_least_393 (n : Int) t (f : Int) k436 FU groups 0 = k436 gr (n : Int) := by
  exact loop_p n (fun F i => ∀ g1 : Nat → Int, (∀ j, j < i → g1 j = if f.testBit j then t else groups j) → (∀ j, i ≤ j → g1 j = groups j) → ∃ gr, (∀ j, j < n → gr j = if f.testBit j then t else groups j) ∧ m_X11_least_393 (n : Int) t (f : Int) k436 F g1 (i : Int) = k436 gr (n : Int)) (fun F g1 h1 _ => ⟨g1, h1, by rw [m_X11_least_393, if_pos (by omega)]⟩) (fun F i hi ih _ g1 h1 h2 => by
    have h := bit_c ⟨f, hf⟩ ⟨i, by omega⟩
    dsimp only at h
    rw [m_X11_least_393, if_neg (by omega), h]
    by_cases c : f.testBit i = true
    · rw [if_pos c, if_pos rfl, m_X11_least_429, chkB (by omega) (by omega), chkI (by omega) (by omega), tn]
      refine ih _ (fun j hj => ?_) (fun j hj => by rw [up_ne _ _ (by omega)]; exact h2 j (by omega))
      by_cases cj : j = i
      · subst cj; rw [up_at, if_pos c]
      · rw [up_ne _ _ cj]; exact h1 j (by omega)
    · rw [if_neg c, if_neg (by decide), chkB (by omega) (by omega), m_X11_least_429, chkB (by omega) (by omega), chkI (by omega) (by omega), tn]
      refine ih _ (fun j hj => ?_) (fun j hj => by rw [up_ne _ _ (by omega)]; exact h2 j (by omega))
      by_cases cj : j = i
      · subst cj; rw [up_at, if_neg c]; exact h2 j (Nat.le_refl _)
      · rw [up_ne _ _ cj]; exact h1 j (by omega)) n FU 0 (by omega) (by unfold FU; omega) groups (fun j hj => by omega) (fun j _ => rfl)
theorem q_names {n : Nat} {c C T Fs : Nat → Int} (hn : n ≤ 8) (hC : ∀ u, 0 < u → u < 2 ^ n → C u = c u) (hc : ∀ u, 0 < u → u < 2 ^ n → -1 ≤ c u ∧ c u ≤ 2000000 ∧ (rs u = 0 → 0 ≤ c u)) (hT : ∀ k, k < 2 ^ n → 0 ≤ T k ∧ T k ≤ 2000000 * k) (hf : ∀ g, 0 < g → g < 2 ^ n → ∃ u : Nat, Fs g = (u : Int) ∧ Fst c T g u) (k75 : (Nat → Int) → Int → Int → Option (Int × (Nat → Int))) (k451 : ((Nat → Int) → Int → Int → Option (Int × Int × (Nat → Int) × (Nat → Int) × (Nat → Int) × (Nat → Int)))) :
    ∀ m, m < 2 ^ n → ∀ (t : Nat) (groups groupOf : Nat → Int) (Fc Fm : Nat), m < Fc → m < Fm → (∀ j, j < n → m.testBit j = false → groups j = groupOf j) → bsum (fun _ => 1) m n + t ≤ n → ∃ gr go a b a2 b2, m_X9_nameGroups_10 Fs (n : Int) k75 Fc groups (m : Int) (t : Int) = k75 gr a b ∧ m_X11_least_308 C T (n : Int) k451 Fm groupOf (m : Int) (t : Int) = k451 go a2 b2 ∧ ∀ j, j < n → gr j = go j := by
  have h2 := p2_bd hn
  intro m
  induction m using Nat.strongRecOn with
  | ind m ih =>
    intro hm t groups groupOf Fc Fm hFc hFm hag hcnt
    obtain ⟨Fc, rfl⟩ : ∃ k, Fc = k + 1 := ⟨Fc - 1, by omega⟩
    obtain ⟨Fm, rfl⟩ : ∃ k, Fm = k + 1 := ⟨Fm - 1, by omega⟩
    by_cases c0 : m = 0
    · subst c0
      refine ⟨groups, groupOf, ((0 : Nat) : Int), (t : Int), ((0 : Nat) : Int), (t : Int), ?_, by rw [m_X11_least_308, if_pos (show ((0 : Nat) : Int) = 0 from rfl)], fun j hj => hag j hj (Nat.zero_testBit j)⟩
      rw [m_X9_nameGroups_10]
      by_cases c1 : (n : Int) ≤ (t : Int)
      · rw [if_pos c1]
      · rw [if_neg c1, if_pos (show ((0 : Nat) : Int) ≤ 0 from Int.le_refl _)]
    · obtain ⟨u, f1, f2⟩ := hf m (by omega) hm
      have x := Vd_lt (by omega) (by omega) f2.1
      obtain ⟨r1, r2, r3, r4, r5, r6, r7, r8⟩ := lw_c ⟨m, by omega⟩ (by dsimp only; omega)
      obtain ⟨l1, l2⟩ := lx_c ⟨m, by omega⟩ (by dsimp only; omega)
      have ln := lx_n ⟨n, by omega⟩ ⟨m, by omega⟩ (by dsimp only; omega) hm
      dsimp only at r1 r2 r3 r4 r5 r6 r7 r8 l1 l2 ln
      have hmono := bmono (g := m) (g' := dif m u) n (lx m) ln (fun j hj => by rw [dif_bit] at hj; exact (Bool.and_eq_true _ _ ▸ hj).1) ((l2 ⟨lx m, l1⟩).2.1 rfl).2 (by rw [dif_bit, x.2.2.2.2.2.2.2]; cases m.testBit (lx m) <;> rfl)
      have hpos := bone_bd (g := dif m u) n
      obtain ⟨gr, g1, g2⟩ := q_name31 (n := n) (f := u) (t := (t : Int)) (groups := groups) hn (by omega) (fun t_groups' v6' => m_X9_nameGroups_62 t_groups' Fs (n : Int) (m : Int) (t : Int) (u : Int) (m_X9_nameGroups_10 Fs (n : Int) k75 Fc) k75)
      obtain ⟨go, o1, o2⟩ := q_name393 (n := n) (f := u) (t := (t : Int)) (groups := groupOf) hn (by omega) (fun t_groupOf' v9' => m_X11_least_436 C T t_groupOf' (n : Int) (m : Int) (t : Int) (u : Int) (m_X11_least_308 C T (n : Int) k451 Fm) k451)
      rw [m_X9_nameGroups_10, if_neg (by omega), if_neg (by omega), chkB (by omega) (by omega), tn, f1, g2, m_X9_nameGroups_62, chkI (by omega) (by omega), bNot_n (by omega) (by omega), m_X11_least_308, if_neg (by omega), r2, q_first325 (by omega) (by omega) (fun u h1 h2 => hC u h1 (by omega)) (fun u h1 h2 => hc u h1 (by omega)) (fun k hk => hT k (by omega)) f2, m_X11_least_390, o2, m_X11_least_436, chkI (by omega) (by omega), bNot_n (by omega) (by omega)]
      exact ih (dif m u) x.2.2.1 (by omega) (t + 1) gr go Fc Fm (by omega) (by omega) (fun j hj hb => by
        rw [g1 j hj, o1 j hj]
        rw [dif_bit] at hb
        by_cases cu : u.testBit j = true
        · rw [if_pos cu, if_pos cu]
        · rw [if_neg cu, if_neg cu]
          refine hag j hj ?_
          cases hmj : m.testBit j
          · rfl
          · cases huj : u.testBit j
            · rw [hmj, huj] at hb; exact absurd hb (by decide)
            · exact absurd huj cu) (by omega)

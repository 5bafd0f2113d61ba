
/-! ===== PURE: least, sums and worths ===== -/
/-- the part of the line chosen j-th, away from the knot -/
def gX (start ch : Nat → Int) (v1 : Int) (xs : Nat → Int) (j : Nat) : Int := (if start (ch j).toNat = v1 then 1 else -1) * xs (ch j).toNat
theorem gX_bd {start ch xs : Nat → Int} {v1 : Int} {j : Nat} (h : -99 ≤ xs (ch j).toNat ∧ xs (ch j).toNat ≤ 99) : -99 ≤ gX start ch v1 xs j ∧ gX start ch v1 xs j ≤ 99 := by
  unfold gX
  split <;> omega
theorem bsum_bd2 {f : Nat → Int} {g : Nat} : ∀ n : Nat, (∀ j, j < n → -99 ≤ f j ∧ f j ≤ 99) → -(99 * n) ≤ bsum f g n ∧ bsum f g n ≤ 99 * n := by
  intro n
  induction n with
  | zero => intro _; show -(99 * ((0 : Nat) : Int)) ≤ 0 ∧ (0 : Int) ≤ 99 * ((0 : Nat) : Int); omega
  | succ n ih =>
    intro hf
    have h1 := ih (fun j hj => hf j (by omega))
    have h2 := hf n (by omega)
    rw [bsum_s]
    split <;> omega
theorem bone_bd {g : Nat} : ∀ n : Nat, 0 ≤ bsum (fun _ => 1) g n ∧ bsum (fun _ => 1) g n ≤ n := by
  intro n
  induction n with
  | zero => exact ⟨Int.le_refl _, Int.le_refl _⟩
  | succ n ih =>
    rw [bsum_s]
    split <;> omega
theorem q_lowest {n g : Nat} (hg0 : 0 < g) (hg : g < 256) (hl : lx g < n) (hn : n ≤ 8) : m_X9_lowestOf (g : Int) (n : Int) = some ((lx g : Nat) : Int) := by
  obtain ⟨l1, l2⟩ := lx_c ⟨g, hg⟩ hg0
  dsimp only at l1 l2
  rw [m_X9_lowestOf, m_X9_lowestOf_0]
  exact loop_p (lx g) (fun F i => m_X9_lowestOf_2 (g : Int) (n : Int) (fun v2' => m_X9_lowestOf_23) (fun v2' => m_X9_lowestOf_15 v2') F (i : Int) = some ((lx g : Nat) : Int)) (fun F => by
    have h := bit_c ⟨g, hg⟩ ⟨lx g, l1⟩
    dsimp only at h
    rw [m_X9_lowestOf_2, if_neg (by omega), h, ((l2 ⟨lx g, l1⟩).2.1 rfl).2, if_pos rfl, if_neg (by decide)]) (fun F i hi ih _ => by
    have h := bit_c ⟨g, hg⟩ ⟨i, by omega⟩
    dsimp only at h
    rw [m_X9_lowestOf_2, if_neg (by omega), h, (l2 ⟨i, by omega⟩).2.2 hi, if_neg (show ¬ (false = true) by decide), if_pos rfl, chkI (by omega) (by omega)]
    exact ih) (lx g) FU 0 (by omega) (by unfold FU; omega)
theorem p2_bd {n : Nat} (hn : n ≤ 8) : 1 ≤ 2 ^ n ∧ 2 ^ n ≤ 256 := by
  have h1 : 2 ^ n ≤ 2 ^ 8 := Nat.pow_le_pow_right (by decide) hn
  have h2 : (2 : Nat) ^ 8 = 256 := by decide
  have h3 : 0 < 2 ^ n := Nat.pow_pos (by decide)
  omega
theorem q_addUp {L n : Nat} {v1 sm0 : Int} {start xs ys zs ch SX SY SZ : Nat → Int} (hL : L ≤ 120) (hn : 1 ≤ n ∧ n ≤ 8) (hch : ∀ j, j < n → ∃ l : Nat, l < L ∧ ch j = (l : Int)) (hb : ∀ k, k < L → bd3 99 (xs k) (ys k) (zs k)) :
    ∃ SX2 SY2 SZ2, m_X9_addUp start (L : Int) xs ys zs ch sm0 SX SY SZ v1 (n : Int) ((2 ^ n : Nat) : Int) = some (((2 ^ n : Nat) : Int), SX2, SY2, SZ2) ∧ (∀ h, h < 2 ^ n → SX2 h = bsum (gX start ch v1 xs) h n ∧ SY2 h = bsum (gX start ch v1 ys) h n ∧ SZ2 h = bsum (gX start ch v1 zs) h n) := by
  have h2 := p2_bd hn.2
  have hgb : ∀ (f : Nat → Int), (∀ k, k < L → -99 ≤ f k ∧ f k ≤ 99) → ∀ g, -792 ≤ bsum (gX start ch v1 f) g n ∧ bsum (gX start ch v1 f) g n ≤ 792 := fun f hf g => by
    have := bsum_bd2 (f := gX start ch v1 f) (g := g) n (fun j hj => by
      obtain ⟨l, h1, h3⟩ := hch j hj
      exact gX_bd (by rw [h3]; exact hf l h1))
    omega
  have bx := hgb xs (fun k hk => (hb k hk).1)
  have by' := hgb ys (fun k hk => (hb k hk).2.1)
  have bz := hgb zs (fun k hk => (hb k hk).2.2)
  have b0 : ∀ f, bsum f 0 n = 0 := fun f => by
    have : ∀ m, bsum f 0 m = 0 := fun m => by
      induction m with
      | zero => rfl
      | succ m ih => rw [bsum_s, ih, Nat.zero_testBit]; rfl
    exact this n
  rw [m_X9_addUp, m_X9_addUp_0, m_X8_drop, m_X8_drop_0, bind_s, show (0 : Int) = ((0 : Nat) : Int) from rfl, q_append (by omega) (by omega), bind_s]
  generalize hk : (fun t_sums_many' t_sums_xs' t_sums_ys' t_sums_zs' (v4' : Int) => m_X9_addUp_167 t_sums_many' t_sums_xs' t_sums_ys' t_sums_zs') = k167
  exact loop_p (2 ^ n) (fun F g => ∀ SX SY SZ, 1 ≤ g → (∀ h, h < g → SX h = bsum (gX start ch v1 xs) h n ∧ SY h = bsum (gX start ch v1 ys) h n ∧ SZ h = bsum (gX start ch v1 zs) h n) → ∃ SX2 SY2 SZ2, m_X9_addUp_20 start (L : Int) xs ys zs ch v1 (n : Int) ((2 ^ n : Nat) : Int) k167 F (g : Int) SX SY SZ (g : Int) = some (((2 ^ n : Nat) : Int), SX2, SY2, SZ2) ∧ (∀ h, h < 2 ^ n → SX2 h = bsum (gX start ch v1 xs) h n ∧ SY2 h = bsum (gX start ch v1 ys) h n ∧ SZ2 h = bsum (gX start ch v1 zs) h n)) (fun F SX SY SZ _ h => ⟨SX, SY, SZ, by rw [m_X9_addUp_20, if_pos (Int.le_refl _)], h⟩) (fun F g hg ih _ SX SY SZ hg1 hinv => by
    obtain ⟨r1, r2, r3, r4, r5⟩ := lw_c ⟨g, by omega⟩ (by dsimp only; omega)
    obtain ⟨l1, l2⟩ := lx_c ⟨g, by omega⟩ (by dsimp only; omega)
    have ln := lx_n ⟨n, by omega⟩ ⟨g, by omega⟩ (by dsimp only; omega) hg
    have hd := bdec_c ⟨g, by omega⟩ (by dsimp only; omega)
    dsimp only at r1 r2 r3 r4 r5 l1 l2 ln hd
    obtain ⟨l, hl1, hl2⟩ := hch (lx g) ln
    obtain ⟨i1, i2, i3⟩ := hinv (rs g) r4
    have st : ∀ f, bsum f g n = bsum f (rs g) n + f (lx g) := fun f => bsum_step n ln (fun j hj hjn => ((l2 ⟨j, by omega⟩).1 hjn).symm) ((l2 ⟨lx g, l1⟩).2.1 rfl).2 ((l2 ⟨lx g, l1⟩).2.1 rfl).1
    rw [m_X9_addUp_20, if_neg (by omega), q_lowest (by omega) (by omega) ln hn.2, bind_s, chkB (by omega) (by omega), tn, hl2, chkB (by omega) (by omega), tn]
    have h59 : ∀ s0 : Int, s0 = (if start l = v1 then 1 else -1) → ∃ SX2 SY2 SZ2, m_X9_addUp_59 start (L : Int) xs ys zs ch (g : Int) SX SY SZ v1 (n : Int) ((2 ^ n : Nat) : Int) (g : Int) (l : Int) s0 (m_X9_addUp_20 start (L : Int) xs ys zs ch v1 (n : Int) ((2 ^ n : Nat) : Int) k167 F) k167 = some (((2 ^ n : Nat) : Int), SX2, SY2, SZ2) ∧ (∀ h, h < 2 ^ n → SX2 h = bsum (gX start ch v1 xs) h n ∧ SY2 h = bsum (gX start ch v1 ys) h n ∧ SZ2 h = bsum (gX start ch v1 zs) h n) := fun s0 hs0 => by
      have e1 : SX (rs g) + s0 * xs l = (bsum (gX start ch v1 xs) g n) := by rw [i1, st]; unfold gX; rw [hl2, tn, ← hs0]
      have e2 : SY (rs g) + s0 * ys l = (bsum (gX start ch v1 ys) g n) := by rw [i2, st]; unfold gX; rw [hl2, tn, ← hs0]
      have e3 : SZ (rs g) + s0 * zs l = (bsum (gX start ch v1 zs) g n) := by rw [i3, st]; unfold gX; rw [hl2, tn, ← hs0]
      have x1 := bx g
      have x2 := by' g
      have x3 := bz g
      rw [m_X9_addUp_59, hd, q_partOf (by omega) r4, bind_s, q_partOf hL hl1, bind_s, q_partOf (by omega) r4, bind_s, q_partOf hL hl1, bind_s, q_partOf (by omega) r4, bind_s, q_partOf hL hl1, bind_s]
      rw [show pt SX SY SZ (rs g) 0 = SX (rs g) from rfl, show pt SX SY SZ (rs g) 1 = SY (rs g) from rfl, show pt SX SY SZ (rs g) 2 = SZ (rs g) from rfl, show pt xs ys zs l 0 = xs l from rfl, show pt xs ys zs l 1 = ys l from rfl, show pt xs ys zs l 2 = zs l from rfl, e1, e2, e3, chkI (by omega) (by omega), chkI (by omega) (by omega), chkI (by omega) (by omega), q_append (by omega) (by omega), bind_s, chkI (by omega) (by omega)]
      refine ih _ _ _ (by omega) (fun h hh => ?_)
      dsimp only
      by_cases c : h = g
      · subst c; rw [up_at, up_at, up_at]; exact ⟨rfl, rfl, rfl⟩
      · rw [up_ne _ _ c, up_ne _ _ c, up_ne _ _ c]; exact hinv h (by omega)
    by_cases c : start l = v1
    · rw [if_pos c]; exact h59 1 (by rw [if_pos c])
    · rw [if_neg c]; exact h59 (-1) (by rw [if_neg c])) (2 ^ n - 1) FU 1 (by omega) (by unfold FU; omega) _ _ _ (by omega) (fun h hh => by
    obtain rfl : h = 0 := by omega
    dsimp only
    rw [b0, b0, b0, up_at, up_at, up_at]
    exact ⟨rfl, rfl, rfl⟩)
theorem q_costOf {L n g : Nat} {v1 : Int} {start xs ys zs line ch co many2 way : Nat → Int} (hL : L ≤ 120) (hn : n ≤ 8) (hg : g < 256) (hch : ∀ j, j < n → co j = ch j ∧ ∃ l : Nat, l < L ∧ ch j = (l : Int)) (hb : ∀ k, k < L → xs k = line (3 * k) ∧ ys k = line (3 * k + 1) ∧ zs k = line (3 * k + 2) ∧ bd3 99 (xs k) (ys k) (zs k)) :
    m_X11_costOf many2 way start line co v1 (n : Int) (g : Int) = m_X11_costOf_133 many2 way (bsum (gX start ch v1 xs) g n) (bsum (gX start ch v1 ys) g n) (bsum (gX start ch v1 zs) g n) (bsum (fun _ => 1) g n) := by
  have hgb : ∀ (f : Nat → Int), (∀ k, k < L → -99 ≤ f k ∧ f k ≤ 99) → ∀ g m, m ≤ n → -792 ≤ bsum (gX start ch v1 f) g m ∧ bsum (gX start ch v1 f) g m ≤ 792 := fun f hf g m hm => by
    have := bsum_bd2 (f := gX start ch v1 f) (g := g) m (fun j hj => by
      obtain ⟨_, l, h1, h3⟩ := hch j (by omega)
      exact gX_bd (by rw [h3]; exact hf l h1))
    omega
  have bx := hgb xs (fun k hk => (hb k hk).2.2.2.1)
  have by' := hgb ys (fun k hk => (hb k hk).2.2.2.2.1)
  have bz := hgb zs (fun k hk => (hb k hk).2.2.2.2.2)
  rw [m_X11_costOf, m_X11_costOf_0]
  exact loop_up n (fun F i => m_X11_costOf_15 start line co v1 (n : Int) (g : Int) (fun v4' v5' v6' v7' v8' => m_X11_costOf_133 many2 way v4' v5' v6' v7') F (bsum (gX start ch v1 xs) g i) (bsum (gX start ch v1 ys) g i) (bsum (gX start ch v1 zs) g i) (bsum (fun _ => 1) g i) (i : Int)) (fun _ => m_X11_costOf_133 many2 way (bsum (gX start ch v1 xs) g n) (bsum (gX start ch v1 ys) g n) (bsum (gX start ch v1 zs) g n) (bsum (fun _ => 1) g n)) (fun F => by
    show m_X11_costOf_15 _ _ _ _ _ _ _ (F + 1) _ _ _ _ _ = _
    rw [m_X11_costOf_15, if_pos (by omega)]) (fun F i hi ih => by
    show m_X11_costOf_15 _ _ _ _ _ _ _ (F + 1) _ _ _ _ _ = _
    have h := bit_c ⟨g, hg⟩ ⟨i, by omega⟩
    dsimp only at h
    obtain ⟨hc, l, hl1, hl2⟩ := hch i hi
    obtain ⟨y1, y2, y3, y4⟩ := hb l hl1
    have x1 := bx g (i + 1) (by omega)
    have x2 := by' g (i + 1) (by omega)
    have x3 := bz g (i + 1) (by omega)
    have x4 := bone_bd (g := g) i
    rw [bsum_s] at x1 x2 x3
    have ih' : m_X11_costOf_15 start line co v1 (n : Int) (g : Int) (fun v4' v5' v6' v7' v8' => m_X11_costOf_133 many2 way v4' v5' v6' v7') F (bsum (gX start ch v1 xs) g (i + 1)) (bsum (gX start ch v1 ys) g (i + 1)) (bsum (gX start ch v1 zs) g (i + 1)) (bsum (fun _ => 1) g (i + 1)) ((i : Int) + 1) = _ := ih
    rw [bsum_s, bsum_s, bsum_s, bsum_s] at ih'
    rw [m_X11_costOf_15, if_neg (by omega), h]
    by_cases cb : g.testBit i = true
    · rw [if_pos cb] at x1 x2 x3
      rw [if_pos cb, if_pos cb, if_pos cb, if_pos cb] at ih'
      rw [if_pos cb, if_pos rfl, chkB (by omega) (by omega), tn, hc, hl2, chkB (by omega) (by omega), tn]
      have ex : gX start ch v1 xs i = (if start l = v1 then 1 else -1) * line (3 * l) := by unfold gX; rw [hl2, tn, y1]
      have ey : gX start ch v1 ys i = (if start l = v1 then 1 else -1) * line (3 * l + 1) := by unfold gX; rw [hl2, tn, y2]
      have ez : gX start ch v1 zs i = (if start l = v1 then 1 else -1) * line (3 * l + 2) := by unfold gX; rw [hl2, tn, y3]
      rw [ex] at x1
      rw [ey] at x2
      rw [ez] at x3
      rw [ex, ey, ez] at ih'
      have h52 : ∀ s0 : Int, s0 = (if start l = v1 then 1 else -1) → m_X11_costOf_52 start line co v1 (n : Int) (g : Int) (bsum (gX start ch v1 xs) g i) (bsum (gX start ch v1 ys) g i) (bsum (gX start ch v1 zs) g i) (bsum (fun _ => 1) g i) (i : Int) s0 (m_X11_costOf_15 start line co v1 (n : Int) (g : Int) (fun v4' v5' v6' v7' v8' => m_X11_costOf_133 many2 way v4' v5' v6' v7') F) (fun v4' v5' v6' v7' v8' => m_X11_costOf_133 many2 way v4' v5' v6' v7') = m_X11_costOf_133 many2 way (bsum (gX start ch v1 xs) g n) (bsum (gX start ch v1 ys) g n) (bsum (gX start ch v1 zs) g n) (bsum (fun _ => 1) g n) := fun s0 hs0 => by
        rw [← hs0] at x1 x2 x3 ih'
        rw [m_X11_costOf_52, tn, hc, hl2, chkB (by omega) (by omega), chkB (by omega) (by omega), chkB (by omega) (by omega), chkB (by omega) (by omega), chkB (by omega) (by omega), chkB (by omega) (by omega), show Int.toNat (3 * (l : Int)) = 3 * l by omega, show Int.toNat (3 * (l : Int) + 1) = 3 * l + 1 by omega, show Int.toNat (3 * (l : Int) + 2) = 3 * l + 2 by omega, chkI (by omega) (by omega), chkI (by omega) (by omega), chkI (by omega) (by omega), chkI (by omega) (by omega), m_X11_costOf_127, chkI (by omega) (by omega)]
        exact ih'
      by_cases c : start l = v1
      · rw [if_pos c]; exact h52 1 (by rw [if_pos c])
      · rw [if_neg c]; exact h52 (-1) (by rw [if_neg c])
    · rw [if_neg cb, if_neg cb, if_neg cb, if_neg cb, Int.add_zero, Int.add_zero, Int.add_zero, Int.add_zero] at ih'
      rw [if_neg cb, if_neg (by decide), m_X11_costOf_127, chkI (by omega) (by omega)]
      exact ih') n FU 0 (by omega) (by unfold FU; omega)

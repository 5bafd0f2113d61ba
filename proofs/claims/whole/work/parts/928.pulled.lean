
/-! ===== PURE: the pull on a system ===== -/
theorem root_uniq {r s X Y : Int} (hY : 0 < Y) (hr : 0 ≤ r) (hs : 0 ≤ s) (h1 : r * r * Y ≤ X) (h2 : X < (r + 1) * (r + 1) * Y) (h3 : s * s * Y ≤ X) (h4 : X < (s + 1) * (s + 1) * Y) : r = s := by
  have key : ∀ a b : Int, 0 ≤ a → a < b → (a + 1) * (a + 1) * Y ≤ b * b * Y := fun a b ha hab => Int.mul_le_mul_of_nonneg_right (Int.mul_le_mul (by omega) (by omega) (by omega) (by omega)) (by omega)
  rcases Int.lt_trichotomy r s with h | h | h
  · have := key r s hr h; omega
  · exact h
  · have := key s r hs h; omega
theorem jsh : ∀ j : Fin 15, jShr ((2 ^ j.val : Nat) : Int) 1 = (if j.val = 0 then 0 else ((2 ^ (j.val - 1) : Nat) : Int)) := by decide +kernel
theorem q_root {sq : Int} {k74 : Int → Int → Option Int} : ∀ (j F : Nat) (root : Int), j ≤ 15 → j < F → 0 ≤ root → root + ((2 ^ j : Nat) : Int) ≤ 32768 → root * root ≤ sq → sq < (root + ((2 ^ j : Nat) : Int)) * (root + ((2 ^ j : Nat) : Int)) →
    ∃ r, 0 ≤ r ∧ r ≤ 32767 ∧ r * r ≤ sq ∧ sq < (r + 1) * (r + 1) ∧ m_X4_forceOf_35 sq k74 F root (if j = 0 then 0 else ((2 ^ (j - 1) : Nat) : Int)) = k74 r 0 := by
  intro j
  induction j with
  | zero =>
    intro F root hj hF h0 h1 h2 h3
    obtain ⟨F, rfl⟩ : ∃ G, F = G + 1 := ⟨F - 1, by omega⟩
    have e : ((2 ^ 0 : Nat) : Int) = 1 := rfl
    rw [e] at h1 h3
    refine ⟨root, h0, by omega, h2, h3, ?_⟩
    rw [if_pos rfl, m_X4_forceOf_35, if_pos (by omega)]
  | succ j ih =>
    intro F root hj hF h0 h1 h2 h3
    obtain ⟨F, rfl⟩ : ∃ G, F = G + 1 := ⟨F - 1, by omega⟩
    have e : ((2 ^ (j + 1) : Nat) : Int) = 2 * ((2 ^ j : Nat) : Int) := by rw [Nat.pow_succ]; omega
    have hp : 0 < ((2 ^ j : Nat) : Int) := by have := Nat.pow_pos (n := j) (show 0 < 2 by decide); omega
    have hs := jsh ⟨j, by omega⟩
    dsimp only at hs
    rw [e] at h1 h3
    have hb := mul_bd (a := root + ((2 ^ j : Nat) : Int)) (b := root + ((2 ^ j : Nat) : Int)) (A := 32768) (B := 32768) (by omega) (by omega) (by omega) (by omega)
    rw [if_neg (by omega), Nat.add_sub_cancel, m_X4_forceOf_35, if_neg (by omega), chkJ (by omega) (by omega)]
    by_cases c : sq < (root + ((2 ^ j : Nat) : Int)) * (root + ((2 ^ j : Nat) : Int))
    · obtain ⟨r, r1, r2, r3, r4, r5⟩ := ih F root (by omega) (by omega) h0 (by omega) h2 c
      refine ⟨r, r1, r2, r3, r4, ?_⟩
      rw [if_pos c, m_X4_forceOf_65, hs]
      exact r5
    · obtain ⟨r, r1, r2, r3, r4, r5⟩ := ih F (root + ((2 ^ j : Nat) : Int)) (by omega) (by omega) (by omega) (by omega) (by omega) (by rw [show root + ((2 ^ j : Nat) : Int) + ((2 ^ j : Nat) : Int) = root + 2 * ((2 ^ j : Nat) : Int) by omega]; exact h3)
      refine ⟨r, r1, r2, r3, r4, ?_⟩
      rw [if_neg c, chkJ (by omega) (by omega), m_X4_forceOf_65, hs]
      exact r5
theorem q_bin {X Y : Int} {k180 : Int → Int → Option Int} (hY : 0 < Y) (hY2 : Y ≤ 3486784401) : ∀ (n F : Nat) (low high : Int), n < F → 0 ≤ low → low ≤ high → high ≤ 9999 → high - low < ((2 ^ n : Nat) : Int) → low * low * Y ≤ X → X < (high + 1) * (high + 1) * Y →
    ∃ r, 0 ≤ r ∧ r ≤ 9999 ∧ r * r * Y ≤ X ∧ X < (r + 1) * (r + 1) * Y ∧ m_X11_pulledOn_130 Y X k180 F low high = k180 r r := by
  intro n
  induction n with
  | zero =>
    intro F low high hF h0 h1 h2 h3 h4 h5
    obtain ⟨F, rfl⟩ : ∃ G, F = G + 1 := ⟨F - 1, by omega⟩
    have e : ((2 ^ 0 : Nat) : Int) = 1 := rfl
    rw [e] at h3
    obtain rfl : low = high := by omega
    exact ⟨low, h0, h2, h4, h5, by rw [m_X11_pulledOn_130, if_pos (Int.le_refl _)]⟩
  | succ n ih =>
    intro F low high hF h0 h1 h2 h3 h4 h5
    obtain ⟨F, rfl⟩ : ∃ G, F = G + 1 := ⟨F - 1, by omega⟩
    have e : ((2 ^ (n + 1) : Nat) : Int) = 2 * ((2 ^ n : Nat) : Int) := by rw [Nat.pow_succ]; omega
    rw [e] at h3
    by_cases c : high ≤ low
    · obtain rfl : low = high := by omega
      exact ⟨low, h0, h2, h4, h5, by rw [m_X11_pulledOn_130, if_pos c]⟩
    · have et : Int.tdiv (low + high + 1) 2 = (low + high + 1) / 2 := Int.tdiv_eq_ediv_of_nonneg (by omega)
      obtain ⟨m, hm⟩ : ∃ m, (low + high + 1) / 2 = m := ⟨_, rfl⟩
      have hm1 : low < m ∧ m ≤ high ∧ 2 * m ≤ low + high + 1 ∧ low + high ≤ 2 * m := by omega
      have b1 := mul_bd (a := m) (b := m) (A := 9999) (B := 9999) (by omega) (by omega) (by omega) (by omega)
      have b2 := mul_bd (a := m * m) (b := Y) (A := 99980001) (B := 3486784401) (by omega) (by omega) (by omega) (by omega)
      rw [m_X11_pulledOn_130, if_neg c, chkI (by omega) (by omega), chk_pos (by decide), et, hm, chkI (by omega) (by omega), chkJ (by omega) (by omega)]
      by_cases d : X < m * m * Y
      · obtain ⟨r, r1, r2, r3, r4, r5⟩ := ih F low (m - 1) (by omega) h0 (by omega) (by omega) (by omega) h4 (by rw [show m - 1 + 1 = m by omega]; exact d)
        refine ⟨r, r1, r2, r3, r4, ?_⟩
        rw [if_pos d, chkI (by omega) (by omega), m_X11_pulledOn_177]
        exact r5
      · obtain ⟨r, r1, r2, r3, r4, r5⟩ := ih F m high (by omega) (by omega) (by omega) h2 (by omega) (by omega) h5
        refine ⟨r, r1, r2, r3, r4, ?_⟩
        rw [if_neg d, m_X11_pulledOn_177]
        exact r5
theorem q_force {px py pz sx sy sz ways : Nat → Int} {n k : Nat} {x y z p a b f : Int} (ht : pl3 x y z) (hg : gWk px py pz sx sy sz ways k) (hn : n ≤ 8) (hk : k < n) (hf : 0 ≤ f ∧ f ≤ 9999) :
    ∃ q p' a' b', m_X2_forceOn (n : Int) px py pz (n : Int) sx sy sz x y z p a b f (k : Int) = some (q, p', a', b') ∧ m_X11_pulledOn ways x y z f (k : Int) = some q ∧ -9999 ≤ q ∧ q ≤ 9999 := by
  obtain ⟨_, hal, _⟩ := q_along (n := n) ht.1 hg hn hk
  obtain ⟨g1, g2, g3, g4, g5, g6, g7, g8, g9, g10, g11⟩ := hg
  have hS : aL x y z ways k = pS x y z (px k) (py k) (pz k) (sx k) (sy k) (sz k) := by unfold aL pS; rw [g1, g2, g3, g4, g5, g6]
  obtain ⟨g, u1, u2, u3, u4, _⟩ := q_shareOn (p := p) (a := a) (b := b) ht hn hk hn hk ⟨g7, g9⟩ ⟨g8, g10⟩ g11
  obtain ⟨⟨s1, s2⟩, s3, s4⟩ := pS_bd ht.1 g7 g8
  obtain ⟨d1, d2⟩ := pD_bd ht ⟨g7, g9⟩ ⟨g8, g10⟩
  have h4 := pS_pD ht ⟨g7, g9⟩ ⟨g8, g10⟩ g11
  have hsq1 : m_X11_square (px k) (py k) (pz k) = some (sq3 (px k) (py k) (pz k)) := q_X11_square (b := 9) g7 (by omega)
  have hsq2 : m_X11_square (sx k) (sy k) (sz k) = some (sq3 (sx k) (sy k) (sz k)) := q_X11_square (b := 9) g8 (by omega)
  have eD : sq3 x y z * sq3 x y z * sq3 (px k) (py k) (pz k) * sq3 (sx k) (sy k) (sz k) = pD x y z (px k) (py k) (pz k) (sx k) (sy k) (sz k) := rfl
  have y1 : 0 ≤ Int.tdiv (pS x y z (px k) (py k) (pz k) (sx k) (sy k) (sz k) * pS x y z (px k) (py k) (pz k) (sx k) (sy k) (sz k)) g := Int.tdiv_nonneg s3 (by omega)
  have y2 := Int.tdiv_le_self (a := pS x y z (px k) (py k) (pz k) (sx k) (sy k) (sz k) * pS x y z (px k) (py k) (pz k) (sx k) (sy k) (sz k)) g s3
  have y3 : 0 ≤ Int.tdiv (pD x y z (px k) (py k) (pz k) (sx k) (sy k) (sz k)) g := Int.tdiv_nonneg (by omega) (by omega)
  have y4 := Int.tdiv_le_self (a := pD x y z (px k) (py k) (pz k) (sx k) (sy k) (sz k)) g (by omega)
  rw [m_X2_forceOn, m_X2_forceOn_0, u4, bind_s, if_neg ne10]
  dsimp only
  have hmod : m_X11_pulledOn ways x y z f (k : Int) = m_X11_pulledOn_130 (pD x y z (px k) (py k) (pz k) (sx k) (sy k) (sz k)) (f * f * (pS x y z (px k) (py k) (pz k) (sx k) (sy k) (sz k) * pS x y z (px k) (py k) (pz k) (sx k) (sy k) (sz k))) (fun v14' v15' => m_X11_pulledOn_180 (pS x y z (px k) (py k) (pz k) (sx k) (sy k) (sz k)) v14') FU 0 9999 := by
    have w1' := mul_bd (a := f) (b := f) (A := 9999) (B := 9999) (by omega) (by omega) (by omega) (by omega)
    have w2' := mul_bd (a := f * f) (b := pS x y z (px k) (py k) (pz k) (sx k) (sy k) (sz k) * pS x y z (px k) (py k) (pz k) (sx k) (sy k) (sz k)) (A := 99980001) (B := 3486784401) (by omega) (by omega) (by omega) (by omega)
    rw [m_X11_pulledOn, m_X11_pulledOn_0, hal, bind_s, q_X11_square (b := 9) ht.1 (by omega), bind_s, chkB (by omega) (by omega), chkB (by omega) (by omega), chkB (by omega) (by omega), show Int.toNat (6 * (k : Int)) = 6 * k by omega, show Int.toNat (6 * (k : Int) + 1) = 6 * k + 1 by omega, show Int.toNat (6 * (k : Int) + 2) = 6 * k + 2 by omega, ← g1, ← g2, ← g3, hsq1, bind_s, chkB (by omega) (by omega), chkB (by omega) (by omega), chkB (by omega) (by omega), show Int.toNat (6 * (k : Int) + 3) = 6 * k + 3 by omega, show Int.toNat (6 * (k : Int) + 4) = 6 * k + 4 by omega, show Int.toNat (6 * (k : Int) + 5) = 6 * k + 5 by omega, ← g4, ← g5, ← g6, hsq2, bind_s, eD, hS, chkJ (by omega) (by omega), Int.mul_assoc (f * f), chkJ (by omega) (by omega)]
  rw [hmod]
  generalize hA : pS x y z (px k) (py k) (pz k) (sx k) (sy k) (sz k) * pS x y z (px k) (py k) (pz k) (sx k) (sy k) (sz k) = A at *
  generalize hD : pD x y z (px k) (py k) (pz k) (sx k) (sy k) (sz k) = D at *
  generalize hP : pS x y z (px k) (py k) (pz k) (sx k) (sy k) (sz k) = S at *
  generalize hu : Int.tdiv A g = u at *
  generalize hv : Int.tdiv D g = v at *
  have v0 : 0 < v := by
    by_cases c : v = 0
    · rw [c, Int.mul_zero] at u3; omega
    · omega
  have huv : u ≤ v := by
    have : g * u ≤ g * v := by omega
    exact Int.le_of_mul_le_mul_left this u1
  have w1' := mul_bd (a := f) (b := f) (A := 9999) (B := 9999) (by omega) (by omega) (by omega) (by omega)
  have ff := sqn f
  have w2' := mul_bd (a := f * f) (b := u) (A := 99980001) (B := 3486784401) (by omega) (by omega) (by omega) (by omega)
  have n1 : 0 ≤ f * f * u := Int.mul_nonneg ff y1
  have et : Int.tdiv (f * f * u) v = f * f * u / v := Int.tdiv_eq_ediv_of_nonneg n1
  have q0 : 0 ≤ f * f * u / v := Int.ediv_nonneg n1 (by omega)
  have l1 : f * f * u ≤ 99980001 * v := Int.mul_le_mul w1'.2 huv y1 (by omega)
  have q1 : f * f * u / v < 1073741824 := (Int.ediv_lt_iff_lt_mul v0).mpr (by omega)
  obtain ⟨r, r1, r2, r3, r4, r5⟩ := q_root (sq := f * f * u / v) (k74 := fun v4' v6' => m_X4_forceOf_74 S v4') 15 FU 0 (by omega) (by unfold FU; omega) (by omega) (by decide) (by omega) (by
    have e : ((0 : Int) + ((2 ^ 15 : Nat) : Int)) * (0 + ((2 ^ 15 : Nat) : Int)) = 1073741824 := by decide
    rw [e]; exact q1)
  have r5' : m_X4_forceOf_35 (f * f * u / v) (fun v4' v6' => m_X4_forceOf_74 S v4') FU 0 16384 = m_X4_forceOf_74 S r := r5
  -- the class's root against D and A
  have gg : ∀ t : Int, g * (t * v) = t * D := fun t => by rw [← u3, ← Int.mul_assoc, Int.mul_comm g t, Int.mul_assoc]
  have gA : g * (f * f * u) = f * f * A := by rw [← u2, ← Int.mul_assoc, Int.mul_comm g, Int.mul_assoc]
  have k1 : r * r * D ≤ f * f * A := by
    have := (Int.le_ediv_iff_mul_le v0).mp r3
    rw [← gg, ← gA]; exact Int.mul_le_mul_of_nonneg_left this (by omega)
  have k2 : f * f * A < (r + 1) * (r + 1) * D := by
    have := (Int.ediv_lt_iff_lt_mul v0).mp r4
    rw [← gg, ← gA]; exact Int.mul_lt_mul_of_pos_left this u1
  obtain ⟨r', x1, x2, x3, x4, x5⟩ := q_bin (X := f * f * A) (Y := D) (k180 := fun v14' v15' => m_X11_pulledOn_180 S v14') d1 d2 14 FU 0 9999 (by unfold FU; omega) (by omega) (by omega) (by omega) (by decide) (by
      rw [Int.mul_zero, Int.zero_mul]; exact Int.mul_nonneg ff s3) (by
      have : f * f * A ≤ 99980001 * D := Int.mul_le_mul w1'.2 (by omega) s3 (by omega)
      have e : ((9999 : Int) + 1) * (9999 + 1) = 100000000 := by decide
      rw [e]; omega)
  obtain rfl : r = r' := root_uniq d1 r1 x1 k1 k2 x3 x4
  rw [m_X4_forceOf, m_X4_forceOf_0, if_pos v0, chkJ (by omega) (by omega), chk_pos (by omega), et, chkJ (by omega) (by omega), r5', x5, m_X4_forceOf_74, m_X11_pulledOn_180]
  by_cases c : 0 ≤ S
  · rw [if_pos c, if_pos c, chkI (by omega) (by omega), bind_s]
    exact ⟨_, _, _, _, rfl, rfl, by omega, by omega⟩
  · rw [if_neg c, if_neg c, chkI (by omega) (by omega), bind_s]
    exact ⟨_, _, _, _, rfl, rfl, by omega, by omega⟩
theorem pc_pulled {B many own cross pm sm systems own2 cross2 : Int} {px py pz sx sy sz ways grain gS : Nat → Int} {K : Nat → Nat} {R : Nat → RowT} (h : RGn B many own cross pm px py pz sm sx sy sz K R systems own2 cross2 ways grain gS) (a b c d e g x y z f k : Int) :
    ∃ r r2, m_X10_pulled a b c d e g many pm px py pz sm sx sy sz x y z f k = some r ∧ m_X11_pulled systems ways x y z f k = some r2 ∧ r.1 = r2 := by
  obtain ⟨n, rfl, rfl, rfl, rfl, g1, rfl, rfl, g4, g5, g6, g7⟩ := h
  rw [m_X10_pulled, m_X10_pulled_0, m_X11_pulled, m_X11_pulled_0]
  by_cases c1 : 0 ≤ f ∧ f ≤ 9999
  · rw [isForce1 c1.1 c1.2, bind_s, if_neg ne10]
    by_cases c2 : pl3 x y z
    · rw [tell1 c2, isPullm1 c2, bind_s, bind_s, if_neg ne10, if_neg ne10, i1 c1.1 c1.2, bind_s, if_neg ne10]
      by_cases c3 : 0 ≤ k ∧ k < n
      · obtain ⟨k, rfl⟩ : ∃ i : Nat, k = (i : Int) := ⟨k.toNat, by omega⟩
        obtain ⟨q, p', a', b', q1, q2, _⟩ := q_force (p := d) (a := e) (b := g) c2 (g6 k (by omega)) g1 (show k < n by omega) c1
        rw [hasG1 g1 c3, isSys1 g1 c3, bind_s, bind_s, if_neg ne10, if_neg ne10]
        dsimp only
        rw [q1, q2, bind_s, bind_s]
        exact ⟨_, _, rfl, rfl, rfl⟩
      · rw [hasG0 g1 c3, isSys0 g1 c3, bind_s, bind_s, if_pos rfl, if_pos rfl]
        exact ⟨_, _, rfl, rfl, rfl⟩
    · rw [tell0 c2, isPullm0 c2, bind_s, bind_s, if_pos rfl, if_pos rfl]
      exact ⟨_, _, rfl, rfl, rfl⟩
  · rw [isForce0 c1, bind_s, if_pos rfl]
    by_cases c2 : pl3 x y z
    · rw [isPullm1 c2, bind_s, if_neg ne10, i0 c1, bind_s, if_pos rfl]
      exact ⟨_, _, rfl, rfl, rfl⟩
    · rw [isPullm0 c2, bind_s, if_pos rfl]
      exact ⟨_, _, rfl, rfl, rfl⟩

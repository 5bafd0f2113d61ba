
/-! ===== PURE: shares ===== -/
/-- Euclid's way from a, b comes to g in m turns -/
def eu : Nat → Int → Int → Int → Prop
  | 0, a, b, g => b = 0 ∧ g = a
  | m + 1, a, b, g => b ≠ 0 ∧ eu m b (Int.tmod a b) g
theorem eu_z {a b g : Int} : eu 0 a b g ↔ b = 0 ∧ g = a := Iff.rfl
theorem eu_s {m : Nat} {a b g : Int} : eu (m + 1) a b g ↔ b ≠ 0 ∧ eu m b (Int.tmod a b) g := Iff.rfl
theorem tm_bd {a b : Int} (ha : 0 ≤ a) (hb : 0 < b) : 0 ≤ Int.tmod a b ∧ Int.tmod a b < b := ⟨Int.tmod_nonneg b ha, Int.tmod_lt_of_pos a hb⟩
theorem eu_ex : ∀ (k : Nat) (a b : Int), 0 ≤ a → 0 ≤ b → b < ((2 ^ k : Nat) : Int) → ∃ m g, m ≤ 2 * k ∧ eu m a b g := by
  intro k
  induction k with
  | zero =>
    intro a b ha hb h
    have h1 : b < 1 := h
    exact ⟨0, a, by omega, by omega, rfl⟩
  | succ k ih =>
    intro a b ha hb h
    by_cases c : b = 0
    · exact ⟨0, a, by omega, c, rfl⟩
    · have r := tm_bd (a := a) (b := b) ha (by omega)
      by_cases c2 : Int.tmod a b = 0
      · exact ⟨1, b, by omega, c, c2, rfl⟩
      · have r2 := tm_bd (a := b) (b := Int.tmod a b) hb (by omega)
        have e := Int.mul_tdiv_add_tmod b (Int.tmod a b)
        have q1 : 1 ≤ Int.tdiv b (Int.tmod a b) := by
          have h0 : 0 ≤ Int.tdiv b (Int.tmod a b) := Int.tdiv_nonneg hb r.1
          by_cases c3 : Int.tdiv b (Int.tmod a b) = 0
          · rw [c3, Int.mul_zero] at e; omega
          · omega
        have q2 : Int.tmod a b * 1 ≤ Int.tmod a b * Int.tdiv b (Int.tmod a b) := Int.mul_le_mul_of_nonneg_left q1 r.1
        have e2 : ((2 ^ (k + 1) : Nat) : Int) = 2 * ((2 ^ k : Nat) : Int) := by rw [Nat.pow_succ]; omega
        obtain ⟨m, g, h1, h2⟩ := ih (Int.tmod a b) (Int.tmod b (Int.tmod a b)) r.1 r2.1 (by omega)
        exact ⟨m + 2, g, by omega, c, c2, h2⟩
theorem eu_dv : ∀ (m : Nat) (a b g : Int), eu m a b g → 0 ≤ a → 0 ≤ b → g ∣ a ∧ g ∣ b ∧ (0 < a ∨ 0 < b → 0 < g) := by
  intro m
  induction m with
  | zero =>
    intro a b g h ha hb
    obtain ⟨rfl, rfl⟩ := h
    exact ⟨Int.dvd_refl _, Int.dvd_zero _, fun h => by omega⟩
  | succ m ih =>
    intro a b g h ha hb
    obtain ⟨h1, h2⟩ := h
    have r := tm_bd (a := a) (b := b) ha (by omega)
    obtain ⟨i1, i2, i3⟩ := ih b (Int.tmod a b) g h2 hb r.1
    refine ⟨?_, i1, fun _ => i3 (Or.inl (by omega))⟩
    have e := Int.mul_tdiv_add_tmod a b
    rw [← e]
    exact Int.dvd_add (Int.dvd_trans i1 (Int.dvd_mul_right _ _)) i2
theorem eu_c {k45 : Int → Int → Int → Option Int} : ∀ (m F i : Nat) (a b g : Int), eu m a b g → 0 ≤ a → 0 ≤ b → a ≤ 4611686018427387904 → b ≤ 4611686018427387904 → m < F → i + m < 1000 → m_X4_commonOf_9 k45 F a b (i : Int) = some g := by
  intro m
  induction m with
  | zero =>
    intro F i a b g h ha hb _ _ hF hi
    obtain ⟨F, rfl⟩ : ∃ G, F = G + 1 := ⟨F - 1, by omega⟩
    obtain ⟨rfl, rfl⟩ := h
    rw [m_X4_commonOf_9, if_neg (by omega), if_pos rfl]
  | succ m ih =>
    intro F i a b g h ha hb ha2 hb2 hF hi
    obtain ⟨F, rfl⟩ : ∃ G, F = G + 1 := ⟨F - 1, by omega⟩
    obtain ⟨h1, h2⟩ := h
    have r := tm_bd (a := a) (b := b) ha (by omega)
    rw [m_X4_commonOf_9, if_neg (by omega), if_neg h1, chk_pos h1, chkJ (by omega) (by omega), chkI (by omega) (by omega)]
    exact ih F (i + 1) b (Int.tmod a b) g h2 hb r.1 hb2 (by omega) (by omega) (by omega)
theorem eu_m {k93 : Int → Int → Option Int} : ∀ (m F : Nat) (a b g : Int), eu m a b g → 0 ≤ a → 0 ≤ b → a ≤ 4611686018427387904 → b ≤ 4611686018427387904 → m < F → m_X11_share_68 k93 F a b = k93 g 0 := by
  intro m
  induction m with
  | zero =>
    intro F a b g h ha hb _ _ hF
    obtain ⟨F, rfl⟩ : ∃ G, F = G + 1 := ⟨F - 1, by omega⟩
    obtain ⟨rfl, rfl⟩ := h
    rw [m_X11_share_68, if_pos rfl]
  | succ m ih =>
    intro F a b g h ha hb ha2 hb2 hF
    obtain ⟨F, rfl⟩ : ∃ G, F = G + 1 := ⟨F - 1, by omega⟩
    obtain ⟨h1, h2⟩ := h
    have r := tm_bd (a := a) (b := b) ha (by omega)
    rw [m_X11_share_68, if_neg h1, chk_pos h1, chkJ (by omega) (by omega)]
    exact ih F b (Int.tmod a b) g h2 hb r.1 hb2 (by omega) (by omega)
theorem q_common {a b : Int} (ha : 0 ≤ a) (hb : 0 < b) (ha2 : a ≤ 4000000000000000000) (hb2 : b ≤ 4000000000000000000) : ∃ g, 0 < g ∧ g * Int.tdiv a g = a ∧ g * Int.tdiv b g = b ∧ m_X4_commonOf a b = some g ∧ ∀ k93, m_X11_share_68 k93 FU a b = k93 g 0 := by
  have e62 : ((2 ^ 62 : Nat) : Int) = 4611686018427387904 := by decide
  obtain ⟨m, g, h1, h2⟩ := eu_ex 62 a b ha (by omega) (by omega)
  obtain ⟨d1, d2, d3⟩ := eu_dv m a b g h2 ha (by omega)
  refine ⟨g, d3 (Or.inr hb), Int.mul_tdiv_cancel' d1, Int.mul_tdiv_cancel' d2, ?_, fun k93 => eu_m m FU a b g h2 ha (by omega) (by omega) (by omega) (by unfold FU; omega)⟩
  rw [m_X4_commonOf, m_X4_commonOf_0]
  exact eu_c m FU 0 a b g h2 ha (by omega) (by omega) (by omega) (by unfold FU; omega) (by omega)
/-- (t * n) * (t * b) -/
def pS (x y z n1 n2 n3 b1 b2 b3 : Int) : Int := dot3 x y z n1 n2 n3 * dot3 x y z b1 b2 b3
/-- the squares below the line -/
def pD (x y z n1 n2 n3 b1 b2 b3 : Int) : Int := sq3 x y z * sq3 x y z * sq3 n1 n2 n3 * sq3 b1 b2 b3
theorem pS_bd {x y z n1 n2 n3 b1 b2 b3 : Int} (ht : bd3 9 x y z) (hn : bd3 9 n1 n2 n3) (hb : bd3 9 b1 b2 b3) : (-59049 ≤ pS x y z n1 n2 n3 b1 b2 b3 ∧ pS x y z n1 n2 n3 b1 b2 b3 ≤ 59049) ∧ 0 ≤ pS x y z n1 n2 n3 b1 b2 b3 * pS x y z n1 n2 n3 b1 b2 b3 ∧ pS x y z n1 n2 n3 b1 b2 b3 * pS x y z n1 n2 n3 b1 b2 b3 ≤ 3486784401 := by
  have d1 := dot3_bd ht hn
  have d2 := dot3_bd ht hb
  have m := mul_bd (a := dot3 x y z n1 n2 n3) (b := dot3 x y z b1 b2 b3) (A := 243) (B := 243) (by omega) (by omega) (by omega) (by omega)
  have m2 := mul_bd (a := pS x y z n1 n2 n3 b1 b2 b3) (b := pS x y z n1 n2 n3 b1 b2 b3) (A := 59049) (B := 59049) m.1 m.2 m.1 m.2
  exact ⟨m, sqn _, by omega⟩
theorem pD_bd {x y z n1 n2 n3 b1 b2 b3 : Int} (ht : pl3 x y z) (hn : pl3 n1 n2 n3) (hb : pl3 b1 b2 b3) : 0 < pD x y z n1 n2 n3 b1 b2 b3 ∧ pD x y z n1 n2 n3 b1 b2 b3 ≤ 3486784401 := by
  have t1 := sq3_bd ht.1
  have t2 := sq3_pos ht.2
  have n1' := sq3_bd hn.1
  have n2' := sq3_pos hn.2
  have b1' := sq3_bd hb.1
  have b2' := sq3_pos hb.2
  have p1 := Int.mul_pos t2 t2
  have p2 := Int.mul_pos p1 n2'
  have p3 := Int.mul_pos p2 b2'
  have m1 := mul_bd (a := sq3 x y z) (b := sq3 x y z) (A := 243) (B := 243) (by omega) (by omega) (by omega) (by omega)
  have m2 := mul_bd (a := sq3 x y z * sq3 x y z) (b := sq3 n1 n2 n3) (A := 59049) (B := 243) (by omega) (by omega) (by omega) (by omega)
  have m3 := mul_bd (a := sq3 x y z * sq3 x y z * sq3 n1 n2 n3) (b := sq3 b1 b2 b3) (A := 14348907) (B := 243) (by omega) (by omega) (by omega) (by omega)
  exact ⟨p3, by unfold pD; omega⟩
/-- the square of the share is a fourth at most -/
theorem gram (x y z a b c d e f : Int) : sq3 x y z * sq3 a b c * sq3 d e f + 2 * (dot3 x y z a b c * dot3 a b c d e f * dot3 x y z d e f) - sq3 x y z * (dot3 a b c d e f * dot3 a b c d e f) - sq3 a b c * (dot3 x y z d e f * dot3 x y z d e f) - sq3 d e f * (dot3 x y z a b c * dot3 x y z a b c) = (x * (b * f - c * e) - y * (a * f - c * d) + z * (a * e - b * d)) * (x * (b * f - c * e) - y * (a * f - c * d) + z * (a * e - b * d)) := by
  unfold sq3 dot3
  grind
theorem pS_pD {x y z n1 n2 n3 b1 b2 b3 : Int} (ht : pl3 x y z) (hn : pl3 n1 n2 n3) (hb : pl3 b1 b2 b3) (ho : dot3 n1 n2 n3 b1 b2 b3 = 0) : 4 * (pS x y z n1 n2 n3 b1 b2 b3 * pS x y z n1 n2 n3 b1 b2 b3) ≤ pD x y z n1 n2 n3 b1 b2 b3 := by
  have h := gram x y z n1 n2 n3 b1 b2 b3
  rw [ho, Int.mul_zero, Int.zero_mul, Int.mul_zero, Int.mul_zero, Int.mul_zero] at h
  have hq := sqn (x * (n2 * b3 - n3 * b2) - y * (n1 * b3 - n3 * b1) + z * (n1 * b2 - n2 * b1))
  have n2' := sq3_pos hn.2
  have b2' := sq3_pos hb.2
  have t2 := sq3_pos ht.2
  unfold pS pD
  generalize hN : sq3 n1 n2 n3 = N at *
  generalize hM : sq3 b1 b2 b3 = M at *
  generalize hT : sq3 x y z = T at *
  generalize hU : dot3 x y z n1 n2 n3 = U at *
  generalize hV : dot3 x y z b1 b2 b3 = V at *
  have p1 : 0 ≤ M * (U * U) := Int.mul_nonneg (by omega) (sqn U)
  have p2 : 0 ≤ N * (V * V) := Int.mul_nonneg (by omega) (sqn V)
  have h1 : M * (U * U) + N * (V * V) ≤ T * N * M := by omega
  have h2 := sqn (M * (U * U) - N * (V * V))
  have h3 : (M * (U * U) + N * (V * V)) * (M * (U * U) + N * (V * V)) ≤ (T * N * M) * (T * N * M) := Int.mul_le_mul h1 h1 (by omega) (by omega)
  have h4 : 4 * ((N * M) * ((U * V) * (U * V))) ≤ (N * M) * (T * T * N * M) := by
    have e1 : (M * (U * U) + N * (V * V)) * (M * (U * U) + N * (V * V)) = (M * (U * U) - N * (V * V)) * (M * (U * U) - N * (V * V)) + 4 * ((N * M) * ((U * V) * (U * V))) := by grind
    have e2 : (T * N * M) * (T * N * M) = (N * M) * (T * T * N * M) := by grind
    omega
  have h5 : 0 < N * M := Int.mul_pos n2' b2'
  have h6 : (N * M) * (4 * ((U * V) * (U * V))) ≤ (N * M) * (T * T * N * M) := by
    have e3 : (N * M) * (4 * ((U * V) * (U * V))) = 4 * ((N * M) * ((U * V) * (U * V))) := by grind
    omega
  exact Int.le_of_mul_le_mul_left h6 h5
theorem q_shareOn {N M n m k j : Nat} {px py pz sx sy sz : Nat → Int} {x y z p a b : Int} (ht : pl3 x y z) (hn : n ≤ N) (hk : k < n) (hm : m ≤ M) (hj : j < m) (hp : pl3 (px k) (py k) (pz k)) (hs : pl3 (sx j) (sy j) (sz j)) (ho : dot3 (px k) (py k) (pz k) (sx j) (sy j) (sz j) = 0) :
    ∃ g, 0 < g ∧ g * Int.tdiv (pS x y z (px k) (py k) (pz k) (sx j) (sy j) (sz j) * pS x y z (px k) (py k) (pz k) (sx j) (sy j) (sz j)) g = pS x y z (px k) (py k) (pz k) (sx j) (sy j) (sz j) * pS x y z (px k) (py k) (pz k) (sx j) (sy j) (sz j) ∧ g * Int.tdiv (pD x y z (px k) (py k) (pz k) (sx j) (sy j) (sz j)) g = pD x y z (px k) (py k) (pz k) (sx j) (sy j) (sz j) ∧
      m_X4_shareOn N M x y z p a b (n : Int) px py pz (m : Int) sx sy sz (k : Int) (j : Int) = some (1, pS x y z (px k) (py k) (pz k) (sx j) (sy j) (sz j), Int.tdiv (pS x y z (px k) (py k) (pz k) (sx j) (sy j) (sz j) * pS x y z (px k) (py k) (pz k) (sx j) (sy j) (sz j)) g, Int.tdiv (pD x y z (px k) (py k) (pz k) (sx j) (sy j) (sz j)) g) ∧
      ∀ k93, m_X11_share_68 k93 FU (pS x y z (px k) (py k) (pz k) (sx j) (sy j) (sz j) * pS x y z (px k) (py k) (pz k) (sx j) (sy j) (sz j)) (pD x y z (px k) (py k) (pz k) (sx j) (sy j) (sz j)) = k93 g 0 := by
  obtain ⟨⟨s1, s2⟩, s3, s4⟩ := pS_bd ht.1 hp.1 hs.1
  obtain ⟨d1, d2⟩ := pD_bd ht hp hs
  obtain ⟨g, g1, g2, g3, g4, g5⟩ := q_common s3 d1 (by omega) (by omega)
  refine ⟨g, g1, g2, g3, ?_, g5⟩
  have t1 := sq3_bd ht.1
  have hpo : m_X4_productOn N M x y z (n : Int) px py pz (m : Int) sx sy sz (k : Int) (j : Int) = some (pS x y z (px k) (py k) (pz k) (sx j) (sy j) (sz j)) := by
    rw [m_X4_productOn, m_X4_productOn_0, q_productWith (b := 9) (c := 9) hn hk hp.1 ht.1 (by omega), bind_s, q_productWith (b := 9) (c := 9) hm hj hs.1 ht.1 (by omega), bind_s, dot3_comm (px k), dot3_comm (sx j)]
    have e : dot3 x y z (px k) (py k) (pz k) * dot3 x y z (sx j) (sy j) (sz j) = pS x y z (px k) (py k) (pz k) (sx j) (sy j) (sz j) := rfl
    rw [e, chkJ (by omega) (by omega)]
  have eT : x * x + y * y + z * z = sq3 x y z := rfl
  have eD : sq3 x y z * sq3 x y z * sq3 (px k) (py k) (pz k) * sq3 (sx j) (sy j) (sz j) = pD x y z (px k) (py k) (pz k) (sx j) (sy j) (sz j) := rfl
  have u1 : 0 ≤ Int.tdiv (pS x y z (px k) (py k) (pz k) (sx j) (sy j) (sz j) * pS x y z (px k) (py k) (pz k) (sx j) (sy j) (sz j)) g := Int.tdiv_nonneg s3 (by omega)
  have u2 := Int.tdiv_le_self (a := pS x y z (px k) (py k) (pz k) (sx j) (sy j) (sz j) * pS x y z (px k) (py k) (pz k) (sx j) (sy j) (sz j)) g s3
  have u3 : 0 ≤ Int.tdiv (pD x y z (px k) (py k) (pz k) (sx j) (sy j) (sz j)) g := Int.tdiv_nonneg (by omega) (by omega)
  have u4 := Int.tdiv_le_self (a := pD x y z (px k) (py k) (pz k) (sx j) (sy j) (sz j)) g (by omega)
  rw [m_X4_shareOn, m_X4_shareOn_0, has1 (by omega) (by omega), bind_s, if_neg ne10, has1 (by omega) (by omega), bind_s, if_neg ne10, q_product (b := 9) (c := 9) hn hk hm hj hp.1 hs.1 (by omega), bind_s, if_pos ho, hpo, bind_s, eT, chkI (by omega) (by omega), q_worthOf (b := 9) hn hk hp.1 (by omega), bind_s, q_worthOf (b := 9) hm hj hs.1 (by omega), bind_s, chkJ (by omega) (by omega), eD, chkJ (by omega) (by omega), g4, bind_s, if_pos g1, chk_pos (by omega), chkJ (by omega) (by omega), chk_pos (by omega), chkJ (by omega) (by omega)]
theorem q_shareOff {N M n m : Nat} {k j : Int} {px py pz sx sy sz : Nat → Int} {x y z p a b : Int} (hn : n ≤ N) (hm : m ≤ M) (hp : ∀ k, k < n → bd3 9 (px k) (py k) (pz k)) (hs : ∀ k, k < m → bd3 9 (sx k) (sy k) (sz k)) (ho : ¬ ((0 ≤ k ∧ k < n) ∧ (0 ≤ j ∧ j < m) ∧ dot3 (px k.toNat) (py k.toNat) (pz k.toNat) (sx j.toNat) (sy j.toNat) (sz j.toNat) = 0)) :
    m_X4_shareOn N M x y z p a b (n : Int) px py pz (m : Int) sx sy sz k j = some (0, p, a, b) := by
  rw [m_X4_shareOn, m_X4_shareOn_0]
  by_cases c : 0 ≤ k ∧ k < n
  · obtain ⟨k, rfl⟩ : ∃ i : Nat, k = (i : Int) := ⟨k.toNat, by omega⟩
    rw [has1 c.1 c.2, bind_s, if_neg ne10]
    by_cases c2 : 0 ≤ j ∧ j < m
    · obtain ⟨j, rfl⟩ : ∃ i : Nat, j = (i : Int) := ⟨j.toNat, by omega⟩
      rw [tn, tn] at ho
      rw [has1 c2.1 c2.2, bind_s, if_neg ne10, q_product (b := 9) (c := 9) hn (by omega) hm (by omega) (hp k (by omega)) (hs j (by omega)) (by omega), bind_s, if_neg (fun h => ho ⟨c, c2, h⟩)]
    · rw [has0 c2, bind_s, if_pos rfl]
  · rw [has0 c, bind_s, if_pos rfl]
theorem q_X11_squareOf {way : Nat → Int} {s k : Nat} (hs : 48 * s + 3 * k + 2 < 144) (hw : bd3 9 (way (48 * s + 3 * k)) (way (48 * s + 3 * k + 1)) (way (48 * s + 3 * k + 2))) : m_X11_squareOf way (s : Int) (k : Int) = some (sq3 (way (48 * s + 3 * k)) (way (48 * s + 3 * k + 1)) (way (48 * s + 3 * k + 2))) := by
  rw [m_X11_squareOf, m_X11_squareOf_0, chkB (by omega) (by omega), chkB (by omega) (by omega), chkB (by omega) (by omega), show Int.toNat (48 * (s : Int) + 3 * (k : Int)) = 48 * s + 3 * k by omega, show Int.toNat (48 * (s : Int) + 3 * (k : Int) + 1) = 48 * s + 3 * k + 1 by omega, show Int.toNat (48 * (s : Int) + 3 * (k : Int) + 2) = 48 * s + 3 * k + 2 by omega, q_X11_square (b := 9) hw (by omega), bind_s]
/-- a way of RWy, as the model finds it -/
theorem RWy_at {n : Nat} {m : Int} {xs ys zs way : Nat → Int} {s k : Nat} (h : RWy (n : Int) xs ys zs m way (48 * s)) (hs : s ≤ 2) (hk : k < n) : 48 * s + 3 * k + 2 < 144 ∧ way (48 * s + 3 * k) = xs k ∧ way (48 * s + 3 * k + 1) = ys k ∧ way (48 * s + 3 * k + 2) = zs k ∧ pl3 (xs k) (ys k) (zs k) := by
  obtain ⟨n', e1, e2, e3, e4⟩ := h
  obtain rfl : n = n' := by omega
  obtain ⟨a1, a2, a3, a4, a5⟩ := e4 k hk
  exact ⟨by omega, a1.symm, a2.symm, a3.symm, a4, a5⟩
theorem q_X11_above {n m : Nat} {m1 m0 : Int} {sx sy sz px py pz way : Nat → Int} {x y z : Int} {p s : Nat} (hs : RWy (n : Int) sx sy sz m0 way 0) (hp : RWy (m : Int) px py pz m1 way 48) (hpk : p < m) (hsk : s < n) (ht : pl3 x y z) :
    m_X11_above way x y z (p : Int) (s : Int) = some (pS x y z (px p) (py p) (pz p) (sx s) (sy s) (sz s) * pS x y z (px p) (py p) (pz p) (sx s) (sy s) (sz s)) ∧ m_X11_below way x y z (p : Int) (s : Int) = some (pD x y z (px p) (py p) (pz p) (sx s) (sy s) (sz s)) ∧ m_X11_squareOf way 1 (p : Int) = some (sq3 (px p) (py p) (pz p)) ∧ m_X11_squareOf way 0 (s : Int) = some (sq3 (sx s) (sy s) (sz s)) := by
  obtain ⟨a1, a2, a3, a4, a5⟩ := RWy_at (s := 1) hp (by omega) hpk
  obtain ⟨b1, b2, b3, b4, b5⟩ := RWy_at (s := 0) hs (by omega) hsk
  obtain ⟨⟨s1, s2⟩, s3, s4⟩ := pS_bd ht.1 a5.1 b5.1
  obtain ⟨d1, d2⟩ := pD_bd ht a5 b5
  have q1 : m_X11_along way x y z 1 (p : Int) = some (dot3 x y z (px p) (py p) (pz p)) := by
    have := q_X11_along (way := way) (s := 1) (k := p) (c := 9) (x := x) (y := y) (z := z) (by omega) ht.1 (by rw [a2, a3, a4]; exact a5.1) (by omega)
    rw [a2, a3, a4] at this
    exact this
  have q2 : m_X11_along way x y z 0 (s : Int) = some (dot3 x y z (sx s) (sy s) (sz s)) := by
    have := q_X11_along (way := way) (s := 0) (k := s) (c := 9) (x := x) (y := y) (z := z) (by omega) ht.1 (by rw [b2, b3, b4]; exact b5.1) (by omega)
    rw [b2, b3, b4] at this
    exact this
  have q3 : m_X11_squareOf way 1 (p : Int) = some (sq3 (px p) (py p) (pz p)) := by
    have := q_X11_squareOf (way := way) (s := 1) (k := p) (by omega) (by rw [a2, a3, a4]; exact a5.1)
    rw [a2, a3, a4] at this
    exact this
  have q4 : m_X11_squareOf way 0 (s : Int) = some (sq3 (sx s) (sy s) (sz s)) := by
    have := q_X11_squareOf (way := way) (s := 0) (k := s) (by omega) (by rw [b2, b3, b4]; exact b5.1)
    rw [b2, b3, b4] at this
    exact this
  refine ⟨?_, ?_, q3, q4⟩
  · have e : dot3 x y z (px p) (py p) (pz p) * dot3 x y z (sx s) (sy s) (sz s) = pS x y z (px p) (py p) (pz p) (sx s) (sy s) (sz s) := rfl
    rw [m_X11_above, m_X11_above_0, q1, bind_s, q2, bind_s, e, chkJ (by omega) (by omega)]
  · have e : sq3 x y z * sq3 x y z * sq3 (px p) (py p) (pz p) * sq3 (sx s) (sy s) (sz s) = pD x y z (px p) (py p) (pz p) (sx s) (sy s) (sz s) := rfl
    rw [m_X11_below, m_X11_below_0, q_X11_square (b := 9) ht.1 (by omega), bind_s, q3, bind_s, q4, bind_s, e, chkJ (by omega) (by omega)]
theorem pc_share {sm pm : Int} {sx sy sz px py pz many2 way : Nat → Int} (h1 : RWy sm sx sy sz (many2 0) way 0) (h2 : RWy pm px py pz (many2 1) way 48) (a b c d e f x y z p s w : Int) :
    ∃ r r2, m_X10_share a b c d e f sm sx sy sz pm px py pz x y z p s w = some r ∧ m_X11_share many2 way x y z p s w = some r2 ∧ r.1 = r2 := by
  have h10 := h1
  have h20 := h2
  have hi0 := fun (hh : ¬ ((0 ≤ p ∧ p < pm) ∧ (0 ≤ s ∧ s < sm))) => isIn0 h1 h2 hh
  have hi1 := fun (p s : Nat) (hp : (p : Int) < pm) (hs : (s : Int) < sm) => isIn1 h1 h2 hp hs
  obtain ⟨n, rfl, e2, e3, e4⟩ := h1
  obtain ⟨m, rfl, f2, f3, f4⟩ := h2
  rw [m_X10_share, m_X10_share_0, m_X11_share, m_X11_share_0, m_X10_shareIsTold, m_X10_shareIsTold_0]
  by_cases c1 : pl3 x y z
  · rw [tell1 c1, isPullm1 c1, bind_s, bind_s, if_neg ne10, if_neg ne10]
    dsimp only
    by_cases c2 : (0 ≤ p ∧ p < m) ∧ (0 ≤ s ∧ s < n) ∧ dot3 (px p.toNat) (py p.toNat) (pz p.toNat) (sx s.toNat) (sy s.toNat) (sz s.toNat) = 0
    · obtain ⟨p, rfl⟩ : ∃ i : Nat, p = (i : Int) := ⟨p.toNat, by omega⟩
      obtain ⟨s, rfl⟩ : ∃ i : Nat, s = (i : Int) := ⟨s.toNat, by omega⟩
      rw [tn, tn] at c2
      have g := hi1 p s c2.1.2 c2.2.1.2
      rw [if_pos c2.2.2] at g
      obtain ⟨q1, q2, q3, q4, q5⟩ := f4 p (by omega)
      obtain ⟨r1, r2, r3, r4, r5⟩ := e4 s (by omega)
      obtain ⟨u, u1, u2, u3, u4, u5⟩ := q_shareOn (p := d) (a := e) (b := f) c1 f3 (show p < m by omega) e3 (show s < n by omega) ⟨q4, q5⟩ ⟨r4, r5⟩ c2.2.2
      obtain ⟨v1, v2, _, _⟩ := q_X11_above h10 h20 (show p < m by omega) (show s < n by omega) c1
      rw [g, bind_s, if_neg ne10, u4, bind_s, if_neg ne10, bind_s]
      dsimp only
      by_cases c3 : 0 ≤ w ∧ w ≤ 1
      · rw [w1 c3.1 c3.2, i1 c3.1 c3.2, bind_s, bind_s, if_neg ne10, if_neg ne10, if_neg ne10, v1, bind_s, v2, bind_s, u5, m_X11_share_93]
        obtain ⟨⟨s1, s2⟩, s3, s4⟩ := pS_bd c1.1 q4 r4
        obtain ⟨d1, d2⟩ := pD_bd c1 ⟨q4, q5⟩ ⟨r4, r5⟩
        have y1 : 0 ≤ Int.tdiv (pS x y z (px p) (py p) (pz p) (sx s) (sy s) (sz s) * pS x y z (px p) (py p) (pz p) (sx s) (sy s) (sz s)) u := Int.tdiv_nonneg s3 (by omega)
        have y2 := Int.tdiv_le_self (a := pS x y z (px p) (py p) (pz p) (sx s) (sy s) (sz s) * pS x y z (px p) (py p) (pz p) (sx s) (sy s) (sz s)) u s3
        have y3 : 0 ≤ Int.tdiv (pD x y z (px p) (py p) (pz p) (sx s) (sy s) (sz s)) u := Int.tdiv_nonneg (by omega) (by omega)
        have y4 := Int.tdiv_le_self (a := pD x y z (px p) (py p) (pz p) (sx s) (sy s) (sz s)) u (by omega)
        by_cases c4 : w = 0
        · rw [if_pos c4, if_pos c4, chk_pos (by omega), chkJ (by omega) (by omega)]; exact ⟨_, _, rfl, rfl, rfl⟩
        · rw [if_neg c4, if_neg c4, chk_pos (by omega), chkJ (by omega) (by omega)]; exact ⟨_, _, rfl, rfl, rfl⟩
      · rw [w0 c3, i0 c3, bind_s, bind_s, if_pos rfl, if_pos rfl]; exact ⟨_, _, rfl, rfl, rfl⟩
    · have g : m_X11_isIn many2 way p s = some 0 := by
        by_cases c3 : (0 ≤ p ∧ p < m) ∧ (0 ≤ s ∧ s < n)
        · obtain ⟨p, rfl⟩ : ∃ i : Nat, p = (i : Int) := ⟨p.toNat, by omega⟩
          obtain ⟨s, rfl⟩ : ∃ i : Nat, s = (i : Int) := ⟨s.toNat, by omega⟩
          rw [tn, tn] at c2
          rw [hi1 p s c3.1.2 c3.2.2, if_neg (fun h => c2 ⟨c3.1, c3.2, h⟩)]
        · exact hi0 c3
      rw [q_shareOff f3 e3 (fun k hk => (f4 k hk).2.2.2.1) (fun k hk => (e4 k hk).2.2.2.1) c2, bind_s, if_pos rfl, bind_s, if_pos rfl, g, bind_s, if_pos rfl]
      by_cases c3 : 0 ≤ w ∧ w ≤ 1
      · rw [w1 c3.1 c3.2, bind_s, if_neg ne10]; exact ⟨_, _, rfl, rfl, rfl⟩
      · rw [w0 c3, bind_s, if_pos rfl]; exact ⟨_, _, rfl, rfl, rfl⟩
  · rw [tell0 c1, isPullm0 c1, bind_s, bind_s, if_pos rfl, if_pos rfl, bind_s, if_pos rfl]
    by_cases c3 : 0 ≤ w ∧ w ≤ 1
    · rw [w1 c3.1 c3.2, bind_s, if_neg ne10]; exact ⟨_, _, rfl, rfl, rfl⟩
    · rw [w0 c3, bind_s, if_pos rfl]; exact ⟨_, _, rfl, rfl, rfl⟩
theorem pc_slides {sm pm : Int} {sx sy sz px py pz many2 way : Nat → Int} (h1 : RWy sm sx sy sz (many2 0) way 0) (h2 : RWy pm px py pz (many2 1) way 48) (a b c d e f x y z p s w v : Int) :
    ∃ r r2, m_X10_slides a b c d e f sm sx sy sz pm px py pz x y z p s w v = some r ∧ m_X11_slides many2 way x y z p s w v = some r2 ∧ r.1 = r2 := by
  have h10 := h1
  have h20 := h2
  have hi0 := fun (hh : ¬ ((0 ≤ p ∧ p < pm) ∧ (0 ≤ s ∧ s < sm))) => isIn0 h1 h2 hh
  have hi1 := fun (p s : Nat) (hp : (p : Int) < pm) (hs : (s : Int) < sm) => isIn1 h1 h2 hp hs
  obtain ⟨n, rfl, e2, e3, e4⟩ := h1
  obtain ⟨m, rfl, f2, f3, f4⟩ := h2
  rw [m_X10_slides, m_X10_slides_0, m_X11_slides, m_X11_slides_0, m_X10_shareIsTold, m_X10_shareIsTold_0]
  have fin : ∀ (r0 : Int × Int × Int × Int × Int × Int × Int), r0.1 = 0 → ∃ r, ((m_X10_isForce w).bind (fun y1 => if y1 = 0 then (some ((-1), a, b, c, d, e, f)) else ((m_X10_isForce v).bind (fun y2 => if y2 = 0 then (some ((-1), a, b, c, d, e, f)) else ((some r0).bind (fun y3 => if y3.1 = 0 then (some ((-1), y3.2.1, y3.2.2.1, y3.2.2.2.1, y3.2.2.2.2.1, y3.2.2.2.2.2.1, y3.2.2.2.2.2.2)) else ((m_X4_overcomes y3.2.2.2.2.2.1 y3.2.2.2.2.2.2 w v).bind (fun y4 => if y4 = 0 then (some (0, y3.2.1, y3.2.2.1, y3.2.2.2.1, y3.2.2.2.2.1, y3.2.2.2.2.2.1, y3.2.2.2.2.2.2)) else (some (1, y3.2.1, y3.2.2.1, y3.2.2.2.1, y3.2.2.2.2.1, y3.2.2.2.2.2.1, y3.2.2.2.2.2.2)))))))))) = some r ∧ r.1 = -1 := by
    intro r0 hr
    by_cases c1 : 0 ≤ w ∧ w ≤ 9999
    · rw [isForce1 c1.1 c1.2, bind_s, if_neg ne10]
      by_cases c2 : 0 ≤ v ∧ v ≤ 9999
      · rw [isForce1 c2.1 c2.2, bind_s, if_neg ne10, bind_s, if_pos hr]; exact ⟨_, rfl, rfl⟩
      · rw [isForce0 c2, bind_s, if_pos rfl]; exact ⟨_, rfl, rfl⟩
    · rw [isForce0 c1, bind_s, if_pos rfl]; exact ⟨_, rfl, rfl⟩
  by_cases c1 : pl3 x y z
  · rw [tell1 c1, isPullm1 c1, bind_s, bind_s, if_neg ne10, if_neg ne10]
    dsimp only
    by_cases c2 : (0 ≤ p ∧ p < m) ∧ (0 ≤ s ∧ s < n) ∧ dot3 (px p.toNat) (py p.toNat) (pz p.toNat) (sx s.toNat) (sy s.toNat) (sz s.toNat) = 0
    · obtain ⟨p, rfl⟩ : ∃ i : Nat, p = (i : Int) := ⟨p.toNat, by omega⟩
      obtain ⟨s, rfl⟩ : ∃ i : Nat, s = (i : Int) := ⟨s.toNat, by omega⟩
      rw [tn, tn] at c2
      have g := hi1 p s c2.1.2 c2.2.1.2
      rw [if_pos c2.2.2] at g
      obtain ⟨q1, q2, q3, q4, q5⟩ := f4 p (by omega)
      obtain ⟨r1, r2, r3, r4, r5⟩ := e4 s (by omega)
      obtain ⟨u, u1, u2, u3, u4, u5⟩ := q_shareOn (p := d) (a := e) (b := f) c1 f3 (show p < m by omega) e3 (show s < n by omega) ⟨q4, q5⟩ ⟨r4, r5⟩ c2.2.2
      obtain ⟨v1, v2, _, _⟩ := q_X11_above h10 h20 (show p < m by omega) (show s < n by omega) c1
      rw [g, bind_s, if_neg ne10, u4, bind_s, if_neg ne10, bind_s]
      dsimp only
      by_cases c3 : 0 ≤ w ∧ w ≤ 9999
      · rw [isForce1 c3.1 c3.2, i1 c3.1 c3.2, bind_s, bind_s, if_neg ne10, if_neg ne10]
        by_cases c4 : 0 ≤ v ∧ v ≤ 9999
        · obtain ⟨⟨s1, s2⟩, s3, s4⟩ := pS_bd c1.1 q4 r4
          obtain ⟨d1, d2⟩ := pD_bd c1 ⟨q4, q5⟩ ⟨r4, r5⟩
          have y1 : 0 ≤ Int.tdiv (pS x y z (px p) (py p) (pz p) (sx s) (sy s) (sz s) * pS x y z (px p) (py p) (pz p) (sx s) (sy s) (sz s)) u := Int.tdiv_nonneg s3 (by omega)
          have y2 := Int.tdiv_le_self (a := pS x y z (px p) (py p) (pz p) (sx s) (sy s) (sz s) * pS x y z (px p) (py p) (pz p) (sx s) (sy s) (sz s)) u s3
          have y3 : 0 ≤ Int.tdiv (pD x y z (px p) (py p) (pz p) (sx s) (sy s) (sz s)) u := Int.tdiv_nonneg (by omega) (by omega)
          have y4 := Int.tdiv_le_self (a := pD x y z (px p) (py p) (pz p) (sx s) (sy s) (sz s)) u (by omega)
          rw [isForce1 c4.1 c4.2, i1 c4.1 c4.2, bind_s, bind_s, if_neg ne10, if_neg ne10, if_neg ne10, v1, bind_s, v2, bind_s, m_X4_overcomes, m_X4_overcomes_0]
          generalize hA : pS x y z (px p) (py p) (pz p) (sx s) (sy s) (sz s) * pS x y z (px p) (py p) (pz p) (sx s) (sy s) (sz s) = A at *
          generalize hD : pD x y z (px p) (py p) (pz p) (sx s) (sy s) (sz s) = D at *
          have w2 := mul_bd (a := w) (b := w) (A := 9999) (B := 9999) (by omega) (by omega) (by omega) (by omega)
          have w3 := mul_bd (a := v) (b := v) (A := 9999) (B := 9999) (by omega) (by omega) (by omega) (by omega)
          have w4 := mul_bd (a := w * w) (b := Int.tdiv A u) (A := 99980001) (B := 3486784401) (by omega) (by omega) (by omega) (by omega)
          have w5 := mul_bd (a := v * v) (b := Int.tdiv D u) (A := 99980001) (B := 3486784401) (by omega) (by omega) (by omega) (by omega)
          have w6 := mul_bd (a := w * w) (b := A) (A := 99980001) (B := 3486784401) (by omega) (by omega) (by omega) (by omega)
          have w7 := mul_bd (a := v * v) (b := D) (A := 99980001) (B := 3486784401) (by omega) (by omega) (by omega) (by omega)
          have eq1 : u * (w * w * Int.tdiv A u) = w * w * A := by rw [← Int.mul_assoc, Int.mul_comm u, Int.mul_assoc, u2]
          have eq2 : u * (v * v * Int.tdiv D u) = v * v * D := by rw [← Int.mul_assoc, Int.mul_comm u, Int.mul_assoc, u3]
          have key : w * w * Int.tdiv A u ≤ v * v * Int.tdiv D u ↔ w * w * A ≤ v * v * D := by
            rw [← eq1, ← eq2]
            exact ⟨fun h => Int.mul_le_mul_of_nonneg_left h (by omega), fun h => Int.le_of_mul_le_mul_left h u1⟩
          rw [chkJ (by omega) (by omega), chkJ (by omega) (by omega), chkJ (by omega) (by omega), chkJ (by omega) (by omega)]
          by_cases c5 : w * w * A ≤ v * v * D
          · rw [if_pos c5, if_pos (key.mpr c5), bind_s, if_pos rfl]; exact ⟨_, _, rfl, rfl, rfl⟩
          · rw [if_neg c5, if_neg (fun h => c5 (key.mp h)), bind_s, if_neg ne10]; exact ⟨_, _, rfl, rfl, rfl⟩
        · rw [isForce0 c4, i0 c4, bind_s, bind_s, if_pos rfl, if_pos rfl]; exact ⟨_, _, rfl, rfl, rfl⟩
      · rw [isForce0 c3, i0 c3, bind_s, bind_s, if_pos rfl, if_pos rfl]; exact ⟨_, _, rfl, rfl, rfl⟩
    · have g : m_X11_isIn many2 way p s = some 0 := by
        by_cases c3 : (0 ≤ p ∧ p < m) ∧ (0 ≤ s ∧ s < n)
        · obtain ⟨p, rfl⟩ : ∃ i : Nat, p = (i : Int) := ⟨p.toNat, by omega⟩
          obtain ⟨s, rfl⟩ : ∃ i : Nat, s = (i : Int) := ⟨s.toNat, by omega⟩
          rw [tn, tn] at c2
          rw [hi1 p s c3.1.2 c3.2.2, if_neg (fun h => c2 ⟨c3.1, c3.2, h⟩)]
        · exact hi0 c3
      rw [q_shareOff f3 e3 (fun k hk => (f4 k hk).2.2.2.1) (fun k hk => (e4 k hk).2.2.2.1) c2, bind_s, if_pos rfl, g, bind_s, if_pos rfl]
      obtain ⟨r, q1, q2⟩ := fin (0, x, y, z, d, e, f) rfl
      exact ⟨_, _, q1, rfl, q2⟩
  · rw [tell0 c1, isPullm0 c1, bind_s, bind_s, if_pos rfl, if_pos rfl]
    obtain ⟨r, q1, q2⟩ := fin (0, a, b, c, d, e, f) rfl
    rw [q1]
    exact ⟨_, _, rfl, rfl, q2⟩

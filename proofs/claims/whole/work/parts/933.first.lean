
/-! ===== PURE: the greatest share ===== -/
/-- the first of the greatest so far, how many there are, the k-th of them -/
def fS (ok A D : Nat → Int) (k : Int) : Nat → Int × Int × Int
  | 0 => (-1, 0, -1)
  | c + 1 => if ok c = 0 then fS ok A D k c else if (fS ok A D k c).1 = -1 ∨ A (fS ok A D k c).1.toNat * D c < A c * D (fS ok A D k c).1.toNat then ((c : Int), 1, if 0 = k then (c : Int) else -1) else if A c * D (fS ok A D k c).1.toNat = A (fS ok A D k c).1.toNat * D c then ((fS ok A D k c).1, (fS ok A D k c).2.1 + 1, if (fS ok A D k c).2.1 = k then (c : Int) else (fS ok A D k c).2.2) else fS ok A D k c
theorem fS_s {ok A D : Nat → Int} {k : Int} (c : Nat) : fS ok A D k (c + 1) = if ok c = 0 then fS ok A D k c else if (fS ok A D k c).1 = -1 ∨ A (fS ok A D k c).1.toNat * D c < A c * D (fS ok A D k c).1.toNat then ((c : Int), 1, if 0 = k then (c : Int) else -1) else if A c * D (fS ok A D k c).1.toNat = A (fS ok A D k c).1.toNat * D c then ((fS ok A D k c).1, (fS ok A D k c).2.1 + 1, if (fS ok A D k c).2.1 = k then (c : Int) else (fS ok A D k c).2.2) else fS ok A D k c := rfl
theorem fS_0 {ok A D : Nat → Int} {k : Int} {c : Nat} (h : ok c = 0) : fS ok A D k (c + 1) = fS ok A D k c := by rw [fS_s, if_pos h]
theorem fS_bd {ok A D : Nat → Int} {k : Int} : ∀ c, (fS ok A D k c).1 < (c : Int) ∧ 0 ≤ (fS ok A D k c).2.1 ∧ (fS ok A D k c).2.1 ≤ (c : Int) ∧ -1 ≤ (fS ok A D k c).1 ∧ ((fS ok A D k c).1 ≠ -1 → ok (fS ok A D k c).1.toNat ≠ 0) ∧ (k < 0 → (fS ok A D k c).2.2 = -1) ∧ ((fS ok A D k c).1 = -1 → (fS ok A D k c).2.1 = 0 ∧ (fS ok A D k c).2.2 = -1) := by
  intro c
  induction c with
  | zero => exact ⟨by simp [fS], by simp [fS], by simp [fS], by simp [fS], fun h => absurd rfl h, fun _ => rfl, fun _ => ⟨rfl, rfl⟩⟩
  | succ c ih =>
    obtain ⟨i1, i2, i3, i4, i5, i6, i7⟩ := ih
    rw [fS_s]
    split
    · exact ⟨by omega, i2, by omega, i4, i5, i6, i7⟩
    · rename_i hok
      split
      · refine ⟨by dsimp only; omega, by dsimp only; omega, by dsimp only; omega, by dsimp only; omega, fun _ => by dsimp only; rw [tn]; exact hok, fun h => by dsimp only; rw [if_neg (by omega)], fun h => by dsimp only at h; omega⟩
      · rename_i hg
        split
        · refine ⟨by dsimp only; omega, by dsimp only; omega, by dsimp only; omega, i4, i5, fun h => by dsimp only; rw [if_neg (by omega)]; exact i6 h, fun h => absurd (Or.inl h) hg⟩
        · exact ⟨by omega, i2, by omega, i4, i5, i6, i7⟩
/-- once w stays to the end, it was w ever since it came -/
theorem fS_w {ok A D : Nat → Int} {k : Int} {W : Nat} : ∀ n c, c + n = W + 1 + n + (c - (W + 1)) → W + 1 ≤ c → (fS ok A D k (c + n)).1 = (W : Int) → (fS ok A D k c).1 = (W : Int) := by
  intro n
  induction n with
  | zero => intro c _ _ h; exact h
  | succ n ih =>
    intro c h1 h2 h3
    have := ih (c + 1) (by omega) (by omega) (by rw [show c + 1 + n = c + (n + 1) by omega]; exact h3)
    rw [fS_s] at this
    split at this
    · exact this
    · split at this
      · dsimp only at this; omega
      · split at this
        · exact this
        · exact this
theorem fS_new {ok A D : Nat → Int} {k : Int} {W : Nat} (h : (fS ok A D k (W + 1)).1 = (W : Int)) : ok W ≠ 0 ∧ (fS ok A D k (W + 1)).2.1 = 1 ∧ (fS ok A D k (W + 1)).2.2 = if 0 = k then (W : Int) else -1 := by
  have hb := (fS_bd (ok := ok) (A := A) (D := D) (k := k) W).1
  rw [fS_s] at h ⊢
  split at h
  · omega
  · rename_i hok
    rw [if_neg hok]
    split at h
    · rename_i h1; rw [if_pos h1]; exact ⟨hok, rfl, rfl⟩
    · split at h
      · dsimp only at h; omega
      · omega
/-- is c as great as W? -/
def sm2 (n : Nat) (z A D : Nat → Int) (W c : Nat) : Prop := c % 16 < n ∧ z c = 0 ∧ A c * D W = A W * D c
theorem fS_on {n m : Nat} {z ok A D : Nat → Int} {k : Int} {W c : Nat} (hok : ∀ c, ok c ≠ 0 ↔ (c % 16 < n ∧ c / 16 < m ∧ z c = 0 ∧ 0 < A c)) (hD : ∀ c, c % 16 < n → c / 16 < m → 0 < D c) (hA : ∀ c, c % 16 < n → c / 16 < m → 0 ≤ A c) (hc : W < c) (hcm : c / 16 < m) (h1 : (fS ok A D k c).1 = (W : Int)) (h2 : (fS ok A D k (c + 1)).1 = (W : Int)) :
    (sm2 n z A D W c → (fS ok A D k (c + 1)).2.1 = (fS ok A D k c).2.1 + 1 ∧ (fS ok A D k (c + 1)).2.2 = if (fS ok A D k c).2.1 = k then (c : Int) else (fS ok A D k c).2.2) ∧ (¬ sm2 n z A D W c → (fS ok A D k (c + 1)).2 = (fS ok A D k c).2) := by
  have hW : ok W ≠ 0 := by
    have := (fS_bd (ok := ok) (A := A) (D := D) (k := k) c).2.2.2.2.1 (by rw [h1]; omega)
    rw [h1, tn] at this
    exact this
  obtain ⟨w1', w2', w3', w4'⟩ := (hok W).mp hW
  have hDW := hD W w1' w2'
  rw [fS_s, h1, tn] at h2 ⊢
  by_cases c0 : ok c = 0
  · rw [if_pos c0]
    refine ⟨fun hs => ?_, fun _ => rfl⟩
    exfalso
    have hDc := hD c hs.1 hcm
    have p1 := Int.mul_pos w4' hDc
    have hAc := hA c hs.1 hcm
    have : 0 < A c := by
      by_cases hz : A c = 0
      · have := hs.2.2; rw [hz, Int.zero_mul] at this; omega
      · omega
    exact (hok c).mpr ⟨hs.1, hcm, hs.2.1, this⟩ c0
  · rw [if_neg c0] at h2 ⊢
    obtain ⟨v1, v2, v3, v4⟩ := (hok c).mp c0
    by_cases c1 : (W : Int) = -1 ∨ A W * D c < A c * D W
    · rw [if_pos c1] at h2; dsimp only at h2; omega
    · rw [if_neg c1]
      by_cases c2 : A c * D W = A W * D c
      · rw [if_pos c2]
        exact ⟨fun _ => ⟨rfl, rfl⟩, fun hs => absurd ⟨v1, v3, c2⟩ hs⟩
      · rw [if_neg c2]
        exact ⟨fun hs => absurd hs.2.2 c2, fun _ => rfl⟩
theorem b15 : ∀ c : Fin 256, bAnd (c.val : Int) 15 = ((c.val % 16 : Nat) : Int) ∧ bShr (c.val : Int) 4 = ((c.val / 16 : Nat) : Int) := by decide +kernel
/-- the greatest share: numbers of a code -/
def zF (px py pz sx sy sz : Nat → Int) (c : Nat) : Int := dot3 (px (c / 16)) (py (c / 16)) (pz (c / 16)) (sx (c % 16)) (sy (c % 16)) (sz (c % 16))
def AF (x y z : Int) (px py pz sx sy sz : Nat → Int) (c : Nat) : Int := pS x y z (px (c / 16)) (py (c / 16)) (pz (c / 16)) (sx (c % 16)) (sy (c % 16)) (sz (c % 16)) * pS x y z (px (c / 16)) (py (c / 16)) (pz (c / 16)) (sx (c % 16)) (sy (c % 16)) (sz (c % 16))
def DF (px py pz sx sy sz : Nat → Int) (c : Nat) : Int := sq3 (px (c / 16)) (py (c / 16)) (pz (c / 16)) * sq3 (sx (c % 16)) (sy (c % 16)) (sz (c % 16))
def oF (n m : Nat) (z A : Nat → Int) (c : Nat) : Int := if c % 16 < n ∧ c / 16 < m ∧ z c = 0 ∧ 0 < A c then 1 else 0
theorem oF_ok {n m : Nat} {z A : Nat → Int} (c : Nat) : oF n m z A c ≠ 0 ↔ (c % 16 < n ∧ c / 16 < m ∧ z c = 0 ∧ 0 < A c) := by
  unfold oF
  split
  · rename_i h; exact ⟨fun _ => h, fun _ => ne10⟩
  · rename_i h; exact ⟨fun hh => absurd rfl hh, fun hh => absurd hh h⟩
theorem pD_DF {x y z : Int} {px py pz sx sy sz : Nat → Int} (c : Nat) : pD x y z (px (c / 16)) (py (c / 16)) (pz (c / 16)) (sx (c % 16)) (sy (c % 16)) (sz (c % 16)) = sq3 x y z * sq3 x y z * DF px py pz sx sy sz c := by
  unfold pD DF; rw [Int.mul_assoc]
/-- comparing reduced fractions is comparing -/
theorem cmp_iff {g g2 u v u2 v2 A A2 D D2 T : Int} (hg : 0 < g) (hg2 : 0 < g2) (hT : 0 < T) (e1 : g * u = A) (e2 : g * v = T * D) (e3 : g2 * u2 = A2) (e4 : g2 * v2 = T * D2) : (u * v2 - u2 * v ≤ 0 ↔ A * D2 ≤ A2 * D) ∧ (u * v2 - u2 * v < 0 ↔ A * D2 < A2 * D) := by
  have h : (g * g2) * (u * v2 - u2 * v) = T * (A * D2 - A2 * D) := by
    rw [← e1, ← e3]
    have q1 : T * (g * u * D2 - g2 * u2 * D) = g * u * (T * D2) - g2 * u2 * (T * D) := by grind
    rw [q1, ← e2, ← e4]
    grind
  have hp : 0 < g * g2 := Int.mul_pos hg hg2
  constructor
  · constructor
    · intro hle
      have h1 : (g * g2) * (u * v2 - u2 * v) ≤ (g * g2) * 0 := Int.mul_le_mul_of_nonneg_left hle (by omega)
      have h2 : T * (A * D2 - A2 * D) ≤ T * 0 := by rw [Int.mul_zero] at h1 ⊢; omega
      have := Int.le_of_mul_le_mul_left h2 hT
      omega
    · intro hle
      have h1 : T * (A * D2 - A2 * D) ≤ T * 0 := Int.mul_le_mul_of_nonneg_left (by omega) (by omega)
      have h2 : (g * g2) * (u * v2 - u2 * v) ≤ (g * g2) * 0 := by rw [Int.mul_zero] at h1 ⊢; omega
      exact Int.le_of_mul_le_mul_left h2 hp
  · constructor
    · intro hlt
      have h1 : (g * g2) * (u * v2 - u2 * v) < (g * g2) * 0 := Int.mul_lt_mul_of_pos_left hlt hp
      have h2 : T * (A * D2 - A2 * D) < T * 0 := by rw [Int.mul_zero] at h1 ⊢; omega
      have := Int.lt_of_mul_lt_mul_left h2 (by omega)
      omega
    · intro hlt
      have h1 : T * (A * D2 - A2 * D) < T * 0 := Int.mul_lt_mul_of_pos_left (by omega) hT
      have h2 : (g * g2) * (u * v2 - u2 * v) < (g * g2) * 0 := by rw [Int.mul_zero] at h1 ⊢; omega
      exact Int.lt_of_mul_lt_mul_left h2 (by omega)
/-- the class's state: mostAbove, mostBelow, found, answer -/
def fC (ok A D : Nat → Int) (T k : Int) (c : Nat) (v3 v5 v7 v8 : Int) : Prop := v7 = (fS ok A D k c).2.1 ∧ v8 = (fS ok A D k c).2.2 ∧ (((fS ok A D k c).1 = -1 ∧ v3 = 0 ∧ v5 = 1) ∨ ∃ (w : Nat) (g : Int), (fS ok A D k c).1 = (w : Int) ∧ 0 < g ∧ g * v3 = A w ∧ g * v5 = T * D w ∧ 0 < v3 ∧ 4 * v3 ≤ v5 ∧ v5 ≤ 3486784401)

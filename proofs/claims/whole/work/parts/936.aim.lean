
/-! ===== PURE: digits, pulls one behind another ===== -/
/-- the i-th digit from the right -/
def dgr (n i c : Nat) : Nat := c / n ^ i % n
theorem dgr_s (n i c : Nat) : dgr n (i + 1) c = dgr n i (c / n) := by
  unfold dgr
  rw [Nat.pow_succ', Nat.div_div_eq_div_mul]
theorem dgr_z (n c : Nat) : dgr n 0 c = c % n := by unfold dgr; rw [Nat.pow_zero, Nat.div_one]
/-- counting on by one -/
theorem dgr_inc {n : Nat} (hn : 0 < n) : ∀ len c, c + 1 < n ^ len → ∃ t, t < len ∧ (∀ i, i < t → dgr n i c + 1 = n ∧ dgr n i (c + 1) = 0) ∧ dgr n t c + 1 < n ∧ dgr n t (c + 1) = dgr n t c + 1 ∧ ∀ i, t < i → dgr n i (c + 1) = dgr n i c := by
  intro len
  induction len with
  | zero => intro c h; rw [Nat.pow_zero] at h; omega
  | succ len ih =>
    intro c h
    have hm := Nat.mod_lt c hn
    have hdm := Nat.div_add_mod c n
    by_cases c1 : c % n + 1 < n
    · have e1 : (c + 1) / n = c / n := by
        rw [← hdm, Nat.add_assoc, Nat.mul_add_div hn, Nat.div_eq_of_lt c1, Nat.mul_add_div hn, Nat.div_eq_of_lt hm]
      have e2 : (c + 1) % n = c % n + 1 := by
        have := Nat.div_add_mod (c + 1) n
        rw [e1] at this
        omega
      refine ⟨0, by omega, fun i hi => by omega, by rw [dgr_z]; exact c1, by rw [dgr_z, dgr_z]; exact e2, fun i hi => ?_⟩
      obtain ⟨k, rfl⟩ : ∃ k, i = k + 1 := ⟨i - 1, by omega⟩
      rw [dgr_s, dgr_s, e1]
    · have e0 : c % n + 1 = n := by omega
      have e1 : c + 1 = n * (c / n + 1) := by rw [Nat.mul_add, Nat.mul_one]; omega
      have e2 : (c + 1) / n = c / n + 1 := by rw [e1, Nat.mul_div_cancel_left _ hn]
      have e3 : (c + 1) % n = 0 := by rw [e1, Nat.mul_mod_right]
      have h2 : c / n + 1 < n ^ len := by
        rw [Nat.pow_succ', e1] at h
        exact Nat.lt_of_mul_lt_mul_left h
      obtain ⟨t, t1, t2, t3, t4, t5⟩ := ih (c / n) h2
      refine ⟨t + 1, by omega, fun i hi => ?_, ?_, ?_, fun i hi => ?_⟩
      · rcases Nat.eq_zero_or_pos i with h0 | h0
        · subst h0; rw [dgr_z, dgr_z]; exact ⟨e0, e3⟩
        · obtain ⟨k, rfl⟩ : ∃ k, i = k + 1 := ⟨i - 1, by omega⟩
          rw [dgr_s, dgr_s, e2]; exact t2 k (by omega)
      · rw [dgr_s]; exact t3
      · rw [dgr_s, dgr_s, e2]; exact t4
      · obtain ⟨k, rfl⟩ : ∃ k, i = k + 1 := ⟨i - 1, by omega⟩
        rw [dgr_s, dgr_s, e2]; exact t5 k (by omega)
/-- the j-th digit of len, from the left -/
def dg (n len c j : Nat) : Nat := dgr n (len - 1 - j) c
theorem dg_lt {n : Nat} (hn : 0 < n) (len c j : Nat) : dg n len c j < n := Nat.mod_lt _ hn
theorem dg_zero (n len j : Nat) : dg n len 0 j = 0 := by unfold dg dgr; rw [Nat.zero_div, Nat.zero_mod]
theorem q_next4 {n : Nat} (hn : 0 < n ∧ n ≤ 4) (k48 k23 : (Nat → Int) → Int → Option (Int × (Nat → Int))) (h48 : k48 = fun t_tried' v2' => m_X7_nextTried_48 t_tried') (h23 : k23 = fun t_tried' v2' => m_X7_nextTried_23 t_tried' v2') : ∀ (i F : Nat) (tried : Nat → Int), i ≤ 5 → i < F → (∀ j, j < i → 0 ≤ tried j ∧ tried j < n) →
    (∃ (c : Nat) (t' : Nat → Int), c < i ∧ tried c + 1 < n ∧ (∀ j, c < j → j < i → (n : Int) ≤ tried j + 1) ∧ m_X7_nextTried_4 (n : Int) k48 k23 F tried ((i : Int) - 1) = some ((c : Int), t') ∧ t' c = tried c + 1 ∧ (∀ j, c < j → j < i → t' j = 0) ∧ (∀ j, j < c ∨ i ≤ j → t' j = tried j)) ∨
    ((∀ j, j < i → (n : Int) ≤ tried j + 1) ∧ ∃ t', m_X7_nextTried_4 (n : Int) k48 k23 F tried ((i : Int) - 1) = some (0, t')) := by
  intro i
  induction i with
  | zero =>
    intro F tried _ hF _
    obtain ⟨F, rfl⟩ : ∃ G, F = G + 1 := ⟨F - 1, by omega⟩
    refine Or.inr ⟨fun j hj => by omega, tried, ?_⟩
    rw [m_X7_nextTried_4, if_pos (by omega)]
  | succ i ih =>
    intro F tried hi hF ht
    obtain ⟨F, rfl⟩ : ∃ G, F = G + 1 := ⟨F - 1, by omega⟩
    have e : ((i + 1 : Nat) : Int) - 1 = (i : Int) := by omega
    have hti := ht i (by omega)
    rw [e, m_X7_nextTried_4, if_neg (by omega), chkB (by omega) (by omega), tn, chkI (by omega) (by omega)]
    by_cases c : (n : Int) ≤ tried i + 1
    · rw [if_pos c, chkB (by omega) (by omega), chkI (by omega) (by omega)]
      have e2 : (i : Int) + -1 = (i : Int) - 1 := by omega
      rw [e2]
      rcases ih F (up tried i 0) (by omega) (by omega) (fun j hj => by rw [up_ne _ _ (by omega)]; exact ht j (by omega)) with ⟨c', t', g1, g2, g3, g4, g5, g6, g7⟩ | ⟨g1, t', g2⟩
      · rw [up_ne _ _ (by omega)] at g2 g5
        refine Or.inl ⟨c', t', by omega, g2, fun j h1 h2 => ?_, g4, g5, fun j h1 h2 => ?_, fun j hj => ?_⟩
        · by_cases cj : j = i
          · subst cj; exact c
          · have := g3 j h1 (by omega)
            rw [up_ne _ _ cj] at this
            exact this
        · by_cases cj : j = i
          · subst cj; rw [g7 j (by omega), up_at]
          · exact g6 j h1 (by omega)
        · rw [g7 j (by omega), up_ne _ _ (by omega)]
      · refine Or.inr ⟨fun j hj => ?_, t', g2⟩
        by_cases cj : j = i
        · subst cj; exact c
        · have := g1 j (by omega)
          rw [up_ne _ _ cj] at this
          exact this
    · rw [if_neg c, h23]
      refine Or.inl ⟨i, up tried i (tried i + 1), by omega, by omega, fun j h1 h2 => by omega, ?_, up_at _ _ _, fun j h1 h2 => by omega, fun j hj => up_ne _ _ (by omega)⟩
      show m_X7_nextTried_23 tried (i : Int) = _
      rw [m_X7_nextTried_23, chkB (by omega) (by omega), tn, chkI (by omega) (by omega), chkB (by omega) (by omega)]
theorem q_nextTried {n len c : Nat} {tried : Nat → Int} (hn : 0 < n ∧ n ≤ 4) (hl : 0 < len ∧ len ≤ 5) (ht : ∀ j, j < len → tried j = (dg n len c j : Nat)) :
    ∃ (ch : Nat) (t' : Nat → Int), m_X7_nextTried (n : Int) tried (len : Int) = some ((ch : Int), t') ∧ ch < len ∧ (c + 1 < n ^ len → (∀ j, j < len → t' j = (dg n len (c + 1) j : Nat)) ∧ ∀ j, j < ch → dg n len (c + 1) j = dg n len c j) := by
  have hr : ∀ j, j < len → 0 ≤ tried j ∧ tried j < n := fun j hj => by
    have := dg_lt hn.1 len c j
    rw [ht j hj]
    omega
  rw [m_X7_nextTried, m_X7_nextTried_0, chkI (by omega) (by omega)]
  rcases q_next4 hn _ _ rfl rfl len FU tried hl.2 (by unfold FU; omega) hr with ⟨ch, t', g1, g2, g3, g4, g5, g6, g7⟩ | ⟨g1, t', g2⟩
  · refine ⟨ch, t', g4, g1, fun hc => ?_⟩
    obtain ⟨t, t1, t2, t3, t4, t5⟩ := dgr_inc hn.1 len c hc
    have ec : ch = len - 1 - t := by
      by_cases h : ch = len - 1 - t
      · exact h
      · exfalso
        by_cases h2 : ch < len - 1 - t
        · have h3 := g3 (len - 1 - t) h2 (by omega)
          rw [ht _ (by omega)] at h3
          unfold dg at h3
          rw [show len - 1 - (len - 1 - t) = t by omega] at h3
          omega
        · have h3 := (t2 (len - 1 - ch) (by omega)).1
          rw [ht _ g1] at g2
          unfold dg at g2
          omega
    have et : len - 1 - ch = t := by omega
    refine ⟨fun j hj => ?_, fun j hj => ?_⟩
    · by_cases c1 : j = ch
      · subst c1
        rw [g5, ht _ hj]
        unfold dg
        rw [et, t4]
        omega
      · by_cases c2 : ch < j
        · rw [g6 j c2 hj]
          unfold dg
          rw [(t2 (len - 1 - j) (by omega)).2]
          rfl
        · rw [g7 j (by omega), ht j hj]
          unfold dg
          rw [t5 (len - 1 - j) (by omega)]
    · unfold dg
      rw [t5 (len - 1 - j) (by omega)]
  · refine ⟨0, t', g2, by omega, fun hc => ?_⟩
    exfalso
    obtain ⟨t, t1, t2, t3, t4, t5⟩ := dgr_inc hn.1 len c hc
    have h3 := g1 (len - 1 - t) (by omega)
    rw [ht _ (by omega)] at h3
    unfold dg at h3
    rw [show len - 1 - (len - 1 - t) = t by omega] at h3
    omega
theorem pow_bd {n len : Nat} (hn : 0 < n ∧ n ≤ 4) (hl : len ≤ 5) : 1 ≤ n ^ len ∧ n ^ len ≤ 1024 := by
  have h1 : n ^ len ≤ 4 ^ len := Nat.pow_le_pow_left hn.2 len
  have h2 : 4 ^ len ≤ 4 ^ 5 := Nat.pow_le_pow_right (by decide) hl
  have h3 : 0 < n ^ len := Nat.pow_pos hn.1
  have h4 : (4 : Nat) ^ 5 = 1024 := by decide
  omega
theorem q_waysToPull {n len : Nat} (hn : 0 < n ∧ n ≤ 4) (hl : len ≤ 5) : m_X7_waysToPull (n : Int) (len : Int) = some ((n ^ len : Nat) : Int) := by
  rw [m_X7_waysToPull, m_X7_waysToPull_0]
  exact loop_up len (fun F i => m_X7_waysToPull_4 (n : Int) (len : Int) (fun v2' v3' => m_X7_waysToPull_22 v2') F ((n ^ i : Nat) : Int) (i : Int)) (fun _ => some ((n ^ len : Nat) : Int)) (fun F => by
    show m_X7_waysToPull_4 _ _ _ (F + 1) _ _ = _
    rw [m_X7_waysToPull_4, if_pos (by omega)]) (fun F i hi ih => by
    show m_X7_waysToPull_4 _ _ _ (F + 1) _ _ = _
    have hb := pow_bd (n := n) (len := i + 1) hn (by omega)
    have e : ((n ^ i : Nat) : Int) * (n : Int) = ((n ^ (i + 1) : Nat) : Int) := by rw [Nat.pow_succ, Int.natCast_mul]
    rw [m_X7_waysToPull_4, if_neg (by omega), e, chkI (by omega) (by omega), chkI (by omega) (by omega)]
    exact ih) len FU 0 (by omega) (by unfold FU; omega)
def ab (z : Int) : Int := if 0 ≤ z then z else -z
theorem ab_bd {z : Int} (h : -9999 ≤ z ∧ z ≤ 9999) : 0 ≤ ab z ∧ ab z ≤ 9999 := by unfold ab; split <;> omega
theorem ab_c (z : Int) : (if 0 ≤ z then z else 0 - z) = ab z := by unfold ab; split <;> omega
theorem q_size {z : Int} (h : -9999 ≤ z ∧ z ≤ 9999) : m_X11_size z = some (ab z) := by
  rw [m_X11_size, m_X11_size_0]
  unfold ab
  by_cases c : 0 ≤ z
  · rw [if_pos c, if_pos c]
  · rw [if_neg c, if_neg c, chkI (by omega) (by omega)]
/-- the sum of the first i pulls without signs -/
def sA (P : Nat → Int) (D : Nat → Nat) (i : Nat) : Int := sm (fun j => ab (P (D j))) i
theorem sA_bd {P : Nat → Int} {D : Nat → Nat} {n i : Nat} (hP : ∀ j, j < n → -9999 ≤ P j ∧ P j ≤ 9999) (hD : ∀ j, D j < n) : 0 ≤ sA P D i ∧ sA P D i ≤ i * 9999 := by
  have := sm_bd (f := fun j => ab (P (D j))) (lo := 0) (hi := 9999) (n := i) (fun j _ => ab_bd (hP _ (hD j)))
  rw [Int.mul_zero] at this
  exact this
theorem q_sumOfTried {n len : Nat} {P tried : Nat → Int} {D : Nat → Nat} (hn : n ≤ 4) (hl : len ≤ 5) (hP : ∀ j, j < n → -9999 ≤ P j ∧ P j ≤ 9999) (hD : ∀ j, D j < n) (ht : ∀ j, j < len → tried j = (D j : Nat)) : m_X7_sumOfTried P tried (len : Int) = some (sA P D len) := by
  rw [m_X7_sumOfTried, m_X7_sumOfTried_0]
  exact loop_up len (fun F i => m_X7_sumOfTried_4 P tried (len : Int) (fun v2' v3' => m_X7_sumOfTried_32 v2') F (sA P D i) (i : Int)) (fun _ => some (sA P D len)) (fun F => by
    show m_X7_sumOfTried_4 _ _ _ _ (F + 1) _ _ = _
    rw [m_X7_sumOfTried_4, if_pos (by omega)]) (fun F i hi ih => by
    show m_X7_sumOfTried_4 _ _ _ _ (F + 1) _ _ = _
    have hb := sA_bd (i := i + 1) hP hD
    have hDi := hD i
    have e : sA P D (i + 1) = sA P D i + ab (P (D i)) := rfl
    rw [e] at hb ih
    rw [m_X7_sumOfTried_4, if_neg (by omega), chkB (by omega) (by omega), tn, ht i hi, chkB (by omega) (by omega), tn, ab_c, chkI (by omega) (by omega), chkI (by omega) (by omega)]
    exact ih) len FU 0 (by omega) (by unfold FU; omega)
/-- the row behind the first i pulls -/
def pr (push H sh P : Nat → Int) (t : Nat) (s : (Nat → Int) × (Nat → Int)) (D : Nat → Nat) : Nat → (Nat → Int) × (Nat → Int)
  | 0 => s
  | i + 1 => (rn push H sh (P (D i)) t (pr push H sh P t s D i)).2
theorem pr_s {push H sh P : Nat → Int} {t : Nat} {s : (Nat → Int) × (Nat → Int)} {D : Nat → Nat} (i : Nat) : pr push H sh P t s D (i + 1) = (rn push H sh (P (D i)) t (pr push H sh P t s D i)).2 := rfl
theorem pr_congr {push H sh P : Nat → Int} {t : Nat} {s : (Nat → Int) × (Nat → Int)} {D D' : Nat → Nat} : ∀ i, (∀ j, j < i → D j = D' j) → pr push H sh P t s D i = pr push H sh P t s D' i := by
  intro i
  induction i with
  | zero => intro _; rfl
  | succ i ih => intro h; rw [pr_s, pr_s, ih (fun j hj => h j (by omega)), h i (by omega)]
theorem pr_ok {push H sh P : Nat → Int} {t n : Nat} {row sums : Nat → Int} {D : Nat → Nat} {B : Int} (hw : rW B row sums) (hP : ∀ j, j < n → -9999 ≤ P j ∧ P j ≤ 9999) (hD : ∀ j, D j < n) : ∀ i : Nat, rW (B + 30 * (t * i : Nat)) (pr push H sh P t (row, sums) D i).1 (pr push H sh P t (row, sums) D i).2 := by
  intro i
  induction i with
  | zero => exact rW_le hw (by rw [Nat.mul_zero]; omega)
  | succ i ih =>
    have hp := hP _ (hD i)
    have := (rn_ok (push := push) (H := H) (sh := sh) hp.1 hp.2 t ih).1
    rw [pr_s]
    refine rW_le this ?_
    rw [Nat.mul_add, Nat.mul_one]
    omega


/-! ===== PURE: ways ===== -/
def sq3 (x y z : Int) : Int := x * x + y * y + z * z
def dot3 (x y z a b c : Int) : Int := x * a + y * b + z * c
theorem sqn (x : Int) : 0 ≤ x * x := by
  rcases Int.le_total 0 x with h | h
  · exact Int.mul_nonneg h h
  · have := Int.mul_nonneg (a := -x) (b := -x) (by omega) (by omega)
    rwa [Int.neg_mul_neg] at this
def bd3 (b x y z : Int) : Prop := (-b ≤ x ∧ x ≤ b) ∧ (-b ≤ y ∧ y ≤ b) ∧ (-b ≤ z ∧ z ≤ b)
theorem sq3_bd {x y z b : Int} (h : bd3 b x y z) : 0 ≤ sq3 x y z ∧ sq3 x y z ≤ 3 * (b * b) ∧ (x * x ≤ b * b ∧ y * y ≤ b * b ∧ z * z ≤ b * b) := by
  obtain ⟨h1, h2, h3⟩ := h
  have := mul_bd h1.1 h1.2 h1.1 h1.2
  have := mul_bd h2.1 h2.2 h2.1 h2.2
  have := mul_bd h3.1 h3.2 h3.1 h3.2
  have := sqn x
  have := sqn y
  have := sqn z
  unfold sq3
  omega
theorem sq3_pos {x y z : Int} (h : ¬ (x = 0 ∧ y = 0 ∧ z = 0)) : 0 < sq3 x y z := by
  have hx := sqn x
  have hy := sqn y
  have hz := sqn z
  unfold sq3
  rcases Int.lt_or_eq_of_le hx with h1 | h1
  · omega
  · rcases Int.lt_or_eq_of_le hy with h2 | h2
    · omega
    · rcases Int.lt_or_eq_of_le hz with h3 | h3
      · omega
      · exfalso
        refine h ⟨?_, ?_, ?_⟩
        · have := Int.mul_eq_zero.mp h1.symm; omega
        · have := Int.mul_eq_zero.mp h2.symm; omega
        · have := Int.mul_eq_zero.mp h3.symm; omega
theorem sq3_0 {x y z : Int} : sq3 x y z = 0 ↔ (x = 0 ∧ y = 0 ∧ z = 0) := by
  constructor
  · intro h
    by_cases c : x = 0 ∧ y = 0 ∧ z = 0
    · exact c
    · have := sq3_pos c; omega
  · rintro ⟨rfl, rfl, rfl⟩; rfl
theorem dot3_bd {x y z a b c A B : Int} (h : bd3 A x y z) (k : bd3 B a b c) : (-(A * B) ≤ x * a ∧ x * a ≤ A * B) ∧ (-(A * B) ≤ y * b ∧ y * b ≤ A * B) ∧ (-(A * B) ≤ z * c ∧ z * c ≤ A * B) ∧ -(3 * (A * B)) ≤ dot3 x y z a b c ∧ dot3 x y z a b c ≤ 3 * (A * B) := by
  obtain ⟨h1, h2, h3⟩ := h
  obtain ⟨k1, k2, k3⟩ := k
  have := mul_bd h1.1 h1.2 k1.1 k1.2
  have := mul_bd h2.1 h2.2 k2.1 k2.2
  have := mul_bd h3.1 h3.2 k3.1 k3.2
  unfold dot3
  omega
theorem has1 {m k : Int} (h1 : 0 ≤ k) (h2 : k < m) : m_X8_has m k = some 1 := by rw [m_X8_has, m_X8_has_0, if_neg (by omega), if_neg (by omega)]
theorem has0 {m k : Int} (h : ¬ (0 ≤ k ∧ k < m)) : m_X8_has m k = some 0 := by
  rw [m_X8_has, m_X8_has_0]
  by_cases c : k < 0
  · rw [if_pos c]
  · rw [if_neg c, if_pos (by omega)]
/-- part p of a way -/
def pt (xs ys zs : Nat → Int) (k : Nat) (p : Int) : Int := if p = 0 then xs k else if p = 1 then ys k else zs k
theorem q_partOf {N n k : Nat} {xs ys zs : Nat → Int} {p : Int} (hn : n ≤ N) (hk : k < n) : m_X8_partOf N (n : Int) xs ys zs (k : Int) p = some (pt xs ys zs k p) := by
  rw [m_X8_partOf, m_X8_partOf_0, has1 (by omega) (by omega), bind_s, if_neg ne10]
  unfold pt
  by_cases c : p = 0
  · rw [if_pos c, if_pos c, chkB (by omega) (by omega), tn]
  · rw [if_neg c, if_neg c]
    by_cases c2 : p = 1
    · rw [if_pos c2, if_pos c2, chkB (by omega) (by omega), tn]
    · rw [if_neg c2, if_neg c2, chkB (by omega) (by omega), tn]
theorem q_worthOf {N n k : Nat} {xs ys zs : Nat → Int} {b : Int} (hn : n ≤ N) (hk : k < n) (hb : bd3 b (xs k) (ys k) (zs k)) (hb2 : b * b ≤ 700000000) : m_X8_worthOf N (n : Int) xs ys zs (k : Int) = some (sq3 (xs k) (ys k) (zs k)) := by
  have h := sq3_bd hb
  have h1 := sqn (xs k)
  have h2 := sqn (ys k)
  have h3 := sqn (zs k)
  unfold sq3 at h
  rw [m_X8_worthOf, m_X8_worthOf_0, has1 (by omega) (by omega), bind_s, if_neg ne10, chkB (by omega) (by omega), chkB (by omega) (by omega), chkB (by omega) (by omega), chkB (by omega) (by omega), chkB (by omega) (by omega), chkB (by omega) (by omega), tn, chkI (by omega) (by omega)]
  rfl
theorem q_productWith {N n k : Nat} {xs ys zs : Nat → Int} {x y z b c : Int} (hn : n ≤ N) (hk : k < n) (hb : bd3 b (xs k) (ys k) (zs k)) (hc : bd3 c x y z) (hb2 : b * c ≤ 700000000) : m_X8_productWith N (n : Int) xs ys zs (k : Int) x y z = some (dot3 (xs k) (ys k) (zs k) x y z) := by
  have h := dot3_bd hb hc
  unfold dot3 at h
  rw [m_X8_productWith, m_X8_productWith_0, if_neg (by omega), if_neg (by omega), chkB (by omega) (by omega), chkB (by omega) (by omega), chkB (by omega) (by omega), tn, chkI (by omega) (by omega)]
  rfl
theorem q_product {N M n m k j : Nat} {xs ys zs as bs cs : Nat → Int} {b c : Int} (hn : n ≤ N) (hk : k < n) (hm : m ≤ M) (hj : j < m) (hb : bd3 b (xs k) (ys k) (zs k)) (hc : bd3 c (as j) (bs j) (cs j)) (hb2 : b * c ≤ 700000000) : m_X8_product M N (n : Int) xs ys zs (m : Int) as bs cs (k : Int) (j : Int) = some (dot3 (xs k) (ys k) (zs k) (as j) (bs j) (cs j)) := by
  have h := dot3_bd hb hc
  unfold dot3 at h
  rw [m_X8_product, m_X8_product_0, has1 (by omega) (by omega), bind_s, if_neg ne10, has1 (by omega) (by omega), bind_s, if_neg ne10, chkB (by omega) (by omega), chkB (by omega) (by omega), chkB (by omega) (by omega), chkB (by omega) (by omega), chkB (by omega) (by omega), chkB (by omega) (by omega), tn, tn, chkI (by omega) (by omega)]
  rfl
theorem q_append {N n : Nat} {xs ys zs : Nat → Int} {x y z : Int} (hn : n < N) (hN : N ≤ 1000) : m_X8_append N (n : Int) xs ys zs x y z = some ((n : Int) + 1, up xs n x, up ys n y, up zs n z) := by
  rw [m_X8_append, m_X8_append_0, m_X8_isFull, m_X8_isFull_0, if_pos (by omega), bind_s, if_pos rfl, chkB (by omega) (by omega), chkB (by omega) (by omega), chkB (by omega) (by omega), chkI (by omega) (by omega), tn]
/-- one of the first n is (x, y, z), this way or turned round -/
def eW (xs ys zs : Nat → Int) (n : Nat) (x y z : Int) : Prop := ∃ k, k < n ∧ ((xs k = x ∧ ys k = y ∧ zs k = z) ∨ (xs k = -x ∧ ys k = -y ∧ zs k = -z))
theorem q_haveEitherWay {N n : Nat} {xs ys zs : Nat → Int} {x y z : Int} (hn : n ≤ N) (hN : N ≤ 1000) (hx : bd3 1000000 x y z) : ∃ r, m_X8_haveEitherWay N (n : Int) xs ys zs x y z = some r ∧ (r = 0 ∨ r = 1) ∧ (r = 1 ↔ eW xs ys zs n x y z) := by
  obtain ⟨⟨x1, x2⟩, ⟨y1, y2⟩, ⟨z1, z2⟩⟩ := hx
  rw [m_X8_haveEitherWay, m_X8_haveEitherWay_0]
  exact loop_p n (fun F i => (∀ k, k < i → ¬ ((xs k = x ∧ ys k = y ∧ zs k = z) ∨ (xs k = -x ∧ ys k = -y ∧ zs k = -z))) → ∃ r, m_X8_haveEitherWay_3 N (n : Int) xs ys zs x y z (fun v4' => m_X8_haveEitherWay_91 N) (fun v4' => m_X8_haveEitherWay_45 N) (fun v4' => m_X8_haveEitherWay_83 N) F (i : Int) = some r ∧ (r = 0 ∨ r = 1) ∧ (r = 1 ↔ eW xs ys zs n x y z)) (fun F h => ⟨0, by rw [m_X8_haveEitherWay_3, if_pos (by omega)], Or.inl rfl, ⟨fun h2 => by omega, fun ⟨k, hk, hh⟩ => absurd hh (h k hk)⟩⟩) (fun F i hi ih _ h => by
    have yes : ((xs i = x ∧ ys i = y ∧ zs i = z) ∨ (xs i = -x ∧ ys i = -y ∧ zs i = -z)) → ∃ r : Int, some (1 : Int) = some r ∧ (r = 0 ∨ r = 1) ∧ (r = 1 ↔ eW xs ys zs n x y z) := fun hh => ⟨1, rfl, Or.inr rfl, ⟨fun _ => ⟨i, hi, hh⟩, fun _ => rfl⟩⟩
    have no : ¬ ((xs i = x ∧ ys i = y ∧ zs i = z) ∨ (xs i = -x ∧ ys i = -y ∧ zs i = -z)) → ∃ r, m_X8_haveEitherWay_85 N (n : Int) xs ys zs x y z (i : Int) (m_X8_haveEitherWay_3 N (n : Int) xs ys zs x y z (fun v4' => m_X8_haveEitherWay_91 N) (fun v4' => m_X8_haveEitherWay_45 N) (fun v4' => m_X8_haveEitherWay_83 N) F) (fun v4' => m_X8_haveEitherWay_91 N) (fun v4' => m_X8_haveEitherWay_45 N) (fun v4' => m_X8_haveEitherWay_83 N) = some r ∧ (r = 0 ∨ r = 1) ∧ (r = 1 ↔ eW xs ys zs n x y z) := by
      intro hh
      rw [m_X8_haveEitherWay_85, chkI (by omega) (by omega)]
      refine ih (fun k hk => ?_)
      rcases Nat.lt_or_ge k i with h3 | h3
      · exact h k h3
      · obtain rfl : k = i := by omega
        exact hh
    have t47 : ¬ (xs i = x ∧ ys i = y ∧ zs i = z) → ∃ r, m_X8_haveEitherWay_47 N (n : Int) xs ys zs x y z (i : Int) (m_X8_haveEitherWay_3 N (n : Int) xs ys zs x y z (fun v4' => m_X8_haveEitherWay_91 N) (fun v4' => m_X8_haveEitherWay_45 N) (fun v4' => m_X8_haveEitherWay_83 N) F) (fun v4' => m_X8_haveEitherWay_91 N) (fun v4' => m_X8_haveEitherWay_45 N) (fun v4' => m_X8_haveEitherWay_83 N) = some r ∧ (r = 0 ∨ r = 1) ∧ (r = 1 ↔ eW xs ys zs n x y z) := by
      intro hh
      rw [m_X8_haveEitherWay_47, chkB (by omega) (by omega), chkI (by omega) (by omega), tn]
      by_cases d1 : xs i = -x
      · rw [if_pos d1, chkB (by omega) (by omega), chkI (by omega) (by omega)]
        by_cases d2 : ys i = -y
        · rw [if_pos d2, chkB (by omega) (by omega), chkI (by omega) (by omega)]
          by_cases d3 : zs i = -z
          · rw [if_pos d3]; exact yes (Or.inr ⟨d1, d2, d3⟩)
          · rw [if_neg d3]; exact no (fun h => h.elim hh (fun h => d3 h.2.2))
        · rw [if_neg d2]; exact no (fun h => h.elim hh (fun h => d2 h.2.1))
      · rw [if_neg d1]; exact no (fun h => h.elim hh (fun h => d1 h.1))
    rw [m_X8_haveEitherWay_3, if_neg (by omega), chkB (by omega) (by omega), tn]
    by_cases d1 : xs i = x
    · rw [if_pos d1, chkB (by omega) (by omega)]
      by_cases d2 : ys i = y
      · rw [if_pos d2, chkB (by omega) (by omega)]
        by_cases d3 : zs i = z
        · rw [if_pos d3]; exact yes (Or.inl ⟨d1, d2, d3⟩)
        · rw [if_neg d3]; exact t47 (fun h => d3 h.2.2)
      · rw [if_neg d2]; exact t47 (fun h => d2 h.2.1)
    · rw [if_neg d1]; exact t47 (fun h => d1 h.1)) n FU 0 (by omega) (by unfold FU; omega) (fun k hk => by omega)
/-- ways of the class against the model's rows of threes from o on -/
def RWy (many : Int) (xs ys zs : Nat → Int) (m : Int) (way : Nat → Int) (o : Nat) : Prop := ∃ n : Nat, many = (n : Int) ∧ m = (n : Int) ∧ n ≤ 16 ∧ ∀ k, k < n → xs k = way (o + 3 * k) ∧ ys k = way (o + 3 * k + 1) ∧ zs k = way (o + 3 * k + 2) ∧ bd3 9 (xs k) (ys k) (zs k) ∧ ¬ (xs k = 0 ∧ ys k = 0 ∧ zs k = 0)
theorem q_X11_isStep {many2 way xs ys zs : Nat → Int} {many x y z : Int} (h : RWy many xs ys zs (many2 0) way 0) (hx : bd3 1000000 x y z) : ∃ r, m_X11_isStep many2 way x y z = some r ∧ (r = 0 ∨ r = 1) ∧ (r = 1 ↔ ∃ n : Nat, many = (n : Int) ∧ eW xs ys zs n x y z) := by
  obtain ⟨n, rfl, e2, e3, e4⟩ := h
  obtain ⟨⟨x1, x2⟩, ⟨y1, y2⟩, ⟨z1, z2⟩⟩ := hx
  have e5 : (∃ n' : Nat, (n : Int) = (n' : Int) ∧ eW xs ys zs n' x y z) ↔ eW xs ys zs n x y z := ⟨fun ⟨n', h1, h2⟩ => by rwa [show n = n' by omega], fun h => ⟨n, rfl, h⟩⟩
  rw [e5, m_X11_isStep, m_X11_isStep_0]
  exact loop_p n (fun F i => ∀ v : Int, (v = 0 ∨ v = 1) → (v = 1 ↔ eW xs ys zs i x y z) → ∃ r, m_X11_isStep_6 many2 way x y z (fun v4' v5' => m_X11_isStep_111 v4') F v (i : Int) = some r ∧ (r = 0 ∨ r = 1) ∧ (r = 1 ↔ eW xs ys zs n x y z)) (fun F v h1 h2 => ⟨v, by
    rw [m_X11_isStep_6, chkB (by omega) (by omega), if_pos (by rw [show many2 (Int.toNat 0) = many2 0 from rfl, e2]; omega)], h1, h2⟩) (fun F i hi ih _ v h1 h2 => by
    obtain ⟨f1, f2, f3, _⟩ := e4 i hi
    rw [Nat.zero_add] at f1 f2 f3
    have t103 : ∀ s, m_X11_isStep_103 many2 way x y z (i : Int) s (m_X11_isStep_6 many2 way x y z (fun v4' v5' => m_X11_isStep_111 v4') F) (fun v4' v5' => m_X11_isStep_111 v4') = m_X11_isStep_6 many2 way x y z (fun v4' v5' => m_X11_isStep_111 v4') F s ((i + 1 : Nat) : Int) := by
      intro s; rw [m_X11_isStep_103, chkI (by omega) (by omega)]; rfl
    have yes : ((xs i = x ∧ ys i = y ∧ zs i = z) ∨ (xs i = -x ∧ ys i = -y ∧ zs i = -z)) → ∃ r, m_X11_isStep_98 many2 way x y z (i : Int) (m_X11_isStep_6 many2 way x y z (fun v4' v5' => m_X11_isStep_111 v4') F) (fun v4' v5' => m_X11_isStep_111 v4') = some r ∧ (r = 0 ∨ r = 1) ∧ (r = 1 ↔ eW xs ys zs n x y z) := fun hh => by
      rw [m_X11_isStep_98, t103]
      exact ih 1 (Or.inr rfl) ⟨fun _ => ⟨i, by omega, hh⟩, fun _ => rfl⟩
    have no : v = 0 → ¬ ((xs i = x ∧ ys i = y ∧ zs i = z) ∨ (xs i = -x ∧ ys i = -y ∧ zs i = -z)) → ∃ r, m_X11_isStep_102 many2 way x y z (i : Int) (m_X11_isStep_6 many2 way x y z (fun v4' v5' => m_X11_isStep_111 v4') F) (fun v4' v5' => m_X11_isStep_111 v4') = some r ∧ (r = 0 ∨ r = 1) ∧ (r = 1 ↔ eW xs ys zs n x y z) := fun hv hh => by
      rw [m_X11_isStep_102, t103]
      refine ih 0 (Or.inl rfl) ⟨fun h => by omega, fun ⟨k, hk, hk2⟩ => ?_⟩
      rcases Nat.lt_or_ge k i with h3 | h3
      · have := h2.mpr ⟨k, h3, hk2⟩; omega
      · obtain rfl : k = i := by omega
        exact absurd hk2 hh
    rw [m_X11_isStep_6, chkB (by omega) (by omega), if_neg (by rw [show many2 (Int.toNat 0) = many2 0 from rfl, e2]; omega), chkB (by omega) (by omega), chkB (by omega) (by omega), chkB (by omega) (by omega), show Int.toNat (3 * (i : Int)) = 3 * i by omega, show Int.toNat (3 * (i : Int) + 1) = 3 * i + 1 by omega, show Int.toNat (3 * (i : Int) + 2) = 3 * i + 2 by omega, ← f1, ← f2, ← f3]
    by_cases c : v = 0
    · rw [if_pos c]
      have t77 : ¬ (xs i = x ∧ ys i = y ∧ zs i = z) → ∃ r, m_X11_isStep_77 many2 way x y z (i : Int) (xs i) (ys i) (zs i) (m_X11_isStep_6 many2 way x y z (fun v4' v5' => m_X11_isStep_111 v4') F) (fun v4' v5' => m_X11_isStep_111 v4') = some r ∧ (r = 0 ∨ r = 1) ∧ (r = 1 ↔ eW xs ys zs n x y z) := by
        intro hh
        rw [m_X11_isStep_77, chkI (by omega) (by omega)]
        by_cases d1 : xs i = -x
        · rw [if_pos d1, chkI (by omega) (by omega)]
          by_cases d2 : ys i = -y
          · rw [if_pos d2, chkI (by omega) (by omega)]
            by_cases d3 : zs i = -z
            · rw [if_pos d3]; exact yes (Or.inr ⟨d1, d2, d3⟩)
            · rw [if_neg d3]; exact no c (fun h => h.elim hh (fun h => d3 h.2.2))
          · rw [if_neg d2]; exact no c (fun h => h.elim hh (fun h => d2 h.2.1))
        · rw [if_neg d1]; exact no c (fun h => h.elim hh (fun h => d1 h.1))
      by_cases d1 : xs i = x
      · rw [if_pos d1]
        by_cases d2 : ys i = y
        · rw [if_pos d2]
          by_cases d3 : zs i = z
          · rw [if_pos d3]; exact yes (Or.inl ⟨d1, d2, d3⟩)
          · rw [if_neg d3]; exact t77 (fun h => d3 h.2.2)
        · rw [if_neg d2]; exact t77 (fun h => d2 h.2.1)
      · rw [if_neg d1]; exact t77 (fun h => d1 h.1)
    · rw [if_neg c, m_X11_isStep_98, t103]
      have hv : v = 1 := h1.resolve_left c
      obtain ⟨k, hk, hk2⟩ := h2.mp hv
      exact ih 1 (Or.inr rfl) ⟨fun _ => ⟨k, by omega, hk2⟩, fun _ => rfl⟩) n FU 0 (by omega) (by unfold FU; omega) 0 (Or.inl rfl) ⟨fun h => by omega, fun ⟨k, hk, _⟩ => by omega⟩

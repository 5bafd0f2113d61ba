
/-! ===== PURE: lines meet, a line parts ===== -/
theorem FU4 : ∃ F, FU = F + 1 + 1 + 1 + 1 := ⟨5996, rfl⟩
theorem q_change {N n k : Nat} {xs ys zs : Nat → Int} {x y z : Int} (hn : n ≤ N) (hk : k < n) : m_X8_change N (n : Int) xs ys zs (k : Int) x y z = some (up xs k x, up ys k y, up zs k z) := by
  rw [m_X8_change, m_X8_change_0, has1 (by omega) (by omega), bind_s, if_neg ne10, chkB (by omega) (by omega), chkB (by omega) (by omega), chkB (by omega) (by omega), tn]
theorem q_remove {L k : Nat} {th : Int} {there : Nat → Int} (hL : L ≤ 120) (hk : k < L) (h : there k = 1) (ht : 0 ≤ th ∧ th ≤ 120) : m_X9_remove th (L : Int) there (k : Int) = some (th - 1, up there k 0) := by
  rw [m_X9_remove, m_X9_remove_0, isThere1 hL hk h, bind_s, if_neg ne10, chkB (by omega) (by omega), chkI (by omega) (by omega), tn]
/-- the part i of the sum of two lines -/
def mS (line : Nat → Int) (a b : Nat) (w : Int) (i : Nat) : Int := line (3 * a + i) + w * line (3 * b + i)
abbrev mIn (x : Int) : Prop := -99 ≤ x ∧ x ≤ 99
theorem q_meet_turn {line sum3 : Nat → Int} {a b i F : Nat} {w al v4 : Int} {k191 : (Nat → Int) → Int → Int → Option (Int × (Nat → Int) × (Nat → Int) × (Nat → Int))} (ha : a < 120) (hb : b < 120) (hi : i < 3) (hw : (w = 1 ∧ al = 1) ∨ (w = -1 ∧ al = 0)) (h1 : -99 ≤ line (3 * a + i) ∧ line (3 * a + i) ≤ 99) (h2 : -99 ≤ line (3 * b + i) ∧ line (3 * b + i) ≤ 99) (h4 : v4 = 0 ∨ v4 = 1) :
    m_X11_meet_101 line (a : Int) (b : Int) al k191 (F + 1) sum3 v4 (i : Int) = m_X11_meet_101 line (a : Int) (b : Int) al k191 F (up sum3 i (mS line a b w i)) (if v4 = 1 ∧ -99 ≤ mS line a b w i ∧ mS line a b w i ≤ 99 then 1 else 0) ((i + 1 : Nat) : Int) := by
  have ea : Int.toNat (3 * (a : Int) + (i : Int)) = 3 * a + i := by omega
  have eb : Int.toNat (3 * (b : Int) + (i : Int)) = 3 * b + i := by omega
  have t154 : ∀ z, z = w * line (3 * b + i) → m_X11_meet_154 line sum3 (a : Int) (b : Int) al v4 (i : Int) (i : Int) (line (3 * a + i)) z (m_X11_meet_101 line (a : Int) (b : Int) al k191 F) k191 = m_X11_meet_101 line (a : Int) (b : Int) al k191 F (up sum3 i (mS line a b w i)) (if v4 = 1 ∧ -99 ≤ mS line a b w i ∧ mS line a b w i ≤ 99 then 1 else 0) ((i + 1 : Nat) : Int) := by
    intro z hz
    have hs : line (3 * a + i) + z = mS line a b w i := by rw [hz]; rfl
    have hb1 : -198 ≤ line (3 * a + i) + z ∧ line (3 * a + i) + z ≤ 198 := by
      rcases hw with ⟨h, _⟩ | ⟨h, _⟩ <;> subst h <;> omega
    rw [m_X11_meet_154, chkI (by omega) (by omega), chkB (by omega) (by omega), hs, tn]
    rcases h4 with h | h
    · rw [if_pos h, m_X11_meet_182, m_X11_meet_183, chkI (by omega) (by omega), if_neg (by omega)]; rfl
    · rw [if_neg (by omega), chkB (by omega) (by omega), up_at]
      by_cases c : -99 ≤ mS line a b w i ∧ mS line a b w i ≤ 99
      · rw [i1 c.1 c.2, bind_s, if_neg ne10, m_X11_meet_183, chkI (by omega) (by omega), if_pos ⟨h, c⟩]; rfl
      · rw [i0 c, bind_s, if_pos rfl, m_X11_meet_182, m_X11_meet_183, chkI (by omega) (by omega), if_neg (fun hh => c hh.2)]; rfl
  rw [m_X11_meet_101, if_neg (by omega), chkB (by omega) (by omega), ea]
  rcases hw with ⟨h, e1⟩ | ⟨h, e1⟩
  · rw [e1] at t154 ⊢
    rw [if_neg ne10, chkB (by omega) (by omega), eb]
    exact t154 _ (by rw [h, Int.one_mul])
  · rw [e1] at t154 ⊢
    rw [if_pos rfl, chkB (by omega) (by omega), eb, chkI (by omega) (by omega)]
    exact t154 _ (by rw [h, Int.neg_mul, Int.one_mul])
theorem q_meet {th : Int} {K L a b : Nat} {rims froms tos xs ys zs there isGone line sum3 : Nat → Int} {w al : Int} (h : RWb (K : Int) th rims froms tos (L : Int) xs ys zs there (K : Int) (L : Int) rims isGone froms tos line) (ha : a < L) (hb : b < L) (hab : a ≠ b) (h1 : there a = 1) (h2 : there b = 1) (hw : (w = 1 ∧ al = 1) ∨ (w = -1 ∧ al = 0)) :
    ∃ r r2, m_X9_joinLines_116 th (L : Int) xs ys zs there (a : Int) (b : Int) w = some r ∧ m_X11_meet_95 isGone line sum3 (a : Int) (b : Int) al = some r2 ∧ r.1 = r2.1 ∧ RWb (K : Int) r.2.1 rims froms tos (L : Int) r.2.2.1 r.2.2.2.1 r.2.2.2.2.1 r.2.2.2.2.2 (K : Int) (L : Int) rims r2.2.1 froms tos r2.2.2.1 := by
  have h0 := h
  obtain ⟨K', L', e1, e2, hK, e3, e4, hL, e5, e6, e7, hth, hl, hg⟩ := h
  obtain rfl : K = K' := by omega
  obtain rfl : L = L' := by omega
  obtain ⟨a1, a2, a3, a4, a5, a6, a7, a8⟩ := hl a ha
  obtain ⟨b1, b2, b3, b4, b5, b6, b7, b8⟩ := hl b hb
  have ga : isGone a = 0 := by omega
  have gb : isGone b = 0 := by omega
  have a4' := a4
  have b4' := b4
  rw [a1, a2, a3] at a4'
  rw [b1, b2, b3] at b4'
  have p := fun (q : Int) => q_partOf (N := 120) (n := L) (k := a) (xs := xs) (ys := ys) (zs := zs) (p := q) hL ha
  have p2 := fun (q : Int) => q_partOf (N := 120) (n := L) (k := b) (xs := xs) (ys := ys) (zs := zs) (p := q) hL hb
  have x0 : pt xs ys zs a 0 + w * pt xs ys zs b 0 = mS line a b w 0 := by show xs a + w * xs b = _; rw [a1, b1]; rfl
  have x1 : pt xs ys zs a 1 + w * pt xs ys zs b 1 = mS line a b w 1 := by show ys a + w * ys b = _; rw [a2, b2]; rfl
  have x2 : pt xs ys zs a 2 + w * pt xs ys zs b 2 = mS line a b w 2 := by show zs a + w * zs b = _; rw [a3, b3]; rfl
  have bdm : ∀ i, i < 3 → -198 ≤ mS line a b w i ∧ mS line a b w i ≤ 198 := by
    intro i hi
    have q1 : -99 ≤ line (3 * a + i) ∧ line (3 * a + i) ≤ 99 := by
      rcases (by omega : i = 0 ∨ i = 1 ∨ i = 2) with h | h | h <;> subst h
      · exact a4'.1
      · exact a4'.2.1
      · exact a4'.2.2
    have q2 : -99 ≤ line (3 * b + i) ∧ line (3 * b + i) ≤ 99 := by
      rcases (by omega : i = 0 ∨ i = 1 ∨ i = 2) with h | h | h <;> subst h
      · exact b4'.1
      · exact b4'.2.1
      · exact b4'.2.2
    unfold mS
    rcases hw with ⟨h, _⟩ | ⟨h, _⟩ <;> subst h <;> omega
  have c0 := bdm 0 (by omega)
  have c1 := bdm 1 (by omega)
  have c2 := bdm 2 (by omega)
  have hcls : m_X9_joinLines_116 th (L : Int) xs ys zs there (a : Int) (b : Int) w = if mIn (mS line a b w 0) ∧ mIn (mS line a b w 1) ∧ mIn (mS line a b w 2) then (if sq3 (mS line a b w 0) (mS line a b w 1) (mS line a b w 2) < sq3 (xs a) (ys a) (zs a) + sq3 (xs b) (ys b) (zs b) then (if sq3 (mS line a b w 0) (mS line a b w 1) (mS line a b w 2) = 0 then some (1, th - 1 - 1, up xs a (mS line a b w 0), up ys a (mS line a b w 1), up zs a (mS line a b w 2), up (up there b 0) a 0) else some (1, th - 1, up xs a (mS line a b w 0), up ys a (mS line a b w 1), up zs a (mS line a b w 2), up there b 0)) else some (0, th, xs, ys, zs, there)) else some (-2, th, xs, ys, zs, there) := by
    rw [m_X9_joinLines_116, p, p2, bind_s, bind_s, p, p2, bind_s, bind_s, p, p2, bind_s, bind_s, x0, x1, x2, chkI (by omega) (by omega)]
    by_cases d0 : mIn (mS line a b w 0)
    · rw [isStepPart1 d0, bind_s, if_neg ne10, chkI (by omega) (by omega)]
      by_cases d1 : mIn (mS line a b w 1)
      · rw [isStepPart1 d1, bind_s, if_neg ne10, chkI (by omega) (by omega)]
        by_cases d2 : mIn (mS line a b w 2)
        · have hq := sq3_bd (x := mS line a b w 0) (y := mS line a b w 1) (z := mS line a b w 2) (b := 99) ⟨d0, d1, d2⟩
          have hqa := sq3_bd a4
          have hqb := sq3_bd b4
          have hcb := cno_bd isGone L
          have hc1 : cno (up isGone b 1) L = cno isGone L - 1 := by rw [cno_up hb, gb, if_neg ne10, if_pos rfl]; omega
          have hc2 := cno_bd (up isGone b 1) L
          rw [isStepPart1 d2, bind_s, if_neg ne10, q_worthOf hL ha a4 (by omega), bind_s, q_worthOf hL hb b4 (by omega), bind_s, show mS line a b w 0 * mS line a b w 0 + mS line a b w 1 * mS line a b w 1 + mS line a b w 2 * mS line a b w 2 = sq3 (mS line a b w 0) (mS line a b w 1) (mS line a b w 2) from rfl, chkI (by omega) (by omega), chkI (by omega) (by omega), if_pos (⟨d0, d1, d2⟩ : _ ∧ _ ∧ _)]
          by_cases e : sq3 (mS line a b w 0) (mS line a b w 1) (mS line a b w 2) < sq3 (xs a) (ys a) (zs a) + sq3 (xs b) (ys b) (zs b)
          · rw [if_pos e, if_pos e, q_change hL ha, bind_s, q_remove hL hb h2 (by omega), bind_s]
            by_cases e2 : sq3 (mS line a b w 0) (mS line a b w 1) (mS line a b w 2) = 0
            · rw [if_pos e2, if_pos e2]
              dsimp only
              rw [q_remove hL ha (by rw [up_ne _ _ hab]; exact h1) (by omega), bind_s]
            · rw [if_neg e2, if_neg e2]
          · rw [if_neg e, if_neg e]
        · rw [isStepPart0 d2, bind_s, if_pos rfl, if_neg (fun h => d2 h.2.2)]
      · rw [isStepPart0 d1, bind_s, if_pos rfl, if_neg (fun h => d1 h.2.1)]
    · rw [isStepPart0 d0, bind_s, if_pos rfl, if_neg (fun h => d0 h.1)]
  obtain ⟨F, hF⟩ := FU4
  have hmod : ∃ s3, m_X11_meet_95 isGone line sum3 (a : Int) (b : Int) al = if mIn (mS line a b w 0) ∧ mIn (mS line a b w 1) ∧ mIn (mS line a b w 2) then (if sq3 (mS line a b w 0) (mS line a b w 1) (mS line a b w 2) < sq3 (xs a) (ys a) (zs a) + sq3 (xs b) (ys b) (zs b) then (if sq3 (mS line a b w 0) (mS line a b w 1) (mS line a b w 2) = 0 then some (1, up (up isGone b 1) a 1, up (up (up line (3 * a) (mS line a b w 0)) (3 * a + 1) (mS line a b w 1)) (3 * a + 2) (mS line a b w 2), s3) else some (1, up (up isGone b 1) a 0, up (up (up line (3 * a) (mS line a b w 0)) (3 * a + 1) (mS line a b w 1)) (3 * a + 2) (mS line a b w 2), s3)) else some (0, isGone, line, s3)) else some (-2, isGone, line, s3) := by
    refine ⟨up (up (up sum3 0 (mS line a b w 0)) 1 (mS line a b w 1)) 2 (mS line a b w 2), ?_⟩
    have t0 := q_meet_turn (line := line) (sum3 := sum3) (F := F + 1 + 1 + 1) (v4 := 1) (i := 0) (k191 := fun t_sum3' v4' v5' => m_X11_meet_191 isGone line t_sum3' (a : Int) (b : Int) v4') (a := a) (b := b) (by omega) (by omega) (by omega) hw a4'.1 b4'.1 (Or.inr rfl)
    have t1 := fun (s : Nat → Int) (v : Int) hv => q_meet_turn (line := line) (sum3 := s) (F := F + 1 + 1) (v4 := v) (i := 1) (k191 := fun t_sum3' v4' v5' => m_X11_meet_191 isGone line t_sum3' (a : Int) (b : Int) v4') (a := a) (b := b) (by omega) (by omega) (by omega) hw a4'.2.1 b4'.2.1 hv
    have t2 := fun (s : Nat → Int) (v : Int) hv => q_meet_turn (line := line) (sum3 := s) (F := F + 1) (v4 := v) (i := 2) (k191 := fun t_sum3' v4' v5' => m_X11_meet_191 isGone line t_sum3' (a : Int) (b : Int) v4') (a := a) (b := b) (by omega) (by omega) (by omega) hw a4'.2.2 b4'.2.2 hv
    have v01 : ∀ (P : Prop) [Decidable P], (if P then (1 : Int) else 0) = 0 ∨ (if P then (1 : Int) else 0) = 1 := fun P _ => by
      by_cases hP : P
      · rw [if_pos hP]; exact Or.inr rfl
      · rw [if_neg hP]; exact Or.inl rfl
    rw [m_X11_meet_95, hF]
    refine (t0.trans ((t1 _ _ (v01 _)).trans (t2 _ _ (v01 _)))).trans ?_
    rw [m_X11_meet_101, if_pos (by omega), m_X11_meet_191]
    by_cases d : mIn (mS line a b w 0) ∧ mIn (mS line a b w 1) ∧ mIn (mS line a b w 2)
    · obtain ⟨d0, d1, d2⟩ := d
      have hq := sq3_bd (x := mS line a b w 0) (y := mS line a b w 1) (z := mS line a b w 2) (b := 99) ⟨d0, d1, d2⟩
      have hqa := sq3_bd a4
      have hqb := sq3_bd b4
      have hqq := q_X11_square (x := mS line a b w 0) (y := mS line a b w 1) (z := mS line a b w 2) (b := 99) ⟨d0, d1, d2⟩ (by omega)
      have u0 : (up (up (up sum3 0 (mS line a b w 0)) 1 (mS line a b w 1)) 2 (mS line a b w 2)) (Int.toNat 0) = mS line a b w 0 := rfl
      have u1 : (up (up (up sum3 0 (mS line a b w 0)) 1 (mS line a b w 1)) 2 (mS line a b w 2)) (Int.toNat 1) = mS line a b w 1 := rfl
      have u2 : (up (up (up sum3 0 (mS line a b w 0)) 1 (mS line a b w 1)) 2 (mS line a b w 2)) (Int.toNat 2) = mS line a b w 2 := rfl
      rw [if_pos (⟨d0, d1, d2⟩ : _ ∧ _ ∧ _), if_pos (⟨rfl, d0⟩ : _ ∧ _ ∧ _), if_pos (⟨rfl, d1⟩ : _ ∧ _ ∧ _), if_pos (⟨rfl, d2⟩ : _ ∧ _ ∧ _), if_neg ne10, chkB (by omega) (by omega), chkB (by omega) (by omega), chkB (by omega) (by omega), u0, u1, u2, hqq, bind_s, q_X11_worth (by omega) a4' (by omega), bind_s, q_X11_worth (by omega) b4' (by omega), bind_s, ← a1, ← a2, ← a3, ← b1, ← b2, ← b3, chkI (by omega) (by omega)]
      by_cases e : sq3 (mS line a b w 0) (mS line a b w 1) (mS line a b w 2) < sq3 (xs a) (ys a) (zs a) + sq3 (xs b) (ys b) (zs b)
      · rw [if_pos e, if_pos e, hF, m_X11_meet_243, if_neg (by omega), chkB (by omega) (by omega), chkB (by omega) (by omega), chkI (by omega) (by omega), m_X11_meet_243, if_neg (by omega), chkB (by omega) (by omega), chkB (by omega) (by omega), chkI (by omega) (by omega), m_X11_meet_243, if_neg (by omega), chkB (by omega) (by omega), chkB (by omega) (by omega), chkI (by omega) (by omega), m_X11_meet_243, if_pos (by omega), show Int.toNat (3 * (a : Int) + 0) = 3 * a by omega, show Int.toNat (3 * (a : Int) + (0 + 1)) = 3 * a + 1 by omega, show Int.toNat (3 * (a : Int) + (0 + 1 + 1)) = 3 * a + 2 by omega, u0, show (up (up (up sum3 0 (mS line a b w 0)) 1 (mS line a b w 1)) 2 (mS line a b w 2)) (Int.toNat (0 + 1)) = mS line a b w 1 from rfl, show (up (up (up sum3 0 (mS line a b w 0)) 1 (mS line a b w 1)) 2 (mS line a b w 2)) (Int.toNat (0 + 1 + 1)) = mS line a b w 2 from rfl, m_X11_meet_273, chkB (by omega) (by omega), tn, tn]
        by_cases e2 : sq3 (mS line a b w 0) (mS line a b w 1) (mS line a b w 2) = 0
        · rw [if_pos e2, if_pos e2, chkB (by omega) (by omega)]
        · rw [if_neg e2, if_neg e2, chkB (by omega) (by omega)]
      · rw [if_neg e, if_neg e]
    · rw [if_neg d]
      have n1 : ∀ x : Int, ¬ mIn x → (if (1 : Int) = 1 ∧ -99 ≤ x ∧ x ≤ 99 then (1 : Int) else 0) = 0 := fun x h => if_neg (fun hh => h hh.2)
      have y1 : ∀ x : Int, mIn x → (if (1 : Int) = 1 ∧ -99 ≤ x ∧ x ≤ 99 then (1 : Int) else 0) = 1 := fun x h => if_pos ⟨rfl, h⟩
      have n0 : ∀ x : Int, (if (0 : Int) = 1 ∧ -99 ≤ x ∧ x ≤ 99 then (1 : Int) else 0) = 0 := fun x => if_neg (fun hh => absurd hh.1 (by decide))
      by_cases d0 : mIn (mS line a b w 0)
      · by_cases d1 : mIn (mS line a b w 1)
        · rw [y1 _ d0, y1 _ d1, n1 _ (fun h => d ⟨d0, d1, h⟩), if_pos rfl]
        · rw [y1 _ d0, n1 _ d1, n0, if_pos rfl]
      · rw [n1 _ d0, n0, n0, if_pos rfl]
  obtain ⟨s3, hmod⟩ := hmod
  rw [hcls, hmod]
  by_cases d : mIn (mS line a b w 0) ∧ mIn (mS line a b w 1) ∧ mIn (mS line a b w 2)
  · rw [if_pos d, if_pos d]
    by_cases e : sq3 (mS line a b w 0) (mS line a b w 1) (mS line a b w 2) < sq3 (xs a) (ys a) (zs a) + sq3 (xs b) (ys b) (zs b)
    · rw [if_pos e, if_pos e]
      have gab : (up isGone b 1) a = 0 := by rw [up_ne _ _ hab]; exact ga
      have oth : ∀ k, k < L → k ≠ a → (up xs a (mS line a b w 0)) k = (up (up (up line (3 * a) (mS line a b w 0)) (3 * a + 1) (mS line a b w 1)) (3 * a + 2) (mS line a b w 2)) (3 * k) ∧ (up ys a (mS line a b w 1)) k = (up (up (up line (3 * a) (mS line a b w 0)) (3 * a + 1) (mS line a b w 1)) (3 * a + 2) (mS line a b w 2)) (3 * k + 1) ∧ (up zs a (mS line a b w 2)) k = (up (up (up line (3 * a) (mS line a b w 0)) (3 * a + 1) (mS line a b w 1)) (3 * a + 2) (mS line a b w 2)) (3 * k + 2) ∧ bd3 99 ((up xs a (mS line a b w 0)) k) ((up ys a (mS line a b w 1)) k) ((up zs a (mS line a b w 2)) k) := by
        intro k hk hka
        rw [up_ne _ _ hka, up_ne _ _ hka, up_ne _ _ hka, up_ne _ _ (show 3 * k ≠ 3 * a + 2 by omega), up_ne _ _ (show 3 * k ≠ 3 * a + 1 by omega), up_ne _ _ (show 3 * k ≠ 3 * a by omega), up_ne _ _ (show 3 * k + 1 ≠ 3 * a + 2 by omega), up_ne _ _ (show 3 * k + 1 ≠ 3 * a + 1 by omega), up_ne _ _ (show 3 * k + 1 ≠ 3 * a by omega), up_ne _ _ (show 3 * k + 2 ≠ 3 * a + 2 by omega), up_ne _ _ (show 3 * k + 2 ≠ 3 * a + 1 by omega), up_ne _ _ (show 3 * k + 2 ≠ 3 * a by omega)]
        obtain ⟨q1, q2, q3, q4, _⟩ := hl k hk
        exact ⟨q1, q2, q3, q4⟩
      have own : (up xs a (mS line a b w 0)) a = (up (up (up line (3 * a) (mS line a b w 0)) (3 * a + 1) (mS line a b w 1)) (3 * a + 2) (mS line a b w 2)) (3 * a) ∧ (up ys a (mS line a b w 1)) a = (up (up (up line (3 * a) (mS line a b w 0)) (3 * a + 1) (mS line a b w 1)) (3 * a + 2) (mS line a b w 2)) (3 * a + 1) ∧ (up zs a (mS line a b w 2)) a = (up (up (up line (3 * a) (mS line a b w 0)) (3 * a + 1) (mS line a b w 1)) (3 * a + 2) (mS line a b w 2)) (3 * a + 2) ∧ bd3 99 ((up xs a (mS line a b w 0)) a) ((up ys a (mS line a b w 1)) a) ((up zs a (mS line a b w 2)) a) := by
        rw [up_at, up_at, up_at, up_at, up_ne _ _ (show 3 * a + 1 ≠ 3 * a + 2 by omega), up_at, up_ne _ _ (show 3 * a ≠ 3 * a + 2 by omega), up_ne _ _ (show 3 * a ≠ 3 * a + 1 by omega), up_at]
        exact ⟨rfl, rfl, rfl, d⟩
      have all : ∀ (k : Nat), k < L → (up xs a (mS line a b w 0)) k = (up (up (up line (3 * a) (mS line a b w 0)) (3 * a + 1) (mS line a b w 1)) (3 * a + 2) (mS line a b w 2)) (3 * k) ∧ (up ys a (mS line a b w 1)) k = (up (up (up line (3 * a) (mS line a b w 0)) (3 * a + 1) (mS line a b w 1)) (3 * a + 2) (mS line a b w 2)) (3 * k + 1) ∧ (up zs a (mS line a b w 2)) k = (up (up (up line (3 * a) (mS line a b w 0)) (3 * a + 1) (mS line a b w 1)) (3 * a + 2) (mS line a b w 2)) (3 * k + 2) ∧ bd3 99 ((up xs a (mS line a b w 0)) k) ((up ys a (mS line a b w 1)) k) ((up zs a (mS line a b w 2)) k) := by
        intro k hk
        by_cases c : k = a
        · subst c; exact own
        · exact oth k hk c
      have fin : ∀ (th' : Int) (there' isGone' : Nat → Int), th' = cno isGone' L → (∀ k, k < L → (there' k = 1 ∧ isGone' k = 0) ∨ (there' k = 0 ∧ isGone' k = 1)) → (∀ k, L ≤ k → isGone' k = 0) → RWb (K : Int) th' rims froms tos (L : Int) (up xs a (mS line a b w 0)) (up ys a (mS line a b w 1)) (up zs a (mS line a b w 2)) there' (K : Int) (L : Int) rims isGone' froms tos (up (up (up line (3 * a) (mS line a b w 0)) (3 * a + 1) (mS line a b w 1)) (3 * a + 2) (mS line a b w 2)) := by
        intro th' there' isGone' f1 f2 f3
        refine ⟨K, L, rfl, rfl, hK, rfl, rfl, hL, rfl, rfl, rfl, f1, fun k hk => ?_, f3⟩
        obtain ⟨q1, q2, q3, q4⟩ := all k hk
        obtain ⟨_, _, _, _, _, q6, q7, q8⟩ := hl k hk
        exact ⟨q1, q2, q3, q4, f2 k hk, q6, q7, q8⟩
      by_cases e2 : sq3 (mS line a b w 0) (mS line a b w 1) (mS line a b w 2) = 0
      · rw [if_pos e2, if_pos e2]
        refine ⟨_, _, rfl, rfl, rfl, fin _ _ _ ?_ (fun k hk => ?_) (fun k hk => ?_)⟩
        · dsimp only; rw [cno_up ha, cno_up hb, gab, gb, if_neg ne10, if_pos rfl, hth]; omega
        · dsimp only
          by_cases ca : k = a
          · subst ca; rw [up_at, up_at]; exact Or.inr ⟨rfl, rfl⟩
          · rw [up_ne _ _ ca, up_ne _ _ ca]
            by_cases cb : k = b
            · subst cb; rw [up_at, up_at]; exact Or.inr ⟨rfl, rfl⟩
            · rw [up_ne _ _ cb, up_ne _ _ cb]; exact (hl k hk).2.2.2.2.1
        · dsimp only; rw [up_ne _ _ (by omega), up_ne _ _ (by omega)]; exact hg k hk
      · rw [if_neg e2, if_neg e2]
        refine ⟨_, _, rfl, rfl, rfl, fin _ _ _ ?_ (fun k hk => ?_) (fun k hk => ?_)⟩
        · dsimp only; rw [cno_up ha, cno_up hb, gab, gb, if_neg ne10, if_pos rfl, hth]; omega
        · dsimp only
          by_cases ca : k = a
          · subst ca; rw [up_at, up_ne _ _ hab]; exact Or.inl ⟨h1, rfl⟩
          · rw [up_ne _ _ ca]
            by_cases cb : k = b
            · subst cb; rw [up_at, up_at]; exact Or.inr ⟨rfl, rfl⟩
            · rw [up_ne _ _ cb, up_ne _ _ cb]; exact (hl k hk).2.2.2.2.1
        · dsimp only; rw [up_ne _ _ (by omega), up_ne _ _ (by omega)]; exact hg k hk
    · rw [if_neg e, if_neg e]
      exact ⟨_, _, rfl, rfl, rfl, h0⟩
  · rw [if_neg d, if_neg d]
    exact ⟨_, _, rfl, rfl, rfl, h0⟩
theorem pc_meet {kn th sm knots lines : Int} {rims froms tos xs ys zs there isRim isGone start goal line sum3 : Nat → Int} (h : RWb kn th rims froms tos sm xs ys zs there knots lines isRim isGone start goal line) (a b : Int) :
    ∃ r r2, m_X10_meet th froms tos sm xs ys zs there a b = some r ∧ m_X11_meet lines isGone start goal line sum3 a b = some r2 ∧ r.1 = r2.1 ∧ RWb kn r.2.1 rims froms tos sm r.2.2.1 r.2.2.2.1 r.2.2.2.2.1 r.2.2.2.2.2 knots lines isRim r2.2.1 start goal r2.2.2.1 := by
  have h0 := h
  obtain ⟨K, L, rfl, rfl, hK, rfl, rfl, hL, rfl, rfl, rfl, hth, hl, hg⟩ := h
  rw [m_X10_meet, m_X10_meet_0, m_X9_joinLines, m_X9_joinLines_0, m_X11_meet, m_X11_meet_0]
  by_cases c1 : 0 ≤ a ∧ a < L ∧ there a.toNat = 1
  · obtain ⟨a, rfl⟩ : ∃ i : Nat, a = (i : Int) := ⟨a.toNat, by omega⟩
    rw [tn] at c1
    have ga : isGone a = 0 := by have := (hl a (by omega)).2.2.2.2.1; omega
    rw [isThere1 hL (by omega) c1.2.2, isLine1 hL (by omega) ga, bind_s, bind_s, if_neg ne10, if_neg ne10]
    by_cases c2 : 0 ≤ b ∧ b < L ∧ there b.toNat = 1
    · obtain ⟨b, rfl⟩ : ∃ i : Nat, b = (i : Int) := ⟨b.toNat, by omega⟩
      rw [tn] at c2
      have gb : isGone b = 0 := by have := (hl b (by omega)).2.2.2.2.1; omega
      rw [isThere1 hL (by omega) c2.2.2, isLine1 hL (by omega) gb, bind_s, bind_s, if_neg ne10, if_neg ne10]
      by_cases c3 : a = b
      · subst c3
        rw [if_pos rfl, if_pos rfl, bind_s]; exact ⟨_, _, rfl, rfl, rfl, h0⟩
      · have c3' : ¬ (a : Int) = (b : Int) := by omega
        rw [if_neg c3', if_neg c3', chkB (by omega) (by omega), chkB (by omega) (by omega), chkB (by omega) (by omega), chkB (by omega) (by omega), chkB (by omega) (by omega), chkB (by omega) (by omega), chkB (by omega) (by omega), chkB (by omega) (by omega), tn, tn]
        have yes := fun (w al : Int) hw => q_meet (sum3 := sum3) (w := w) (al := al) h0 (show a < L by omega) (show b < L by omega) c3 c1.2.2 c2.2.2 hw
        have along : froms a = froms b → tos a = tos b → ∃ r r2, (m_X9_joinLines_58 th froms tos (L : Int) xs ys zs there (a : Int) (b : Int) 1).bind (fun y1 => some (y1.1, y1.2.1, y1.2.2.1, y1.2.2.2.1, y1.2.2.2.2.1, y1.2.2.2.2.2)) = some r ∧ m_X11_meet_58 isGone froms tos line sum3 (a : Int) (b : Int) 1 = some r2 ∧ r.1 = r2.1 ∧ RWb (K : Int) r.2.1 rims froms tos (L : Int) r.2.2.1 r.2.2.2.1 r.2.2.2.2.1 r.2.2.2.2.2 (K : Int) (L : Int) rims r2.2.1 froms tos r2.2.2.1 := by
          intro _ _
          obtain ⟨r, r2, q1, q2, q3, q4⟩ := yes 1 1 (Or.inl ⟨rfl, rfl⟩)
          rw [m_X11_meet_58, if_neg ne10, q2, m_X9_joinLines_58, chkB (by omega) (by omega), chkB (by omega) (by omega), chkB (by omega) (by omega), chkB (by omega) (by omega), m_X9_joinLines_93, m_X9_joinLines_94, m_X9_joinLines_94, if_neg ne10, if_neg ne10, m_X9_joinLines_107, if_neg ne10, ite_self, ite_self, q1, bind_s]
          exact ⟨_, _, rfl, rfl, q3, q4⟩
        have other : ∃ r r2, (m_X9_joinLines_57 th froms tos (L : Int) xs ys zs there (a : Int) (b : Int)).bind (fun y1 => some (y1.1, y1.2.1, y1.2.2.1, y1.2.2.2.1, y1.2.2.2.2.1, y1.2.2.2.2.2)) = some r ∧ m_X11_meet_57 isGone froms tos line sum3 (a : Int) (b : Int) = some r2 ∧ r.1 = r2.1 ∧ RWb (K : Int) r.2.1 rims froms tos (L : Int) r.2.2.1 r.2.2.2.1 r.2.2.2.2.1 r.2.2.2.2.2 (K : Int) (L : Int) rims r2.2.1 froms tos r2.2.2.1 := by
          obtain ⟨r, r2, q1, q2, q3, q4⟩ := yes (-1) 0 (Or.inr ⟨rfl, rfl⟩)
          have t93 : m_X9_joinLines_93 th (L : Int) xs ys zs there (a : Int) (b : Int) 0 = some (-1, th, xs, ys, zs, there) := by rw [m_X9_joinLines_93, m_X9_joinLines_94, if_pos rfl, if_pos rfl]
          rw [m_X9_joinLines_57, m_X9_joinLines_58, chkB (by omega) (by omega), chkB (by omega) (by omega), chkB (by omega) (by omega), chkB (by omega) (by omega), m_X11_meet_57, m_X11_meet_58, if_pos rfl, chkB (by omega) (by omega), chkB (by omega) (by omega), chkB (by omega) (by omega), chkB (by omega) (by omega), tn, tn, t93]
          by_cases d1 : froms a = tos b
          · rw [if_pos d1, if_pos d1]
            by_cases d2 : tos a = froms b
            · rw [if_pos d2, if_pos d2, m_X9_joinLines_94, if_pos rfl, if_neg ne10, m_X9_joinLines_107, if_pos rfl, q1, bind_s, q2]
              exact ⟨_, _, rfl, rfl, q3, q4⟩
            · rw [if_neg d2, if_neg d2, bind_s]; exact ⟨_, _, rfl, rfl, rfl, h0⟩
          · rw [if_neg d1, if_neg d1, bind_s]; exact ⟨_, _, rfl, rfl, rfl, h0⟩
        by_cases d1 : froms a = froms b
        · rw [if_pos d1, if_pos d1]
          by_cases d2 : tos a = tos b
          · rw [if_pos d2, if_pos d2]; exact along d1 d2
          · rw [if_neg d2, if_neg d2]; exact other
        · rw [if_neg d1, if_neg d1]; exact other
    · have n1 : ¬ (0 ≤ b ∧ b < L ∧ there b.toNat ≠ 0) := fun hh => c2 ⟨hh.1, hh.2.1, by have := (hl b.toNat (by omega)).2.2.2.2.1; omega⟩
      have n2 : ¬ (0 ≤ b ∧ b < L ∧ isGone b.toNat = 0) := fun hh => c2 ⟨hh.1, hh.2.1, by have := (hl b.toNat (by omega)).2.2.2.2.1; omega⟩
      rw [isThere0 hL n1, isLine0 hL n2, bind_s, bind_s, if_pos rfl, if_pos rfl, bind_s]
      exact ⟨_, _, rfl, rfl, rfl, h0⟩
  · have n1 : ¬ (0 ≤ a ∧ a < L ∧ there a.toNat ≠ 0) := fun hh => c1 ⟨hh.1, hh.2.1, by have := (hl a.toNat (by omega)).2.2.2.2.1; omega⟩
    have n2 : ¬ (0 ≤ a ∧ a < L ∧ isGone a.toNat = 0) := fun hh => c1 ⟨hh.1, hh.2.1, by have := (hl a.toNat (by omega)).2.2.2.2.1; omega⟩
    rw [isThere0 hL n1, isLine0 hL n2, bind_s, bind_s, if_pos rfl, if_pos rfl, bind_s]
    exact ⟨_, _, rfl, rfl, rfl, h0⟩


/-! ===== PURE: a line parts ===== -/
theorem bind_id {α : Type} (x : Option α) : x.bind (fun y => some y) = x := by cases x <;> rfl
theorem eW_bd {n : Nat} {xs ys zs : Nat → Int} {x y z : Int} (h : eW xs ys zs n x y z) (hb : ∀ k, k < n → bd3 9 (xs k) (ys k) (zs k)) (hn : ∀ k, k < n → ¬ (xs k = 0 ∧ ys k = 0 ∧ zs k = 0)) : bd3 9 x y z ∧ ¬ (x = 0 ∧ y = 0 ∧ z = 0) := by
  obtain ⟨k, hk, hh⟩ := h
  obtain ⟨⟨b1, b2⟩, ⟨b3, b4⟩, ⟨b5, b6⟩⟩ := hb k hk
  have hn := hn k hk
  rcases hh with ⟨e1, e2, e3⟩ | ⟨e1, e2, e3⟩
  · rw [e1, e2, e3] at hn
    exact ⟨⟨⟨by omega, by omega⟩, ⟨by omega, by omega⟩, by omega, by omega⟩, hn⟩
  · refine ⟨⟨⟨by omega, by omega⟩, ⟨by omega, by omega⟩, by omega, by omega⟩, fun hz => hn ⟨?_, ?_, ?_⟩⟩ <;> omega
theorem q_part {th : Int} {K L n k a : Nat} {rims froms tos xs ys zs there isGone line sx sy sz many2 way : Nat → Int} {w : Int} (h : RWb (K : Int) th rims froms tos (L : Int) xs ys zs there (K : Int) (L : Int) rims isGone froms tos line) (hs : RWy (n : Int) sx sy sz (many2 0) way 0) (hk : k < L) (ha : a < n) (hL : L < 120) (hw : w = 1 ∨ w = -1) :
    ∃ r r2, m_X9_splitLine_38 16 (K : Int) th froms tos (L : Int) xs ys zs there (n : Int) sx sy sz (k : Int) (a : Int) w = some r ∧ m_X11_part_44 (L : Int) many2 way froms tos line (k : Int) (a : Int) w = some r2 ∧ r.1 = r2.1 ∧ RWb (K : Int) r.2.1 rims r.2.2.1 r.2.2.2.1 r.2.2.2.2.1 r.2.2.2.2.2.1 r.2.2.2.2.2.2.1 r.2.2.2.2.2.2.2.1 r.2.2.2.2.2.2.2.2 (K : Int) r2.2.1 rims isGone r2.2.2.1 r2.2.2.2.1 r2.2.2.2.2 := by
  have h0 := h
  have hs0 := hs
  obtain ⟨K', L', e1, e2, hK, e3, e4, hL2, e5, e6, e7, hth, hl, hg⟩ := h
  obtain rfl : K = K' := by omega
  obtain rfl : L = L' := by omega
  obtain ⟨n', f1, f2, f3, f4⟩ := hs
  obtain rfl : n = n' := by omega
  obtain ⟨k1, k2, k3, k4, k5, k6, k7, k8⟩ := hl k hk
  obtain ⟨a1, a2, a3, a4, a5⟩ := f4 a ha
  rw [Nat.zero_add] at a1 a2 a3
  have k4' := k4
  rw [k1, k2, k3] at k4'
  have p := fun (q : Int) => q_partOf (N := 120) (n := L) (k := k) (xs := xs) (ys := ys) (zs := zs) (p := q) hL2 hk
  have p2 := fun (q : Int) => q_partOf (N := 16) (n := n) (k := a) (xs := sx) (ys := sy) (zs := sz) (p := q) f3 ha
  have hwa : bd3 9 (w * sx a) (w * sy a) (w * sz a) := by
    obtain ⟨⟨b1, b2⟩, ⟨b3, b4⟩, ⟨b5, b6⟩⟩ := a4
    rcases hw with h | h <;> subst h <;> exact ⟨⟨by omega, by omega⟩, ⟨by omega, by omega⟩, by omega, by omega⟩
  have hsq : sq3 (w * sx a) (w * sy a) (w * sz a) = sq3 (sx a) (sy a) (sz a) := by
    rcases hw with h | h <;> subst h
    · rw [Int.one_mul, Int.one_mul, Int.one_mul]
    · unfold sq3; rw [Int.neg_mul, Int.one_mul, Int.neg_mul_neg, Int.neg_mul, Int.one_mul, Int.neg_mul_neg, Int.neg_mul, Int.one_mul, Int.neg_mul_neg]
  obtain ⟨⟨w1', w2'⟩, ⟨w3, w4⟩, ⟨w5, w6⟩⟩ := hwa
  obtain ⟨⟨l1, l2⟩, ⟨l3, l4⟩, ⟨l5, l6⟩⟩ := k4
  have hbx : bd3 108 (xs k - w * sx a) (ys k - w * sy a) (zs k - w * sz a) := ⟨⟨by omega, by omega⟩, ⟨by omega, by omega⟩, by omega, by omega⟩
  have hbx' : bd3 1000000 (xs k - w * sx a) (ys k - w * sy a) (zs k - w * sz a) := ⟨⟨by omega, by omega⟩, ⟨by omega, by omega⟩, by omega, by omega⟩
  have hx1 := sq3_bd hbx
  have hx2 := sq3_bd (x := xs k) (y := ys k) (z := zs k) (b := 99) ⟨⟨l1, l2⟩, ⟨l3, l4⟩, l5, l6⟩
  have hx3 := sq3_bd a4
  obtain ⟨r, q1, q2, q3⟩ := q_haveEitherWay (N := 16) (n := n) (xs := sx) (ys := sy) (zs := sz) f3 (by omega) hbx'
  obtain ⟨r', q1', q2', q3'⟩ := q_X11_isStep (many2 := many2) (way := way) hs0 hbx'
  have e8 : (∃ n' : Nat, (n : Int) = (n' : Int) ∧ eW sx sy sz n' (xs k - w * sx a) (ys k - w * sy a) (zs k - w * sz a)) ↔ eW sx sy sz n (xs k - w * sx a) (ys k - w * sy a) (zs k - w * sz a) := ⟨fun ⟨n', h1, h2⟩ => by rwa [show n = n' by omega], fun h => ⟨n, rfl, h⟩⟩
  rw [e8] at q3'
  have er : r = r' := by
    rcases q2 with h | h <;> rcases q2' with h' | h'
    · omega
    · have := q3.mpr (q3'.mp h'); omega
    · have := q3'.mpr (q3.mp h); omega
    · omega
  subst er
  have t0 : Int.toNat (3 * (a : Int)) = 3 * a := by omega
  have t1 : Int.toNat (3 * (a : Int) + 1) = 3 * a + 1 := by omega
  have t2 : Int.toNat (3 * (a : Int) + 2) = 3 * a + 2 := by omega
  have u0 : Int.toNat (3 * (k : Int)) = 3 * k := by omega
  have u1 : Int.toNat (3 * (k : Int) + 1) = 3 * k + 1 := by omega
  have u2 : Int.toNat (3 * (k : Int) + 2) = 3 * k + 2 := by omega
  have hp0 : pt xs ys zs k 0 = xs k := rfl
  have hp1 : pt xs ys zs k 1 = ys k := rfl
  have hp2 : pt xs ys zs k 2 = zs k := rfl
  have hq0 : pt sx sy sz a 0 = sx a := rfl
  have hq1 : pt sx sy sz a 1 = sy a := rfl
  have hq2 : pt sx sy sz a 2 = sz a := rfl
  have hc38 : m_X9_splitLine_38 16 (K : Int) th froms tos (L : Int) xs ys zs there (n : Int) sx sy sz (k : Int) (a : Int) w = (if r = 0 then (some ((-2), th, froms, tos, (L : Int), xs, ys, zs, there)) else (if sq3 (sx a) (sy a) (sz a) + sq3 (xs k - w * sx a) (ys k - w * sy a) (zs k - w * sz a) < sq3 (xs k) (ys k) (zs k) then m_X9_newLine (K : Int) th froms tos (L : Int) (up xs k (w * sx a)) (up ys k (w * sy a)) (up zs k (w * sz a)) there (froms k) (tos k) (xs k - w * sx a) (ys k - w * sy a) (zs k - w * sz a) else some ((-2), th, froms, tos, (L : Int), xs, ys, zs, there))) := by
    have hsum : sq3 (sx a) (sy a) (sz a) + (xs k - w * sx a) * (xs k - w * sx a) + (ys k - w * sy a) * (ys k - w * sy a) + (zs k - w * sz a) * (zs k - w * sz a) = sq3 (sx a) (sy a) (sz a) + sq3 (xs k - w * sx a) (ys k - w * sy a) (zs k - w * sz a) := by
      have : sq3 (xs k - w * sx a) (ys k - w * sy a) (zs k - w * sz a) = (xs k - w * sx a) * (xs k - w * sx a) + (ys k - w * sy a) * (ys k - w * sy a) + (zs k - w * sz a) * (zs k - w * sz a) := rfl
      rw [this]; omega
    rw [m_X9_splitLine_38, p2, bind_s, p2, bind_s, p2, bind_s, p, bind_s, p, bind_s, p, bind_s, hp0, hp1, hp2, hq0, hq1, hq2]
    simp (disch := omega) only [chkI, chkB]
    rw [q1, bind_s]
    by_cases c : r = 0
    · rw [if_pos c, if_pos c]
    · rw [if_neg c, if_neg c, q_worthOf (b := 9) f3 ha a4 (by omega), bind_s, q_worthOf (b := 99) hL2 hk ⟨⟨l1, l2⟩, ⟨l3, l4⟩, l5, l6⟩ (by omega), bind_s, hsum, chkI (by omega) (by omega)]
      by_cases d : sq3 (sx a) (sy a) (sz a) + sq3 (xs k - w * sx a) (ys k - w * sy a) (zs k - w * sz a) < sq3 (xs k) (ys k) (zs k)
      · rw [if_pos d, if_pos d, q_change hL2 hk, bind_s, tn]
        exact bind_id _
      · rw [if_neg d, if_neg d]
  have hm44 : m_X11_part_44 (L : Int) many2 way froms tos line (k : Int) (a : Int) w = (if r = 0 then (some ((-2), (L : Int), froms, tos, line)) else (if sq3 (sx a) (sy a) (sz a) + sq3 (xs k - w * sx a) (ys k - w * sy a) (zs k - w * sz a) < sq3 (xs k) (ys k) (zs k) then m_X11_lineIn (L : Int) froms tos (up (up (up line (3 * k) (w * sx a)) (3 * k + 1) (w * sy a)) (3 * k + 2) (w * sz a)) (froms k) (tos k) (xs k - w * sx a) (ys k - w * sy a) (zs k - w * sz a) else some ((-2), (L : Int), froms, tos, line))) := by
    have hsquare : m_X11_square (w * sx a) (w * sy a) (w * sz a) = some (sq3 (w * sx a) (w * sy a) (w * sz a)) := q_X11_square (b := 9) ⟨⟨w1', w2'⟩, ⟨w3, w4⟩, w5, w6⟩ (by omega)
    have hsquare2 : m_X11_square (xs k - w * sx a) (ys k - w * sy a) (zs k - w * sz a) = some (sq3 (xs k - w * sx a) (ys k - w * sy a) (zs k - w * sz a)) := q_X11_square (b := 108) hbx (by omega)
    have hworth := q_X11_worth (line := line) (k := k) (b := 99) (by omega) k4' (by omega)
    rw [← k1, ← k2, ← k3] at hworth
    rw [m_X11_part_44]
    simp (disch := omega) only [chkB]
    rw [t0, t1, t2, u0, u1, u2, ← a1, ← a2, ← a3, ← k1, ← k2, ← k3]
    simp (disch := omega) only [chkI]
    rw [q1', bind_s, hsquare, bind_s, hsquare2, bind_s, hworth, bind_s, hsq, chkI (by omega) (by omega), tn]
    by_cases c : r = 0
    · rw [if_pos c, if_pos c]
    · rw [if_neg c, if_neg c]
      by_cases d : sq3 (sx a) (sy a) (sz a) + sq3 (xs k - w * sx a) (ys k - w * sy a) (zs k - w * sz a) < sq3 (xs k) (ys k) (zs k)
      · rw [if_pos d, if_pos d]
        exact bind_id _
      · rw [if_neg d, if_neg d]
  rw [hc38, hm44]
  by_cases c : r = 0
  · rw [if_pos c, if_pos c]; exact ⟨_, _, rfl, rfl, rfl, h0⟩
  · have r1 : r = 1 := q2.resolve_left c
    rw [if_neg c, if_neg c]
    by_cases d : sq3 (sx a) (sy a) (sz a) + sq3 (xs k - w * sx a) (ys k - w * sy a) (zs k - w * sz a) < sq3 (xs k) (ys k) (zs k)
    · obtain ⟨g1, g2⟩ := eW_bd (q3.mp r1) (fun j hj => (f4 j hj).2.2.2.1) (fun j hj => (f4 j hj).2.2.2.2)
      obtain ⟨⟨g3, g4⟩, ⟨g5, g6⟩, ⟨g7, g8⟩⟩ := g1
      have hnew : RWb (K : Int) th rims froms tos (L : Int) (up xs k (w * sx a)) (up ys k (w * sy a)) (up zs k (w * sz a)) there (K : Int) (L : Int) rims isGone froms tos (up (up (up line (3 * k) (w * sx a)) (3 * k + 1) (w * sy a)) (3 * k + 2) (w * sz a)) := by
        refine ⟨K, L, rfl, rfl, hK, rfl, rfl, hL2, rfl, rfl, rfl, hth, fun j hj => ?_, hg⟩
        by_cases cj : j = k
        · subst cj
          rw [up_at, up_at, up_at, up_at, up_ne _ _ (show 3 * j + 1 ≠ 3 * j + 2 by omega), up_at, up_ne _ _ (show 3 * j ≠ 3 * j + 2 by omega), up_ne _ _ (show 3 * j ≠ 3 * j + 1 by omega), up_at]
          exact ⟨rfl, rfl, rfl, ⟨⟨by omega, by omega⟩, ⟨by omega, by omega⟩, by omega, by omega⟩, k5, k6, k7, k8⟩
        · rw [up_ne _ _ cj, up_ne _ _ cj, up_ne _ _ cj, up_ne _ _ (show 3 * j ≠ 3 * k + 2 by omega), up_ne _ _ (show 3 * j ≠ 3 * k + 1 by omega), up_ne _ _ (show 3 * j ≠ 3 * k by omega), up_ne _ _ (show 3 * j + 1 ≠ 3 * k + 2 by omega), up_ne _ _ (show 3 * j + 1 ≠ 3 * k + 1 by omega), up_ne _ _ (show 3 * j + 1 ≠ 3 * k by omega), up_ne _ _ (show 3 * j + 2 ≠ 3 * k + 2 by omega), up_ne _ _ (show 3 * j + 2 ≠ 3 * k + 1 by omega), up_ne _ _ (show 3 * j + 2 ≠ 3 * k by omega)]
          exact hl j hj
      obtain ⟨r, r2, n1, n2, n3, n4⟩ := q_newLine hnew hL k6 k7 k8 ⟨⟨by omega, by omega⟩, ⟨by omega, by omega⟩, by omega, by omega⟩ g2
      rw [if_pos d, if_pos d, n1, n2]
      exact ⟨_, _, rfl, rfl, n3, n4⟩
    · rw [if_neg d, if_neg d]; exact ⟨_, _, rfl, rfl, rfl, h0⟩
theorem pc_part {kn th sm knots lines cm : Int} {rims froms tos xs ys zs there isRim isGone start goal line sx sy sz many2 way : Nat → Int} (h : RWb kn th rims froms tos sm xs ys zs there knots lines isRim isGone start goal line) (hs : RWy cm sx sy sz (many2 0) way 0) (k a t : Int) :
    ∃ r r2, m_X10_part kn th froms tos sm xs ys zs there cm sx sy sz k a t = some r ∧ m_X11_part lines many2 way isGone start goal line k a t = some r2 ∧ r.1 = r2.1 ∧ RWb kn r.2.1 rims r.2.2.1 r.2.2.2.1 r.2.2.2.2.1 r.2.2.2.2.2.1 r.2.2.2.2.2.2.1 r.2.2.2.2.2.2.2.1 r.2.2.2.2.2.2.2.2 knots r2.2.1 isRim isGone r2.2.2.1 r2.2.2.2.1 r2.2.2.2.2 := by
  have h0 := h
  have hs0 := hs
  obtain ⟨K, L, rfl, rfl, hK, rfl, rfl, hL, rfl, rfl, rfl, hth, hl, hg⟩ := h
  obtain ⟨n, rfl, f2, f3, f4⟩ := hs
  rw [m_X10_part, m_X10_part_0, m_X9_splitLine, m_X9_splitLine_0, m_X11_part, m_X11_part_0]
  by_cases c1 : 0 ≤ k ∧ k < L ∧ there k.toNat = 1
  · obtain ⟨k, rfl⟩ : ∃ i : Nat, k = (i : Int) := ⟨k.toNat, by omega⟩
    rw [tn] at c1
    have gk : isGone k = 0 := by have := (hl k (by omega)).2.2.2.2.1; omega
    rw [isThere1 hL (by omega) c1.2.2, isLine1 hL (by omega) gk, bind_s, bind_s, if_neg ne10, if_neg ne10, chkB (by omega) (by omega), show many2 (Int.toNat 0) = many2 0 from rfl, f2, chkI (by omega) (by omega)]
    by_cases c2 : 0 ≤ a ∧ a < n
    · obtain ⟨a, rfl⟩ : ∃ i : Nat, a = (i : Int) := ⟨a.toNat, by omega⟩
      rw [has1 c2.1 c2.2, i1 (by omega) (by omega), bind_s, bind_s, if_neg ne10, if_neg ne10]
      by_cases c3 : L = 120
      · have hf : m_X8_isFull 120 (L : Int) = some 1 := by rw [m_X8_isFull, m_X8_isFull_0, if_neg (by omega)]
        rw [hf, if_pos (show (L : Int) = 120 by omega), bind_s, if_neg ne10, bind_s]
        exact ⟨_, _, rfl, rfl, rfl, h0⟩
      · have hf : m_X8_isFull 120 (L : Int) = some 0 := by rw [m_X8_isFull, m_X8_isFull_0, if_pos (by omega)]
        rw [hf, if_neg (show ¬ (L : Int) = 120 by omega), bind_s, if_pos rfl]
        by_cases c4 : t = 0
        · obtain ⟨r, r2, q1, q2, q3, q4⟩ := q_part (w := 1) (k := k) (a := a) h0 hs0 (by omega) (by omega) (by omega) (Or.inl rfl)
          rw [if_pos c4, if_pos c4, q1, bind_s, q2]
          exact ⟨_, _, rfl, rfl, q3, q4⟩
        · obtain ⟨r, r2, q1, q2, q3, q4⟩ := q_part (w := -1) (k := k) (a := a) h0 hs0 (by omega) (by omega) (by omega) (Or.inr rfl)
          rw [if_neg c4, if_neg c4, q1, bind_s, q2]
          exact ⟨_, _, rfl, rfl, q3, q4⟩
    · rw [has0 c2, i0 (by omega), bind_s, bind_s, if_pos rfl, if_pos rfl, bind_s]
      exact ⟨_, _, rfl, rfl, rfl, h0⟩
  · have n1 : ¬ (0 ≤ k ∧ k < L ∧ there k.toNat ≠ 0) := fun hh => c1 ⟨hh.1, hh.2.1, by have := (hl k.toNat (by omega)).2.2.2.2.1; omega⟩
    have n2 : ¬ (0 ≤ k ∧ k < L ∧ isGone k.toNat = 0) := fun hh => c1 ⟨hh.1, hh.2.1, by have := (hl k.toNat (by omega)).2.2.2.2.1; omega⟩
    rw [isThere0 hL n1, isLine0 hL n2, bind_s, bind_s, if_pos rfl, if_pos rfl, bind_s]
    exact ⟨_, _, rfl, rfl, rfl, h0⟩

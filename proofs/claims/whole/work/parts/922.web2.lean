
/-! ===== PURE: what is told of lines, sums ===== -/
theorem q_X11_worth {line : Nat → Int} {k : Nat} {b : Int} (hk : k < 120) (hb : bd3 b (line (3 * k)) (line (3 * k + 1)) (line (3 * k + 2))) (hb2 : b * b ≤ 700000000) : m_X11_worth line (k : Int) = some (sq3 (line (3 * k)) (line (3 * k + 1)) (line (3 * k + 2))) := by
  have h := sq3_bd hb
  unfold sq3 at h
  rw [m_X11_worth, m_X11_worth_0, chkB (by omega) (by omega), chkB (by omega) (by omega), chkB (by omega) (by omega), show Int.toNat (3 * (k : Int)) = 3 * k by omega, show Int.toNat (3 * (k : Int) + 1) = 3 * k + 1 by omega, show Int.toNat (3 * (k : Int) + 2) = 3 * k + 2 by omega, m_X11_square, m_X11_square_0, chkI (by omega) (by omega), bind_s]
  rfl
theorem q_X11_square {x y z b : Int} (hb : bd3 b x y z) (hb2 : b * b ≤ 700000000) : m_X11_square x y z = some (sq3 x y z) := by
  have h := sq3_bd hb
  unfold sq3 at h
  rw [m_X11_square, m_X11_square_0, chkI (by omega) (by omega)]
  rfl
theorem pc_lines {kn th sm knots lines : Int} {rims froms tos xs ys zs there isRim isGone start goal line : Nat → Int} (h : RWb kn th rims froms tos sm xs ys zs there knots lines isRim isGone start goal line) (k w : Int) : ∃ r, m_X10_lines froms tos sm xs ys zs there k w = some r ∧ m_X11_lines lines isGone start goal line k w = some r := by
  obtain ⟨K, L, rfl, rfl, hK, rfl, rfl, hL, rfl, rfl, rfl, hth, hl, hg⟩ := h
  rw [m_X10_lines, m_X10_lines_0, m_X9_tellLine, m_X9_tellLine_0, m_X11_lines, m_X11_lines_0]
  by_cases c : 0 ≤ k ∧ k < L
  · obtain ⟨k, rfl⟩ : ∃ i : Nat, k = (i : Int) := ⟨k.toNat, by omega⟩
    obtain ⟨a1, a2, a3, a4, a5, a6, a7, a8⟩ := hl k (by omega)
    rcases a5 with ⟨b1, b2⟩ | ⟨b1, b2⟩
    · have p := fun (q : Int) => q_partOf (N := 120) (n := L) (k := k) (xs := xs) (ys := ys) (zs := zs) (p := q) hL (by omega)
      have pw := fun (q : Int) (hq : 0 ≤ q ∧ q ≤ 2) => pt_way (way := line) (o := 0) (k := k) (xs := xs) (ys := ys) (zs := zs) (p := q) (by rw [Nat.zero_add]; exact ⟨a1, a2, a3⟩) hq
      have a4' := a4
      rw [a1, a2, a3] at a4'
      rw [isThere1 hL (by omega) b1, isLine1 hL (by omega) b2, bind_s, bind_s, if_neg ne10, if_neg ne10]
      by_cases c0 : w = 0
      · subst c0
        rw [if_pos rfl, if_pos rfl, p, bind_s, bind_s, chkB (by omega) (by omega), show Int.toNat (3 * (k : Int) + 0) = 0 + 3 * k + Int.toNat 0 by omega, pw 0 (by omega)]
        exact ⟨_, rfl, rfl⟩
      · rw [if_neg c0, if_neg c0]
        by_cases c1 : w = 1
        · subst c1
          rw [if_pos rfl, if_pos rfl, p, bind_s, bind_s, chkB (by omega) (by omega), show Int.toNat (3 * (k : Int) + 1) = 0 + 3 * k + Int.toNat 1 by omega, pw 1 (by omega)]
          exact ⟨_, rfl, rfl⟩
        · rw [if_neg c1, if_neg c1]
          by_cases c2 : w = 2
          · subst c2
            rw [if_pos rfl, if_pos rfl, p, bind_s, bind_s, chkB (by omega) (by omega), show Int.toNat (3 * (k : Int) + 2) = 0 + 3 * k + Int.toNat 2 by omega, pw 2 (by omega)]
            exact ⟨_, rfl, rfl⟩
          · rw [if_neg c2, if_neg c2]
            by_cases c3 : w = 3
            · rw [if_pos c3, if_pos c3, chkB (by omega) (by omega), bind_s, tn]
              exact ⟨_, rfl, rfl⟩
            · rw [if_neg c3, if_neg c3]
              by_cases c4 : w = 4
              · rw [if_pos c4, if_pos c4, chkB (by omega) (by omega), bind_s, tn]
                exact ⟨_, rfl, rfl⟩
              · rw [if_neg c4, if_neg c4]
                by_cases c5 : w = 5
                · rw [if_pos c5, if_pos c5, q_worthOf hL (by omega) a4 (by omega), bind_s, bind_s, q_X11_worth (by omega) a4' (by omega), bind_s, ← a1, ← a2, ← a3]
                  exact ⟨_, rfl, rfl⟩
                · rw [if_neg c5, if_neg c5, bind_s]
                  exact ⟨_, rfl, rfl⟩
    · rw [isThere0 hL (fun h => h.2.2 b1), isLine0 hL (fun h => by have := h.2.2; rw [tn, b2] at this; omega), bind_s, bind_s, if_pos rfl, if_pos rfl, bind_s]
      exact ⟨_, rfl, rfl⟩
  · rw [isThere0 hL (fun h => c ⟨h.1, h.2.1⟩), isLine0 hL (fun h => c ⟨h.1, h.2.1⟩), bind_s, bind_s, if_pos rfl, if_pos rfl, bind_s]
    exact ⟨_, rfl, rfl⟩
/-- what line k brings to the sum at v -/
def sT (isGone start goal : Nat → Int) (xs ys zs : Nat → Int) (v p : Int) (k : Nat) : Int := if isGone k = 0 then (if start k = v then pt xs ys zs k p else if goal k = v then -(pt xs ys zs k p) else 0) else 0
theorem q_sumAt {kn th sm knots lines : Int} {rims froms tos xs ys zs there isRim isGone start goal line : Nat → Int} (h : RWb kn th rims froms tos sm xs ys zs there knots lines isRim isGone start goal line) (v p : Int) (hp : 0 ≤ p ∧ p ≤ 2) : ∃ r, m_X9_sumAt froms tos sm xs ys zs there v p = some r ∧ m_X11_sumAt lines isGone start goal line v p = some r := by
  obtain ⟨K, L, rfl, rfl, hK, rfl, rfl, hL, rfl, rfl, rfl, hth, hl, hg⟩ := h
  rw [m_X9_sumAt, m_X9_sumAt_0, m_X11_sumAt, m_X11_sumAt_0]
  have hpt : ∀ k, k < L → -99 ≤ pt xs ys zs k p ∧ pt xs ys zs k p ≤ 99 := fun k hk => by
    obtain ⟨_, _, _, ⟨b1, b2, b3⟩, _⟩ := hl k hk
    unfold pt
    split
    · exact b1
    · split
      · exact b2
      · exact b3
  have hb : ∀ n, n ≤ L → n * (-99) ≤ sm (sT isGone froms tos xs ys zs v p) n ∧ sm (sT isGone froms tos xs ys zs v p) n ≤ n * 99 := fun n hn => sm_bd (fun k hk => by
    have := hpt k (by omega)
    unfold sT
    split
    · split
      · exact this
      · split <;> omega
    · omega)
  have t88 : ∀ (F i : Nat) (s : Int), i < 120 → m_X9_sumAt_88 froms tos (L : Int) xs ys zs there v p s (i : Int) (m_X9_sumAt_5 froms tos (L : Int) xs ys zs there v p (fun v3' v4' => m_X9_sumAt_94 v3') F) (fun v3' v4' => m_X9_sumAt_94 v3') = m_X9_sumAt_5 froms tos (L : Int) xs ys zs there v p (fun v3' v4' => m_X9_sumAt_94 v3') F s ((i + 1 : Nat) : Int) := by
    intro F i s hi; rw [m_X9_sumAt_88, chkI (by omega) (by omega)]; rfl
  have t79 : ∀ (F i : Nat) (s : Int), i < 120 → m_X11_sumAt_79 (L : Int) isGone froms tos line v p s (i : Int) (m_X11_sumAt_5 (L : Int) isGone froms tos line v p (fun v3' v4' => m_X11_sumAt_85 v3') F) (fun v3' v4' => m_X11_sumAt_85 v3') = m_X11_sumAt_5 (L : Int) isGone froms tos line v p (fun v3' v4' => m_X11_sumAt_85 v3') F s ((i + 1 : Nat) : Int) := by
    intro F i s hi; rw [m_X11_sumAt_79, chkI (by omega) (by omega)]; rfl
  exact loop_p L (fun F i => ∃ r, m_X9_sumAt_5 froms tos (L : Int) xs ys zs there v p (fun v3' v4' => m_X9_sumAt_94 v3') F (sm (sT isGone froms tos xs ys zs v p) i) (i : Int) = some r ∧ m_X11_sumAt_5 (L : Int) isGone froms tos line v p (fun v3' v4' => m_X11_sumAt_85 v3') F (sm (sT isGone froms tos xs ys zs v p) i) (i : Int) = some r) (fun F => ⟨_, by rw [m_X9_sumAt_5, if_pos (by omega)], by rw [m_X11_sumAt_5, if_pos (by omega)]⟩) (fun F i hi ih _ => by
    obtain ⟨a1, a2, a3, a4, a5, a6, a7, a8⟩ := hl i hi
    have b1 := hb (i + 1) (by omega)
    have b0 := hb i (by omega)
    have bp := hpt i hi
    have es : sm (sT isGone froms tos xs ys zs v p) (i + 1) = sm (sT isGone froms tos xs ys zs v p) i + sT isGone froms tos xs ys zs v p i := rfl
    have ew : line (Int.toNat (3 * (i : Int) + p)) = pt xs ys zs i p := by
      rw [show Int.toNat (3 * (i : Int) + p) = 0 + 3 * i + p.toNat by omega]
      exact pt_way (by rw [Nat.zero_add]; exact ⟨a1, a2, a3⟩) hp
    rw [es] at ih b1
    generalize sm (sT isGone froms tos xs ys zs v p) i = S at *
    rw [m_X9_sumAt_5, if_neg (by omega), chkB (by omega) (by omega), tn, m_X11_sumAt_5, if_neg (show ¬ (L : Int) ≤ (i : Int) by omega), chkB (by omega) (by omega), tn]
    rcases a5 with ⟨g1, g2⟩ | ⟨g1, g2⟩
    · rw [if_neg (by omega), if_pos g2, chkB (by omega) (by omega), chkB (by omega) (by omega)]
      unfold sT at ih b1
      rw [if_pos g2] at ih b1
      by_cases c : froms i = v
      · rw [if_pos c] at ih b1
        rw [if_pos c, if_pos c, q_partOf hL hi, bind_s, chkI (by omega) (by omega), t88 F i _ (by omega), chkB (by omega) (by omega), ew, m_X11_sumAt_77, chkI (by omega) (by omega), t79 F i _ (by omega)]
        exact ih
      · rw [if_neg c] at ih b1
        rw [if_neg c, if_neg c, m_X9_sumAt_54, chkB (by omega) (by omega), tn, if_neg (by omega), chkB (by omega) (by omega), chkB (by omega) (by omega)]
        by_cases c2 : tos i = v
        · rw [if_pos c2] at ih b1
          rw [if_pos c2, if_pos c2, q_partOf hL hi, bind_s, chkI (by omega) (by omega), t88 F i _ (by omega), chkB (by omega) (by omega), ew, chkI (by omega) (by omega), m_X11_sumAt_77, chkI (by omega) (by omega), t79 F i _ (by omega)]
          exact ih
        · rw [if_neg c2] at ih b1
          rw [if_neg c2, if_neg c2, t88 F i _ (by omega), m_X11_sumAt_77, chkI (by omega) (by omega), t79 F i _ (by omega)]
          rw [Int.add_zero] at ih ⊢
          exact ih
    · rw [if_pos g1, if_neg (by omega), m_X9_sumAt_54, chkB (by omega) (by omega), tn, if_pos g1, t88 F i _ (by omega), t79 F i _ (by omega), chkB (by omega) (by omega)]
      have e0 : sT isGone froms tos xs ys zs v p i = 0 := by unfold sT; rw [if_neg (show ¬ isGone i = 0 by omega)]
      rw [e0, Int.add_zero] at ih
      exact ih) L FU 0 (by omega) (by unfold FU; omega)
theorem pc_sum {kn th sm knots lines : Int} {rims froms tos xs ys zs there isRim isGone start goal line : Nat → Int} (h : RWb kn th rims froms tos sm xs ys zs there knots lines isRim isGone start goal line) (v p : Int) : ∃ r, m_X10_sum kn froms tos sm xs ys zs there v p = some r ∧ m_X11_sum knots lines isGone start goal line v p = some r := by
  have hs := fun hp => q_sumAt h v p hp
  obtain ⟨K, L, rfl, rfl, hK, rfl, rfl, hL, rfl, rfl, rfl, hth, hl, hg⟩ := h
  rw [m_X10_sum, m_X10_sum_0, m_X11_sum, m_X11_sum_0]
  by_cases c : 0 ≤ v ∧ v < K
  · rw [isKnotc1 hK c, isKnotm1 hK c, bind_s, bind_s, if_neg ne10, if_neg ne10]
    by_cases c2 : 0 ≤ p ∧ p ≤ 2
    · obtain ⟨r, s1, s2⟩ := hs c2
      rw [isPart1 c2.1 c2.2, i1 c2.1 c2.2, bind_s, bind_s, if_neg ne10, if_neg ne10, s1, s2, bind_s]
      exact ⟨_, rfl, rfl⟩
    · rw [isPart0 c2, i0 c2, bind_s, bind_s, if_pos rfl, if_pos rfl]
      exact ⟨_, rfl, rfl⟩
  · rw [isKnotc0 hK c, isKnotm0 hK c, bind_s, bind_s, if_pos rfl, if_pos rfl]
    exact ⟨_, rfl, rfl⟩
theorem pc_unsound {kn th sm knots lines : Int} {rims froms tos xs ys zs there isRim isGone start goal line : Nat → Int} (h : RWb kn th rims froms tos sm xs ys zs there knots lines isRim isGone start goal line) : ∃ r, m_X10_unsound kn rims froms tos sm xs ys zs there = some r ∧ m_X11_unsound knots lines isRim isGone start goal line = some r := by
  have hs := fun v p hp => q_sumAt h v p hp
  obtain ⟨K, L, rfl, rfl, hK, rfl, rfl, hL, rfl, rfl, rfl, hth, hl, hg⟩ := h
  rw [m_X10_unsound, m_X10_unsound_0, m_X9_firstUnsound, m_X9_firstUnsound_0, m_X11_unsound, m_X11_unsound_0]
  have key := loop_p K (fun F i => ∃ r, m_X9_firstUnsound_2 (K : Int) rims froms tos (L : Int) xs ys zs there (fun v1' => m_X9_firstUnsound_64) (fun v1' => m_X9_firstUnsound_56 v1') F (i : Int) = some r ∧ m_X11_unsound_2 (K : Int) (L : Int) rims isGone froms tos line (fun v1' => m_X11_unsound_54) (fun v1' => m_X11_unsound_46 v1') F (i : Int) = some r) (fun F => ⟨-1, by rw [m_X9_firstUnsound_2, if_pos (by omega)], by rw [m_X11_unsound_2, if_pos (by omega)]⟩) (fun F i hi ih _ => by
    obtain ⟨x, x1, x2⟩ := hs i 0 (by omega)
    obtain ⟨y, y1, y2⟩ := hs i 1 (by omega)
    obtain ⟨z, z1, z2⟩ := hs i 2 (by omega)
    have t58 : ∀ s : Int, m_X9_firstUnsound_42 (K : Int) rims froms tos (L : Int) xs ys zs there (i : Int) s (m_X9_firstUnsound_2 (K : Int) rims froms tos (L : Int) xs ys zs there (fun v1' => m_X9_firstUnsound_64) (fun v1' => m_X9_firstUnsound_56 v1') F) (fun v1' => m_X9_firstUnsound_64) (fun v1' => m_X9_firstUnsound_56 v1') = if rims i = 0 then (if s = 0 then some (i : Int) else m_X9_firstUnsound_2 (K : Int) rims froms tos (L : Int) xs ys zs there (fun v1' => m_X9_firstUnsound_64) (fun v1' => m_X9_firstUnsound_56 v1') F ((i + 1 : Nat) : Int)) else m_X9_firstUnsound_2 (K : Int) rims froms tos (L : Int) xs ys zs there (fun v1' => m_X9_firstUnsound_64) (fun v1' => m_X9_firstUnsound_56 v1') F ((i + 1 : Nat) : Int) := by
      intro s
      rw [m_X9_firstUnsound_42, chkB (by omega) (by omega), tn, m_X9_firstUnsound_58, chkI (by omega) (by omega)]
      rfl
    have t48 : m_X11_unsound_48 (K : Int) (L : Int) rims isGone froms tos line (i : Int) (m_X11_unsound_2 (K : Int) (L : Int) rims isGone froms tos line (fun v1' => m_X11_unsound_54) (fun v1' => m_X11_unsound_46 v1') F) (fun v1' => m_X11_unsound_54) (fun v1' => m_X11_unsound_46 v1') = m_X11_unsound_2 (K : Int) (L : Int) rims isGone froms tos line (fun v1' => m_X11_unsound_54) (fun v1' => m_X11_unsound_46 v1') F ((i + 1 : Nat) : Int) := by
      rw [m_X11_unsound_48, chkI (by omega) (by omega)]; rfl
    rw [m_X9_firstUnsound_2, if_neg (by omega), x1, bind_s, m_X9_firstUnsound_41, t58, t58, y1, bind_s, z1, bind_s, m_X11_unsound_2, if_neg (show ¬ (K : Int) ≤ (i : Int) by omega), chkB (by omega) (by omega), tn, t48]
    by_cases c : rims i = 0
    · rw [if_pos c, if_pos c, if_pos c, if_pos rfl, if_neg ne10, x2, bind_s, y2, bind_s, z2, bind_s]
      by_cases d1 : x = 0
      · rw [if_pos d1, if_pos d1]
        by_cases d2 : y = 0
        · rw [if_pos d2, if_pos d2]
          by_cases d3 : z = 0
          · rw [if_pos d3, if_pos d3]; exact ih
          · rw [if_neg d3, if_neg d3]; exact ⟨_, rfl, rfl⟩
        · rw [if_neg d2, if_neg d2]; exact ⟨_, rfl, rfl⟩
      · rw [if_neg d1, if_neg d1]; exact ⟨_, rfl, rfl⟩
    · rw [if_neg c, if_neg c, if_neg c, ite_self, ite_self, ite_self]; exact ih) K FU 0 (by omega) (by unfold FU; omega)
  obtain ⟨r, k1, k2⟩ := key
  exact ⟨r, by rw [show (0 : Int) = ((0 : Nat) : Int) from rfl, k1, bind_s], k2⟩
theorem pc_seen {kn th sm knots lines em : Int} {rims froms tos xs ys zs there isRim isGone start goal line ex ey ez many2 way : Nat → Int} (h : RWb kn th rims froms tos sm xs ys zs there knots lines isRim isGone start goal line) (hw : RWy em ex ey ez (many2 2) way 96) (k e : Int) : ∃ r, m_X10_seen sm xs ys zs there em ex ey ez k e = some r ∧ m_X11_seen lines many2 way isGone line k e = some r := by
  obtain ⟨K, L, rfl, rfl, hK, rfl, rfl, hL, rfl, rfl, rfl, hth, hl, hg⟩ := h
  obtain ⟨m, rfl, f2, f3, f4⟩ := hw
  rw [m_X10_seen, m_X10_seen_0, m_X11_seen, m_X11_seen_0]
  by_cases c : 0 ≤ k ∧ k < L
  · obtain ⟨k, rfl⟩ : ∃ i : Nat, k = (i : Int) := ⟨k.toNat, by omega⟩
    obtain ⟨a1, a2, a3, a4, a5, a6, a7, a8⟩ := hl k (by omega)
    rcases a5 with ⟨b1, b2⟩ | ⟨b1, b2⟩
    · rw [isThere1 hL (by omega) b1, isLine1 hL (by omega) b2, bind_s, bind_s, if_neg ne10, if_neg ne10]
      by_cases c2 : 0 ≤ e ∧ e < m
      · obtain ⟨e, rfl⟩ : ∃ i : Nat, e = (i : Int) := ⟨e.toNat, by omega⟩
        obtain ⟨k1, k2, k3, k4, _⟩ := f4 e (by omega)
        have t2 : m_X11_isTold many2 2 (e : Int) = some 1 := isTold1 (s := 2) (by omega) f2 f3 (by omega)
        have ha := q_X11_along (way := way) (x := xs k) (y := ys k) (z := zs k) (s := 2) (k := e) (c := 99) (by omega) a4 (by rw [show 48 * 2 + 3 * e = 96 + 3 * e by omega, ← k1, ← k2, ← k3]; exact k4) (by omega)
        rw [show 48 * 2 + 3 * e = 96 + 3 * e by omega, ← k1, ← k2, ← k3] at ha
        have ha' : m_X11_along way (xs k) (ys k) (zs k) 2 (e : Int) = some (dot3 (xs k) (ys k) (zs k) (ex e) (ey e) (ez e)) := ha
        rw [has1 c2.1 c2.2, t2, bind_s, bind_s, if_neg ne10, if_neg ne10, q_product (b := 9) (c := 99) f3 (by omega) hL (by omega) k4 a4 (by omega), bind_s, chkB (by omega) (by omega), chkB (by omega) (by omega), chkB (by omega) (by omega), show Int.toNat (3 * (k : Int)) = 3 * k by omega, show Int.toNat (3 * (k : Int) + 1) = 3 * k + 1 by omega, show Int.toNat (3 * (k : Int) + 2) = 3 * k + 2 by omega, ← a1, ← a2, ← a3, ha', bind_s, dot3_comm (ex e)]
        by_cases d : dot3 (xs k) (ys k) (zs k) (ex e) (ey e) (ez e) = 0
        · rw [if_pos d]; exact ⟨_, rfl, rfl⟩
        · rw [if_neg d]; exact ⟨_, rfl, rfl⟩
      · have t2 : m_X11_isTold many2 2 e = some 0 := isTold0 (s := 2) (by omega) f2 f3 c2
        rw [has0 c2, t2, bind_s, bind_s, if_pos rfl, if_pos rfl]
        exact ⟨_, rfl, rfl⟩
    · rw [isThere0 hL (fun h => h.2.2 b1), isLine0 hL (fun h => by have := h.2.2; rw [tn, b2] at this; omega), bind_s, bind_s, if_pos rfl, if_pos rfl]
      exact ⟨_, rfl, rfl⟩
  · rw [isThere0 hL (fun h => c ⟨h.1, h.2.1⟩), isLine0 hL (fun h => c ⟨h.1, h.2.1⟩), bind_s, bind_s, if_pos rfl, if_pos rfl]
    exact ⟨_, rfl, rfl⟩

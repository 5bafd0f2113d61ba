
/-! ===== PURE: what is told of systems ===== -/
/-- GONE of all but k, of the first m -/
def oG (g : Nat → Int) (k m : Nat) : Int := sm (fun i => if i = k then 0 else g i) m
/-- by how much k is harder, times 100 -/
def hN (own cross : Int) (g : Nat → Int) (k n : Nat) : Int := own * g k + cross * oG g k n
theorem hsum {own cross : Int} {g : Nat → Int} {k : Nat} : ∀ m, sm (fun i => (if i = k then own else cross) * g i) m = (if k < m then own * g k else 0) + cross * oG g k m := by
  intro m
  induction m with
  | zero => simp [sm_z, oG]
  | succ m ih =>
    have e : oG g k (m + 1) = oG g k m + (if m = k then 0 else g m) := rfl
    rw [sm_s, ih, e, Int.mul_add]
    by_cases c : m = k
    · subst c; rw [if_pos rfl, if_pos rfl, if_neg (by omega), if_pos (by omega), Int.mul_zero]; omega
    · rw [if_neg c, if_neg c]
      by_cases c2 : k < m
      · rw [if_pos c2, if_pos (by omega)]; omega
      · rw [if_neg c2, if_neg (by omega)]; omega
theorem oG_bd {g : Nat → Int} {B : Int} {k m : Nat} (h : ∀ i, i < m → 0 ≤ g i ∧ g i ≤ B) (hB : 0 ≤ B) : 0 ≤ oG g k m ∧ oG g k m ≤ m * B := by
  have := sm_bd (f := fun i => if i = k then 0 else g i) (lo := 0) (hi := B) (n := m) (fun j hj => by
    have := h j hj
    split
    · exact ⟨Int.le_refl _, hB⟩
    · exact this)
  rw [Int.mul_zero] at this
  exact this
theorem hN_bd {own cross B : Int} {g : Nat → Int} {k n : Nat} (ho : 0 ≤ own ∧ own ≤ 999) (hc : 0 ≤ cross ∧ cross ≤ 999) (hg : ∀ i, i < 8 → 0 ≤ g i ∧ g i ≤ B) (hk : k < 8) (hn : n ≤ 8) : (0 ≤ own * g k ∧ own * g k ≤ 999 * B) ∧ 0 ≤ hN own cross g k n ∧ hN own cross g k n ≤ 8991 * B := by
  have hB : 0 ≤ B := by have := hg 0 (by omega); omega
  have h1 := hg k hk
  have h2 := oG_bd (k := k) (m := n) (fun i hi => hg i (by omega)) hB
  have h3 : (n : Int) * B ≤ 8 * B := Int.mul_le_mul_of_nonneg_right (by omega) hB
  have m1 := mul_bd (a := own) (b := g k) (A := 999) (B := B) (by omega) ho.2 (by omega) h1.2
  have m2 := mul_bd (a := cross) (b := oG g k n) (A := 999) (B := 8 * B) (by omega) hc.2 (by omega) (by omega)
  have p1 := Int.mul_nonneg ho.1 h1.1
  have p2 := Int.mul_nonneg hc.1 h2.1
  unfold hN
  omega
theorem td100 {x : Int} (h : 0 ≤ x) : Int.tdiv x 100 = x / 100 := Int.tdiv_eq_ediv_of_nonneg h
theorem q_hardnessOf {B own cross : Int} {n k : Nat} {K : Nat → Nat} {R : Nat → RowT} {grain gS : Nat → Int} (ho : 0 ≤ own ∧ own ≤ 999) (hc : 0 ≤ cross ∧ cross ≤ 999) (hr : gRw B K R grain gS) (hn : n ≤ 8) (hk : k < n) (hB : B ≤ 19000000) :
    m_X2_hardnessOf (n : Int) own cross K R (k : Int) = some (hN own cross (fun i => gS (6 * i + 5)) k n / 100) ∧ m_X11_harderOf (n : Int) own cross gS (k : Int) = some (hN own cross (fun i => gS (6 * i + 5)) k n / 100) ∧ 0 ≤ hN own cross (fun i => gS (6 * i + 5)) k n / 100 ∧ hN own cross (fun i => gS (6 * i + 5)) k n / 100 ≤ 2000000000 := by
  obtain ⟨k1, k2, k3⟩ := hr
  have hg : ∀ i, i < 8 → 0 ≤ gS (6 * i + 5) ∧ gS (6 * i + 5) ≤ B := fun i hi => by
    have := (k3 i hi).2.2.2.2.2.2.2.2.2.2
    rw [sl_at (by omega)] at this
    exact this
  have hB0 : 0 ≤ B := by have := hg 0 (by omega); omega
  have hx : ∀ m, m ≤ 8 → _ := fun m hm => hN_bd (g := fun i => gS (6 * i + 5)) (n := m) ho hc hg (show k < 8 by omega) hm
  obtain ⟨b0, b1, b2⟩ := hx n hn
  refine ⟨?_, ?_, by omega, by omega⟩
  · rw [m_X2_hardnessOf, m_X2_hardnessOf_0]
    have key := loop_up n (fun F i => m_X2_hardnessOf_5 (n : Int) own cross K R (k : Int) (fun v2' v4' => m_X2_hardnessOf_53 v2') F (sm (fun i => (if i = k then own else cross) * gS (6 * i + 5)) i) (i : Int)) (fun _ => some (hN own cross (fun i => gS (6 * i + 5)) k n / 100)) (fun F => by
      show m_X2_hardnessOf_5 _ _ _ _ _ _ _ (F + 1) _ _ = _
      have e : sm (fun i => (if i = k then own else cross) * gS (6 * i + 5)) n = hN own cross (fun i => gS (6 * i + 5)) k n := by
        rw [hsum (g := fun i => gS (6 * i + 5)), if_pos hk]; rfl
      rw [m_X2_hardnessOf_5, if_pos (by omega), chk_pos (by decide), e, td100 b1, chkJ (by omega) (by omega)]) (fun F i hi ih => by
      show m_X2_hardnessOf_5 _ _ _ _ _ _ _ (F + 1) _ _ = _
      obtain ⟨c0, c1, c2⟩ := hx (i + 1) (by omega)
      have eg : (R (K i)).2.2.2.2.2.1 = gS (6 * i + 5) := by rw [(k3 i (by omega)).1.2.2.2.1, sl_at (by omega)]
      have es : sm (fun i => (if i = k then own else cross) * gS (6 * i + 5)) (i + 1) = sm (fun i => (if i = k then own else cross) * gS (6 * i + 5)) i + (if i = k then own else cross) * gS (6 * i + 5) := rfl
      have eb : -8991 * B ≤ sm (fun i => (if i = k then own else cross) * gS (6 * i + 5)) (i + 1) ∧ sm (fun i => (if i = k then own else cross) * gS (6 * i + 5)) (i + 1) ≤ 8991 * B := by
        rw [hsum (g := fun i => gS (6 * i + 5))]
        unfold hN at c1 c2
        have p2 := Int.mul_nonneg hc.1 (oG_bd (g := fun i => gS (6 * i + 5)) (k := k) (m := i + 1) (fun j hj => hg j (by omega)) hB0).1
        dsimp only at c1 c2 c0
        split <;> omega
      have t32 : ∀ w, w = (if i = k then own else cross) → m_X2_hardnessOf_32 (n : Int) own cross K R (k : Int) (i : Int) (sm (fun i => (if i = k then own else cross) * gS (6 * i + 5)) i) w (m_X2_hardnessOf_5 (n : Int) own cross K R (k : Int) (fun v2' v4' => m_X2_hardnessOf_53 v2') F) (fun v2' v4' => m_X2_hardnessOf_53 v2') = some (hN own cross (fun i => gS (6 * i + 5)) k n / 100) := by
        intro w hw
        rw [es] at eb ih
        rw [m_X2_hardnessOf_32, chkB (by omega) (by omega), tn, chk_pos (k1 i (by omega)), eg, hw, chkJ (by omega) (by omega), chkI (by omega) (by omega)]
        exact ih
      rw [m_X2_hardnessOf_5, if_neg (by omega)]
      by_cases c : i = k
      · rw [if_pos (by omega)]; exact t32 own (by rw [if_pos c])
      · rw [if_neg (by omega)]; exact t32 cross (by rw [if_neg c])) n FU 0 (by omega) (by unfold FU; omega)
    exact key
  · rw [m_X11_harderOf, m_X11_harderOf_0]
    have key := loop_up n (fun F i => m_X11_harderOf_5 (n : Int) gS (k : Int) (fun v2' v4' => m_X11_harderOf_45 own cross gS (k : Int) v2') F (oG (fun i => gS (6 * i + 5)) k i) (i : Int)) (fun _ => some (hN own cross (fun i => gS (6 * i + 5)) k n / 100)) (fun F => by
      show m_X11_harderOf_5 _ _ _ _ (F + 1) _ _ = _
      have e : own * gS (6 * k + 5) + cross * oG (fun i => gS (6 * i + 5)) k n = hN own cross (fun i => gS (6 * i + 5)) k n := rfl
      rw [m_X11_harderOf_5, if_pos (by omega), m_X11_harderOf_45, chkB (by omega) (by omega), show Int.toNat (6 * (k : Int) + 5) = 6 * k + 5 by omega, e, chkJ (by omega) (by omega), chk_pos (by decide), td100 b1, chkI (by omega) (by omega)]) (fun F i hi ih => by
      show m_X11_harderOf_5 _ _ _ _ (F + 1) _ _ = _
      have hb := oG_bd (g := fun i => gS (6 * i + 5)) (k := k) (m := i + 1) (fun j hj => hg j (by omega)) hB0
      have h3 : ((i + 1 : Nat) : Int) * B ≤ 8 * B := Int.mul_le_mul_of_nonneg_right (by omega) hB0
      have es : oG (fun i => gS (6 * i + 5)) k (i + 1) = oG (fun i => gS (6 * i + 5)) k i + (if i = k then 0 else gS (6 * i + 5)) := rfl
      rw [es] at hb ih
      rw [m_X11_harderOf_5, if_neg (by omega)]
      by_cases c : i = k
      · rw [if_pos c] at hb ih
        rw [if_pos (by omega), m_X11_harderOf_37, chkJ (by omega) (by omega), chkI (by omega) (by omega)]
        exact ih
      · rw [if_neg c] at hb ih
        rw [if_neg (by omega), chkB (by omega) (by omega), show Int.toNat (6 * (i : Int) + 5) = 6 * i + 5 by omega, m_X11_harderOf_37, chkJ (by omega) (by omega), chkI (by omega) (by omega)]
        exact ih) n FU 0 (by omega) (by unfold FU; omega)
    exact key
theorem pc_systems {B many own cross pm sm systems own2 cross2 : Int} {px py pz sx sy sz ways grain gS cur pA cS : Nat → Int} {K : Nat → Nat} {R : Nat → RowT} (h : RGn B many own cross pm px py pz sm sx sy sz K R systems own2 cross2 ways grain gS) (hs : RSc cur pA cS) (hB : B ≤ 19000000) (k w : Int) :
    ∃ r r2, m_X10_systems many own cross K R k w = some r ∧ m_X11_systems systems own2 cross2 cur cS grain gS k w = some r2 ∧ r = r2.1 ∧ RSc r2.2.1 pA r2.2.2 := by
  obtain ⟨n, rfl, rfl, rfl, rfl, g1, rfl, rfl, g4, g5, g6, g7, g8, g9⟩ := h
  rw [m_X10_systems, m_X10_systems_0, m_X2_tellSystem, m_X2_tellSystem_0, m_X11_systems, m_X11_systems_0]
  by_cases c1 : 0 ≤ k ∧ k < n
  · obtain ⟨k, rfl⟩ : ∃ i : Nat, k = (i : Int) := ⟨k.toNat, by omega⟩
    obtain ⟨⟨r1, r2, r3, r4, r5, r6, r7, r8⟩, hw⟩ := g9 k (by omega)
    have hk := g7 k (by omega)
    have hh := q_hardnessOf g4 g5 ⟨g7, g8, g9⟩ g1 (show k < n by omega) hB
    have tk := q_X11_takes (N1 := 800) (N3 := 48) (a := 100 * k) (b := 6 * k) (cur := cur) (cS := cS) (p1 := grain) (p3 := gS) hs.1 hs.2.2 (by omega) (by omega)
    have hsc : RSc (sl 100 grain (100 * k)) pA (sl 6 gS (6 * k)) := ⟨Zf_sl, hs.2.1, Zf_sl⟩
    rw [hasG1 g1 c1, isSys1 g1 c1, bind_s, bind_s, if_neg ne10, if_neg ne10]
    by_cases c2 : 100 ≤ w ∧ w ≤ 199
    · obtain ⟨p, rfl⟩ : ∃ i : Nat, w = (i : Int) + 100 := ⟨(w - 100).toNat, by omega⟩
      rw [if_neg (by omega), if_neg (by omega), if_neg (by omega), if_neg (by omega), if_neg (by omega), if_neg (by omega), if_neg (by omega), w1 c2.1 c2.2, i1 c2.1 c2.2, bind_s, bind_s, if_neg ne10, if_neg ne10, chkB (by omega) (by omega), tn, chk_pos hk, chkI (by omega) (by omega), chkB (by omega) (by omega), q_X6_signAt, bind_s, bind_s, if_pos (by omega), r1, show Int.toNat ((p : Int) + 100 - 100) = p by omega, show Int.toNat (100 * (k : Int) + ((p : Int) + 100) - 100) = 100 * k + p by omega, sl_at (by omega)]
      exact ⟨_, _, rfl, rfl, rfl, hs⟩
    · rw [i0 c2, bind_s, if_pos rfl, chkI (z := 100 * (k : Int)) (by omega) (by omega), chkI (z := 6 * (k : Int)) (by omega) (by omega), show (100 * (k : Int)) = ((100 * k : Nat) : Int) by omega, show (6 * (k : Int)) = ((6 * k : Nat) : Int) by omega, tk, bind_s]
      dsimp only
      by_cases d0 : w = 0
      · rw [if_pos d0, if_pos d0, chkB (by omega) (by omega), tn, chk_pos hk, bind_s, q_X11_flaws, bind_s, r2]
        exact ⟨_, _, rfl, rfl, rfl, hsc⟩
      · rw [if_neg d0, if_neg d0]
        by_cases d1 : w = 1
        · rw [if_pos d1, if_pos d1, chkB (by omega) (by omega), tn, chk_pos hk, bind_s, chkB (by omega) (by omega), r3]
          exact ⟨_, _, rfl, rfl, rfl, hsc⟩
        · rw [if_neg d1, if_neg d1]
          by_cases d2 : w = 2
          · rw [if_pos d2, if_pos d2, chkB (by omega) (by omega), tn, chk_pos hk, bind_s, chkB (by omega) (by omega), r4]
            exact ⟨_, _, rfl, rfl, rfl, hsc⟩
          · rw [if_neg d2, if_neg d2]
            by_cases d3 : w = 3
            · rw [if_pos d3, if_pos d3, hh.1, hh.2.1, bind_s, bind_s, bind_s]
              exact ⟨_, _, rfl, rfl, rfl, hsc⟩
            · rw [if_neg d3, if_neg d3]
              by_cases d4 : w = 4
              · rw [if_pos d4, if_pos d4, chkB (by omega) (by omega), tn, chk_pos hk, bind_s, chkB (by omega) (by omega), r6]
                exact ⟨_, _, rfl, rfl, rfl, hsc⟩
              · rw [if_neg d4, if_neg d4]
                by_cases d5 : w = 5
                · rw [if_pos d5, if_pos d5, chkB (by omega) (by omega), tn, chk_pos hk, bind_s, chkB (by omega) (by omega), r7]
                  exact ⟨_, _, rfl, rfl, rfl, hsc⟩
                · rw [if_neg d5, if_neg d5]
                  by_cases d6 : w = 6
                  · rw [if_pos d6, if_pos d6, chkB (by omega) (by omega), tn, chk_pos hk, bind_s, chkB (by omega) (by omega), r8]
                    exact ⟨_, _, rfl, rfl, rfl, hsc⟩
                  · rw [if_neg d6, if_neg d6, w0 c2, bind_s, if_pos rfl, bind_s]
                    exact ⟨_, _, rfl, rfl, rfl, hsc⟩
  · rw [hasG0 g1 c1, isSys0 g1 c1, bind_s, bind_s, if_pos rfl, if_pos rfl, bind_s]
    exact ⟨_, _, rfl, rfl, rfl, hs⟩
theorem isWayPart1 {v : Int} (h : -9 ≤ v ∧ v ≤ 9) : m_X4_isWayPart v = some 1 := by rw [m_X4_isWayPart, m_X4_isWayPart_0, w1 h.1 h.2, bind_s]
theorem isWayPart0 {v : Int} (h : ¬ (-9 ≤ v ∧ v ≤ 9)) : m_X4_isWayPart v = some 0 := by rw [m_X4_isWayPart, m_X4_isWayPart_0, w0 h, bind_s]
/-- a pull's way -/
def pl3 (x y z : Int) : Prop := bd3 9 x y z ∧ ¬ (x = 0 ∧ y = 0 ∧ z = 0)
theorem tell1 {a b c x y z : Int} (h : pl3 x y z) : m_X4_tell a b c x y z = some (1, x, y, z) := by
  obtain ⟨⟨h1, h2, h3⟩, h4⟩ := h
  rw [m_X4_tell, m_X4_tell_0, isWayPart1 h1, bind_s, if_neg ne10, isWayPart1 h2, bind_s, if_neg ne10, isWayPart1 h3, bind_s, if_neg ne10, m_X4_tell_35]
  by_cases c1 : x = 0
  · by_cases c2 : y = 0
    · rw [if_pos c1, if_pos c2, if_neg (fun c3 => h4 ⟨c1, c2, c3⟩)]
    · rw [if_pos c1, if_neg c2]
  · rw [if_neg c1]
theorem tell0 {a b c x y z : Int} (h : ¬ pl3 x y z) : m_X4_tell a b c x y z = some (0, a, b, c) := by
  rw [m_X4_tell, m_X4_tell_0]
  by_cases h1 : -9 ≤ x ∧ x ≤ 9
  · rw [isWayPart1 h1, bind_s, if_neg ne10]
    by_cases h2 : -9 ≤ y ∧ y ≤ 9
    · rw [isWayPart1 h2, bind_s, if_neg ne10]
      by_cases h3 : -9 ≤ z ∧ z ≤ 9
      · rw [isWayPart1 h3, bind_s, if_neg ne10]
        have h4 : x = 0 ∧ y = 0 ∧ z = 0 := by
          by_cases h4 : x = 0 ∧ y = 0 ∧ z = 0
          · exact h4
          · exact absurd ⟨⟨h1, h2, h3⟩, h4⟩ h
        rw [if_pos h4.1, if_pos h4.2.1, if_pos h4.2.2]
      · rw [isWayPart0 h3, bind_s, if_pos rfl]
    · rw [isWayPart0 h2, bind_s, if_pos rfl]
  · rw [isWayPart0 h1, bind_s, if_pos rfl]
theorem isPullm1 {x y z : Int} (h : pl3 x y z) : m_X11_isPull x y z = some 1 := by
  obtain ⟨⟨h1, h2, h3⟩, h4⟩ := h
  rw [m_X11_isPull, m_X11_isPull_0, i1 h1.1 h1.2, bind_s, if_neg ne10, i1 h2.1 h2.2, bind_s, if_neg ne10, i1 h3.1 h3.2, bind_s, if_neg ne10, m_X11_isPull_45]
  by_cases c1 : x = 0
  · by_cases c2 : y = 0
    · rw [if_pos c1, if_pos c2, if_neg (fun c3 => h4 ⟨c1, c2, c3⟩)]
    · rw [if_pos c1, if_neg c2]
  · rw [if_neg c1]
theorem isPullm0 {x y z : Int} (h : ¬ pl3 x y z) : m_X11_isPull x y z = some 0 := by
  rw [m_X11_isPull, m_X11_isPull_0]
  by_cases h1 : -9 ≤ x ∧ x ≤ 9
  · rw [i1 h1.1 h1.2, bind_s, if_neg ne10]
    by_cases h2 : -9 ≤ y ∧ y ≤ 9
    · rw [i1 h2.1 h2.2, bind_s, if_neg ne10]
      by_cases h3 : -9 ≤ z ∧ z ≤ 9
      · rw [i1 h3.1 h3.2, bind_s, if_neg ne10]
        have h4 : x = 0 ∧ y = 0 ∧ z = 0 := by
          by_cases h4 : x = 0 ∧ y = 0 ∧ z = 0
          · exact h4
          · exact absurd ⟨⟨h1, h2, h3⟩, h4⟩ h
        rw [if_pos h4.1, if_pos h4.2.1, if_pos h4.2.2]
      · rw [i0 h3, bind_s, if_pos rfl]
    · rw [i0 h2, bind_s, if_pos rfl]
  · rw [i0 h1, bind_s, if_pos rfl]
/-- (t * n) * (t * b) of system k -/
def aL (x y z : Int) (ways : Nat → Int) (k : Nat) : Int := dot3 x y z (ways (6 * k)) (ways (6 * k + 1)) (ways (6 * k + 2)) * dot3 x y z (ways (6 * k + 3)) (ways (6 * k + 4)) (ways (6 * k + 5))
theorem q_along {x y z : Int} {px py pz sx sy sz ways : Nat → Int} {n k : Nat} (hp : bd3 9 x y z) (hg : gWk px py pz sx sy sz ways k) (hn : n ≤ 8) (hk : k < n) :
    m_X4_productOn 8 8 x y z (n : Int) px py pz (n : Int) sx sy sz (k : Int) (k : Int) = some (aL x y z ways k) ∧ m_X11_alongOf ways x y z (k : Int) = some (aL x y z ways k) ∧ -59049 ≤ aL x y z ways k ∧ aL x y z ways k ≤ 59049 := by
  obtain ⟨g1, g2, g3, g4, g5, g6, g7, g8, _⟩ := hg
  have d1 := dot3_bd (A := 9) (B := 9) hp g7
  have d2 := dot3_bd (A := 9) (B := 9) hp g8
  have m := mul_bd (a := dot3 x y z (px k) (py k) (pz k)) (b := dot3 x y z (sx k) (sy k) (sz k)) (A := 243) (B := 243) (by omega) (by omega) (by omega) (by omega)
  have e : aL x y z ways k = dot3 x y z (px k) (py k) (pz k) * dot3 x y z (sx k) (sy k) (sz k) := by unfold aL; rw [g1, g2, g3, g4, g5, g6]
  rw [e]
  refine ⟨?_, ?_, by omega, by omega⟩
  · rw [m_X4_productOn, m_X4_productOn_0, q_productWith (b := 9) (c := 9) hn hk g7 hp (by omega), bind_s, q_productWith (b := 9) (c := 9) hn hk g8 hp (by omega), bind_s, dot3_comm (px k), dot3_comm (sx k), chkJ (by omega) (by omega)]
  · have e1 : x * px k + y * py k + z * pz k = dot3 x y z (px k) (py k) (pz k) := rfl
    have e2 : x * sx k + y * sy k + z * sz k = dot3 x y z (sx k) (sy k) (sz k) := rfl
    rw [m_X11_alongOf, m_X11_alongOf_0, chkB (by omega) (by omega), chkB (by omega) (by omega), chkB (by omega) (by omega), show Int.toNat (6 * (k : Int)) = 6 * k by omega, show Int.toNat (6 * (k : Int) + 1) = 6 * k + 1 by omega, show Int.toNat (6 * (k : Int) + 2) = 6 * k + 2 by omega, show Int.toNat (6 * (k : Int) + 3) = 6 * k + 3 by omega, show Int.toNat (6 * (k : Int) + 4) = 6 * k + 4 by omega, show Int.toNat (6 * (k : Int) + 5) = 6 * k + 5 by omega, ← g1, ← g2, ← g3, ← g4, ← g5, ← g6, e1, e2, chkI (by omega) (by omega), chkB (by omega) (by omega), chkB (by omega) (by omega), chkB (by omega) (by omega), chkI (by omega) (by omega), chkJ (by omega) (by omega)]
theorem q_strain {B own cross : Int} {px py pz sx sy sz ways grain gS : Nat → Int} {K : Nat → Nat} {R : Nat → RowT} {n : Nat} {x y z : Int} (hp : bd3 9 x y z) (hn : n ≤ 8) (hw : ∀ k, k < n → gWk px py pz sx sy sz ways k) (hr : gRw B K R grain gS) (hB : B ≤ 19000000) :
    ∃ r, m_X2_strainAlong (n : Int) K (n : Int) px py pz (n : Int) sx sy sz x y z R = some r ∧ m_X11_strainOf (n : Int) ways gS x y z = some r := by
  obtain ⟨k1, k2, k3⟩ := hr
  have hg : ∀ i, i < 8 → -B ≤ gS (6 * i) ∧ gS (6 * i) ≤ B := fun i hi => by
    have := (k3 i hi).2.2.2.2.2.1
    rw [sl_at (by omega)] at this
    exact this
  have hB0 : 0 ≤ B := by have := hg 0 (by omega); omega
  have hb : ∀ m, m ≤ n → m * (-(B * 59049)) ≤ sm (fun k => gS (6 * k) * aL x y z ways k) m ∧ sm (fun k => gS (6 * k) * aL x y z ways k) m ≤ m * (B * 59049) := fun m hm => sm_bd (fun j hj => by
    have h1 := hg j (by omega)
    have h2 := (q_along hp (hw j (by omega)) hn (by omega)).2.2
    exact mul_bd h1.1 h1.2 h2.1 h2.2)
  rw [m_X2_strainAlong, m_X2_strainAlong_0, m_X11_strainOf, m_X11_strainOf_0]
  exact loop_p n (fun F i => ∃ r, m_X2_strainAlong_5 (n : Int) K (n : Int) px py pz (n : Int) sx sy sz x y z R (fun v2' v4' => m_X2_strainAlong_51 v2') F (sm (fun k => gS (6 * k) * aL x y z ways k) i) (i : Int) = some r ∧ m_X11_strainOf_6 (n : Int) ways gS x y z (fun v4' v6' => m_X11_strainOf_48 v4') F (sm (fun k => gS (6 * k) * aL x y z ways k) i) (i : Int) = some r) (fun F => ⟨_, by rw [m_X2_strainAlong_5, if_pos (by omega)], by rw [m_X11_strainOf_6, if_pos (by omega)] <;> rfl⟩) (fun F i hi ih _ => by
    obtain ⟨a1, a2, a3, a4⟩ := q_along hp (hw i hi) hn hi
    have b1 := hb (i + 1) (by omega)
    have es : sm (fun k => gS (6 * k) * aL x y z ways k) (i + 1) = sm (fun k => gS (6 * k) * aL x y z ways k) i + gS (6 * i) * aL x y z ways i := rfl
    have eg : (R (K i)).2.2.2.2.1 = gS (6 * i) := by rw [(k3 i (by omega)).1.2.2.1, sl_at (by omega), Nat.add_zero]
    have h3 : ((i + 1 : Nat) : Int) * (B * 59049) ≤ 8 * (B * 59049) := Int.mul_le_mul_of_nonneg_right (by omega) (by omega)
    rw [Int.mul_neg] at b1
    rw [es] at b1 ih
    rw [m_X2_strainAlong_5, if_neg (by omega), chkB (by omega) (by omega), tn, chk_pos (k1 i (by omega)), a1, bind_s, eg, chkJ (by omega) (by omega), chkI (by omega) (by omega), m_X11_strainOf_6, if_neg (by omega), chkB (by omega) (by omega), a2, bind_s, show Int.toNat (6 * (i : Int) + 0) = 6 * i by omega, chkJ (by omega) (by omega), chkI (by omega) (by omega)]
    exact ih) n FU 0 (by omega) (by unfold FU; omega)
theorem pc_strain {B many own cross pm sm systems own2 cross2 : Int} {px py pz sx sy sz ways grain gS : Nat → Int} {K : Nat → Nat} {R : Nat → RowT} (h : RGn B many own cross pm px py pz sm sx sy sz K R systems own2 cross2 ways grain gS) (hB : B ≤ 19000000) (a b c x y z : Int) :
    ∃ r r2, m_X10_strain a b c many K pm px py pz sm sx sy sz R x y z = some r ∧ m_X11_strain systems ways gS x y z = some r2 ∧ r.1 = r2 := by
  obtain ⟨n, rfl, rfl, rfl, rfl, g1, rfl, rfl, g4, g5, g6, g7⟩ := h
  rw [m_X10_strain, m_X10_strain_0, m_X11_strain, m_X11_strain_0]
  by_cases c : pl3 x y z
  · obtain ⟨r, q1, q2⟩ := q_strain (own := own) (cross := cross) c.1 g1 g6 g7 hB
    rw [tell1 c, isPullm1 c, bind_s, bind_s, if_neg ne10, if_neg ne10]
    dsimp only
    rw [q1, q2, bind_s, bind_s]
    exact ⟨_, _, rfl, rfl, rfl⟩
  · rw [tell0 c, isPullm0 c, bind_s, bind_s, if_pos rfl, if_pos rfl]
    exact ⟨_, _, rfl, rfl, rfl⟩
theorem pt_ways {xs ys zs ways : Nat → Int} {a k : Nat} {p : Int} (h : xs k = ways a ∧ ys k = ways (a + 1) ∧ zs k = ways (a + 2)) (hp : 0 ≤ p ∧ p ≤ 2) : ways (a + p.toNat) = pt xs ys zs k p := by
  unfold pt
  by_cases c : p = 0
  · subst c; rw [if_pos rfl, h.1]; rfl
  · rw [if_neg c]
    by_cases c2 : p = 1
    · subst c2; rw [if_pos rfl, h.2.1]; rfl
    · obtain rfl : p = 2 := by omega
      rw [if_neg c2, h.2.2]; rfl
theorem pc_form {B many own cross pm sm systems own2 cross2 : Int} {px py pz sx sy sz ways grain gS : Nat → Int} {K : Nat → Nat} {R : Nat → RowT} (h : RGn B many own cross pm px py pz sm sx sy sz K R systems own2 cross2 ways grain gS) (hB : B ≤ 19000000) (a b : Int) :
    ∃ r, m_X10_form many K pm px py pz sm sx sy sz R a b = some r ∧ m_X11_form systems ways gS a b = some r := by
  obtain ⟨n, rfl, rfl, rfl, rfl, g1, rfl, rfl, g4, g5, g6, k1, k2, k3⟩ := h
  rw [m_X10_form, m_X10_form_0, m_X11_form, m_X11_form_0]
  have hg : ∀ i, i < 8 → -B ≤ gS (6 * i) ∧ gS (6 * i) ≤ B := fun i hi => by
    have := (k3 i hi).2.2.2.2.2.1
    rw [sl_at (by omega)] at this
    exact this
  have hB0 : 0 ≤ B := by have := hg 0 (by omega); omega
  by_cases c : 0 ≤ a ∧ a ≤ 2
  · rw [isPart1 c.1 c.2, i1 c.1 c.2, bind_s, bind_s, if_neg ne10, if_neg ne10]
    by_cases c2 : 0 ≤ b ∧ b ≤ 2
    · rw [isPart1 c2.1 c2.2, i1 c2.1 c2.2, bind_s, bind_s, if_neg ne10, if_neg ne10, m_X2_shapeOf, m_X2_shapeOf_0]
      have hm : ∀ j, j < n → -(B * 9 * 9) ≤ gS (6 * j) * pt sx sy sz j a * pt px py pz j b ∧ gS (6 * j) * pt sx sy sz j a * pt px py pz j b ≤ B * 9 * 9 := fun j hj => by
        obtain ⟨_, _, _, _, _, _, g7, g8, _⟩ := g6 j hj
        have b1 := bd9 g8 a
        have b2 := bd9 g7 b
        have h1 := hg j (by omega)
        have m1 := mul_bd (a := gS (6 * j)) (b := pt sx sy sz j a) (A := B) (B := 9) h1.1 h1.2 b1.1 b1.2
        exact mul_bd (a := gS (6 * j) * pt sx sy sz j a) (b := pt px py pz j b) (A := B * 9) (B := 9) m1.1 m1.2 b2.1 b2.2
      have hb : ∀ m, m ≤ n → m * (-(B * 9 * 9)) ≤ sm (fun j => gS (6 * j) * pt sx sy sz j a * pt px py pz j b) m ∧ sm (fun j => gS (6 * j) * pt sx sy sz j a * pt px py pz j b) m ≤ m * (B * 9 * 9) := fun m hmn => sm_bd (fun j hj => hm j (by omega))
      have key := loop_p n (fun F i => ∃ r, m_X2_shapeOf_5 (n : Int) K (n : Int) px py pz (n : Int) sx sy sz R a b (fun v3' v5' => m_X2_shapeOf_58 v3') F (sm (fun j => gS (6 * j) * pt sx sy sz j a * pt px py pz j b) i) (i : Int) = some r ∧ m_X11_form_27 (n : Int) ways gS a b (fun v3' v5' => m_X11_form_87 v3') F (sm (fun j => gS (6 * j) * pt sx sy sz j a * pt px py pz j b) i) (i : Int) = some r) (fun F => ⟨_, by rw [m_X2_shapeOf_5, if_pos (by omega)], by rw [m_X11_form_27, if_pos (by omega)]⟩) (fun F i hi ih _ => by
        have b1 := hb (i + 1) (by omega)
        have es : sm (fun j => gS (6 * j) * pt sx sy sz j a * pt px py pz j b) (i + 1) = sm (fun j => gS (6 * j) * pt sx sy sz j a * pt px py pz j b) i + gS (6 * i) * pt sx sy sz i a * pt px py pz i b := rfl
        have eg : (R (K i)).2.2.2.2.1 = gS (6 * i) := by rw [(k3 i (by omega)).1.2.2.1, sl_at (by omega), Nat.add_zero]
        have h3 : ((i + 1 : Nat) : Int) * (B * 9 * 9) ≤ 8 * (B * 9 * 9) := Int.mul_le_mul_of_nonneg_right (by omega) (by omega)
        obtain ⟨w1', w2', w3', w4', w5', w6', _⟩ := g6 i hi
        have ea := pt_ways (xs := sx) (ys := sy) (zs := sz) (ways := ways) (a := 6 * i + 3) (k := i) ⟨w4', w5', w6'⟩ c
        have eb := pt_ways (xs := px) (ys := py) (zs := pz) (ways := ways) (a := 6 * i) (k := i) ⟨w1', w2', w3'⟩ c2
        rw [Int.mul_neg] at b1
        rw [es] at b1 ih
        rw [m_X2_shapeOf_5, if_neg (by omega), chkB (by omega) (by omega), tn, chk_pos (k1 i (by omega)), q_partOf g1 hi, bind_s, q_partOf g1 hi, bind_s, eg, chkJ (by omega) (by omega), chkI (by omega) (by omega), m_X11_form_27, if_neg (by omega), chkB (by omega) (by omega), chkB (by omega) (by omega), chkB (by omega) (by omega), show Int.toNat (6 * (i : Int) + 0) = 6 * i by omega, show Int.toNat (6 * (i : Int) + 3 + a) = 6 * i + 3 + a.toNat by omega, show Int.toNat (6 * (i : Int) + b) = 6 * i + b.toNat by omega, ea, eb, chkJ (by omega) (by omega), chkI (by omega) (by omega)]
        exact ih) n FU 0 (by omega) (by unfold FU; omega)
      obtain ⟨r, x1, x2⟩ := key
      have x1' : m_X2_shapeOf_5 (n : Int) K (n : Int) px py pz (n : Int) sx sy sz R a b (fun v3' v5' => m_X2_shapeOf_58 v3') FU 0 0 = some r := x1
      rw [x1', bind_s]
      exact ⟨_, rfl, x2⟩
    · rw [isPart0 c2, i0 c2, bind_s, bind_s, if_pos rfl, if_pos rfl]
      exact ⟨_, rfl, rfl⟩
  · rw [isPart0 c, i0 c, bind_s, bind_s, if_pos rfl, if_pos rfl]
    exact ⟨_, rfl, rfl⟩
/-- the points of the curve -/
def RCu (pm : Int) (points : Nat → Int) (cl : Int) (curve : Nat → Int) : Prop := ∃ n : Nat, pm = (n : Int) ∧ cl = (n : Int) ∧ n ≤ 20 ∧ ∀ i, i < n → points i = curve i
theorem q_curvePoint {n : Nat} {points : Nat → Int} {v : Int} (h : n ≤ 20) : m_X2_curvePoint (n : Int) points v = some (if 0 ≤ v ∧ v < n then points v.toNat else -1000000000000000) := by
  rw [m_X2_curvePoint, m_X2_curvePoint_0, chkI (by omega) (by omega)]
  by_cases c : 0 ≤ v ∧ v < n
  · rw [w1 (by omega) (by omega), bind_s, if_neg ne10, chkB (by omega) (by omega), if_pos c]
  · rw [w0 (by omega), bind_s, if_pos rfl, if_neg c]
theorem pc_curved {pm cl : Int} {points curve : Nat → Int} (h : RCu pm points cl curve) (v : Int) : ∃ r, m_X10_curved pm points v = some r ∧ m_X11_curved cl curve v = some r := by
  obtain ⟨n, rfl, rfl, h3, h4⟩ := h
  rw [m_X10_curved, m_X10_curved_0, q_curvePoint h3, bind_s, m_X11_curved, m_X11_curved_0, chkI (by omega) (by omega)]
  by_cases c : 0 ≤ v ∧ v < n
  · rw [if_pos c, i1 (by omega) (by omega), bind_s, if_neg ne10, chkB (by omega) (by omega), h4 _ (by omega)]
    exact ⟨_, rfl, rfl⟩
  · rw [if_neg c, i0 (by omega), bind_s, if_pos rfl]
    exact ⟨_, rfl, rfl⟩


/-! ===== PURE: the crystal's calls ===== -/
theorem isTold1 {many2 : Nat → Int} {s : Nat} {n k : Nat} (hs : s ≤ 2) (hm : many2 s = (n : Int)) (hn : n ≤ 16) (hk : k < n) : m_X11_isTold many2 (s : Int) (k : Int) = some 1 := by
  rw [m_X11_isTold, m_X11_isTold_0, i1 (by omega) (by omega), bind_s, if_neg ne10, chkB (by omega) (by omega), tn, hm, chkI (by omega) (by omega), i1 (by omega) (by omega), bind_s, if_neg ne10]
theorem isTold0 {many2 : Nat → Int} {s : Nat} {n : Nat} {k : Int} (hs : s ≤ 2) (hm : many2 s = (n : Int)) (hn : n ≤ 16) (hk : ¬ (0 ≤ k ∧ k < n)) : m_X11_isTold many2 (s : Int) k = some 0 := by
  rw [m_X11_isTold, m_X11_isTold_0, i1 (by omega) (by omega), bind_s, if_neg ne10, chkB (by omega) (by omega), tn, hm, chkI (by omega) (by omega), i0 (by omega), bind_s, if_pos rfl]
theorem bd9 {x y z : Int} (h : bd3 9 x y z) (p : Int) : -9 ≤ (if p = 0 then x else if p = 1 then y else z) ∧ (if p = 0 then x else if p = 1 then y else z) ≤ 9 := by
  obtain ⟨h1, h2, h3⟩ := h
  split
  · exact h1
  · split
    · exact h2
    · exact h3
theorem pt_way {xs ys zs way : Nat → Int} {o k : Nat} {p : Int} (h : xs k = way (o + 3 * k) ∧ ys k = way (o + 3 * k + 1) ∧ zs k = way (o + 3 * k + 2)) (hp : 0 ≤ p ∧ p ≤ 2) : way (o + 3 * k + p.toNat) = pt xs ys zs k p := by
  unfold pt
  by_cases c : p = 0
  · subst c; rw [if_pos rfl, h.1]; rfl
  · rw [if_neg c]
    by_cases c2 : p = 1
    · subst c2; rw [if_pos rfl, h.2.1]; rfl
    · obtain rfl : p = 2 := by omega
      rw [if_neg c2, h.2.2]; rfl
theorem q_told {many : Int} {xs ys zs many2 way : Nat → Int} {s : Nat} (hs : s ≤ 2) (h : RWy many xs ys zs (many2 s) way (48 * s)) (k p : Int) : ∃ r, ((m_X8_has many k).bind (fun y1 => if y1 = 0 then (some ((-100))) else ((m_X10_isPart p).bind (fun y2 => if y2 = 0 then (some ((-100))) else ((m_X8_partOf 16 many xs ys zs k p).bind (fun y3 => some (y3)))))) = some r) ∧ m_X11_told many2 way (s : Int) k p = some r := by
  obtain ⟨n, rfl, e2, e3, e4⟩ := h
  rw [m_X11_told, m_X11_told_0, i1 (by omega) (by omega), bind_s, if_neg ne10]
  by_cases c : 0 ≤ k ∧ k < n
  · obtain ⟨j, rfl⟩ : ∃ j : Nat, k = (j : Int) := ⟨k.toNat, by omega⟩
    rw [has1 c.1 c.2, isTold1 hs e2 e3 (by omega), bind_s, bind_s, if_neg ne10, if_neg ne10]
    by_cases c2 : 0 ≤ p ∧ p ≤ 2
    · obtain ⟨f1, f2, f3, _⟩ := e4 j (by omega)
      have e5 := pt_way ⟨f1, f2, f3⟩ c2
      rw [isPart1 c2.1 c2.2, i1 c2.1 c2.2, bind_s, bind_s, if_neg ne10, if_neg ne10, chkB (by omega) (by omega), q_partOf e3 (by omega), bind_s, show Int.toNat (48 * (s : Int) + 3 * (j : Int) + p) = 48 * s + 3 * j + p.toNat by omega, e5]
      exact ⟨_, rfl, rfl⟩
    · rw [isPart0 c2, i0 c2, bind_s, bind_s, if_pos rfl, if_pos rfl]
      exact ⟨_, rfl, rfl⟩
  · rw [has0 c, isTold0 hs e2 e3 c, bind_s, bind_s, if_pos rfl, if_pos rfl]
    exact ⟨_, rfl, rfl⟩
/-- what was read of ways -/
def RCw (sm : Int) (sx sy sz : Nat → Int) (pm : Int) (px py pz : Nat → Int) (em : Int) (ex ey ez : Nat → Int) (many2 way : Nat → Int) : Prop := RWy sm sx sy sz (many2 0) way 0 ∧ RWy pm px py pz (many2 1) way 48 ∧ RWy em ex ey ez (many2 2) way 96
theorem pc_told {sm pm em : Int} {sx sy sz px py pz ex ey ez many2 way : Nat → Int} (h : RCw sm sx sy sz pm px py pz em ex ey ez many2 way) (w k p : Int) : ∃ r, m_X10_told sm sx sy sz pm px py pz em ex ey ez w k p = some r ∧ m_X11_told many2 way w k p = some r := by
  obtain ⟨h1, h2, h3⟩ := h
  rw [m_X10_told, m_X10_told_0]
  by_cases c0 : w = 0
  · subst c0; rw [if_pos rfl]; exact q_told (s := 0) (by omega) h1 k p
  · rw [if_neg c0]
    by_cases c1 : w = 1
    · subst c1; rw [if_pos rfl]; exact q_told (s := 1) (by omega) h2 k p
    · rw [if_neg c1]
      by_cases c2 : w = 2
      · subst c2; rw [if_pos rfl]; exact q_told (s := 2) (by omega) h3 k p
      · rw [if_neg c2, m_X11_told, m_X11_told_0, i0 (by omega), bind_s, if_pos rfl]; exact ⟨_, rfl, rfl⟩
theorem pc_shape {sm pm em slp B : Int} {sx sy sz px py pz ex ey ez many2 way sums : Nat → Int} (h : RCw sm sx sy sz pm px py pz em ex ey ez many2 way) (hs : slp = sums 0) (hB : -B ≤ sums 0 ∧ sums 0 ≤ B) (hB2 : B ≤ 20000000) (k j p q : Int) : ∃ r, m_X10_shape slp sm sx sy sz pm px py pz k j p q = some r ∧ m_X11_shape many2 way sums k j p q = some r := by
  obtain ⟨⟨n, rfl, e2, e3, e4⟩, ⟨m, rfl, f2, f3, f4⟩, _⟩ := h
  subst hs
  rw [m_X10_shape, m_X10_shape_0, m_X11_shape, m_X11_shape_0]
  by_cases c : 0 ≤ k ∧ k < n
  · obtain ⟨k, rfl⟩ : ∃ j : Nat, k = (j : Int) := ⟨k.toNat, by omega⟩
    have t1 : m_X11_isTold many2 0 (k : Int) = some 1 := isTold1 (s := 0) (by omega) e2 e3 (by omega)
    rw [has1 c.1 c.2, t1, bind_s, bind_s, if_neg ne10, if_neg ne10]
    by_cases c2 : 0 ≤ j ∧ j < m
    · obtain ⟨j, rfl⟩ : ∃ i : Nat, j = (i : Int) := ⟨j.toNat, by omega⟩
      have t2 : m_X11_isTold many2 1 (j : Int) = some 1 := isTold1 (s := 1) (by omega) f2 f3 (by omega)
      rw [has1 c2.1 c2.2, t2, bind_s, bind_s, if_neg ne10, if_neg ne10]
      by_cases c3 : 0 ≤ p ∧ p ≤ 2
      · rw [isPart1 c3.1 c3.2, i1 c3.1 c3.2, bind_s, bind_s, if_neg ne10, if_neg ne10]
        by_cases c4 : 0 ≤ q ∧ q ≤ 2
        · obtain ⟨g1, g2, g3, g4, _⟩ := e4 k (by omega)
          obtain ⟨h1, h2, h3, h4, _⟩ := f4 j (by omega)
          have e5 := pt_way ⟨g1, g2, g3⟩ c3
          have e6 := pt_way ⟨h1, h2, h3⟩ c4
          have b1 := bd9 g4 p
          have b2 := bd9 h4 q
          have m1 := mul_bd (a := sums 0) (b := pt sx sy sz k p) (A := B) (B := 9) hB.1 hB.2 b1.1 b1.2
          have m2 := mul_bd (a := sums 0 * pt sx sy sz k p) (b := pt px py pz j q) (A := B * 9) (B := 9) m1.1 m1.2 b2.1 b2.2
          rw [Nat.zero_add] at e5
          rw [isPart1 c4.1 c4.2, i1 c4.1 c4.2, bind_s, bind_s, if_neg ne10, if_neg ne10, q_partOf e3 (by omega), bind_s, q_partOf f3 (by omega), bind_s, chkB (by omega) (by omega), chkB (by omega) (by omega), chkB (by omega) (by omega), show Int.toNat (3 * (k : Int) + p) = 3 * k + p.toNat by omega, show Int.toNat (48 + 3 * (j : Int) + q) = 48 + 3 * j + q.toNat by omega, e5, e6, show sums (Int.toNat 0) = sums 0 from rfl, chkJ (by omega) (by omega)]
          exact ⟨_, rfl, rfl⟩
        · rw [isPart0 c4, i0 c4, bind_s, bind_s, if_pos rfl, if_pos rfl]
          exact ⟨_, rfl, rfl⟩
      · rw [isPart0 c3, i0 c3, bind_s, bind_s, if_pos rfl, if_pos rfl]
        exact ⟨_, rfl, rfl⟩
    · have t2 : m_X11_isTold many2 1 j = some 0 := isTold0 (s := 1) (by omega) f2 f3 c2
      rw [has0 c2, t2, bind_s, bind_s, if_pos rfl, if_pos rfl]
      exact ⟨_, rfl, rfl⟩
  · have t1 : m_X11_isTold many2 0 k = some 0 := isTold0 (s := 0) (by omega) e2 e3 c
    rw [has0 c, t1, bind_s, bind_s, if_pos rfl, if_pos rfl]
    exact ⟨_, rfl, rfl⟩
/-- sights -/
def RSi (sm em : Int) (sE sS : Nat → Int) (sights : Int) (sE2 sS2 : Nat → Int) : Prop := ∃ n : Nat, sm = (n : Int) ∧ sights = (n : Int) ∧ n ≤ 20 ∧ ∀ i, i < n → sE i = sE2 i ∧ sS i = sS2 i ∧ 0 ≤ sE2 i ∧ sE2 i < em
theorem pc_sight {sm em sights : Int} {ex ey ez many2 way sE sS sE2 sS2 : Nat → Int} (hw : RWy em ex ey ez (many2 2) way 96) (h : RSi sm em sE sS sights sE2 sS2) (e v : Int) : ∃ r r2, m_X10_sight sm em sE sS e v = some r ∧ m_X11_sight sights many2 sE2 sS2 e v = some r2 ∧ r.1 = r2.1 ∧ RSi r.2.1 em r.2.2.1 r.2.2.2 r2.2.1 r2.2.2.1 r2.2.2.2 := by
  have h0 := h
  obtain ⟨n, rfl, rfl, e3, e4⟩ := h
  obtain ⟨m, rfl, f2, f3, f4⟩ := hw
  rw [m_X10_sight, m_X10_sight_0, m_X1_addSight, m_X1_addSight_0, m_X11_sight, m_X11_sight_0]
  by_cases c : n = 20
  · rw [if_pos (by omega), if_pos (by omega), bind_s]
    exact ⟨_, _, rfl, rfl, rfl, h0⟩
  · rw [if_neg (by omega), if_neg (by omega)]
    by_cases c2 : 0 ≤ e ∧ e < m
    · obtain ⟨e, rfl⟩ : ∃ i : Nat, e = (i : Int) := ⟨e.toNat, by omega⟩
      have t2 : m_X11_isTold many2 2 (e : Int) = some 1 := isTold1 (s := 2) (by omega) f2 f3 (by omega)
      rw [has1 c2.1 c2.2, t2, bind_s, bind_s, if_neg ne10, if_neg ne10, chkB (by omega) (by omega), chkB (by omega) (by omega), chkI (by omega) (by omega), bind_s, chkB (by omega) (by omega), chkB (by omega) (by omega), chkI (by omega) (by omega), tn]
      refine ⟨_, _, rfl, rfl, rfl, n + 1, rfl, rfl, by omega, fun i hi => ?_⟩
      dsimp only
      by_cases hin : i = n
      · subst hin; rw [up_at, up_at, up_at, up_at]; exact ⟨rfl, rfl, c2⟩
      · rw [up_ne _ _ hin, up_ne _ _ hin, up_ne _ _ hin, up_ne _ _ hin]; exact e4 i (by omega)
    · have t2 : m_X11_isTold many2 2 e = some 0 := isTold0 (s := 2) (by omega) f2 f3 c2
      rw [has0 c2, t2, bind_s, bind_s, if_pos rfl, if_pos rfl, bind_s]
      exact ⟨_, _, rfl, rfl, rfl, h0⟩
theorem pc_forget {sm em sights : Int} {sE sS sE2 sS2 : Nat → Int} (h : RSi sm em sE sS sights sE2 sS2) : ∃ r r2, m_X10_forget sm = some r ∧ m_X11_forget sights = some r2 ∧ r.1 = r2.1 ∧ RSi r.2 em sE sS r2.2 sE2 sS2 := by
  obtain ⟨n, rfl, rfl, e3, e4⟩ := h
  rw [m_X10_forget, m_X10_forget_0, m_X1_dropSights, m_X1_dropSights_0, bind_s, m_X11_forget, m_X11_forget_0]
  exact ⟨_, _, rfl, rfl, rfl, 0, rfl, rfl, by omega, fun i hi => by omega⟩
theorem dot3_comm (x y z a b c : Int) : dot3 x y z a b c = dot3 a b c x y z := by unfold dot3; rw [Int.mul_comm x, Int.mul_comm y, Int.mul_comm z]
theorem q_X11_along {way : Nat → Int} {x y z c : Int} {s k : Nat} (hs : 48 * s + 3 * k + 2 < 144) (hx : bd3 c x y z) (hw : bd3 9 (way (48 * s + 3 * k)) (way (48 * s + 3 * k + 1)) (way (48 * s + 3 * k + 2))) (hc : c * 9 ≤ 700000000) : m_X11_along way x y z (s : Int) (k : Int) = some (dot3 x y z (way (48 * s + 3 * k)) (way (48 * s + 3 * k + 1)) (way (48 * s + 3 * k + 2))) := by
  have h := dot3_bd hx hw
  unfold dot3 at h
  rw [m_X11_along, m_X11_along_0, chkB (by omega) (by omega), chkB (by omega) (by omega), chkB (by omega) (by omega), show Int.toNat (48 * (s : Int) + 3 * (k : Int)) = 48 * s + 3 * k by omega, show Int.toNat (48 * (s : Int) + 3 * (k : Int) + 1) = 48 * s + 3 * k + 1 by omega, show Int.toNat (48 * (s : Int) + 3 * (k : Int) + 2) = 48 * s + 3 * k + 2 by omega, chkI (by omega) (by omega)]
  rfl
theorem q_isSeen {sm em : Int} {sx sy sz ex ey ez many2 way : Nat → Int} (h1 : RWy sm sx sy sz (many2 0) way 0) (h2 : RWy em ex ey ez (many2 2) way 96) {k e : Nat} (hk : (k : Int) < sm) (he : (e : Int) < em) : ∃ r, m_X1_isSeenBy sm sx sy sz em ex ey ez (k : Int) (e : Int) = some r ∧ m_X11_isSeen way (k : Int) (e : Int) = some r ∧ (r = 0 ∨ r = 1) := by
  obtain ⟨n, rfl, e2, e3, e4⟩ := h1
  obtain ⟨m, rfl, f2, f3, f4⟩ := h2
  obtain ⟨g1, g2, g3, g4, _⟩ := e4 k (by omega)
  obtain ⟨k1, k2, k3, k4, _⟩ := f4 e (by omega)
  rw [Nat.zero_add] at g1 g2 g3
  have ha := q_X11_along (way := way) (x := sx k) (y := sy k) (z := sz k) (s := 2) (k := e) (c := 9) (by omega) g4 (by rw [show 48 * 2 + 3 * e = 96 + 3 * e by omega, ← k1, ← k2, ← k3]; exact k4) (by omega)
  rw [show 48 * 2 + 3 * e = 96 + 3 * e by omega, ← k1, ← k2, ← k3] at ha
  have ha' : m_X11_along way (sx k) (sy k) (sz k) 2 (e : Int) = some (dot3 (sx k) (sy k) (sz k) (ex e) (ey e) (ez e)) := ha
  rw [m_X1_isSeenBy, m_X1_isSeenBy_0, q_product (b := 9) (c := 9) f3 (by omega) e3 (by omega) k4 g4 (by omega), bind_s, m_X11_isSeen, m_X11_isSeen_0, chkB (by omega) (by omega), chkB (by omega) (by omega), chkB (by omega) (by omega), show Int.toNat (3 * (k : Int)) = 3 * k by omega, show Int.toNat (3 * (k : Int) + 1) = 3 * k + 1 by omega, show Int.toNat (3 * (k : Int) + 2) = 3 * k + 2 by omega, ← g1, ← g2, ← g3, ha', bind_s, dot3_comm (ex e)]
  by_cases c : dot3 (sx k) (sy k) (sz k) (ex e) (ey e) (ez e) = 0
  · simp only [if_pos c]; exact ⟨_, rfl, rfl, Or.inl rfl⟩
  · simp only [if_neg c]; exact ⟨_, rfl, rfl, Or.inr rfl⟩
theorem q_fitsSights {sgm sm em sights : Int} {sx sy sz ex ey ez many2 way sE sS sE2 sS2 : Nat → Int} (h1 : RWy sm sx sy sz (many2 0) way 0) (h2 : RWy em ex ey ez (many2 2) way 96) (h : RSi sgm em sE sS sights sE2 sS2) {k : Nat} (hk : (k : Int) < sm) : ∃ r, m_X1_fitsSights sgm sm sx sy sz em ex ey ez sE sS (k : Int) = some r ∧ m_X11_fitsSights sights way sE2 sS2 (k : Int) = some r ∧ (r = 0 ∨ r = 1) := by
  obtain ⟨n, rfl, rfl, e3, e4⟩ := h
  rw [m_X1_fitsSights, m_X1_fitsSights_0, m_X11_fitsSights, m_X11_fitsSights_0]
  have t41 : ∀ (F i : Nat) (s : Int), i < 20 → m_X11_fitsSights_41 (n : Int) way sE2 sS2 (k : Int) (i : Int) s (m_X11_fitsSights_4 (n : Int) way sE2 sS2 (k : Int) (fun v2' v3' => m_X11_fitsSights_48 v2') F) (fun v2' v3' => m_X11_fitsSights_48 v2') = m_X11_fitsSights_4 (n : Int) way sE2 sS2 (k : Int) (fun v2' v3' => m_X11_fitsSights_48 v2') F s ((i + 1 : Nat) : Int) := by
    intro F i s hi; rw [m_X11_fitsSights_41, chkI (by omega) (by omega)]; rfl
  have dead := fun (i0 : Nat) => loop_p n (fun F i => m_X11_fitsSights_4 (n : Int) way sE2 sS2 (k : Int) (fun v2' v3' => m_X11_fitsSights_48 v2') F 0 (i : Int) = some 0) (fun F => by rw [m_X11_fitsSights_4, if_pos (by omega)]) (fun F i hi ih _ => by
    rw [m_X11_fitsSights_4, if_neg (by omega), if_pos rfl, m_X11_fitsSights_40, t41 F i 0 (by omega)]; exact ih) (n - i0)
  exact loop_p n (fun F i => F ≤ FU → n - i < F → ∃ r, m_X1_fitsSights_2 (n : Int) sm sx sy sz em ex ey ez sE sS (k : Int) (fun v2' => m_X1_fitsSights_38) (fun v2' => m_X1_fitsSights_30) F (i : Int) = some r ∧ m_X11_fitsSights_4 (n : Int) way sE2 sS2 (k : Int) (fun v2' v3' => m_X11_fitsSights_48 v2') F 1 (i : Int) = some r ∧ (r = 0 ∨ r = 1)) (fun F _ _ => ⟨1, by rw [m_X1_fitsSights_2, if_pos (by omega)], by rw [m_X11_fitsSights_4, if_pos (by omega)], Or.inr rfl⟩) (fun F i hi ih _ hF hF2 => by
    obtain ⟨a1, a2, a3, a4⟩ := e4 i hi
    obtain ⟨e, he⟩ : ∃ e : Nat, sE2 i = (e : Int) := ⟨(sE2 i).toNat, by omega⟩
    obtain ⟨s, b1, b2, b3⟩ := q_isSeen h1 h2 (k := k) (e := e) hk (by omega)
    rw [m_X1_fitsSights_2, if_neg (by omega), chkB (by omega) (by omega), tn, a1, he, b1, bind_s, chkB (by omega) (by omega), a2, m_X11_fitsSights_4, if_neg (show ¬ (n : Int) ≤ (i : Int) by omega), if_neg ne10, chkB (by omega) (by omega), tn, he, b2, bind_s, chkB (by omega) (by omega)]
    by_cases c : s = sS2 i
    · rw [if_pos c, if_pos c, chkI (by omega) (by omega), t41 F i 1 (by omega)]
      exact ih (by omega) (by omega)
    · rw [if_neg c, if_neg c, m_X11_fitsSights_40, t41 F i 0 (by omega)]
      exact ⟨0, rfl, dead (i + 1) F (i + 1) (by omega) (by omega), Or.inl rfl⟩) n FU 0 (by omega) (by unfold FU; omega) (Nat.le_refl _) (by unfold FU; omega)
theorem pc_readBack {sgm sm em sights : Int} {sx sy sz ex ey ez many2 way sE sS sE2 sS2 : Nat → Int} (h1 : RWy sm sx sy sz (many2 0) way 0) (h2 : RWy em ex ey ez (many2 2) way 96) (h : RSi sgm em sE sS sights sE2 sS2) (v : Int) : ∃ r, m_X1_fitting sgm sm sx sy sz em ex ey ez sE sS v = some r ∧ m_X11_readBack sights many2 way sE2 sS2 v = some r ∧ -1 ≤ r ∧ r ≤ 16 := by
  have hst := fun (k : Nat) => q_fitsSights h1 h2 h (k := k)
  obtain ⟨n, rfl, e2, e3, e4⟩ := h1
  rw [m_X1_fitting, m_X1_fitting_0, m_X11_readBack, m_X11_readBack_0]
  exact loop_p n (fun F i => ∀ w : Int, 0 ≤ w → w ≤ (i : Int) → ∃ r, m_X1_fitting_4 sgm (n : Int) sx sy sz em ex ey ez sE sS v (fun v2' v3' => m_X1_fitting_39 v v2') (fun v2' v3' => m_X1_fitting_28 v3') F w (i : Int) = some r ∧ m_X11_readBack_4 sights many2 way sE2 sS2 v (fun v2' v3' => m_X11_readBack_38 v v2') (fun v2' v3' => m_X11_readBack_27 v3') F w (i : Int) = some r ∧ -1 ≤ r ∧ r ≤ 16) (fun F w w1 w2 => by
    rw [m_X1_fitting_4, if_pos (by omega), m_X11_readBack_4, chkB (by omega) (by omega), if_pos (by rw [show many2 (Int.toNat 0) = many2 0 from rfl, e2]; omega), m_X1_fitting_39, m_X11_readBack_38]
    by_cases c : v = -1
    · simp only [if_pos c]; exact ⟨w, rfl, rfl, by omega, by omega⟩
    · simp only [if_neg c]; exact ⟨-1, rfl, rfl, by omega, by omega⟩) (fun F i hi ih _ w w1 w2 => by
    obtain ⟨s, b1, b2, b3⟩ := hst i (by omega)
    have e2n : ¬ many2 (Int.toNat 0) ≤ (i : Int) := by show ¬ many2 0 ≤ _; rw [e2]; omega
    rw [m_X1_fitting_4, if_neg (show ¬ (n : Int) ≤ (i : Int) by omega), m_X11_readBack_4, chkB (by omega) (by omega), if_neg e2n, b1, b2, bind_s, bind_s]
    by_cases c : s = 0
    · rw [if_pos c, if_pos c, m_X1_fitting_33, m_X11_readBack_32, chkI (by omega) (by omega), chkI (by omega) (by omega)]
      exact ih w w1 (by omega)
    · rw [if_neg c, if_neg c]
      by_cases c2 : w = v
      · rw [if_pos c2, if_pos c2]; exact ⟨i, rfl, rfl, by omega, by omega⟩
      · rw [if_neg c2, if_neg c2, m_X1_fitting_33, m_X11_readBack_32, chkI (by omega) (by omega), chkI (by omega) (by omega), chkI (by omega) (by omega), chkI (by omega) (by omega)]
        exact ih (w + 1) (by omega) (by omega)) n FU 0 (by omega) (by unfold FU; omega) 0 (by omega) (by omega)
theorem pc_nextEye {sgm sm em sights : Int} {sx sy sz ex ey ez many2 way sE sS sE2 sS2 : Nat → Int} (h1 : RWy sm sx sy sz (many2 0) way 0) (h2 : RWy em ex ey ez (many2 2) way 96) (h : RSi sgm em sE sS sights sE2 sS2) : ∃ r, m_X1_bestEye sgm sm sx sy sz em ex ey ez sE sS = some r ∧ m_X11_nextEye sights many2 way sE2 sS2 = some r := by
  obtain ⟨a, a1, a2, a3, a4⟩ := pc_readBack h1 h2 h (-1)
  have hst := fun (k : Nat) => q_fitsSights h1 h2 h (k := k)
  have hsn := fun (k e : Nat) => q_isSeen h1 h2 (k := k) (e := e)
  obtain ⟨n, rfl, e2, e3, e4⟩ := h1
  obtain ⟨m, rfl, f2, f3, f4⟩ := h2
  have hfs : ∀ e : Nat, e < m → ∃ w, m_X1_fittingSeenBy sgm (n : Int) sx sy sz (m : Int) ex ey ez sE sS (e : Int) = some w ∧ 0 ≤ w ∧ w ≤ 16 ∧ ∀ k77, m_X11_nextEye_30 sights many2 way sE2 sS2 (e : Int) k77 FU 0 0 = k77 w (n : Int) := by
    intro e he
    rw [m_X1_fittingSeenBy, m_X1_fittingSeenBy_0]
    exact loop_p n (fun F i => ∀ w : Int, 0 ≤ w → w ≤ (i : Int) → ∃ r, m_X1_fittingSeenBy_4 sgm (n : Int) sx sy sz (m : Int) ex ey ez sE sS (e : Int) (fun v2' v3' => m_X1_fittingSeenBy_41 v2') F w (i : Int) = some r ∧ 0 ≤ r ∧ r ≤ 16 ∧ ∀ k77, m_X11_nextEye_30 sights many2 way sE2 sS2 (e : Int) k77 F w (i : Int) = k77 r (n : Int)) (fun F w w1 w2 => ⟨w, by rw [m_X1_fittingSeenBy_4, if_pos (by omega)], w1, by omega, fun k77 => by
      rw [m_X11_nextEye_30, chkB (by omega) (by omega), if_pos (by rw [show many2 (Int.toNat 0) = many2 0 from rfl, e2]; omega)]⟩) (fun F i hi ih _ w w1 w2 => by
      obtain ⟨s, b1, b2, b3⟩ := hst i (by omega)
      obtain ⟨t, c1, c2, c3⟩ := hsn i e (by omega) (by omega)
      have hx : ∀ k77, m_X11_nextEye_30 sights many2 way sE2 sS2 (e : Int) k77 (F + 1) w (i : Int) = (if s = 0 then m_X11_nextEye_30 sights many2 way sE2 sS2 (e : Int) k77 F w ((i + 1 : Nat) : Int) else if t = 0 then m_X11_nextEye_30 sights many2 way sE2 sS2 (e : Int) k77 F w ((i + 1 : Nat) : Int) else m_X11_nextEye_30 sights many2 way sE2 sS2 (e : Int) k77 F (w + 1) ((i + 1 : Nat) : Int)) := by
        intro k77
        have e2n : ¬ many2 (Int.toNat 0) ≤ (i : Int) := by show ¬ many2 0 ≤ _; rw [e2]; omega
        rw [m_X11_nextEye_30, chkB (by omega) (by omega), if_neg e2n, b2, bind_s, c2, bind_s, m_X11_nextEye_67, m_X11_nextEye_68, m_X11_nextEye_68, chkI (by omega) (by omega), chkI (by omega) (by omega), chkI (by omega) (by omega), Int.add_zero, ca, chkI (by omega) (by omega)]
      rw [m_X1_fittingSeenBy_4, if_neg (by omega), b1, bind_s, c1, bind_s]
      by_cases d1 : s = 0
      · obtain ⟨r, y1, y2, y3, y4⟩ := ih w w1 (by omega)
        refine ⟨r, ?_, y2, y3, fun k77 => ?_⟩
        · rw [if_pos d1, m_X1_fittingSeenBy_35, chkI (by omega) (by omega)]; exact y1
        · rw [hx, if_pos d1]; exact y4 k77
      · by_cases d2 : t = 0
        · obtain ⟨r, y1, y2, y3, y4⟩ := ih w w1 (by omega)
          refine ⟨r, ?_, y2, y3, fun k77 => ?_⟩
          · rw [if_neg d1, if_pos d2, m_X1_fittingSeenBy_35, chkI (by omega) (by omega)]; exact y1
          · rw [hx, if_neg d1, if_pos d2]; exact y4 k77
        · obtain ⟨r, y1, y2, y3, y4⟩ := ih (w + 1) (by omega) (by omega)
          refine ⟨r, ?_, y2, y3, fun k77 => ?_⟩
          · rw [if_neg d1, if_neg d2, chkI (by omega) (by omega), m_X1_fittingSeenBy_35, chkI (by omega) (by omega)]; exact y1
          · rw [hx, if_neg d1, if_neg d2]; exact y4 k77) n FU 0 (by omega) (by unfold FU; omega) 0 (by omega) (by omega)
  rw [m_X1_bestEye, m_X1_bestEye_0, m_X11_nextEye, m_X11_nextEye_0, a1, a2, bind_s, bind_s]
  exact loop_p m (fun F i => ∀ b l : Int, ∃ r, m_X1_bestEye_13 sgm (n : Int) sx sy sz (m : Int) ex ey ez sE sS a (fun v2' v3' v4' => m_X1_bestEye_62 v2') F b l (i : Int) = some r ∧ m_X11_nextEye_13 sights many2 way sE2 sS2 a (fun v2' v3' v4' => m_X11_nextEye_115 v2') F b l (i : Int) = some r) (fun F b l => ⟨b, by rw [m_X1_bestEye_13, if_pos (by omega)], by
    rw [m_X11_nextEye_13, chkB (by omega) (by omega), if_pos (by rw [show many2 (Int.toNat 2) = many2 2 from rfl, f2]; omega)]⟩) (fun F i hi ih _ b l => by
    obtain ⟨w, y1, y2, y3, y4⟩ := hfs i hi
    have f2n : ¬ many2 (Int.toNat 2) ≤ (i : Int) := by show ¬ many2 2 ≤ _; rw [f2]; omega
    rw [m_X1_bestEye_13, if_neg (show ¬ (m : Int) ≤ (i : Int) by omega), y1, bind_s, chkI (by omega) (by omega), m_X11_nextEye_13, chkB (by omega) (by omega), if_neg f2n, y4, m_X11_nextEye_77, chkI (by omega) (by omega)]
    have go : ∀ z : Int, ∃ r, (if l ≤ z then m_X1_bestEye_56 sgm (n : Int) sx sy sz (m : Int) ex ey ez sE sS a b l (i : Int) (m_X1_bestEye_13 sgm (n : Int) sx sy sz (m : Int) ex ey ez sE sS a (fun v2' v3' v4' => m_X1_bestEye_62 v2') F) (fun v2' v3' v4' => m_X1_bestEye_62 v2') else m_X1_bestEye_56 sgm (n : Int) sx sy sz (m : Int) ex ey ez sE sS a (i : Int) z (i : Int) (m_X1_bestEye_13 sgm (n : Int) sx sy sz (m : Int) ex ey ez sE sS a (fun v2' v3' v4' => m_X1_bestEye_62 v2') F) (fun v2' v3' v4' => m_X1_bestEye_62 v2')) = some r ∧ m_X11_nextEye_95 sights many2 way sE2 sS2 a b l (i : Int) z (m_X11_nextEye_13 sights many2 way sE2 sS2 a (fun v2' v3' v4' => m_X11_nextEye_115 v2') F) (fun v2' v3' v4' => m_X11_nextEye_115 v2') = some r := by
      intro z
      rw [m_X11_nextEye_95]
      by_cases d : l ≤ z
      · rw [if_pos d, if_pos d, m_X1_bestEye_56, m_X11_nextEye_109, chkI (by omega) (by omega), chkI (by omega) (by omega)]; exact ih b l
      · rw [if_neg d, if_neg d, m_X1_bestEye_56, m_X11_nextEye_109, chkI (by omega) (by omega), chkI (by omega) (by omega)]; exact ih i z
    by_cases d : w < a - w
    · simp only [if_pos d, if_pos (show w ≤ a - w by omega)]; exact go (a - w)
    · simp only [if_neg d]
      by_cases d2 : w ≤ a - w
      · rw [if_pos d2, show a - w = w by omega]; exact go w
      · rw [if_neg d2]; exact go w) m FU 0 (by omega) (by unfold FU; omega) (-1) a


/-! ===== PURE: groups, systems ===== -/
def RGp (gm : Int) (groups : Nat → Int) (chosen : Int) (groupOf : Nat → Int) : Prop := ∃ n : Nat, gm = (n : Int) ∧ chosen = (n : Int) ∧ n ≤ 8 ∧ ∀ i, i < n → groups i = groupOf i
theorem pc_group {gm chosen : Int} {groups groupOf : Nat → Int} (h : RGp gm groups chosen groupOf) (v : Int) : ∃ r, m_X10_group gm groups v = some r ∧ m_X11_group chosen groupOf v = some r := by
  obtain ⟨n, rfl, rfl, h3, h4⟩ := h
  rw [m_X10_group, m_X10_group_0, m_X9_groupOf, m_X9_groupOf_0, m_X11_group, m_X11_group_0, chkI (by omega) (by omega), chkI (by omega) (by omega)]
  by_cases c : 0 ≤ v ∧ v < n
  · obtain ⟨k, rfl⟩ : ∃ k : Nat, v = (k : Int) := ⟨v.toNat, by omega⟩
    rw [w1 (by omega) (by omega), i1 (by omega) (by omega), bind_s, bind_s, if_neg ne10, if_neg ne10, chkB (by omega) (by omega), chkB (by omega) (by omega), bind_s, tn, h4 k (by omega)]
    exact ⟨_, rfl, rfl⟩
  · rw [w0 (by omega), i0 (by omega), bind_s, bind_s, if_pos rfl, if_pos rfl, bind_s]
    exact ⟨_, rfl, rfl⟩
/-- system k's ways, class and model -/
def gWk (px py pz sx sy sz ways : Nat → Int) (k : Nat) : Prop := px k = ways (6 * k) ∧ py k = ways (6 * k + 1) ∧ pz k = ways (6 * k + 2) ∧ sx k = ways (6 * k + 3) ∧ sy k = ways (6 * k + 4) ∧ sz k = ways (6 * k + 5) ∧ bd3 9 (px k) (py k) (pz k) ∧ bd3 9 (sx k) (sy k) (sz k) ∧ ¬ (px k = 0 ∧ py k = 0 ∧ pz k = 0) ∧ ¬ (sx k = 0 ∧ sy k = 0 ∧ sz k = 0) ∧ dot3 (px k) (py k) (pz k) (sx k) (sy k) (sz k) = 0
/-- rows of the grain, class and model -/
def gRw (B : Int) (K : Nat → Nat) (R : Nat → RowT) (grain gS : Nat → Int) : Prop := (∀ i, i < 8 → K i < 8) ∧ (∀ i j, i < 8 → j < 8 → K i = K j → i = j) ∧ ∀ k, k < 8 → rT (R (K k)) (sl 100 grain (100 * k)) (sl 6 gS (6 * k)) ∧ rW B (sl 100 grain (100 * k)) (sl 6 gS (6 * k))
def RGn (B many own cross pm : Int) (px py pz : Nat → Int) (sm : Int) (sx sy sz : Nat → Int) (K : Nat → Nat) (R : Nat → RowT) (systems own2 cross2 : Int) (ways grain gS : Nat → Int) : Prop :=
  ∃ n : Nat, many = (n : Int) ∧ systems = (n : Int) ∧ pm = (n : Int) ∧ sm = (n : Int) ∧ n ≤ 8 ∧ own = own2 ∧ cross = cross2 ∧ (0 ≤ own2 ∧ own2 ≤ 999) ∧ (0 ≤ cross2 ∧ cross2 ≤ 999) ∧ (∀ k, k < n → gWk px py pz sx sy sz ways k) ∧ gRw B K R grain gS
theorem hasG1 {n : Nat} {v : Int} (hn : n ≤ 8) (h : 0 ≤ v ∧ v < n) : m_X2_has (n : Int) v = some 1 := by rw [m_X2_has, m_X2_has_0, chkI (by omega) (by omega), w1 (by omega) (by omega), bind_s]
theorem hasG0 {n : Nat} {v : Int} (hn : n ≤ 8) (h : ¬ (0 ≤ v ∧ v < n)) : m_X2_has (n : Int) v = some 0 := by rw [m_X2_has, m_X2_has_0, chkI (by omega) (by omega), w0 (by omega), bind_s]
theorem isSys1 {n : Nat} {v : Int} (hn : n ≤ 8) (h : 0 ≤ v ∧ v < n) : m_X11_isSystem (n : Int) v = some 1 := by rw [m_X11_isSystem, m_X11_isSystem_0, chkI (by omega) (by omega), i1 (by omega) (by omega), bind_s]
theorem isSys0 {n : Nat} {v : Int} (hn : n ≤ 8) (h : ¬ (0 ≤ v ∧ v < n)) : m_X11_isSystem (n : Int) v = some 0 := by rw [m_X11_isSystem, m_X11_isSystem_0, chkI (by omega) (by omega), i0 (by omega), bind_s]
theorem sl_at {n a j : Nat} {f : Nat → Int} (h : j < n) : sl n f a j = f (a + j) := if_pos h
theorem pc_harder {B many own cross pm sm systems own2 cross2 : Int} {px py pz sx sy sz ways grain gS : Nat → Int} {K : Nat → Nat} {R : Nat → RowT} (h : RGn B many own cross pm px py pz sm sx sy sz K R systems own2 cross2 ways grain gS) (a b : Int) :
    ∃ r r2, m_X10_harder own cross a b = some r ∧ m_X11_harder own2 cross2 a b = some r2 ∧ r.1 = r2.1 ∧ RGn B many r.2.1 r.2.2 pm px py pz sm sx sy sz K R systems r2.2.1 r2.2.2 ways grain gS := by
  have h0 := h
  obtain ⟨n, rfl, rfl, rfl, rfl, h1, rfl, rfl, h4, h5, h6, h7⟩ := h
  rw [m_X10_harder, m_X10_harder_0, m_X2_tellHardening, m_X2_tellHardening_0, m_X11_harder, m_X11_harder_0]
  by_cases c : 0 ≤ a ∧ a ≤ 999
  · rw [w1 c.1 c.2, i1 c.1 c.2, bind_s, bind_s, if_neg ne10, if_neg ne10]
    by_cases c2 : 0 ≤ b ∧ b ≤ 999
    · rw [w1 c2.1 c2.2, i1 c2.1 c2.2, bind_s, if_neg ne10, bind_s]
      exact ⟨_, _, rfl, rfl, rfl, n, rfl, rfl, rfl, rfl, h1, rfl, rfl, c, c2, h6, h7⟩
    · rw [w0 c2, i0 c2, bind_s, if_pos rfl, bind_s]
      exact ⟨_, _, rfl, rfl, rfl, h0⟩
  · rw [w0 c, i0 c, bind_s, bind_s, if_pos rfl, if_pos rfl, bind_s]
    exact ⟨_, _, rfl, rfl, rfl, h0⟩
theorem isIn1 {sm pm : Int} {sx sy sz px py pz many2 way : Nat → Int} (h1 : RWy sm sx sy sz (many2 0) way 0) (h2 : RWy pm px py pz (many2 1) way 48) {p s : Nat} (hp : (p : Int) < pm) (hs : (s : Int) < sm) : m_X11_isIn many2 way (p : Int) (s : Int) = some (if dot3 (px p) (py p) (pz p) (sx s) (sy s) (sz s) = 0 then 1 else 0) := by
  obtain ⟨n, rfl, e2, e3, e4⟩ := h1
  obtain ⟨m, rfl, f2, f3, f4⟩ := h2
  obtain ⟨g1, g2, g3, g4, _⟩ := e4 s (by omega)
  obtain ⟨k1, k2, k3, k4, _⟩ := f4 p (by omega)
  rw [Nat.zero_add] at g1 g2 g3
  have t1 : m_X11_isTold many2 1 (p : Int) = some 1 := isTold1 (s := 1) (by omega) f2 f3 (by omega)
  have t0 : m_X11_isTold many2 0 (s : Int) = some 1 := isTold1 (s := 0) (by omega) e2 e3 (by omega)
  have ha := q_X11_along (way := way) (x := px p) (y := py p) (z := pz p) (s := 0) (k := s) (c := 9) (by omega) k4 (by rw [show 48 * 0 + 3 * s = 3 * s by omega, ← g1, ← g2, ← g3]; exact g4) (by omega)
  rw [show 48 * 0 + 3 * s = 3 * s by omega, ← g1, ← g2, ← g3] at ha
  have ha' : m_X11_along way (px p) (py p) (pz p) 0 (s : Int) = some (dot3 (px p) (py p) (pz p) (sx s) (sy s) (sz s)) := ha
  rw [m_X11_isIn, m_X11_isIn_0, t1, bind_s, if_neg ne10, t0, bind_s, if_neg ne10, chkB (by omega) (by omega), chkB (by omega) (by omega), chkB (by omega) (by omega), show Int.toNat (48 + 3 * (p : Int)) = 48 + 3 * p by omega, show Int.toNat (48 + 3 * (p : Int) + 1) = 48 + 3 * p + 1 by omega, show Int.toNat (48 + 3 * (p : Int) + 2) = 48 + 3 * p + 2 by omega, ← k1, ← k2, ← k3, ha', bind_s]
  by_cases c : dot3 (px p) (py p) (pz p) (sx s) (sy s) (sz s) = 0
  · rw [if_pos c, if_pos c]
  · rw [if_neg c, if_neg c]
theorem isIn0 {sm pm : Int} {sx sy sz px py pz many2 way : Nat → Int} (h1 : RWy sm sx sy sz (many2 0) way 0) (h2 : RWy pm px py pz (many2 1) way 48) {p s : Int} (h : ¬ ((0 ≤ p ∧ p < pm) ∧ (0 ≤ s ∧ s < sm))) : m_X11_isIn many2 way p s = some 0 := by
  obtain ⟨n, rfl, e2, e3, e4⟩ := h1
  obtain ⟨m, rfl, f2, f3, f4⟩ := h2
  rw [m_X11_isIn, m_X11_isIn_0]
  by_cases c : 0 ≤ p ∧ p < m
  · obtain ⟨p, rfl⟩ : ∃ i : Nat, p = (i : Int) := ⟨p.toNat, by omega⟩
    have t1 : m_X11_isTold many2 1 (p : Int) = some 1 := isTold1 (s := 1) (by omega) f2 f3 (by omega)
    have t0 : m_X11_isTold many2 0 s = some 0 := isTold0 (s := 0) (by omega) e2 e3 (fun h2 => h ⟨c, h2⟩)
    rw [t1, bind_s, if_neg ne10, t0, bind_s, if_pos rfl]
  · have t1 : m_X11_isTold many2 1 p = some 0 := isTold0 (s := 1) (by omega) f2 f3 c
    rw [t1, bind_s, if_pos rfl]
theorem FU4' : ∃ F, FU = F + 1 + 1 + 1 + 1 := ⟨5996, rfl⟩
theorem pc_system {B many own cross pm sm systems own2 cross2 csm cpm : Int} {px py pz sx sy sz ways grain gS csx csy csz cpx cpy cpz many2 way : Nat → Int} {K : Nat → Nat} {R : Nat → RowT} (h : RGn B many own cross pm px py pz sm sx sy sz K R systems own2 cross2 ways grain gS) (h1 : RWy csm csx csy csz (many2 0) way 0) (h2 : RWy cpm cpx cpy cpz (many2 1) way 48) (p s : Int) :
    ∃ r r2, m_X10_system many pm px py pz sm sx sy sz csm csx csy csz cpm cpx cpy cpz p s = some r ∧ m_X11_system systems many2 way ways p s = some r2 ∧ r.1 = r2.1 ∧ RGn B r.2.1 own cross r.2.2.1 r.2.2.2.1 r.2.2.2.2.1 r.2.2.2.2.2.1 r.2.2.2.2.2.2.1 r.2.2.2.2.2.2.2.1 r.2.2.2.2.2.2.2.2.1 r.2.2.2.2.2.2.2.2.2 K R r2.2.1 own2 cross2 r2.2.2 grain gS := by
  have h0 := h
  have hi0 := fun (hh : ¬ ((0 ≤ p ∧ p < cpm) ∧ (0 ≤ s ∧ s < csm))) => isIn0 h1 h2 hh
  have hi1 := fun (p s : Nat) (hp : (p : Int) < cpm) (hs : (s : Int) < csm) => isIn1 h1 h2 hp hs
  obtain ⟨n, rfl, rfl, rfl, rfl, g1, rfl, rfl, g4, g5, g6, g7⟩ := h
  obtain ⟨a, rfl, e2, e3, e4⟩ := h1
  obtain ⟨m, rfl, f2, f3, f4⟩ := h2
  rw [m_X10_system, m_X10_system_0, m_X11_system, m_X11_system_0]
  have no : m_X11_isIn many2 way p s = some 0 → (if (n : Int) = 8 then (some ((-1 : Int), (n : Int), ways)) else ((m_X11_isIn many2 way p s).bind (fun y1 => if y1 = 0 then (some (-1, (n : Int), ways)) else (m_X11_system_22 (n : Int) way p s (fun t_ways' v3' => m_X11_system_86 (n : Int) t_ways') FU ways 0)))) = some (-1, (n : Int), ways) := by
    intro hh
    rw [hh, bind_s, if_pos rfl, ite_self]
  by_cases c1 : 0 ≤ p ∧ p < m
  · obtain ⟨p, rfl⟩ : ∃ i : Nat, p = (i : Int) := ⟨p.toNat, by omega⟩
    rw [has1 c1.1 c1.2, bind_s, if_neg ne10]
    by_cases c2 : 0 ≤ s ∧ s < a
    · obtain ⟨s, rfl⟩ : ∃ i : Nat, s = (i : Int) := ⟨s.toNat, by omega⟩
      have hin := hi1 p s c1.2 c2.2
      obtain ⟨s1, s2, s3, s4, s5⟩ := e4 s (by omega)
      obtain ⟨p1, p2, p3, p4, p5⟩ := f4 p (by omega)
      rw [Nat.zero_add] at s1 s2 s3
      rw [has1 c2.1 c2.2, bind_s, if_neg ne10, q_product (b := 9) (c := 9) f3 (by omega) e3 (by omega) p4 s4 (by omega), bind_s]
      by_cases c3 : dot3 (cpx p) (cpy p) (cpz p) (csx s) (csy s) (csz s) = 0
      · rw [if_pos c3] at hin
        rw [if_pos c3, m_X2_newSystem, m_X2_newSystem_0]
        by_cases c4 : n = 8
        · rw [if_neg (by omega), if_pos (by omega), bind_s]
          exact ⟨_, _, rfl, rfl, rfl, h0⟩
        · obtain ⟨F, hF⟩ := FU4'
          have q := fun (j : Int) => q_partOf (N := 16) (n := m) (k := p) (xs := cpx) (ys := cpy) (zs := cpz) (p := j) f3 (by omega)
          have q' := fun (j : Int) => q_partOf (N := 16) (n := a) (k := s) (xs := csx) (ys := csy) (zs := csz) (p := j) e3 (by omega)
          rw [if_pos (by omega), if_neg (by omega), q, bind_s, q, bind_s, q, bind_s, q_append (by omega) (by omega), bind_s, q', bind_s, q', bind_s, q', bind_s, q_append (by omega) (by omega), bind_s, chkI (by omega) (by omega), chkI (by omega) (by omega), bind_s, hin, bind_s, if_neg ne10, hF, m_X11_system_22, if_neg (by omega), chkB (by omega) (by omega), chkB (by omega) (by omega), chkB (by omega) (by omega), chkB (by omega) (by omega), chkI (by omega) (by omega), m_X11_system_22, if_neg (by omega), chkB (by omega) (by omega), chkB (by omega) (by omega), chkB (by omega) (by omega), chkB (by omega) (by omega), chkI (by omega) (by omega), m_X11_system_22, if_neg (by omega), chkB (by omega) (by omega), chkB (by omega) (by omega), chkB (by omega) (by omega), chkB (by omega) (by omega), chkI (by omega) (by omega), m_X11_system_22, if_pos (by omega), m_X11_system_86, chkI (by omega) (by omega), chkI (by omega) (by omega)]
          rw [show Int.toNat (6 * (n : Int) + 0) = 6 * n by omega, show Int.toNat (48 + 3 * (p : Int) + 0) = 48 + 3 * p by omega, show Int.toNat (6 * (n : Int) + 3 + 0) = 6 * n + 3 by omega, show Int.toNat (3 * (s : Int) + 0) = 3 * s by omega, show Int.toNat (6 * (n : Int) + (0 + 1)) = 6 * n + 1 by omega, show Int.toNat (48 + 3 * (p : Int) + (0 + 1)) = 48 + 3 * p + 1 by omega, show Int.toNat (6 * (n : Int) + 3 + (0 + 1)) = 6 * n + 4 by omega, show Int.toNat (3 * (s : Int) + (0 + 1)) = 3 * s + 1 by omega, show Int.toNat (6 * (n : Int) + (0 + 1 + 1)) = 6 * n + 2 by omega, show Int.toNat (48 + 3 * (p : Int) + (0 + 1 + 1)) = 48 + 3 * p + 2 by omega, show Int.toNat (6 * (n : Int) + 3 + (0 + 1 + 1)) = 6 * n + 5 by omega, show Int.toNat (3 * (s : Int) + (0 + 1 + 1)) = 3 * s + 2 by omega, ← p1, ← p2, ← p3, ← s1, ← s2, ← s3]
          refine ⟨_, _, rfl, rfl, by dsimp only, n + 1, rfl, rfl, rfl, rfl, by omega, rfl, rfl, g4, g5, fun k hk => ?_, g7⟩
          dsimp only
          by_cases ck : k = n
          · subst ck
            unfold gWk
            rw [up_at, up_at, up_at, up_at, up_at, up_at]
            refine ⟨?_, ?_, ?_, ?_, ?_, ?_, p4, s4, p5, s5, c3⟩
            · rw [up_ne _ _ (by omega), up_ne _ _ (by omega), up_ne _ _ (by omega), up_ne _ _ (by omega), up_ne _ _ (by omega), up_at]; rfl
            · rw [up_ne _ _ (by omega), up_ne _ _ (by omega), up_ne _ _ (by omega), up_at]; rfl
            · rw [up_ne _ _ (by omega), up_at]; rfl
            · rw [up_ne _ _ (by omega), up_ne _ _ (by omega), up_ne _ _ (by omega), up_ne _ _ (by omega), up_at]; rfl
            · rw [up_ne _ _ (by omega), up_ne _ _ (by omega), up_at]; rfl
            · rw [up_at]; rfl
          · have hg := g6 k (by omega)
            unfold gWk at hg ⊢
            rw [up_ne _ _ ck, up_ne _ _ ck, up_ne _ _ ck, up_ne _ _ ck, up_ne _ _ ck, up_ne _ _ ck]
            have hx : ∀ j, j < 6 → up (up (up (up (up (up ways (6 * n) (cpx p)) (6 * n + 3) (csx s)) (6 * n + 1) (cpy p)) (6 * n + 4) (csy s)) (6 * n + 2) (cpz p)) (6 * n + 5) (csz s) (6 * k + j) = ways (6 * k + j) := by
              intro j hj
              rw [up_ne _ _ (by omega), up_ne _ _ (by omega), up_ne _ _ (by omega), up_ne _ _ (by omega), up_ne _ _ (by omega), up_ne _ _ (by omega)]
            have x0 := hx 0 (by omega)
            simp only [Nat.add_zero] at x0
            rw [x0, hx 1 (by omega), hx 2 (by omega), hx 3 (by omega), hx 4 (by omega), hx 5 (by omega)]
            exact hg
      · rw [if_neg c3] at hin
        rw [if_neg c3, no hin]
        exact ⟨_, _, rfl, rfl, rfl, h0⟩
    · rw [has0 c2, bind_s, if_pos rfl, no (hi0 (fun h => c2 h.2))]
      exact ⟨_, _, rfl, rfl, rfl, h0⟩
  · rw [has0 c1, bind_s, if_pos rfl, no (hi0 (fun h => c1 h.1))]
    exact ⟨_, _, rfl, rfl, rfl, h0⟩
theorem sl_ext {n a b : Nat} {f g : Nat → Int} (h : ∀ j, j < n → f (a + j) = g (b + j)) : sl n f a = sl n g b := by
  funext j
  unfold sl
  by_cases c : j < n
  · rw [if_pos c, if_pos c, h j c]
  · rw [if_neg c, if_neg c]
theorem sl_up_in {n a k : Nat} {f : Nat → Int} {v : Int} (h : k < n) : sl n (up f (a + k) v) a = up (sl n f a) k v := by
  funext j
  unfold sl up
  dsimp only
  by_cases c : j = k
  · subst c; rw [if_pos h, if_pos rfl, if_pos rfl]
  · by_cases c2 : j < n
    · rw [if_pos c2, if_neg (by omega), if_neg c, if_pos c2]
    · rw [if_neg c2, if_neg c, if_neg c2]
theorem sl_up_out {n a k : Nat} {f : Nat → Int} {v : Int} (h : k < a ∨ a + n ≤ k) : sl n (up f k v) a = sl n f a := sl_ext (fun j hj => up_ne _ _ (by omega))
theorem pc_fill {B many own cross pm sm systems own2 cross2 : Int} {px py pz sx sy sz ways grain gS cur pA cS : Nat → Int} {K : Nat → Nat} {R : Nat → RowT} (h : RGn B many own cross pm px py pz sm sx sy sz K R systems own2 cross2 ways grain gS) (hs : RSc cur pA cS) (k p v : Int) :
    ∃ r r2, m_X10_fill many K R k p v = some r ∧ m_X11_fill systems cur cS grain gS k p v = some r2 ∧ r.1 = r2.1 ∧ RGn B many own cross pm px py pz sm sx sy sz K r.2 systems own2 cross2 ways r2.2.2.2 gS ∧ RSc r2.2.1 pA r2.2.2.1 := by
  have h0 := h
  obtain ⟨n, rfl, rfl, rfl, rfl, g1, rfl, rfl, g4, g5, g6, g7, g8, g9⟩ := h
  rw [m_X10_fill, m_X10_fill_0, m_X2_bring, m_X2_bring_0, m_X11_fill, m_X11_fill_0]
  by_cases c1 : 0 ≤ k ∧ k < n
  · obtain ⟨k, rfl⟩ : ∃ i : Nat, k = (i : Int) := ⟨k.toNat, by omega⟩
    obtain ⟨⟨r1, r2, r3, r4, r5, r6, r7, r8⟩, hw⟩ := g9 k (by omega)
    rw [hasG1 g1 c1, isSys1 g1 c1, bind_s, bind_s, if_neg ne10, if_neg ne10, chkB (by omega) (by omega), tn, chk_pos (g7 k (by omega)), r1, r2, m_X6_bring, m_X6_bring_0]
    have same : up R (K k) (sl 100 grain (100 * k), (R (K k)).2.1, (R (K k)).2.2.1, cnt (sl 100 grain (100 * k)) 100, (R (K k)).2.2.2.2.1, (R (K k)).2.2.2.2.2.1, (R (K k)).2.2.2.2.2.2.1, (R (K k)).2.2.2.2.2.2.2.1, (R (K k)).2.2.2.2.2.2.2.2.1, (R (K k)).2.2.2.2.2.2.2.2.2) = R := by
      funext j
      unfold up
      by_cases c : j = K k
      · subst c; rw [if_pos rfl, ← r2, ← r1]
      · rw [if_neg c]
    by_cases c2 : 0 ≤ p ∧ p < 100
    · obtain ⟨p, rfl⟩ : ∃ i : Nat, p = (i : Int) := ⟨p.toNat, by omega⟩
      have ep : Int.toNat (100 * (k : Int) + (p : Int)) = 100 * k + p := by omega
      have esl : sl 100 grain (100 * k) p = grain (100 * k + p) := sl_at (by omega)
      rw [i1 c2.1 (by omega), bind_s, if_neg ne10]
      by_cases c3 : grain (100 * k + p) = 0
      · rw [isFree1 (p := (p : Int)) ⟨c2.1, c2.2, esl.trans c3⟩, bind_s, if_neg ne10]
        by_cases c4 : v = 1 ∨ v = -1
        · have e28 : (if v = 1 then m_X11_fill_28 cur cS grain gS (k : Int) (p : Int) v else if v = -1 then m_X11_fill_28 cur cS grain gS (k : Int) (p : Int) v else some (0, cur, cS, grain)) = m_X11_fill_28 cur cS grain gS (k : Int) (p : Int) v := by
            rcases c4 with h | h
            · rw [if_pos h]
            · rw [if_neg (by omega), if_pos h]
          have tk := q_X11_takes (N1 := 800) (N3 := 48) (a := 100 * k) (b := 6 * k) (cur := cur) (cS := cS) (p1 := grain) (p3 := gS) hs.1 hs.2.2 (by omega) (by omega)
          have hn := cnt_bd (sl 100 grain (100 * k)) 100
          rw [e28, isSign1 c4, bind_s, if_neg ne10, m_X11_fill_28]
          simp (disch := omega) only [chkI, chkB]
          rw [ep, if_pos c3, show (100 * (k : Int)) = ((100 * k : Nat) : Int) by omega, show (6 * (k : Int)) = ((6 * k : Nat) : Int) by omega, tk, bind_s]
          dsimp only
          rw [q_X11_flaws, bind_s]
          have hsc : RSc (sl 100 grain (100 * k)) pA (sl 6 gS (6 * k)) := ⟨Zf_sl, hs.2.1, Zf_sl⟩
          by_cases c5 : cnt (sl 100 grain (100 * k)) 100 = 30
          · rw [if_pos c5, if_neg (show ¬ cnt (sl 100 grain (100 * k)) 100 < 30 by omega), bind_s, if_pos rfl, bind_s]
            dsimp only
            rw [same]
            exact ⟨_, _, rfl, rfl, rfl, h0, hsc⟩
          · have hc30 := hw.2.2.1
            have hz : sl 100 grain (100 * k) p = 0 := esl.trans c3
            have hcn : cnt (up (sl 100 grain (100 * k)) p v) 100 = cnt (sl 100 grain (100 * k)) 100 + 1 := by rw [cnt_up (by omega), nz_0 hz, nz_1 (by omega)]; omega
            rw [if_neg c5, if_pos (show cnt (sl 100 grain (100 * k)) 100 < 30 by omega), bind_s, if_neg ne10, bind_s]
            refine ⟨_, _, rfl, rfl, rfl, ⟨n, rfl, rfl, rfl, rfl, g1, rfl, rfl, g4, g5, g6, g7, g8, fun j hj => ?_⟩, hsc⟩
            dsimp only
            rw [tn]
            by_cases cj : j = k
            · subst cj
              rw [sl_up_in (by omega), up_at]
              exact ⟨⟨rfl, hcn.symm, r3, r4, r5, r6, r7, r8⟩, sg_up hw.1 (by omega), Zf_up hw.2.1 (by omega), by omega, hw.2.2.2.1, hw.2.2.2.2⟩
            · have hne : K j ≠ K k := fun hh => cj (g8 _ _ hj (by omega) hh)
              rw [sl_up_out (by omega), up_ne _ _ hne]
              exact g9 j hj
        · rw [if_neg (fun h => c4 (Or.inl h)), if_neg (fun h => c4 (Or.inr h)), isSign0 c4, bind_s, if_pos rfl, bind_s, if_pos rfl, bind_s]
          dsimp only
          rw [same]
          exact ⟨_, _, rfl, rfl, rfl, h0, hs⟩
      · rw [isFree0 (p := (p : Int)) (fun h => c3 (esl.symm.trans h.2.2)), bind_s, if_pos rfl, bind_s, if_pos rfl, bind_s]
        have e28 : m_X11_fill_28 cur cS grain gS (k : Int) (p : Int) v = some (0, cur, cS, grain) := by
          rw [m_X11_fill_28, chkB (by omega) (by omega), ep, if_neg c3]
        dsimp only
        rw [e28, ite_self, ite_self, same]
        exact ⟨_, _, rfl, rfl, rfl, h0, hs⟩
    · rw [i0 (by omega), bind_s, if_pos rfl, isFree0 (fun h => c2 ⟨h.1, h.2.1⟩), bind_s, if_pos rfl, bind_s, if_pos rfl, bind_s]
      dsimp only
      rw [same]
      exact ⟨_, _, rfl, rfl, rfl, h0, hs⟩
  · rw [hasG0 g1 c1, isSys0 g1 c1, bind_s, bind_s, if_pos rfl, if_pos rfl, bind_s]
    exact ⟨_, _, rfl, rfl, rfl, h0, hs⟩

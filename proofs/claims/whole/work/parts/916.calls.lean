
/-! ===== PURE: small tests, the row's calls ===== -/
theorem w1 {v a b : Int} (h1 : a ≤ v) (h2 : v ≤ b) : m_X10_within v a b = some 1 := by rw [m_X10_within, m_X10_within_0, if_neg (by omega), if_neg (by omega)]
theorem w0 {v a b : Int} (h : ¬ (a ≤ v ∧ v ≤ b)) : m_X10_within v a b = some 0 := by
  rw [m_X10_within, m_X10_within_0]
  by_cases h1 : v < a
  · rw [if_pos h1]
  · rw [if_neg h1, if_pos (by omega)]
theorem i1 {v a b : Int} (h1 : a ≤ v) (h2 : v ≤ b) : m_X11_in v a b = some 1 := by rw [m_X11_in, m_X11_in_0, if_neg (by omega), if_neg (by omega)]
theorem i0 {v a b : Int} (h : ¬ (a ≤ v ∧ v ≤ b)) : m_X11_in v a b = some 0 := by
  rw [m_X11_in, m_X11_in_0]
  by_cases h1 : v < a
  · rw [if_pos h1]
  · rw [if_neg h1, if_pos (by omega)]
theorem isPart1 {v : Int} (h1 : 0 ≤ v) (h2 : v ≤ 2) : m_X10_isPart v = some 1 := by rw [m_X10_isPart, m_X10_isPart_0, w1 h1 h2, bind_s]
theorem isPart0 {v : Int} (h : ¬ (0 ≤ v ∧ v ≤ 2)) : m_X10_isPart v = some 0 := by rw [m_X10_isPart, m_X10_isPart_0, w0 h, bind_s]
theorem isPull1 {v : Int} (h1 : -9999 ≤ v) (h2 : v ≤ 9999) : m_X10_isPull v = some 1 := by rw [m_X10_isPull, m_X10_isPull_0, w1 h1 h2, bind_s]
theorem isPull0 {v : Int} (h : ¬ (-9999 ≤ v ∧ v ≤ 9999)) : m_X10_isPull v = some 0 := by rw [m_X10_isPull, m_X10_isPull_0, w0 h, bind_s]
theorem isForce1 {v : Int} (h1 : 0 ≤ v) (h2 : v ≤ 9999) : m_X10_isForce v = some 1 := by rw [m_X10_isForce, m_X10_isForce_0, w1 h1 h2, bind_s]
theorem isForce0 {v : Int} (h : ¬ (0 ≤ v ∧ v ≤ 9999)) : m_X10_isForce v = some 0 := by rw [m_X10_isForce, m_X10_isForce_0, w0 h, bind_s]
theorem isTicks1 {v : Int} (h1 : 0 ≤ v) (h2 : v ≤ 200) : m_X10_isTicks v = some 1 := by rw [m_X10_isTicks, m_X10_isTicks_0, w1 h1 h2, bind_s]
theorem isTicks0 {v : Int} (h : ¬ (0 ≤ v ∧ v ≤ 200)) : m_X10_isTicks v = some 0 := by rw [m_X10_isTicks, m_X10_isTicks_0, w0 h, bind_s]
theorem isLength1 {v : Int} (h1 : 0 ≤ v) (h2 : v ≤ 60) : m_X10_isLength v = some 1 := by rw [m_X10_isLength, m_X10_isLength_0, w1 h1 h2, bind_s]
theorem isLength0 {v : Int} (h : ¬ (0 ≤ v ∧ v ≤ 60)) : m_X10_isLength v = some 0 := by rw [m_X10_isLength, m_X10_isLength_0, w0 h, bind_s]
theorem isPlace0 {p : Int} (h : ¬ (0 ≤ p ∧ p < 100)) : m_X10_isPlace p = some 0 := by rw [q_X10_isPlace, if_neg h]
theorem isSide1 {v : Int} (h : v = 0 ∨ v = 1) : m_X10_isSide v = some 1 := by
  rw [m_X10_isSide, m_X10_isSide_0]
  rcases h with h | h
  · rw [if_pos h, m_X10_isSide_9]
  · rw [if_neg (by omega), if_pos h, m_X10_isSide_9]
theorem isSide0 {v : Int} (h : ¬ (v = 0 ∨ v = 1)) : m_X10_isSide v = some 0 := by
  rw [m_X10_isSide, m_X10_isSide_0, if_neg (fun h2 => h (Or.inl h2)), if_neg (fun h2 => h (Or.inr h2))]
theorem isSign1 {v : Int} (h : v = 1 ∨ v = -1) : m_X10_isSign v = some 1 := by
  rw [m_X10_isSign, m_X10_isSign_0]
  rcases h with h | h
  · rw [if_pos h, m_X10_isSign_10]
  · rw [if_neg (by omega), if_pos h, m_X10_isSign_10]
theorem isSign0 {v : Int} (h : ¬ (v = 1 ∨ v = -1)) : m_X10_isSign v = some 0 := by
  rw [m_X10_isSign, m_X10_isSign_0, if_neg (fun h2 => h (Or.inl h2)), if_neg (fun h2 => h (Or.inr h2))]
theorem isDistance1 {v : Int} (h1 : 1 ≤ v) (h2 : v ≤ 20) : m_X10_isDistance v = some 1 := by rw [m_X10_isDistance, m_X10_isDistance_0, if_neg (by omega), if_neg (by omega)]
theorem isDistance0 {v : Int} (h : ¬ (1 ≤ v ∧ v ≤ 20)) : m_X10_isDistance v = some 0 := by
  rw [m_X10_isDistance, m_X10_isDistance_0]
  by_cases h1 : v < 1
  · rw [if_pos h1]
  · rw [if_neg h1, if_pos (by omega)]
/-- the class's ground (what was read of pushes, holds, sources) against the model's -/
def RGr (m reach : Int) (pushes lows highs sH so : Nat → Int) (bl bh : Int) (push slo shi sh : Nat → Int) : Prop :=
  pushes = push ∧ Zf 21 push ∧ pW push ∧ (∃ R : Nat, reach = (R : Int) ∧ R ≤ 20 ∧ ∀ d, R < d → d ≤ 20 → push d = 0) ∧ (∀ side k, k < 100 → (if side = 0 then lows k else highs k) = hdM bl bh slo shi side k ∧ 0 ≤ hdM bl bh slo shi side k ∧ hdM bl bh slo shi side k ≤ 9999) ∧ sO sh sH so m
/-- the model's room to work in -/
def RSc (cur pA cS : Nat → Int) : Prop := Zf 100 cur ∧ Zf 21 pA ∧ Zf 6 cS
theorem pc_push {m reach bl bh : Int} {pushes lows highs sH so push slo shi sh : Nat → Int} (h : RGr m reach pushes lows highs sH so bl bh push slo shi sh) (d : Int) : ∃ r, m_X10_push pushes d = some r ∧ m_X11_push push d = some r := by
  obtain ⟨rfl, h2, h3, h4, h5, h6⟩ := h
  rw [m_X10_push, m_X10_push_0, m_X3_pushAt, m_X3_pushAt_0, m_X11_push, m_X11_push_0]
  by_cases c : 1 ≤ d ∧ d ≤ 20
  · rw [isDistance1 c.1 c.2, i1 c.1 c.2, bind_s, if_neg (show ¬(1 : Int) = 0 by decide), chkB (by omega) (by omega), bind_s]
    exact ⟨_, rfl, rfl⟩
  · rw [isDistance0 c, i0 c, bind_s, if_pos (show (0 : Int) = 0 from rfl), bind_s]
    exact ⟨_, rfl, rfl⟩
theorem pc_hold {m reach bl bh : Int} {pushes lows highs sH so push slo shi sh : Nat → Int} (h : RGr m reach pushes lows highs sH so bl bh push slo shi sh) (p s : Int) : ∃ r, m_X10_hold lows highs p s = some r ∧ m_X11_hold bl bh slo shi p s = some r := by
  obtain ⟨h1, h2, h3, h4, h5, h6⟩ := h
  rw [m_X10_hold, m_X10_hold_0, m_X11_hold, m_X11_hold_0]
  by_cases c : 0 ≤ p ∧ p < 100
  · obtain ⟨k, rfl⟩ : ∃ k : Nat, p = (k : Int) := ⟨p.toNat, by omega⟩
    rw [isPlace1 c.1 c.2, i1 c.1 (by omega), bind_s, bind_s, if_neg (by decide), if_neg (by decide)]
    by_cases c2 : s = 0 ∨ s = 1
    · rw [isSide1 c2, i1 (by omega) (by omega), bind_s, bind_s, if_neg (by decide), if_neg (by decide), q_X3_holdAt (by omega), q_X11_holdAt (by omega), bind_s, bind_s, (h5 s k (by omega)).1]
      exact ⟨_, rfl, rfl⟩
    · rw [isSide0 c2, i0 (by omega), bind_s, bind_s, if_pos rfl, if_pos rfl]
      exact ⟨_, rfl, rfl⟩
  · rw [isPlace0 c, i0 (by omega), bind_s, bind_s, if_pos rfl, if_pos rfl]
    exact ⟨_, rfl, rfl⟩
theorem pc_at {fl s g w o lo ca : Int} {signs row sums : Nat → Int} (h : RRow fl s g w o lo ca signs row sums) (p : Int) : ∃ r, m_X10_at signs p = some r ∧ m_X11_at row p = some r := by
  obtain ⟨rfl, _⟩ := h
  rw [m_X10_at, m_X10_at_0, m_X11_at, m_X11_at_0, q_X6_signAt, bind_s]
  by_cases c : 0 ≤ p ∧ p < 100
  · rw [i1 c.1 (by omega), bind_s, if_neg (show ¬(1 : Int) = 0 by decide), chkB (by omega) (by omega), if_pos c]
    exact ⟨_, rfl, rfl⟩
  · rw [i0 (by omega), bind_s, if_pos rfl, if_neg c]
    exact ⟨_, rfl, rfl⟩
theorem pc_feels {m reach bl bh B : Int} {pushes lows highs sH so push slo shi sh : Nat → Int} (h : RGr m reach pushes lows highs sH so bl bh push slo shi sh) {signs row sums cur pA cS : Nat → Int} (hr : signs = row) (hw : rW B row sums) (hs : RSc cur pA cS) (p q : Int) : ∃ r r2, m_X10_feels signs reach pushes p q = some r ∧ m_X11_feels_ push cur pA cS row sums p q = some r2 ∧ r = r2.1 ∧ RSc r2.2.1 r2.2.2.1 r2.2.2.2 := by
  obtain ⟨rfl, h2, h3, ⟨R, rfl, hR, hz⟩, h5, h6⟩ := h
  subst hr
  rw [m_X10_feels, m_X10_feels_0, m_X11_feels_, m_X11_feels__0, q_X6_signAt, bind_s, m_X10_feels_20]
  by_cases c : 0 ≤ p ∧ p < 100
  · obtain ⟨k, rfl⟩ : ∃ k : Nat, p = (k : Int) := ⟨p.toNat, by omega⟩
    rw [if_pos c, i1 c.1 (by omega), bind_s, if_neg (show ¬(1 : Int) = 0 by decide), tn]
    by_cases c2 : signs k = 0
    · rw [if_pos c2]
      by_cases c3 : -9999 ≤ q ∧ q ≤ 9999
      · rw [i1 c3.1 c3.2, bind_s, if_neg (by decide), chkB (by omega) (by omega), if_pos c2]
        exact ⟨_, _, rfl, rfl, rfl, hs⟩
      · rw [i0 c3, bind_s, if_pos rfl]
        exact ⟨_, _, rfl, rfl, rfl, hs⟩
    · rw [if_neg c2]
      by_cases c3 : -9999 ≤ q ∧ q ≤ 9999
      · have f1 := frc_bd (p := k) hw.1 h3 c3.1 c3.2
        have f2 := hw.1 k
        have f3 := mul_bd (a := signs k) (b := frc signs pushes k q) (A := 1) (B := 50000) f2.1 f2.2 f1.1 f1.2
        rw [i1 c3.1 c3.2, isPull1 c3.1 c3.2, bind_s, bind_s, if_neg (by decide), if_neg (by decide), chkB (by omega) (by omega), if_neg c2, q_X11_atHand h2 hs.2.1 hs.1 hs.2.2 hw.2.1 hw.2.2.2.1, bind_s, chkB (by omega) (by omega), q_X11_feels hw.1 h3 (by omega) f2 c3.1 c3.2, q_X6_forceAt hR hz hw.1 h3 (by omega) c3.1 c3.2, bind_s, bind_s, chkI (by omega) (by omega)]
        exact ⟨_, _, rfl, rfl, rfl, hw.2.1, h2, hw.2.2.2.1⟩
      · rw [i0 c3, isPull0 c3, bind_s, bind_s, if_pos rfl, if_pos rfl]
        exact ⟨_, _, rfl, rfl, rfl, hs⟩
  · rw [if_neg c, if_pos rfl, i0 (by omega), bind_s, if_pos rfl]
    exact ⟨_, _, rfl, rfl, rfl, hs⟩
theorem pc_put {B now last undos redos fl s g w o lo ca : Int} {K : Nat → Nat} {R : Nat → RowT} {uR uS rR rS row sums signs cur pA cS push : Nat → Int} (h : RAc B now last K R undos redos uR uS rR rS row sums) (hr : RRow fl s g w o lo ca signs row sums) (hp : Zf 21 push) (hs : RSc cur pA cS) (p v : Int) :
    ∃ r r2, m_X10_put fl s g w o lo ca signs now last K R p v = some r ∧ m_X11_put_ undos redos push cur pA cS row sums uR uS p v = some r2 ∧ r.1 = r2.1 ∧ RRow r.2.1 s g w o lo ca r.2.2.1 r2.2.2.2.2.2.2.1 sums ∧ RAc B r.2.2.2.1 r.2.2.2.2.1 r.2.2.2.2.2.1 r.2.2.2.2.2.2 r2.2.1 r2.2.2.1 r2.2.2.2.2.2.2.2.1 r2.2.2.2.2.2.2.2.2 rR rS r2.2.2.2.2.2.2.1 sums ∧ RSc r2.2.2.2.1 r2.2.2.2.2.1 r2.2.2.2.2.2.1 := by
  have h0 := h
  have hr0 := hr
  obtain ⟨u, r, e1, e2, e3, e4, e5, k1, k2, k3, k4, k5, k6, k7⟩ := h
  obtain ⟨a1, a2, a3, a4, a5, a6, a7, a8⟩ := hr
  subst a1
  have hsc : RSc signs push sums := ⟨k6.2.1, hp, k6.2.2.2.1⟩
  rw [m_X10_put, m_X10_put_0, m_X11_put_, m_X11_put__0, q_X11_atHand hp hs.2.1 hs.1 hs.2.2 k6.2.1 k6.2.2.2.1, bind_s, m_X6_bring, m_X6_bring_0]
  by_cases c : 0 ≤ p ∧ p < 100
  · obtain ⟨k, rfl⟩ : ∃ k : Nat, p = (k : Int) := ⟨p.toNat, by omega⟩
    rw [i1 c.1 (by omega), bind_s, if_neg (show ¬(1 : Int) = 0 by decide)]
    by_cases c2 : signs k = 0
    · rw [isFree1 (p := (k : Int)) ⟨c.1, c.2, c2⟩, bind_s, if_neg (show ¬(1 : Int) = 0 by decide)]
      by_cases c3 : v = 1 ∨ v = -1
      · have e24 : (if v = 1 then m_X11_put__24 undos redos signs push sums signs sums uR uS (k : Int) v else if v = -1 then m_X11_put__24 undos redos signs push sums signs sums uR uS (k : Int) v else some (0, undos, redos, signs, push, sums, signs, uR, uS)) = m_X11_put__24 undos redos signs push sums signs sums uR uS (k : Int) v := by
          rcases c3 with h | h
          · rw [if_pos h]
          · rw [if_neg (by omega), if_pos h]
        dsimp only
        rw [e24, isSign1 c3, bind_s, if_neg (by decide), m_X11_put__24, chkB (by omega) (by omega), tn, if_pos c2, q_X11_flaws, bind_s]
        have hn := cnt_bd signs 100
        by_cases c4 : cnt signs 100 = 30
        · rw [if_pos c4, if_neg (by omega), bind_s, if_pos rfl, chkB (by omega) (by omega)]
          exact ⟨_, _, rfl, rfl, rfl, hr0, h0, hsc⟩
        · have hc30 := k6.2.2.1
          have hcn : cnt (up signs k v) 100 = cnt signs 100 + 1 := by rw [cnt_up (by omega), nz_0 c2, nz_1 (by omega)]; omega
          have hw' : rW B (up signs k v) sums := ⟨sg_up k6.1 (by omega), Zf_up k6.2.1 (by omega), by omega, k6.2.2.2.1, k6.2.2.2.2⟩
          obtain ⟨now', last', K', R', undos', uR', uS', q1, q2, q3⟩ := q_keep h0 k6.2.1 k6.2.2.2.1 hw' (Int.le_refl _)
          rw [if_neg c4, if_pos (by omega), chkB (by omega) (by omega), chkI (by omega) (by omega), bind_s, if_neg (show ¬(1 : Int) = 0 by decide), q2, bind_s, chkB (by omega) (by omega)]
          dsimp only
          rw [a2, a3, a4, a5, a6, a7, a8, ← hcn, q1, bind_s]
          exact ⟨_, _, rfl, rfl, rfl, ⟨rfl, rfl, rfl, rfl, rfl, rfl, rfl, rfl⟩, q3, hsc⟩
      · rw [if_neg (fun h => c3 (Or.inl h)), if_neg (fun h => c3 (Or.inr h)), isSign0 c3, bind_s, if_pos rfl, bind_s, if_pos rfl]
        exact ⟨_, _, rfl, rfl, rfl, hr0, h0, hsc⟩
    · rw [isFree0 (p := (k : Int)) (fun h => c2 h.2.2), bind_s, if_pos rfl, bind_s, if_pos rfl]
      have e24 : m_X11_put__24 undos redos signs push sums signs sums uR uS (k : Int) v = some (0, undos, redos, signs, push, sums, signs, uR, uS) := by
        rw [m_X11_put__24, chkB (by omega) (by omega), tn, if_neg c2]
      dsimp only
      rw [e24, ite_self, ite_self]
      exact ⟨_, _, rfl, rfl, rfl, hr0, h0, hsc⟩
  · rw [i0 (by omega), bind_s, if_pos rfl, isFree0 (fun h => c ⟨h.1, h.2.1⟩), bind_s, if_pos rfl, bind_s, if_pos rfl]
    exact ⟨_, _, rfl, rfl, rfl, hr0, h0, hsc⟩

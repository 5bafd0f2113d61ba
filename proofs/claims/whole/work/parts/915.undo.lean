
/-! ===== PURE: undo, redo; the row's own calls ===== -/
theorem sl_sl {n : Nat} {f : Nat → Int} {a : Nat} : Zf n (sl n f a) := Zf_sl
/-- the class's numbers of the row at hand -/
def RRow (fl sl_ go wo ou lo ca : Int) (signs row sums : Nat → Int) : Prop := signs = row ∧ fl = cnt row 100 ∧ sl_ = sums 0 ∧ go = sums 5 ∧ wo = sums 1 ∧ ou = sums 2 ∧ lo = sums 3 ∧ ca = sums 4
theorem pc_undo {B now last undos redos fl s g w o lo ca : Int} {K : Nat → Nat} {R : Nat → RowT} {uR uS rR rS row sums signs cur cS : Nat → Int} (h : RAc B now last K R undos redos uR uS rR rS row sums) (hr : RRow fl s g w o lo ca signs row sums) (hc : Zf 100 cur) (hS : Zf 6 cS) :
    ∃ r r2, m_X10_undo fl s g w o lo ca signs now K R = some r ∧ m_X11_undo undos redos cur cS row sums uR rR uS rS = some r2 ∧ r.1 = r2.1 ∧ RRow r.2.1 r.2.2.1 r.2.2.2.1 r.2.2.2.2.1 r.2.2.2.2.2.1 r.2.2.2.2.2.2.1 r.2.2.2.2.2.2.2.1 r.2.2.2.2.2.2.2.2.1 r2.2.2.2.2.2.1 r2.2.2.2.2.2.2.1 ∧ RAc B r.2.2.2.2.2.2.2.2.2 last K R r2.2.1 r2.2.2.1 uR uS r2.2.2.2.2.2.2.2.1 r2.2.2.2.2.2.2.2.2 r2.2.2.2.2.2.1 r2.2.2.2.2.2.2.1 ∧ Zf 100 r2.2.2.2.1 ∧ Zf 6 r2.2.2.2.2.1 := by
  have h0 := h
  obtain ⟨u, r, e1, e2, e3, e4, e5, k1, k2, k3, k4, k5, k6, k7⟩ := h
  subst e1; subst e2; subst e3; subst e4
  obtain ⟨a1, a2, a3, a4, a5, a6, a7, a8⟩ := hr
  subst a1
  rw [m_X10_undo, m_X10_undo_0, m_X0_goBack, m_X0_goBack_0, m_X11_undo, m_X11_undo_0]
  by_cases hu : u = 0
  · rw [if_neg (by omega), if_pos (by omega), bind_s]
    exact ⟨_, _, rfl, rfl, rfl, ⟨rfl, a2, a3, a4, a5, a6, a7, a8⟩, h0, hc, hS⟩
  · obtain ⟨v, rfl⟩ : ∃ v, u = v + 1 := ⟨u - 1, by omega⟩
    have ev : ((v + 1 : Nat) : Int) - 1 = (v : Int) := by omega
    obtain ⟨⟨b1, b2, b3, b4, b5, b6, b7, b8⟩, b9⟩ := k4 v (by omega)
    have t1 := q_X11_takes (N1 := 100) (N3 := 6) (a := 0) (b := 0) (p1 := signs) (p3 := sums) hc hS (by omega) (by omega)
    rw [sl_z k6.2.1, sl_z k6.2.2.2.1] at t1
    have t2 := q_X11_keeps (N1 := 5000) (N3 := 300) (a := 100 * r) (b := 6 * r) (cur := signs) (cS := sums) (p1 := rR) (p3 := rS) (by omega) (by omega)
    have t3 := q_X11_takes (N1 := 5000) (N3 := 300) (a := 100 * v) (b := 6 * v) (p1 := uR) (p3 := uS) k6.2.1 k6.2.2.2.1 (by omega) (by omega)
    have t4 := q_X11_keeps (N1 := 100) (N3 := 6) (a := 0) (b := 0) (cur := sl 100 uR (100 * v)) (cS := sl 6 uS (6 * v)) (p1 := signs) (p3 := sums) (by omega) (by omega)
    rw [ins_0 k6.2.1 Zf_sl, ins_0 k6.2.2.2.1 Zf_sl] at t4
    rw [if_pos (by omega), if_neg (by omega), ev, chkI (by omega) (by omega), chkB (by omega) (by omega), tn, chk_pos (k1 v (by omega)), q_X6_becomes k6.2.1 (k3 _), bind_s, bind_s]
    have t1' : m_X11_takes 100 6 cur cS signs sums 0 0 = some (signs, sums) := t1
    have t4' : m_X11_keeps 100 6 (sl 100 uR (100 * v)) (sl 6 uS (6 * v)) signs sums 0 0 = some (sl 100 uR (100 * v), sl 6 uS (6 * v)) := t4
    rw [t1', bind_s, chkI (by omega) (by omega), chkI (by omega) (by omega), show (100 * (r : Int)) = ((100 * r : Nat) : Int) by omega, show (6 * (r : Int)) = ((6 * r : Nat) : Int) by omega, t2, bind_s, chkI (by omega) (by omega), chkI (by omega) (by omega), chkI (by omega) (by omega), chkI (by omega) (by omega), show (100 * (v : Int)) = ((100 * v : Nat) : Int) by omega, show (6 * (v : Int)) = ((6 * v : Nat) : Int) by omega, t3, bind_s, t4', bind_s]
    refine ⟨_, _, rfl, rfl, rfl, ⟨b1, b2, b3, b4, b5, b6, b7, b8⟩, ⟨v, r + 1, rfl, by dsimp only; omega, rfl, by omega, by omega, k1, k2, k3, fun i hi => k4 i (by omega), ⟨b1, b2, b3, b4, b5, b6, b7, b8⟩, b9, fun i hi => ?_⟩, Zf_sl, Zf_sl⟩
    dsimp only
    by_cases hir : i < r
    · rw [sl_ins_ne (by omega), sl_ins_ne (by omega), show v + (r + 1) - i = v + 1 + r - i by omega]
      exact k7 i hir
    · obtain rfl : i = r := by omega
      rw [sl_ins k6.2.1, sl_ins k6.2.2.2.1, show v + (i + 1) - i = v + 1 by omega]
      exact ⟨k5, k6⟩
theorem pc_redo {B now last undos redos fl s g w o lo ca : Int} {K : Nat → Nat} {R : Nat → RowT} {uR uS rR rS row sums signs cur cS : Nat → Int} (h : RAc B now last K R undos redos uR uS rR rS row sums) (hr : RRow fl s g w o lo ca signs row sums) (hc : Zf 100 cur) (hS : Zf 6 cS) :
    ∃ r r2, m_X10_redo fl s g w o lo ca signs now last K R = some r ∧ m_X11_redo undos redos cur cS row sums uR rR uS rS = some r2 ∧ r.1 = r2.1 ∧ RRow r.2.1 r.2.2.1 r.2.2.2.1 r.2.2.2.2.1 r.2.2.2.2.2.1 r.2.2.2.2.2.2.1 r.2.2.2.2.2.2.2.1 r.2.2.2.2.2.2.2.2.1 r2.2.2.2.2.2.1 r2.2.2.2.2.2.2.1 ∧ RAc B r.2.2.2.2.2.2.2.2.2 last K R r2.2.1 r2.2.2.1 r2.2.2.2.2.2.2.2.1 r2.2.2.2.2.2.2.2.2 rR rS r2.2.2.2.2.2.1 r2.2.2.2.2.2.2.1 ∧ Zf 100 r2.2.2.2.1 ∧ Zf 6 r2.2.2.2.2.1 := by
  have h0 := h
  obtain ⟨u, r, e1, e2, e3, e4, e5, k1, k2, k3, k4, k5, k6, k7⟩ := h
  subst e1; subst e2; subst e3; subst e4
  obtain ⟨a1, a2, a3, a4, a5, a6, a7, a8⟩ := hr
  subst a1
  rw [m_X10_redo, m_X10_redo_0, m_X0_goOn, m_X0_goOn_0, m_X11_redo, m_X11_redo_0]
  by_cases hu : r = 0
  · rw [if_neg (by omega), if_pos (by omega), bind_s]
    exact ⟨_, _, rfl, rfl, rfl, ⟨rfl, a2, a3, a4, a5, a6, a7, a8⟩, h0, hc, hS⟩
  · obtain ⟨v, rfl⟩ : ∃ v, r = v + 1 := ⟨r - 1, by omega⟩
    have ev : ((v + 1 : Nat) : Int) - 1 = (v : Int) := by omega
    have eu : Int.toNat ((u : Int) + 1) = u + 1 := by omega
    have b0 := k7 v (by omega)
    rw [show u + (v + 1) - v = u + 1 by omega] at b0
    obtain ⟨⟨b1, b2, b3, b4, b5, b6, b7, b8⟩, b9⟩ := b0
    obtain ⟨uR', uS', m1, m2, m3, m4⟩ := q_X11_remembers (uR := uR) (uS := uS) (u := u) (by omega) hc hS k6.2.1 k6.2.2.2.1
    rw [if_pos (by omega)] at m1 m2 m3 m4
    have t3 := q_X11_takes (N1 := 5000) (N3 := 300) (a := 100 * v) (b := 6 * v) (p1 := rR) (p3 := rS) k6.2.1 k6.2.2.2.1 (by omega) (by omega)
    have t4 := q_X11_keeps (N1 := 100) (N3 := 6) (a := 0) (b := 0) (cur := sl 100 rR (100 * v)) (cS := sl 6 rS (6 * v)) (p1 := signs) (p3 := sums) (by omega) (by omega)
    rw [ins_0 k6.2.1 Zf_sl, ins_0 k6.2.2.2.1 Zf_sl] at t4
    have t4' : m_X11_keeps 100 6 (sl 100 rR (100 * v)) (sl 6 rS (6 * v)) signs sums 0 0 = some (sl 100 rR (100 * v), sl 6 rS (6 * v)) := t4
    rw [if_pos (by omega), if_neg (by omega), ev, chkI (by omega) (by omega), chkB (by omega) (by omega), eu, chk_pos (k1 (u + 1) (by omega)), q_X6_becomes k6.2.1 (k3 _), bind_s, bind_s, m1, bind_s, chkI (by omega) (by omega), chkI (by omega) (by omega), chkI (by omega) (by omega), show (100 * (v : Int)) = ((100 * v : Nat) : Int) by omega, show (6 * (v : Int)) = ((6 * v : Nat) : Int) by omega, t3, bind_s, t4', bind_s]
    refine ⟨_, _, rfl, rfl, rfl, ⟨b1, b2, b3, b4, b5, b6, b7, b8⟩, ⟨u + 1, v, rfl, rfl, rfl, by omega, by omega, k1, k2, k3, fun i hi => ?_, ⟨b1, b2, b3, b4, b5, b6, b7, b8⟩, b9, fun i hi => ?_⟩, Zf_sl, Zf_sl⟩
    · dsimp only
      by_cases hiu : i < u
      · have := m2 i (by omega)
        rw [Nat.add_zero] at this
        rw [this.1, this.2]; exact k4 i hiu
      · obtain rfl : i = u := by omega
        rw [Nat.sub_zero] at m3 m4
        rw [m3, m4]; exact ⟨k5, k6⟩
    · rw [show u + 1 + v - i = u + (v + 1) - i by omega]; exact k7 i (by omega)


/-! ===== PURE: trials ===== -/
/-- rows to try on -/
def RTr (K : Nat → Nat) (R : Nat → RowT) : Prop := (∀ i, i < 6 → K i < 6) ∧ (∀ i j, i < 6 → j < 6 → K i = K j → i = j) ∧ ∀ i, Zf 100 (R i).1
theorem zf_up {R : Nat → RowT} {k : Nat} {v : RowT} (h : ∀ i, Zf 100 (R i).1) (hv : Zf 100 v.1) : ∀ i, Zf 100 (up R k v i).1 := fun i => by
  unfold up; split
  · exact hv
  · exact h i
theorem pc_sure {B now last undos redos fl s g w o lo ca m reach bl bh q T : Int} {K Kt : Nat → Nat} {R Rt : Nat → RowT} {uR uS rR rS row sums signs cur pA cS was feel push pushes lows highs sH so slo shi sh other oS : Nat → Int} (h : RAc B now last K R undos redos uR uS rR rS row sums) (hr : RRow fl s g w o lo ca signs row sums) (hg : RGr m reach pushes lows highs sH so bl bh push slo shi sh) (hs : RSc cur pA cS) (hB : B ≤ 18000000) (ht : RTr Kt Rt) (ho1 : Zf 100 other) (ho2 : Zf 6 oS) :
    ∃ r r2, m_X10_sure fl s g w o lo ca signs Kt m reach pushes lows highs sH so Rt q T = some r ∧ m_X11_sure bl bh push slo shi sh cur was feel pA cS row sums other oS q T = some r2 ∧ r.1 = r2.1 ∧ RTr Kt r.2 ∧ RSc r2.2.1 r2.2.2.2.2.1 r2.2.2.2.2.2.1 ∧ Zf 100 r2.2.2.2.2.2.2.1 ∧ Zf 6 r2.2.2.2.2.2.2.2 := by
  have hr0 := hr
  obtain ⟨u, r, e1, e2, e3, e4, e5, k1, k2, k3, k4, k5, k6, k7⟩ := h
  obtain ⟨a1, a2, a3, a4, a5, a6, a7, a8⟩ := hr
  subst a1
  obtain ⟨t1, t2, t3⟩ := ht
  rw [a2, a3, a4, a5, a6, a7, a8, m_X10_sure, m_X10_sure_0, m_X11_sure, m_X11_sure_0]
  by_cases c1 : -9999 ≤ q ∧ q ≤ 9999
  · rw [isPull1 c1.1 c1.2, i1 c1.1 c1.2, bind_s, bind_s, if_neg ne10, if_neg ne10]
    by_cases c2 : 0 ≤ T ∧ T ≤ 200
    · obtain ⟨t, rfl⟩ : ∃ t : Nat, T = (t : Int) := ⟨T.toNat, by omega⟩
      obtain ⟨R0, hR0, hg0⟩ := RGr_gW hg 0
      obtain ⟨R0', hR0', hg1⟩ := RGr_gW hg 1
      obtain rfl : R0 = R0' := by omega
      obtain ⟨g1, g2, g3, g4, g5, g6⟩ := hg
      subst g1
      subst hR0
      obtain ⟨st, ft, x1⟩ := q_X6_runOn (stood := (Rt (Kt 0)).2.1) (felt := (Rt (Kt 0)).2.2.1) (T := t) k6 (by omega) hg0 c1.1 c1.2 g6 (by omega)
      obtain ⟨st', ft', x2⟩ := q_X6_runOn (stood := (Rt (Kt 1)).2.1) (felt := (Rt (Kt 1)).2.2.1) (T := t) k6 (by omega) hg1 c1.1 c1.2 g6 (by omega)
      obtain ⟨y1, y2⟩ := rn_ok (push := pushes) (H := hdM bl bh slo shi 0) (sh := sh) c1.1 c1.2 t k6
      obtain ⟨z1, z2⟩ := rn_ok (push := pushes) (H := hdM bl bh slo shi 1) (sh := sh) c1.1 c1.2 t k6
      obtain ⟨wa, fe, m1⟩ := q_X11_runs (was := was) (feel := feel) (T := t) (side := 0) (sh := sh) k6 (by omega) g3 c1.1 c1.2 (fun k hk => (g5 0 k hk).2) g6.2.2.1 (by omega)
      obtain ⟨wa', fe', m2⟩ := q_X11_runs (was := wa) (feel := fe) (T := t) (side := 1) (sh := sh) k6 (by omega) g3 c1.1 c1.2 (fun k hk => (g5 1 k hk).2) g6.2.2.1 (by omega)
      have n01 : Kt 0 ≠ Kt 1 := fun hh => by have := t2 _ _ (by omega) (by omega) hh; omega
      have m3 := q_X11_keeps (N1 := 100) (N3 := 6) (a := 0) (b := 0) (cur := (rn pushes (hdM bl bh slo shi 0) sh q t (signs, sums)).2.1) (cS := (rn pushes (hdM bl bh slo shi 0) sh q t (signs, sums)).2.2) (p1 := other) (p3 := oS) (by omega) (by omega)
      rw [ins_0 ho1 y1.2.1, ins_0 ho2 y1.2.2.2.1] at m3
      have m3' : m_X11_keeps 100 6 (rn pushes (hdM bl bh slo shi 0) sh q t (signs, sums)).2.1 (rn pushes (hdM bl bh slo shi 0) sh q t (signs, sums)).2.2 other oS 0 0 = some ((rn pushes (hdM bl bh slo shi 0) sh q t (signs, sums)).2.1, (rn pushes (hdM bl bh slo shi 0) sh q t (signs, sums)).2.2) := m3
      obtain ⟨v, v1, v2, v3⟩ := q_X6_standsAs (cur := (rn pushes (hdM bl bh slo shi 0) sh q t (signs, sums)).2.1) (g := (rn pushes (hdM bl bh slo shi 1) sh q t (signs, sums)).2.1) y1.2.1 z1.2.1
      obtain ⟨v', v1', v2', v3'⟩ := q_X11_isAs (N := 100) (cur := (rn pushes (hdM bl bh slo shi 1) sh q t (signs, sums)).2.1) (g := (rn pushes (hdM bl bh slo shi 0) sh q t (signs, sums)).2.1) (by omega) z1.2.1 y1.2.1
      have evv : v = v' := by
        rcases v2 with h | h <;> rcases v2' with h' | h'
        · omega
        · have := v3.mpr (v3'.mp h').symm; omega
        · have := v3'.mpr (v3.mp h).symm; omega
        · omega
      subst evv
      rw [isTicks1 c2.1 c2.2, i1 c2.1 c2.2, bind_s, bind_s, if_neg ne10, if_neg ne10, m_X7_sameByBoth, m_X7_sameByBoth_0, show Int.toNat 0 = 0 from rfl, show Int.toNat 1 = 1 from rfl, chkB (by omega) (by omega), chk_pos (t1 0 (by omega)), q_X6_becomes (t3 _) k6.2.1, bind_s, chkB (by omega) (by omega), chk_pos (t1 1 (by omega))]
      dsimp only
      obtain ⟨U0, hU0⟩ : ∃ U, U = up Rt (Kt 0) (signs, (Rt (Kt 0)).2.1, (Rt (Kt 0)).2.2.1, cnt signs 100, sums 0, sums 5, sums 1, sums 2, sums 3, sums 4) := ⟨_, rfl⟩
      rw [← hU0]
      have f0 : ∀ i, Zf 100 (U0 i).1 := by rw [hU0]; exact zf_up t3 k6.2.1
      have p0 : U0 (Kt 0) = (signs, (Rt (Kt 0)).2.1, (Rt (Kt 0)).2.2.1, cnt signs 100, sums 0, sums 5, sums 1, sums 2, sums 3, sums 4) := by rw [hU0, up_at]
      have p1 : U0 (Kt 1) = Rt (Kt 1) := by rw [hU0, up_ne _ _ n01.symm]
      rw [q_X6_becomes (f0 _) k6.2.1, bind_s, chkB (by omega) (by omega), chk_pos (t1 0 (by omega))]
      dsimp only
      obtain ⟨U1, hU1⟩ : ∃ U, U = up U0 (Kt 1) (signs, (U0 (Kt 1)).2.1, (U0 (Kt 1)).2.2.1, cnt signs 100, sums 0, sums 5, sums 1, sums 2, sums 3, sums 4) := ⟨_, rfl⟩
      rw [← hU1]
      have f1 : ∀ i, Zf 100 (U1 i).1 := by rw [hU1]; exact zf_up f0 k6.2.1
      have p2 : U1 (Kt 0) = (signs, (Rt (Kt 0)).2.1, (Rt (Kt 0)).2.2.1, cnt signs 100, sums 0, sums 5, sums 1, sums 2, sums 3, sums 4) := by rw [hU1, up_ne _ _ n01, p0]
      have p3 : U1 (Kt 1) = (signs, (Rt (Kt 1)).2.1, (Rt (Kt 1)).2.2.1, cnt signs 100, sums 0, sums 5, sums 1, sums 2, sums 3, sums 4) := by rw [hU1, up_at, p1]
      rw [p2]
      dsimp only
      rw [x1, bind_s, chkB (by omega) (by omega), chk_pos (t1 1 (by omega))]
      dsimp only
      obtain ⟨U2, hU2⟩ : ∃ U, U = up U1 (Kt 0) ((rn pushes (hdM bl bh slo shi 0) sh q t (signs, sums)).2.1, st, ft, cnt (rn pushes (hdM bl bh slo shi 0) sh q t (signs, sums)).2.1 100, (rn pushes (hdM bl bh slo shi 0) sh q t (signs, sums)).2.2 0, (rn pushes (hdM bl bh slo shi 0) sh q t (signs, sums)).2.2 5, (rn pushes (hdM bl bh slo shi 0) sh q t (signs, sums)).2.2 1, (rn pushes (hdM bl bh slo shi 0) sh q t (signs, sums)).2.2 2, (rn pushes (hdM bl bh slo shi 0) sh q t (signs, sums)).2.2 3, (rn pushes (hdM bl bh slo shi 0) sh q t (signs, sums)).2.2 4) := ⟨_, rfl⟩
      rw [← hU2]
      have f2 : ∀ i, Zf 100 (U2 i).1 := by rw [hU2]; exact zf_up f1 y1.2.1
      have p4 : U2 (Kt 0) = ((rn pushes (hdM bl bh slo shi 0) sh q t (signs, sums)).2.1, st, ft, cnt (rn pushes (hdM bl bh slo shi 0) sh q t (signs, sums)).2.1 100, (rn pushes (hdM bl bh slo shi 0) sh q t (signs, sums)).2.2 0, (rn pushes (hdM bl bh slo shi 0) sh q t (signs, sums)).2.2 5, (rn pushes (hdM bl bh slo shi 0) sh q t (signs, sums)).2.2 1, (rn pushes (hdM bl bh slo shi 0) sh q t (signs, sums)).2.2 2, (rn pushes (hdM bl bh slo shi 0) sh q t (signs, sums)).2.2 3, (rn pushes (hdM bl bh slo shi 0) sh q t (signs, sums)).2.2 4) := by rw [hU2, up_at]
      have p5 : U2 (Kt 1) = (signs, (Rt (Kt 1)).2.1, (Rt (Kt 1)).2.2.1, cnt signs 100, sums 0, sums 5, sums 1, sums 2, sums 3, sums 4) := by rw [hU2, up_ne _ _ n01.symm, p3]
      rw [p5]
      dsimp only
      rw [x2, bind_s, chkB (by omega) (by omega), chk_pos (t1 0 (by omega)), chkB (by omega) (by omega), chk_pos (t1 1 (by omega)), chk_pos n01]
      dsimp only
      obtain ⟨U3, hU3⟩ : ∃ U, U = up U2 (Kt 1) ((rn pushes (hdM bl bh slo shi 1) sh q t (signs, sums)).2.1, st', ft', cnt (rn pushes (hdM bl bh slo shi 1) sh q t (signs, sums)).2.1 100, (rn pushes (hdM bl bh slo shi 1) sh q t (signs, sums)).2.2 0, (rn pushes (hdM bl bh slo shi 1) sh q t (signs, sums)).2.2 5, (rn pushes (hdM bl bh slo shi 1) sh q t (signs, sums)).2.2 1, (rn pushes (hdM bl bh slo shi 1) sh q t (signs, sums)).2.2 2, (rn pushes (hdM bl bh slo shi 1) sh q t (signs, sums)).2.2 3, (rn pushes (hdM bl bh slo shi 1) sh q t (signs, sums)).2.2 4) := ⟨_, rfl⟩
      rw [← hU3]
      have f3 : ∀ i, Zf 100 (U3 i).1 := by rw [hU3]; exact zf_up f2 z1.2.1
      have p6 : (U3 (Kt 0)).1 = (rn pushes (hdM bl bh slo shi 0) sh q t (signs, sums)).2.1 := by rw [hU3, up_ne _ _ n01, p4]
      have p7 : (U3 (Kt 1)).1 = (rn pushes (hdM bl bh slo shi 1) sh q t (signs, sums)).2.1 := by rw [hU3, up_at]
      rw [p6, p7, v1, bind_s, bind_s, q_X11_atHand g2 hs.2.1 hs.1 hs.2.2 k6.2.1 k6.2.2.2.1, bind_s]
      dsimp only
      rw [m1, bind_s]
      dsimp only
      rw [m3', bind_s, q_X11_atHand g2 g2 y1.2.1 y1.2.2.2.1 k6.2.1 k6.2.2.2.1, bind_s]
      dsimp only
      rw [m2, bind_s]
      dsimp only
      rw [v1', bind_s]
      by_cases c3 : v = 0
      · rw [if_pos c3, if_pos c3]
        exact ⟨_, _, rfl, rfl, rfl, ⟨t1, t2, f3⟩, ⟨z1.2.1, g2, z1.2.2.2.1⟩, y1.2.1, y1.2.2.2.1⟩
      · rw [if_neg c3, if_neg c3]
        exact ⟨_, _, rfl, rfl, rfl, ⟨t1, t2, f3⟩, ⟨z1.2.1, g2, z1.2.2.2.1⟩, y1.2.1, y1.2.2.2.1⟩
    · rw [isTicks0 c2, i0 c2, bind_s, bind_s, if_pos rfl, if_pos rfl]
      exact ⟨_, _, rfl, rfl, rfl, ⟨t1, t2, t3⟩, hs, ho1, ho2⟩
  · rw [isPull0 c1, i0 c1, bind_s, bind_s, if_pos rfl, if_pos rfl]
    exact ⟨_, _, rfl, rfl, rfl, ⟨t1, t2, t3⟩, hs, ho1, ho2⟩
/-- pulls found -/
def RAi (bm : Int) (best : Nat → Int) (am : Int) (aimed : Nat → Int) : Prop := ∃ n : Nat, bm = (n : Int) ∧ am = (n : Int) ∧ n ≤ 5 ∧ ∀ i, i < n → best i = aimed i
theorem pc_aimed {bm am : Int} {best aimed : Nat → Int} (h : RAi bm best am aimed) (v : Int) : ∃ r, m_X10_aimed bm best v = some r ∧ m_X11_aimed am aimed v = some r := by
  obtain ⟨n, rfl, rfl, h3, h4⟩ := h
  rw [m_X10_aimed, m_X10_aimed_0, m_X7_pullFound, m_X7_pullFound_0, m_X11_aimed, m_X11_aimed_0, chkI (by omega) (by omega), chkI (by omega) (by omega)]
  by_cases c : 0 ≤ v ∧ v < n
  · obtain ⟨k, rfl⟩ : ∃ k : Nat, v = (k : Int) := ⟨v.toNat, by omega⟩
    rw [w1 (by omega) (by omega), i1 (by omega) (by omega), bind_s, bind_s, if_neg ne10, if_neg ne10, chkB (by omega) (by omega), chkB (by omega) (by omega), bind_s, tn, h4 k (by omega)]
    exact ⟨_, rfl, rfl⟩
  · rw [w0 (by omega), i0 (by omega), bind_s, bind_s, if_pos rfl, if_pos rfl, bind_s]
    exact ⟨_, rfl, rfl⟩
/-- the push of a code at distance i, of n, in steps of s -/
def cd (n i code : Nat) : Nat := code / 8 ^ (n - 1 - i) % 8
/-- pushes found: the class keeps codes, the model pushes -/
def RFi (dm ps fm : Int) (found : Nat → Int) (fits fitOf : Int) (fitted : Nat → Int) : Prop := ∃ n f : Nat, dm = (n : Int) ∧ fitOf = (n : Int) ∧ n ≤ 3 ∧ fm = (f : Int) ∧ fits = (f : Int) ∧ f ≤ 512 ∧ 0 ≤ ps ∧ ps ≤ 100 ∧ ∀ k, k < f → ∃ c : Nat, c < 512 ∧ found k = (c : Int) ∧ ∀ i, i < n → fitted (3 * k + i) = (cd n i c : Nat) * ps
theorem bsh7 : ∀ (j : Fin 3) (c : Fin 512), bAnd (bShr (c.val : Int) (3 * (j.val : Int))) 7 = ((c.val / 8 ^ j.val % 8 : Nat) : Int) := by decide +kernel
theorem q_pushOf {n c i : Nat} {ps : Int} (hn : n ≤ 3) (hi : i < n) (hc : c < 512) (hp : 0 ≤ ps ∧ ps ≤ 100) : m_X7_pushOf (n : Int) ps (c : Int) (i : Int) = some (((cd n i c : Nat) : Int) * ps) := by
  have h := bsh7 ⟨n - 1 - i, by omega⟩ ⟨c, hc⟩
  dsimp only at h
  have e : (3 * ((n : Int) - 1 - (i : Int))) = 3 * ((n - 1 - i : Nat) : Int) := by omega
  have hb : ((cd n i c : Nat) : Int) ≤ 7 := by unfold cd; omega
  have mb := mul_bd (a := ((cd n i c : Nat) : Int)) (b := ps) (A := 7) (B := 100) (by omega) hb (by omega) hp.2
  rw [m_X7_pushOf, m_X7_pushOf_0, e, h]
  exact chkI (by unfold cd at mb; omega) (by unfold cd at mb; omega)
theorem pc_fitted {dm ps fm fits fitOf : Int} {found fitted : Nat → Int} (h : RFi dm ps fm found fits fitOf fitted) (k i : Int) : ∃ r, m_X10_fitted dm ps fm found k i = some r ∧ m_X11_fitted fits fitOf fitted k i = some r := by
  obtain ⟨n, f, rfl, rfl, h3, rfl, rfl, h6, h7, h8, h9⟩ := h
  rw [m_X10_fitted, m_X10_fitted_0, m_X7_pushFound, m_X7_pushFound_0, m_X11_fitted, m_X11_fitted_0]
  simp (disch := omega) only [chkI]
  by_cases c : 0 ≤ k ∧ k < f
  · obtain ⟨k, rfl⟩ : ∃ j : Nat, k = (j : Int) := ⟨k.toNat, by omega⟩
    rw [w1 (by omega) (by omega), i1 (by omega) (by omega), bind_s, bind_s, if_neg ne10, if_neg ne10]
    by_cases c2 : 0 ≤ i ∧ i < n
    · obtain ⟨i, rfl⟩ : ∃ j : Nat, i = (j : Int) := ⟨i.toNat, by omega⟩
      obtain ⟨c, c3, c4, c5⟩ := h9 k (by omega)
      rw [w1 (by omega) (by omega), i1 (by omega) (by omega), bind_s, bind_s, if_neg ne10, if_neg ne10, m_X7_pushFound_33, if_neg ne10, chkB (by omega) (by omega), chkB (by omega) (by omega), tn, c4, q_pushOf h3 (by omega) c3 ⟨h7, h8⟩, bind_s, bind_s, show Int.toNat (3 * (k : Int) + (i : Int)) = 3 * k + i by omega, c5 i (by omega)]
      exact ⟨_, rfl, rfl⟩
    · rw [w0 (by omega), i0 (by omega), bind_s, bind_s, if_pos rfl, if_pos rfl, m_X7_pushFound_32, m_X7_pushFound_33, if_pos rfl, bind_s]
      exact ⟨_, rfl, rfl⟩
  · rw [w0 (by omega), i0 (by omega), bind_s, bind_s, if_pos rfl, if_pos rfl, m_X7_pushFound_32, m_X7_pushFound_33, if_pos rfl, bind_s]
    exact ⟨_, rfl, rfl⟩


/-! ===== PURE: shields, cracks ===== -/
def shS (row push : Nat → Int) (l n : Nat) : Int := sm (fun d => row (l + (d + 1)) * push (d + 1)) n
theorem sh_bd {row push : Nat → Int} (hs : sg row) (hp : pW push) (l n : Nat) : n * (-999) ≤ shS row push l n ∧ shS row push l n ≤ n * 999 :=
  sm_bd (fun j _ => by
    have h1 := hs (l + (j + 1))
    have h2 := hp (j + 1)
    have := mul_bd (a := row (l + (j + 1))) (b := push (j + 1)) (A := 1) (B := 999) h1.1 h1.2 (by omega) h2.2
    omega)
theorem sh_s (row push : Nat → Int) (l n : Nat) : shS row push l (n + 1) = shS row push l n + row (l + (n + 1)) * push (n + 1) := rfl
theorem q_X6_shieldOf {row push : Nat → Int} {R l : Nat} (hR : R ≤ 20) (hz : ∀ d, R < d → d ≤ 20 → push d = 0) (hs : sg row) (hp : pW push) (hl : l ≤ 60) : m_X6_shieldOf row (R : Int) push (l : Int) = some (shS row push l 20) := by
  rw [m_X6_shieldOf, m_X6_shieldOf_0]
  have hb := sh_bd (l := l) hs hp
  have e : ∀ k, R + k ≤ 20 → shS row push l (R + k) = shS row push l R := by
    intro k
    induction k with
    | zero => intro _; rfl
    | succ k ih => intro h; rw [← Nat.add_assoc, sh_s, ih (by omega), hz _ (by omega) (by omega), Int.mul_zero, Int.add_zero]
  have e2 := e (20 - R) (by omega)
  rw [show R + (20 - R) = 20 by omega] at e2
  rw [e2]
  exact loop_up R (fun F i => m_X6_shieldOf_5 row (R : Int) push (l : Int) (fun v3' v4' => m_X6_shieldOf_38 v3') F (shS row push l i) ((i : Int) + 1)) (fun _ => some (shS row push l R)) (fun F => by
    show m_X6_shieldOf_5 _ _ _ _ _ (F + 1) _ _ = _
    rw [m_X6_shieldOf_5, if_pos (by omega)]) (fun F i hi ih => by
    show m_X6_shieldOf_5 _ _ _ _ _ (F + 1) _ _ = _
    have b0 := hb (i + 1)
    rw [sh_s] at ih b0
    rw [m_X6_shieldOf_5, if_neg (by omega), chkI (by omega) (by omega), q_X6_signAt, if_pos (by omega), bind_s, m_X3_pushAt, m_X3_pushAt_0, isDistance1 (by omega) (by omega), bind_s, if_neg ne10, chkB (by omega) (by omega), bind_s, show Int.toNat ((i : Int) + 1) = i + 1 by omega, show Int.toNat ((l : Int) + ((i : Int) + 1)) = l + (i + 1) by omega, chkI (by omega) (by omega), chkI (by omega) (by omega)]
    exact ih) R FU 0 (by omega) (by unfold FU; omega)
theorem q_X11_shieldAt {row push : Nat → Int} {l : Nat} (hs : sg row) (hp : pW push) (hl : l ≤ 60) : m_X11_shieldAt push row (l : Int) = some (shS row push l 20) := by
  rw [m_X11_shieldAt, m_X11_shieldAt_0]
  have hb := sh_bd (l := l) hs hp
  have key := loop_up 20 (fun F i => m_X11_shieldAt_4 push row (l : Int) (fun v2' v3' => m_X11_shieldAt_42 v2') F (shS row push l i) ((i : Int) + 1)) (fun _ => some (shS row push l 20)) (fun F => by
    show m_X11_shieldAt_4 _ _ _ _ (F + 1) _ _ = _
    rw [m_X11_shieldAt_4, if_pos (by omega)]) (fun F i hi ih => by
    show m_X11_shieldAt_4 _ _ _ _ (F + 1) _ _ = _
    have b0 := hb (i + 1)
    rw [sh_s row push l i] at ih b0
    rw [m_X11_shieldAt_4, if_neg (by omega), chkI (by omega) (by omega), if_neg (by omega), chkB (by omega) (by omega), chkB (by omega) (by omega), show Int.toNat ((i : Int) + 1) = i + 1 by omega, show Int.toNat ((l : Int) + ((i : Int) + 1)) = l + (i + 1) by omega, chkI (by omega) (by omega), chkI (by omega) (by omega)]
    exact ih) 20 FU 0 (by omega) (by unfold FU; omega)
  rw [show shS row push l 0 = 0 from rfl] at key
  exact key
theorem pc_shield {m reach bl bh : Int} {pushes lows highs sH so push slo shi sh row signs : Nat → Int} (hg : RGr m reach pushes lows highs sH so bl bh push slo shi sh) (hr : signs = row) (hs : sg row) (v : Int) : ∃ r, m_X10_shield signs reach pushes v = some r ∧ m_X11_shield push row v = some r := by
  obtain ⟨rfl, h2, h3, ⟨R, rfl, hR, hz⟩, h5, h6⟩ := hg
  subst hr
  rw [m_X10_shield, m_X10_shield_0, m_X11_shield, m_X11_shield_0]
  by_cases c : 0 ≤ v ∧ v ≤ 60
  · obtain ⟨l, rfl⟩ : ∃ l : Nat, v = (l : Int) := ⟨v.toNat, by omega⟩
    rw [isLength1 c.1 c.2, i1 c.1 c.2, bind_s, bind_s, if_neg ne10, if_neg ne10, q_X6_shieldOf hR hz hs h3 (by omega), q_X11_shieldAt hs h3 (by omega), bind_s]
    exact ⟨_, rfl, rfl⟩
  · rw [isLength0 c, i0 c, bind_s, bind_s, if_pos rfl, if_pos rfl]
    exact ⟨_, rfl, rfl⟩
theorem pc_crack {m reach bl bh : Int} {pushes lows highs sH so push slo shi sh row signs : Nat → Int} (hg : RGr m reach pushes lows highs sH so bl bh push slo shi sh) (hr : signs = row) (hs : sg row) (v k lo hi : Int) : ∃ r, m_X10_crack signs reach pushes v k lo hi = some r ∧ m_X11_crack push row v k lo hi = some r := by
  obtain ⟨rfl, h2, h3, ⟨R, rfl, hR, hz⟩, h5, h6⟩ := hg
  subst hr
  rw [m_X10_crack, m_X10_crack_0, m_X11_crack, m_X11_crack_0]
  by_cases c : 0 ≤ v ∧ v ≤ 60
  · obtain ⟨l, rfl⟩ : ∃ l : Nat, v = (l : Int) := ⟨v.toNat, by omega⟩
    rw [isLength1 c.1 c.2, i1 c.1 c.2, bind_s, bind_s, if_neg ne10, if_neg ne10]
    by_cases c2 : -9999 ≤ k ∧ k ≤ 9999
    · rw [isPull1 c2.1 c2.2, i1 c2.1 c2.2, bind_s, bind_s, if_neg ne10, if_neg ne10]
      by_cases c3 : 0 ≤ lo ∧ lo ≤ 9999
      · rw [isForce1 c3.1 c3.2, i1 c3.1 c3.2, bind_s, bind_s, if_neg ne10, if_neg ne10]
        have hb := sh_bd (l := l) hs h3 20
        by_cases c4 : 0 ≤ hi ∧ hi ≤ 9999
        · rw [isForce1 c4.1 c4.2, bind_s, if_neg ne10]
          by_cases c5 : lo ≤ hi
          · rw [if_pos c5, i1 c5 c4.2, bind_s, if_neg ne10, q_X6_shieldOf hR hz hs h3 (by omega), q_X11_shieldAt hs h3 (by omega), bind_s, bind_s, chkI (by omega) (by omega), chkI (by omega) (by omega)]
            by_cases c6 : k - shS signs pushes l 20 ≤ hi
            · rw [if_pos c6, if_pos c6]
              by_cases c7 : k - shS signs pushes l 20 ≤ lo
              · rw [if_pos c7, if_neg (by omega)]; exact ⟨_, rfl, rfl⟩
              · rw [if_neg c7, if_pos (by omega)]; exact ⟨_, rfl, rfl⟩
            · rw [if_neg c6, if_neg c6]; exact ⟨_, rfl, rfl⟩
          · rw [if_neg c5, i0 (by omega), bind_s, if_pos rfl]; exact ⟨_, rfl, rfl⟩
        · rw [isForce0 c4, i0 (by omega), bind_s, bind_s, if_pos rfl, if_pos rfl]; exact ⟨_, rfl, rfl⟩
      · rw [isForce0 c3, i0 c3, bind_s, bind_s, if_pos rfl, if_pos rfl]; exact ⟨_, rfl, rfl⟩
    · rw [isPull0 c2, i0 c2, bind_s, bind_s, if_pos rfl, if_pos rfl]; exact ⟨_, rfl, rfl⟩
  · rw [isLength0 c, i0 c, bind_s, bind_s, if_pos rfl, if_pos rfl]
    exact ⟨_, rfl, rfl⟩
theorem pc_runsTo {m reach bl bh : Int} {pushes lows highs sH so push slo shi sh row signs : Nat → Int} (hg : RGr m reach pushes lows highs sH so bl bh push slo shi sh) (hr : signs = row) (hs : sg row) (v k lo hi : Int) : ∃ r, m_X10_runsTo signs reach pushes v k lo hi = some r ∧ m_X11_runsTo push row v k lo hi = some r := by
  obtain ⟨rfl, h2, h3, ⟨R, rfl, hR, hz⟩, h5, h6⟩ := hg
  subst hr
  rw [m_X10_runsTo, m_X10_runsTo_0, m_X11_runsTo, m_X11_runsTo_0]
  by_cases c : 0 ≤ v ∧ v ≤ 60
  · obtain ⟨l, rfl⟩ : ∃ l : Nat, v = (l : Int) := ⟨v.toNat, by omega⟩
    rw [isLength1 c.1 c.2, i1 c.1 c.2, bind_s, bind_s, if_neg ne10, if_neg ne10]
    by_cases c2 : -9999 ≤ k ∧ k ≤ 9999
    · rw [isPull1 c2.1 c2.2, i1 c2.1 c2.2, bind_s, bind_s, if_neg ne10, if_neg ne10]
      by_cases c3 : 0 ≤ lo ∧ lo ≤ 9999
      · rw [isForce1 c3.1 c3.2, i1 c3.1 c3.2, bind_s, bind_s, if_neg ne10, if_neg ne10]
        by_cases c4 : 0 ≤ hi ∧ hi ≤ 999
        · rw [w1 c4.1 c4.2, i1 c4.1 c4.2, bind_s, bind_s, if_neg ne10, if_neg ne10, m_X6_crackEnd, m_X6_crackEnd_0]
          have key := loop_p 60 (fun F i => ∀ z : Int, -9999 - 999 * (i : Int) ≤ z → z ≤ 9999 → ∃ r, m_X6_crackEnd_6 signs (R : Int) pushes lo hi (fun v6' v7' => m_X6_crackEnd_52 v6') F (i : Int) z = some r ∧ m_X11_runsTo_54 pushes signs lo hi (fun v5' v6' => m_X11_runsTo_99 v5') F (i : Int) z = some r) (fun F z _ _ => by
            rw [m_X6_crackEnd_6, m_X11_runsTo_54, if_pos (by omega), if_pos (by omega)]; exact ⟨_, rfl, rfl⟩) (fun F i hi' ih _ z hz1 hz2 => by
            have hb := sh_bd (l := i) hs h3 20
            have ei : Int.toNat ((i : Int) + 1) = i + 1 := by omega
            rw [m_X6_crackEnd_6, m_X11_runsTo_54, if_neg (by omega), if_neg (by omega), chkI (by omega) (by omega), q_X11_shieldAt hs h3 (by omega), bind_s, chkI (by omega) (by omega)]
            by_cases d1 : signs (i + 1) = 0
            · rw [isFree1 (p := (i : Int) + 1) ⟨by omega, by omega, by rw [ei]; exact d1⟩, bind_s, if_neg ne10, q_X6_shieldOf hR hz hs h3 (by omega), bind_s, chkI (by omega) (by omega), chkI (by omega) (by omega)]
              by_cases d2 : z - shS signs pushes i 20 ≤ lo
              · rw [if_pos d2, if_pos d2]; exact ⟨_, rfl, rfl⟩
              · rw [if_neg d2, if_neg d2, chkI (by omega) (by omega), chkB (by omega) (by omega), ei, if_pos d1]
                exact ih (z - hi) (by omega) (by omega)
            · rw [isFree0 (p := (i : Int) + 1) (fun h => d1 (by rw [ei] at h; exact h.2.2)), bind_s, if_pos rfl, chkI (by omega) (by omega)]
              by_cases d2 : z - shS signs pushes i 20 ≤ lo
              · rw [if_pos d2]; exact ⟨_, rfl, rfl⟩
              · rw [if_neg d2, chkB (by omega) (by omega), ei, if_neg d1]; exact ⟨_, rfl, rfl⟩) (60 - l) FU l (by omega) (by unfold FU; omega) k (by omega) (by omega)
          obtain ⟨r, x1, x2⟩ := key
          rw [x1, x2, bind_s]
          exact ⟨_, rfl, rfl⟩
        · rw [w0 c4, i0 c4, bind_s, bind_s, if_pos rfl, if_pos rfl]; exact ⟨_, rfl, rfl⟩
      · rw [isForce0 c3, i0 c3, bind_s, bind_s, if_pos rfl, if_pos rfl]; exact ⟨_, rfl, rfl⟩
    · rw [isPull0 c2, i0 c2, bind_s, bind_s, if_pos rfl, if_pos rfl]; exact ⟨_, rfl, rfl⟩
  · rw [isLength0 c, i0 c, bind_s, bind_s, if_pos rfl, if_pos rfl]
    exact ⟨_, rfl, rfl⟩


/-! ===== PURE: fit ===== -/
theorem pc_fit {B now last undos redos fl s g w o lo ca m reach bl bh mfl ms mg mw mo mlo mca dm ps fm fits fitOf gsm greach v1 a b c v5 q T : Int} {K Kt : Nat → Nat} {R Rt : Nat → RowT} {uR uS rR rS row sums signs cur pA cS was feel push pushes lows highs sH so slo shi sh mkc mk dist dist2 found fitted gp gtold glows ghighs gsH gso : Nat → Int} (h : RAc B now last K R undos redos uR uS rR rS row sums) (hr : RRow fl s g w o lo ca signs row sums) (hg : RGr m reach pushes lows highs sH so bl bh push slo shi sh) (hs : RSc cur pA cS) (hB : B ≤ 18000000) (ht : RTr Kt Rt) (hmk : RMk mfl ms mg mw mo mlo mca mkc mk) (hgp : Zf 21 gp) (hfi : RFi dm ps fm found fits fitOf fitted) :
    ∃ r r2, m_X10_fit signs mfl ms mg mw mo mlo mca mkc dm ps fm Kt gsm greach gp gtold glows ghighs gsH gso dist found m reach pushes lows highs sH so Rt v1 a b c v5 q T = some r ∧ m_X11_fit bl bh fits fitOf push slo shi sh cur was feel pA cS row mk sums dist2 fitted v1 a b c v5 q T = some r2 ∧ r.1 = r2.1 ∧ RTr Kt r.2.2.2.2.2.2.2.2.2.2.2.2.2.2 ∧ Zf 21 r.2.2.2.2.2.2.1 ∧ RFi r.2.1 r.2.2.1 r.2.2.2.1 r.2.2.2.2.2.2.2.2.2.2.2.2.2.1 r2.2.1 r2.2.2.1 r2.2.2.2.2.2.2.2.2.2 ∧ RSc r2.2.2.2.1 r2.2.2.2.2.2.2.1 r2.2.2.2.2.2.2.2.1 := by
  obtain ⟨u, r, e1, e2, e3, e4, e5, k1, k2, k3, k4, k5, k6, k7⟩ := h
  obtain ⟨a1, a2, a3, a4, a5, a6, a7, a8⟩ := hr
  subst a1
  obtain ⟨g1, g2, g3, ⟨R0, g41, g42, g43⟩, g5, g6⟩ := hg
  subst g1
  subst g41
  obtain ⟨b1, b2, b3, b4, b5, b6, b7, b8, b9, b10, b11⟩ := hmk
  subst b1
  rw [b5, b6, b7, b8, b9, b10, b11, m_X10_fit, m_X10_fit_0, m_X11_fit, m_X11_fit_0]
  have hm0 := rW0 b2 b3 b4
  have hm : rW B mkc sums := ⟨b2, b3, b4, k6.2.2.2⟩
  have hH : ∀ k, k < 100 → lows k = hdM bl bh slo shi 0 k ∧ 0 ≤ hdM bl bh slo shi 0 k ∧ hdM bl bh slo shi 0 k ≤ 9999 := fun k hk => by
    have := g5 0 k hk
    rw [if_pos rfl] at this
    exact this
  by_cases c1 : 1 ≤ v1 ∧ v1 ≤ 3
  · obtain ⟨n, rfl⟩ : ∃ i : Nat, v1 = (i : Int) := ⟨v1.toNat, by omega⟩
    rw [w1 c1.1 c1.2, i1 c1.1 c1.2, bind_s, bind_s, if_neg ne10, if_neg ne10]
    by_cases c2 : 1 ≤ v5 ∧ v5 ≤ 100
    · rw [w1 c2.1 c2.2, i1 c2.1 c2.2, bind_s, bind_s, if_neg ne10, if_neg ne10]
      by_cases c3 : -9999 ≤ q ∧ q ≤ 9999
      · rw [isPull1 c3.1 c3.2, i1 c3.1 c3.2, bind_s, bind_s, if_neg ne10, if_neg ne10]
        by_cases c4 : 0 ≤ T ∧ T ≤ 200
        · obtain ⟨t, rfl⟩ : ∃ i : Nat, T = (i : Int) := ⟨T.toNat, by omega⟩
          rw [isTicks1 c4.1 c4.2, i1 c4.1 c4.2, bind_s, bind_s, if_neg ne10, if_neg ne10]
          by_cases c5 : 1 ≤ a ∧ a ≤ 20
          · rw [isDistance1 c5.1 c5.2, i1 c5.1 c5.2, bind_s, bind_s, if_neg ne10, if_neg ne10]
            have v0 : (up (up (up dist (Int.toNat 0) a) (Int.toNat 1) b) (Int.toNat 2) c) 0 = a := rfl
            have v1 : (up (up (up dist (Int.toNat 0) a) (Int.toNat 1) b) (Int.toNat 2) c) 1 = b := rfl
            have v2 : (up (up (up dist (Int.toNat 0) a) (Int.toNat 1) b) (Int.toNat 2) c) 2 = c := rfl
            have main : (∀ i, i < n → 1 ≤ (up (up (up dist (Int.toNat 0) a) (Int.toNat 1) b) (Int.toNat 2) c) i ∧ (up (up (up dist (Int.toNat 0) a) (Int.toNat 1) b) (Int.toNat 2) c) i ≤ 20) → (∀ i j, i < n → j < n → (up (up (up dist (Int.toNat 0) a) (Int.toNat 1) b) (Int.toNat 2) c) i = (up (up (up dist (Int.toNat 0) a) (Int.toNat 1) b) (Int.toNat 2) c) j → i = j) → _ := fun hD hDD => q_fit91 (dm := dm) (ps := ps) (fm := fm) (fits := fits) (fitOf := fitOf) (was := was) (feel := feel) (dist := dist) (dist2 := dist2) (found := found) (fitted := fitted) (gtold := gtold) (glows := glows) (ghighs := ghighs) (gsH := gsH) (gso := gso) (gsm := gsm) (greach := greach) (R0 := R0) (bl := bl) (bh := bh) (highs := highs) (show 1 ≤ n ∧ n ≤ 3 by omega) c2 hD hDD g2 g3 (show t ≤ 200 by omega) c3 hH g6 hm0 hm hB k6.2.1 ht hs hgp
            by_cases d1 : n ≤ 1
            · rw [if_pos (show (n : Int) ≤ 1 by omega), if_pos (show (n : Int) ≤ 1 by omega), m_X10_fit_64, m_X11_fit_78, if_pos (show (n : Int) ≤ 2 by omega), if_pos (show (n : Int) ≤ 2 by omega)]
              exact main (fun i hi => by
                obtain rfl : i = 0 := by omega
                rw [v0]; exact c5) (fun i j hi hj _ => by omega)
            · rw [if_neg (show ¬ (n : Int) ≤ 1 by omega), if_neg (show ¬ (n : Int) ≤ 1 by omega)]
              by_cases c6 : 1 ≤ b ∧ b ≤ 20
              · rw [isDistance1 c6.1 c6.2, i1 c6.1 c6.2, bind_s, bind_s, if_neg ne10, if_neg ne10]
                by_cases c7 : b = a
                · rw [if_pos c7, if_pos c7]
                  exact ⟨_, _, rfl, rfl, rfl, ht, hgp, hfi, hs⟩
                · rw [if_neg c7, if_neg c7, m_X10_fit_64, m_X11_fit_78]
                  by_cases d2 : n ≤ 2
                  · rw [if_pos (show (n : Int) ≤ 2 by omega), if_pos (show (n : Int) ≤ 2 by omega)]
                    exact main (fun i hi => by
                      rcases (by omega : i = 0 ∨ i = 1) with h | h <;> subst h
                      · rw [v0]; exact c5
                      · rw [v1]; exact c6) (fun i j hi hj hh => by
                      rcases (by omega : i = 0 ∨ i = 1) with h | h <;> rcases (by omega : j = 0 ∨ j = 1) with h' | h' <;> subst h <;> subst h'
                      · rfl
                      · rw [v0, v1] at hh; exact absurd hh.symm c7
                      · rw [v0, v1] at hh; exact absurd hh c7
                      · rfl)
                  · rw [if_neg (show ¬ (n : Int) ≤ 2 by omega), if_neg (show ¬ (n : Int) ≤ 2 by omega)]
                    by_cases c8 : 1 ≤ c ∧ c ≤ 20
                    · rw [isDistance1 c8.1 c8.2, i1 c8.1 c8.2, bind_s, bind_s, if_neg ne10, if_neg ne10]
                      by_cases c9 : c = a
                      · rw [if_pos c9, if_pos c9]
                        exact ⟨_, _, rfl, rfl, rfl, ht, hgp, hfi, hs⟩
                      · rw [if_neg c9, if_neg c9]
                        by_cases c10 : c = b
                        · rw [if_pos c10, if_pos c10]
                          exact ⟨_, _, rfl, rfl, rfl, ht, hgp, hfi, hs⟩
                        · rw [if_neg c10, if_neg c10]
                          exact main (fun i hi => by
                            rcases (by omega : i = 0 ∨ i = 1 ∨ i = 2) with h | h | h <;> subst h
                            · rw [v0]; exact c5
                            · rw [v1]; exact c6
                            · rw [v2]; exact c8) (fun i j hi hj hh => by
                            rcases (by omega : i = 0 ∨ i = 1 ∨ i = 2) with h | h | h <;> rcases (by omega : j = 0 ∨ j = 1 ∨ j = 2) with h' | h' | h' <;> subst h <;> subst h' <;> first | rfl | (simp only [v0, v1, v2] at hh; omega))
                    · rw [isDistance0 c8, i0 c8, bind_s, bind_s, if_pos rfl, if_pos rfl]
                      exact ⟨_, _, rfl, rfl, rfl, ht, hgp, hfi, hs⟩
              · rw [isDistance0 c6, i0 c6, bind_s, bind_s, if_pos rfl, if_pos rfl]
                exact ⟨_, _, rfl, rfl, rfl, ht, hgp, hfi, hs⟩
          · rw [isDistance0 c5, i0 c5, bind_s, bind_s, if_pos rfl, if_pos rfl]
            exact ⟨_, _, rfl, rfl, rfl, ht, hgp, hfi, hs⟩
        · rw [isTicks0 c4, i0 c4, bind_s, bind_s, if_pos rfl, if_pos rfl]
          exact ⟨_, _, rfl, rfl, rfl, ht, hgp, hfi, hs⟩
      · rw [isPull0 c3, i0 c3, bind_s, bind_s, if_pos rfl, if_pos rfl]
        exact ⟨_, _, rfl, rfl, rfl, ht, hgp, hfi, hs⟩
    · rw [w0 c2, i0 c2, bind_s, bind_s, if_pos rfl, if_pos rfl]
      exact ⟨_, _, rfl, rfl, rfl, ht, hgp, hfi, hs⟩
  · rw [w0 c1, i0 c1, bind_s, bind_s, if_pos rfl, if_pos rfl]
    exact ⟨_, _, rfl, rfl, rfl, ht, hgp, hfi, hs⟩


/-! ===== PURE: the greatest share, class and model ===== -/
theorem fS_skip {ok A D : Nat → Int} {k : Int} {c : Nat} : ∀ j, (∀ i, i < j → ok (c + i) = 0) → fS ok A D k (c + j) = fS ok A D k c := by
  intro j
  induction j with
  | zero => intro _; rfl
  | succ j ih => intro h; rw [← Nat.add_assoc, fS_0 (h j (by omega)), ih (fun i hi => h i (by omega))]
theorem q_gs29 {n m p : Nat} {px py pz sx sy sz : Nat → Int} {x y z k : Int} (ht : pl3 x y z) (hS : ∀ j, j < n → pl3 (sx j) (sy j) (sz j)) (hP : ∀ j, j < m → pl3 (px j) (py j) (pz j)) (hn : n ≤ 16) (hm : m ≤ 16) (hp : p < m) (k149 : Int → Int → Int → Int → Int → Int → Int → Int → Option (Int × Int × Int × Int)) (t a b v3 v5 v7 v8 : Int) (h : fC (oF n m (zF px py pz sx sy sz) (AF x y z px py pz sx sy sz)) (AF x y z px py pz sx sy sz) (DF px py pz sx sy sz) (sq3 x y z * sq3 x y z) k (16 * p) v3 v5 v7 v8) :
    ∃ t' a' b' v3' v5' v7' v8', fC (oF n m (zF px py pz sx sy sz) (AF x y z px py pz sx sy sz)) (AF x y z px py pz sx sy sz) (DF px py pz sx sy sz) (sq3 x y z * sq3 x y z) k (16 * (p + 1)) v3' v5' v7' v8' ∧ m_X4_greatestShares_29 x y z (n : Int) sx sy sz (m : Int) px py pz k (p : Int) k149 FU t a b v3 v5 v7 v8 0 = k149 t' a' b' v3' v5' v7' v8' (n : Int) := by
  have hT : 0 < sq3 x y z * sq3 x y z := Int.mul_pos (sq3_pos ht.2) (sq3_pos ht.2)
  have key := loop_p n (fun F s => ∀ t a b v3 v5 v7 v8 : Int, fC (oF n m (zF px py pz sx sy sz) (AF x y z px py pz sx sy sz)) (AF x y z px py pz sx sy sz) (DF px py pz sx sy sz) (sq3 x y z * sq3 x y z) k (16 * p + s) v3 v5 v7 v8 → ∃ t' a' b' v3' v5' v7' v8', fC (oF n m (zF px py pz sx sy sz) (AF x y z px py pz sx sy sz)) (AF x y z px py pz sx sy sz) (DF px py pz sx sy sz) (sq3 x y z * sq3 x y z) k (16 * p + n) v3' v5' v7' v8' ∧ m_X4_greatestShares_29 x y z (n : Int) sx sy sz (m : Int) px py pz k (p : Int) k149 F t a b v3 v5 v7 v8 (s : Int) = k149 t' a' b' v3' v5' v7' v8' (n : Int)) (fun F t a b v3 v5 v7 v8 h => ⟨t, a, b, v3, v5, v7, v8, h, by rw [m_X4_greatestShares_29, if_pos (by omega)]⟩) (fun F s hs ih _ t a b v3 v5 v7 v8 h => by
    have e1 : (16 * p + s) / 16 = p := by omega
    have e2 : (16 * p + s) % 16 = s := by omega
    have hz : zF px py pz sx sy sz (16 * p + s) = dot3 (px p) (py p) (pz p) (sx s) (sy s) (sz s) := by unfold zF; rw [e1, e2]
    have hA : AF x y z px py pz sx sy sz (16 * p + s) = pS x y z (px p) (py p) (pz p) (sx s) (sy s) (sz s) * pS x y z (px p) (py p) (pz p) (sx s) (sy s) (sz s) := by unfold AF; rw [e1, e2]
    have hD := pD_DF (x := x) (y := y) (z := z) (px := px) (py := py) (pz := pz) (sx := sx) (sy := sy) (sz := sz) (16 * p + s)
    rw [e1, e2] at hD
    have hb := fS_bd (ok := oF n m (zF px py pz sx sy sz) (AF x y z px py pz sx sy sz)) (A := AF x y z px py pz sx sy sz) (D := DF px py pz sx sy sz) (k := k) (16 * p + s)
    have ih' : ∀ t a b v3 v5 v7 v8 : Int, fC (oF n m (zF px py pz sx sy sz) (AF x y z px py pz sx sy sz)) (AF x y z px py pz sx sy sz) (DF px py pz sx sy sz) (sq3 x y z * sq3 x y z) k (16 * p + s + 1) v3 v5 v7 v8 → ∃ t' a' b' v3' v5' v7' v8', fC (oF n m (zF px py pz sx sy sz) (AF x y z px py pz sx sy sz)) (AF x y z px py pz sx sy sz) (DF px py pz sx sy sz) (sq3 x y z * sq3 x y z) k (16 * p + n) v3' v5' v7' v8' ∧ m_X4_greatestShares_143 x y z t a b (n : Int) sx sy sz (m : Int) px py pz k v3 v5 v7 v8 (p : Int) (s : Int) (m_X4_greatestShares_29 x y z (n : Int) sx sy sz (m : Int) px py pz k (p : Int) k149 F) k149 = k149 t' a' b' v3' v5' v7' v8' (n : Int) := by
      intro t a b v3 v5 v7 v8 hh
      obtain ⟨t', a', b', v3', v5', v7', v8', q1, q2⟩ := ih t a b v3 v5 v7 v8 hh
      refine ⟨t', a', b', v3', v5', v7', v8', q1, ?_⟩
      rw [m_X4_greatestShares_143, chkI (by omega) (by omega)]
      exact q2
    have same : oF n m (zF px py pz sx sy sz) (AF x y z px py pz sx sy sz) (16 * p + s) = 0 → fC (oF n m (zF px py pz sx sy sz) (AF x y z px py pz sx sy sz)) (AF x y z px py pz sx sy sz) (DF px py pz sx sy sz) (sq3 x y z * sq3 x y z) k (16 * p + s + 1) v3 v5 v7 v8 := by
      intro h0
      unfold fC at h ⊢
      rw [fS_0 h0]
      exact h
    rw [m_X4_greatestShares_29, if_neg (show ¬ (n : Int) ≤ (s : Int) by omega)]
    by_cases c1 : dot3 (px p) (py p) (pz p) (sx s) (sy s) (sz s) = 0
    · obtain ⟨g, g1, g2, g3, g4, _⟩ := q_shareOn (N := 16) (M := 16) (p := t) (a := a) (b := b) ht hm hp hn hs (hP p hp) (hS s hs) c1
      have p4 := pS_pD ht (hP p hp) (hS s hs) c1
      have pd := pD_bd ht (hP p hp) (hS s hs)
      have ps := (pS_bd ht.1 (hP p hp).1 (hS s hs).1).2
      have u0 : 0 ≤ Int.tdiv (pS x y z (px p) (py p) (pz p) (sx s) (sy s) (sz s) * pS x y z (px p) (py p) (pz p) (sx s) (sy s) (sz s)) g := Int.tdiv_nonneg ps.1 (by omega)
      have v0 : 0 ≤ Int.tdiv (pD x y z (px p) (py p) (pz p) (sx s) (sy s) (sz s)) g := Int.tdiv_nonneg (by omega) (by omega)
      have v1 := Int.tdiv_le_self (a := pD x y z (px p) (py p) (pz p) (sx s) (sy s) (sz s)) g (by omega)
      rw [g4, bind_s, if_neg ne10]
      dsimp only
      generalize hu : Int.tdiv (pS x y z (px p) (py p) (pz p) (sx s) (sy s) (sz s) * pS x y z (px p) (py p) (pz p) (sx s) (sy s) (sz s)) g = u at *
      generalize hv : Int.tdiv (pD x y z (px p) (py p) (pz p) (sx s) (sy s) (sz s)) g = v at *
      have huv : 4 * u ≤ v := by
        have : g * (4 * u) ≤ g * v := by
          have : g * (4 * u) = 4 * (g * u) := by rw [Int.mul_left_comm]
          omega
        exact Int.le_of_mul_le_mul_left this g1
      rw [← hA] at g2
      rw [hD] at g3
      by_cases c2 : u = 0
      · have h0 : oF n m (zF px py pz sx sy sz) (AF x y z px py pz sx sy sz) (16 * p + s) = 0 := by
          unfold oF
          rw [if_neg]
          intro hh
          rw [c2, Int.mul_zero] at g2
          have := hh.2.2.2
          omega
        rw [if_pos c2]
        exact ih' _ _ _ _ _ _ _ (same h0)
      · have hup : 0 < u := by omega
        have hAp : 0 < AF x y z px py pz sx sy sz (16 * p + s) := by rw [← g2]; exact Int.mul_pos g1 hup
        have h1 : ¬ oF n m (zF px py pz sx sy sz) (AF x y z px py pz sx sy sz) (16 * p + s) = 0 := (oF_ok _).mpr ⟨by omega, by omega, by rw [hz]; exact c1, hAp⟩
        rw [if_neg c2]
        obtain ⟨f1, f2, f3⟩ := h
        have t138 : ∀ v3 v5 v7 s0 : Int, 0 ≤ v7 → v7 ≤ 256 → fC (oF n m (zF px py pz sx sy sz) (AF x y z px py pz sx sy sz)) (AF x y z px py pz sx sy sz) (DF px py pz sx sy sz) (sq3 x y z * sq3 x y z) k (16 * p + s + 1) v3 v5 (v7 + 1) s0 → ∃ t' a' b' v3' v5' v7' v8', fC (oF n m (zF px py pz sx sy sz) (AF x y z px py pz sx sy sz)) (AF x y z px py pz sx sy sz) (DF px py pz sx sy sz) (sq3 x y z * sq3 x y z) k (16 * p + n) v3' v5' v7' v8' ∧ m_X4_greatestShares_138 x y z (pS x y z (px p) (py p) (pz p) (sx s) (sy s) (sz s)) u v (n : Int) sx sy sz (m : Int) px py pz k v3 v5 v7 (p : Int) (s : Int) s0 (m_X4_greatestShares_29 x y z (n : Int) sx sy sz (m : Int) px py pz k (p : Int) k149 F) k149 = k149 t' a' b' v3' v5' v7' v8' (n : Int) := by
          intro v3 v5 v7 s0 w0' w1' hh
          rw [m_X4_greatestShares_138, chkI (by omega) (by omega)]
          exact ih' _ _ _ _ _ _ _ hh
        have gnew : g * u = AF x y z px py pz sx sy sz (16 * p + s) ∧ g * v = sq3 x y z * sq3 x y z * DF px py pz sx sy sz (16 * p + s) := ⟨g2, g3⟩
        have ec : 16 * (p : Int) + (s : Int) = ((16 * p + s : Nat) : Int) := by omega
        -- a new greatest one
        have new : ∀ more : Int, ¬ more < 0 → ((fS (oF n m (zF px py pz sx sy sz) (AF x y z px py pz sx sy sz)) (AF x y z px py pz sx sy sz) (DF px py pz sx sy sz) k (16 * p + s)).1 = -1 ∨ AF x y z px py pz sx sy sz (fS (oF n m (zF px py pz sx sy sz) (AF x y z px py pz sx sy sz)) (AF x y z px py pz sx sy sz) (DF px py pz sx sy sz) k (16 * p + s)).1.toNat * DF px py pz sx sy sz (16 * p + s) < AF x y z px py pz sx sy sz (16 * p + s) * DF px py pz sx sy sz (fS (oF n m (zF px py pz sx sy sz) (AF x y z px py pz sx sy sz)) (AF x y z px py pz sx sy sz) (DF px py pz sx sy sz) k (16 * p + s)).1.toNat) → ∃ t' a' b' v3' v5' v7' v8', fC (oF n m (zF px py pz sx sy sz) (AF x y z px py pz sx sy sz)) (AF x y z px py pz sx sy sz) (DF px py pz sx sy sz) (sq3 x y z * sq3 x y z) k (16 * p + n) v3' v5' v7' v8' ∧ m_X4_greatestShares_112 x y z (pS x y z (px p) (py p) (pz p) (sx s) (sy s) (sz s)) u v (n : Int) sx sy sz (m : Int) px py pz k u v 0 (-1) (p : Int) (s : Int) more (m_X4_greatestShares_29 x y z (n : Int) sx sy sz (m : Int) px py pz k (p : Int) k149 F) k149 = k149 t' a' b' v3' v5' v7' v8' (n : Int) := by
          intro more hm0 hgt
          have hf : fS (oF n m (zF px py pz sx sy sz) (AF x y z px py pz sx sy sz)) (AF x y z px py pz sx sy sz) (DF px py pz sx sy sz) k (16 * p + s + 1) = (((16 * p + s : Nat) : Int), 1, if 0 = k then ((16 * p + s : Nat) : Int) else -1) := by rw [fS_s, if_neg h1, if_pos hgt]
          have nw : ∀ s0, s0 = (if 0 = k then ((16 * p + s : Nat) : Int) else -1) → fC (oF n m (zF px py pz sx sy sz) (AF x y z px py pz sx sy sz)) (AF x y z px py pz sx sy sz) (DF px py pz sx sy sz) (sq3 x y z * sq3 x y z) k (16 * p + s + 1) u v (0 + 1) s0 := by
            intro s0 hs0
            unfold fC
            rw [hf]
            exact ⟨rfl, hs0, Or.inr ⟨16 * p + s, g, rfl, g1, gnew.1, gnew.2, hup, huv, by omega⟩⟩
          rw [m_X4_greatestShares_112, if_neg hm0]
          by_cases ck : 0 = k
          · rw [if_pos ck, chkI (by omega) (by omega), ec]
            exact t138 u v 0 _ (by omega) (by omega) (nw _ (by rw [if_pos ck]))
          · rw [if_neg ck]
            exact t138 u v 0 _ (by omega) (by omega) (nw _ (by rw [if_neg ck]))
        rcases f3 with ⟨f4, f5, f6⟩ | ⟨w, gw, f4, f5, f6, f7, f8, f9, f10⟩
        · have em : u * v5 - v3 * v = u := by rw [f5, f6]; omega
          rw [em, chkJ (by omega) (by omega), if_neg (show ¬ u ≤ 0 by omega)]
          exact new u (by omega) (Or.inl f4)
        · have m1 := mul_bd (a := u) (b := v5) (A := 871696101) (B := 3486784401) (by omega) (by omega) (by omega) (by omega)
          have m2 := mul_bd (a := v3) (b := v) (A := 871696101) (B := 3486784401) (by omega) (by omega) (by omega) (by omega)
          obtain ⟨i1, i2⟩ := cmp_iff g1 f5 hT gnew.1 gnew.2 f6 f7
          rw [chkJ (by omega) (by omega)]
          by_cases d1 : u * v5 - v3 * v ≤ 0
          · rw [if_pos d1, m_X4_greatestShares_112]
            have hng : ¬ ((fS (oF n m (zF px py pz sx sy sz) (AF x y z px py pz sx sy sz)) (AF x y z px py pz sx sy sz) (DF px py pz sx sy sz) k (16 * p + s)).1 = -1 ∨ AF x y z px py pz sx sy sz (fS (oF n m (zF px py pz sx sy sz) (AF x y z px py pz sx sy sz)) (AF x y z px py pz sx sy sz) (DF px py pz sx sy sz) k (16 * p + s)).1.toNat * DF px py pz sx sy sz (16 * p + s) < AF x y z px py pz sx sy sz (16 * p + s) * DF px py pz sx sy sz (fS (oF n m (zF px py pz sx sy sz) (AF x y z px py pz sx sy sz)) (AF x y z px py pz sx sy sz) (DF px py pz sx sy sz) k (16 * p + s)).1.toNat) := by
              rw [f4, tn]
              have := i1.mp d1
              omega
            by_cases d2 : u * v5 - v3 * v < 0
            · have hne : ¬ AF x y z px py pz sx sy sz (16 * p + s) * DF px py pz sx sy sz (fS (oF n m (zF px py pz sx sy sz) (AF x y z px py pz sx sy sz)) (AF x y z px py pz sx sy sz) (DF px py pz sx sy sz) k (16 * p + s)).1.toNat = AF x y z px py pz sx sy sz (fS (oF n m (zF px py pz sx sy sz) (AF x y z px py pz sx sy sz)) (AF x y z px py pz sx sy sz) (DF px py pz sx sy sz) k (16 * p + s)).1.toNat * DF px py pz sx sy sz (16 * p + s) := by
                rw [f4, tn]
                have := i2.mp d2
                omega
              have hf : fS (oF n m (zF px py pz sx sy sz) (AF x y z px py pz sx sy sz)) (AF x y z px py pz sx sy sz) (DF px py pz sx sy sz) k (16 * p + s + 1) = fS (oF n m (zF px py pz sx sy sz) (AF x y z px py pz sx sy sz)) (AF x y z px py pz sx sy sz) (DF px py pz sx sy sz) k (16 * p + s) := by rw [fS_s, if_neg h1, if_neg hng, if_neg hne]
              rw [if_pos d2]
              refine ih' _ _ _ _ _ _ _ ?_
              unfold fC
              rw [hf]
              exact ⟨f1, f2, Or.inr ⟨w, gw, f4, f5, f6, f7, f8, f9, f10⟩⟩
            · have he : AF x y z px py pz sx sy sz (16 * p + s) * DF px py pz sx sy sz (fS (oF n m (zF px py pz sx sy sz) (AF x y z px py pz sx sy sz)) (AF x y z px py pz sx sy sz) (DF px py pz sx sy sz) k (16 * p + s)).1.toNat = AF x y z px py pz sx sy sz (fS (oF n m (zF px py pz sx sy sz) (AF x y z px py pz sx sy sz)) (AF x y z px py pz sx sy sz) (DF px py pz sx sy sz) k (16 * p + s)).1.toNat * DF px py pz sx sy sz (16 * p + s) := by
                rw [f4, tn]
                have := i1.mp d1
                have : ¬ AF x y z px py pz sx sy sz (16 * p + s) * DF px py pz sx sy sz w < AF x y z px py pz sx sy sz w * DF px py pz sx sy sz (16 * p + s) := fun hh => d2 (i2.mpr hh)
                omega
              have hf : fS (oF n m (zF px py pz sx sy sz) (AF x y z px py pz sx sy sz)) (AF x y z px py pz sx sy sz) (DF px py pz sx sy sz) k (16 * p + s + 1) = ((fS (oF n m (zF px py pz sx sy sz) (AF x y z px py pz sx sy sz)) (AF x y z px py pz sx sy sz) (DF px py pz sx sy sz) k (16 * p + s)).1, (fS (oF n m (zF px py pz sx sy sz) (AF x y z px py pz sx sy sz)) (AF x y z px py pz sx sy sz) (DF px py pz sx sy sz) k (16 * p + s)).2.1 + 1, if (fS (oF n m (zF px py pz sx sy sz) (AF x y z px py pz sx sy sz)) (AF x y z px py pz sx sy sz) (DF px py pz sx sy sz) k (16 * p + s)).2.1 = k then ((16 * p + s : Nat) : Int) else (fS (oF n m (zF px py pz sx sy sz) (AF x y z px py pz sx sy sz)) (AF x y z px py pz sx sy sz) (DF px py pz sx sy sz) k (16 * p + s)).2.2) := by rw [fS_s, if_neg h1, if_neg hng, if_pos he]
              rw [if_neg d2]
              have nx : ∀ s0, s0 = (if v7 = k then ((16 * p + s : Nat) : Int) else v8) → fC (oF n m (zF px py pz sx sy sz) (AF x y z px py pz sx sy sz)) (AF x y z px py pz sx sy sz) (DF px py pz sx sy sz) (sq3 x y z * sq3 x y z) k (16 * p + s + 1) v3 v5 (v7 + 1) s0 := by
                intro s0 hs0
                unfold fC
                rw [hf]
                refine ⟨by dsimp only; rw [f1], by dsimp only; rw [hs0, f1, f2], Or.inr ⟨w, gw, f4, f5, f6, f7, f8, f9, f10⟩⟩
              by_cases ck : v7 = k
              · rw [if_pos ck, chkI (by omega) (by omega), ec]
                exact t138 v3 v5 v7 _ (by omega) (by omega) (nx _ (by rw [if_pos ck]))
              · rw [if_neg ck]
                exact t138 v3 v5 v7 _ (by omega) (by omega) (nx _ (by rw [if_neg ck]))
          · rw [if_neg d1]
            refine new _ (by omega) (Or.inr ?_)
            rw [f4, tn]
            have : ¬ AF x y z px py pz sx sy sz (16 * p + s) * DF px py pz sx sy sz w ≤ AF x y z px py pz sx sy sz w * DF px py pz sx sy sz (16 * p + s) := fun hh => d1 (i1.mpr hh)
            omega
    · have h0 : oF n m (zF px py pz sx sy sz) (AF x y z px py pz sx sy sz) (16 * p + s) = 0 := by
        unfold oF
        rw [if_neg]
        intro hh
        rw [hz] at hh
        exact c1 hh.2.2.1
      rw [q_shareOff (N := 16) (M := 16) hm hn (fun j hj => (hP j hj).1) (fun j hj => (hS j hj).1) (fun hh => c1 (by have := hh.2.2; rw [tn, tn] at this; exact this)), bind_s, if_pos rfl]
      exact ih' _ _ _ _ _ _ _ (same h0)) n FU 0 (by omega) (by unfold FU; omega) t a b v3 v5 v7 v8 h
  obtain ⟨t', a', b', v3', v5', v7', v8', q1, q2⟩ := key
  refine ⟨t', a', b', v3', v5', v7', v8', ?_, q2⟩
  have hsk := fS_skip (ok := oF n m (zF px py pz sx sy sz) (AF x y z px py pz sx sy sz)) (A := AF x y z px py pz sx sy sz) (D := DF px py pz sx sy sz) (k := k) (c := 16 * p + n) (16 - n) (fun i hi => by
    unfold oF
    rw [if_neg]
    intro hh
    have := hh.1
    omega)
  rw [show 16 * p + n + (16 - n) = 16 * (p + 1) by omega] at hsk
  unfold fC at q1 ⊢
  rw [hsk]
  exact q1
theorem q_gs {n m : Nat} {px py pz sx sy sz : Nat → Int} {x y z k : Int} (ht : pl3 x y z) (hS : ∀ j, j < n → pl3 (sx j) (sy j) (sz j)) (hP : ∀ j, j < m → pl3 (px j) (py j) (pz j)) (hn : n ≤ 16) (hm : m ≤ 16) (t a b : Int) :
    ∃ t' a' b', m_X4_greatestShares x y z t a b (n : Int) sx sy sz (m : Int) px py pz k = some (if k = -1 then (fS (oF n m (zF px py pz sx sy sz) (AF x y z px py pz sx sy sz)) (AF x y z px py pz sx sy sz) (DF px py pz sx sy sz) k (16 * m)).2.1 else (fS (oF n m (zF px py pz sx sy sz) (AF x y z px py pz sx sy sz)) (AF x y z px py pz sx sy sz) (DF px py pz sx sy sz) k (16 * m)).2.2, t', a', b') := by
  rw [m_X4_greatestShares, m_X4_greatestShares_0]
  exact loop_p m (fun F p => ∀ t a b v3 v5 v7 v8 : Int, fC (oF n m (zF px py pz sx sy sz) (AF x y z px py pz sx sy sz)) (AF x y z px py pz sx sy sz) (DF px py pz sx sy sz) (sq3 x y z * sq3 x y z) k (16 * p) v3 v5 v7 v8 → ∃ t' a' b', m_X4_greatestShares_14 x y z (n : Int) sx sy sz (m : Int) px py pz k (fun t_product' t_above' t_below' v3' v5' v7' v8' v9' => m_X4_greatestShares_155 t_product' t_above' t_below' k v7' v8') F t a b v3 v5 v7 v8 (p : Int) = some (if k = -1 then (fS (oF n m (zF px py pz sx sy sz) (AF x y z px py pz sx sy sz)) (AF x y z px py pz sx sy sz) (DF px py pz sx sy sz) k (16 * m)).2.1 else (fS (oF n m (zF px py pz sx sy sz) (AF x y z px py pz sx sy sz)) (AF x y z px py pz sx sy sz) (DF px py pz sx sy sz) k (16 * m)).2.2, t', a', b')) (fun F t a b v3 v5 v7 v8 h => by
    refine ⟨t, a, b, ?_⟩
    rw [m_X4_greatestShares_14, if_pos (by omega), m_X4_greatestShares_155, ← h.1, ← h.2.1]
    by_cases c : k = -1
    · rw [if_pos c, if_pos c]
    · rw [if_neg c, if_neg c]) (fun F p hp ih _ t a b v3 v5 v7 v8 h => by
    obtain ⟨t', a', b', v3', v5', v7', v8', q1, q2⟩ := q_gs29 ht hS hP hn hm hp (fun t_product' t_above' t_below' v3' v5' v7' v8' v10' => m_X4_greatestShares_149 x y z t_product' t_above' t_below' (n : Int) sx sy sz (m : Int) px py pz k v3' v5' v7' v8' (p : Int) (m_X4_greatestShares_14 x y z (n : Int) sx sy sz (m : Int) px py pz k (fun t_product' t_above' t_below' v3' v5' v7' v8' v9' => m_X4_greatestShares_155 t_product' t_above' t_below' k v7' v8') F) (fun t_product' t_above' t_below' v3' v5' v7' v8' v9' => m_X4_greatestShares_155 t_product' t_above' t_below' k v7' v8')) t a b v3 v5 v7 v8 h
    rw [m_X4_greatestShares_14, if_neg (by omega), q2, m_X4_greatestShares_149, chkI (by omega) (by omega)]
    exact ih t' a' b' v3' v5' v7' v8' q1) m FU 0 (by omega) (by unfold FU; omega) t a b 0 1 0 (-1) ⟨rfl, rfl, Or.inl ⟨rfl, rfl, rfl⟩⟩

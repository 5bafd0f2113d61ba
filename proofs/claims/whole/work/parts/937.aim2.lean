
/-! ===== PURE: one choice of pulls, class and model ===== -/
theorem q_search36 {m : Int} {R0 n len t ch : Nat} {Kt : Nat → Nat} {R : Nat → RowT} {P tried push H lows highs sH so sh row sums : Nat → Int} {D : Nat → Nat} {B : Int} (hr : RTr Kt R) (hn : n ≤ 4) (hl : len ≤ 5) (ht : t ≤ 20) (hg : gW push H lows highs R0 1) (ho : sO sh sH so m) (hw : rW B row sums) (hB : B ≤ 18000000) (hP : ∀ j, j < n → -9999 ≤ P j ∧ P j ≤ 9999) (hD : ∀ j, D j < n) (htr : ∀ j, j < len → tried j = (D j : Nat)) (hch : ch ≤ len) (hR : ∀ i, i ≤ ch → rT (R (Kt i)) (pr push H sh P t (row, sums) D i).1 (pr push H sh P t (row, sums) D i).2) (k95 : (Nat → RowT) → Int → Option (Int × (Nat → Int) × (Nat → Int) × (Nat → RowT))) :
    ∃ R', RTr Kt R' ∧ (∀ i, i ≤ len → rT (R' (Kt i)) (pr push H sh P t (row, sums) D i).1 (pr push H sh P t (row, sums) D i).2) ∧ m_X7_searchOfLength_36 Kt P tried m (R0 : Int) push lows highs sH so (len : Int) (t : Int) k95 FU R (ch : Int) = k95 R' (len : Int) := by
  exact loop_p len (fun F i => ∀ R, RTr Kt R → (∀ j, j ≤ i → rT (R (Kt j)) (pr push H sh P t (row, sums) D j).1 (pr push H sh P t (row, sums) D j).2) → ∃ R', RTr Kt R' ∧ (∀ i, i ≤ len → rT (R' (Kt i)) (pr push H sh P t (row, sums) D i).1 (pr push H sh P t (row, sums) D i).2) ∧ m_X7_searchOfLength_36 Kt P tried m (R0 : Int) push lows highs sH so (len : Int) (t : Int) k95 F R (i : Int) = k95 R' (len : Int)) (fun F R hr hR => ⟨R, hr, hR, by rw [m_X7_searchOfLength_36, if_pos (by omega)]⟩) (fun F i hi ih _ R hr hR => by
    obtain ⟨t1, t2, t3⟩ := hr
    obtain ⟨r1, r2, r3, r4, r5, r6, r7, r8⟩ := hR i (Nat.le_refl _)
    have hok := pr_ok (push := push) (H := H) (sh := sh) (t := t) hw hP hD i
    have hti : t * i ≤ 20 * 5 := Nat.mul_le_mul ht (by omega)
    have hp := hP _ (hD i)
    have hne : Kt (i + 1) ≠ Kt i := fun hh => by have := t2 _ _ (by omega) (by omega) hh; omega
    have e1 : Int.toNat ((i : Int) + 1) = i + 1 := by omega
    have hDi := hD i
    obtain ⟨st, ft, x1⟩ := q_X6_runOn (push := push) (H := H) (sh := sh) (sH := sH) (so := so) (lows := lows) (highs := highs) (side := 1) (m := m) (stood := (R (Kt (i + 1))).2.1) (felt := (R (Kt (i + 1))).2.2.1) (T := t) hok (by omega) hg hp.1 hp.2 ho (by omega)
    have y1 := (rn_ok (push := push) (H := H) (sh := sh) hp.1 hp.2 t hok).1
    rw [m_X7_searchOfLength_36, if_neg (by omega), chkB (by omega) (by omega), e1, chk_pos (t1 _ (by omega)), chkB (by omega) (by omega), tn, chk_pos (t1 _ (by omega)), chk_pos hne, q_X6_becomes (t3 _) (t3 _), bind_s, chkB (by omega) (by omega), chk_pos (t1 _ (by omega)), chkB (by omega) (by omega), htr i hi, chkB (by omega) (by omega)]
    dsimp only
    rw [r1, r2, r3, r4, r5, r6, r7, r8]
    obtain ⟨U0, hU0⟩ : ∃ U, U = up R (Kt (i + 1)) ((pr push H sh P t (row, sums) D i).1, (R (Kt (i + 1))).2.1, (R (Kt (i + 1))).2.2.1, cnt (pr push H sh P t (row, sums) D i).1 100, (pr push H sh P t (row, sums) D i).2 0, (pr push H sh P t (row, sums) D i).2 5, (pr push H sh P t (row, sums) D i).2 1, (pr push H sh P t (row, sums) D i).2 2, (pr push H sh P t (row, sums) D i).2 3, (pr push H sh P t (row, sums) D i).2 4) := ⟨_, rfl⟩
    rw [← hU0]
    have p0 : U0 (Kt (i + 1)) = ((pr push H sh P t (row, sums) D i).1, (R (Kt (i + 1))).2.1, (R (Kt (i + 1))).2.2.1, cnt (pr push H sh P t (row, sums) D i).1 100, (pr push H sh P t (row, sums) D i).2 0, (pr push H sh P t (row, sums) D i).2 5, (pr push H sh P t (row, sums) D i).2 1, (pr push H sh P t (row, sums) D i).2 2, (pr push H sh P t (row, sums) D i).2 3, (pr push H sh P t (row, sums) D i).2 4) := by rw [hU0, up_at]
    rw [p0]
    dsimp only
    rw [tn, x1, bind_s, chkI (by omega) (by omega)]
    dsimp only
    refine ih _ ⟨t1, t2, zf_up (by rw [hU0]; exact zf_up t3 hok.2.1) y1.2.1⟩ (fun j hj => ?_)
    by_cases cj : j = i + 1
    · subst cj
      rw [up_at]
      exact ⟨rfl, rfl, rfl, rfl, rfl, rfl, rfl, rfl⟩
    · have hnj : Kt j ≠ Kt (i + 1) := fun hh => cj (t2 _ _ (by omega) (by omega) hh)
      rw [up_ne _ _ hnj, hU0, up_ne _ _ hnj]
      exact hR j (by omega)) (len - ch) FU ch (by omega) (by unfold FU; omega) R hr hR
theorem nat_tdiv (a b : Nat) : Int.tdiv (a : Int) (b : Int) = ((a / b : Nat) : Int) := (Int.ofNat_tdiv a b).symm
theorem nat_tmod (a b : Nat) : Int.tmod (a : Int) (b : Int) = ((a % b : Nat) : Int) := (Int.ofNat_tmod a b).symm
theorem pow_down {n k : Nat} (hn : 0 < n) : n ^ (k + 1) / n = n ^ k := by rw [Nat.pow_succ, Nat.mul_div_cancel _ hn]
theorem q_aim162 {bl bh : Int} {n len t code : Nat} {P push slo shi sh row sums was feel : Nat → Int} {B : Int} (hn : 0 < n ∧ n ≤ 4) (hl : 0 < len ∧ len ≤ 5) (ht : t ≤ 20) (hw : rW B row sums) (hB : B ≤ 18000000) (hP : ∀ j, j < n → -9999 ≤ P j ∧ P j ≤ 9999) (hpw : pW push) (hh : ∀ k, k < 100 → 0 ≤ hdM bl bh slo shi 1 k ∧ hdM bl bh slo shi 1 k ≤ 9999) (hsh : ∀ j, j < 100 → -1 ≤ sh j ∧ sh j ≤ 9999) (hc : code < 2000) (k216 : (Nat → Int) → (Nat → Int) → (Nat → Int) → (Nat → Int) → Int → Int → Int → Option (Int × Int × (Nat → Int) × (Nat → Int) × (Nat → Int) × (Nat → Int) × (Nat → Int) × (Nat → Int) × (Nat → Int))) :
    ∃ wa fe v, m_X11_aim_162 bl bh slo shi sh push P (n : Int) (t : Int) (len : Int) (code : Int) k216 FU row was feel sums 0 0 ((n ^ (len - 1) : Nat) : Int) = k216 (pr push (hdM bl bh slo shi 1) sh P t (row, sums) (dg n len code) len).1 wa fe (pr push (hdM bl bh slo shi 1) sh P t (row, sums) (dg n len code) len).2 (sA P (dg n len code) len) (len : Int) v := by
  have hD : ∀ j, dg n len code j < n := fun j => dg_lt hn.1 len code j
  exact loop_p len (fun F i => ∀ (wa fe : Nat → Int) (u : Nat), u ≤ 1024 → (i < len → u = n ^ (len - 1 - i)) → ∃ wa' fe' v, m_X11_aim_162 bl bh slo shi sh push P (n : Int) (t : Int) (len : Int) (code : Int) k216 F (pr push (hdM bl bh slo shi 1) sh P t (row, sums) (dg n len code) i).1 wa fe (pr push (hdM bl bh slo shi 1) sh P t (row, sums) (dg n len code) i).2 (sA P (dg n len code) i) (i : Int) (u : Int) = k216 (pr push (hdM bl bh slo shi 1) sh P t (row, sums) (dg n len code) len).1 wa' fe' (pr push (hdM bl bh slo shi 1) sh P t (row, sums) (dg n len code) len).2 (sA P (dg n len code) len) (len : Int) v) (fun F wa fe u _ _ => ⟨wa, fe, (u : Int), by rw [m_X11_aim_162, if_pos (by omega)]⟩) (fun F i hi ih _ wa fe u hu1 hu2 => by
    have hok := pr_ok (push := push) (H := hdM bl bh slo shi 1) (sh := sh) (t := t) hw hP hD i
    have hti : t * i ≤ 20 * 5 := Nat.mul_le_mul ht (by omega)
    have hp := hP _ (hD i)
    have hDi := hD i
    have hue := hu2 hi
    have hup := pow_bd (n := n) (len := len - 1 - i) hn (by omega)
    have hdv : code / u ≤ code := Nat.div_le_self _ _
    have hdv2 : u / n ≤ u := Nat.div_le_self _ _
    obtain ⟨q, hq⟩ : ∃ q : Nat, code / u = q := ⟨_, rfl⟩
    obtain ⟨w, hw2⟩ : ∃ w : Nat, u / n = w := ⟨_, rfl⟩
    rw [hq] at hdv
    rw [hw2] at hdv2
    have hsA := sA_bd (i := i + 1) hP hD
    have es : sA P (dg n len code) (i + 1) = sA P (dg n len code) i + ab (P (dg n len code i)) := rfl
    have ed : q % n = dg n len code i := by rw [← hq, hue]; rfl
    rw [es] at hsA
    obtain ⟨wa', fe', x2⟩ := q_X11_runs (was := wa) (feel := fe) (push := push) (T := t) (side := 1) (sh := sh) hok (by omega) hpw hp.1 hp.2 hh hsh (by omega)
    rw [m_X11_aim_162, if_neg (by omega), chk_pos (show (u : Int) ≠ 0 by omega), nat_tdiv, hq, chkI (by omega) (by omega), chk_pos (show (n : Int) ≠ 0 by omega), nat_tmod, ed, chkB (by omega) (by omega), tn, q_size hp, bind_s, x2, bind_s, chk_pos (show (n : Int) ≠ 0 by omega), chkI (by omega) (by omega), chkI (by omega) (by omega), nat_tdiv, hw2, chkI (by omega) (by omega)]
    have nx := ih wa' fe' w (by omega) (fun h => by rw [← hw2, hue, show len - 1 - i = (len - 1 - (i + 1)) + 1 by omega, pow_down hn.1])
    rw [es] at nx
    exact nx) len FU 0 (by omega) (by unfold FU; omega) was feel (n ^ (len - 1)) (pow_bd hn (by omega)).2 (fun _ => rfl)
theorem q_aim302 {n len code : Nat} {aimed : Nat → Int} (hn : 0 < n ∧ n ≤ 4) (hl : 0 < len ∧ len ≤ 5) (hc : code < 2000) (k335 : (Nat → Int) → Int → Int → Option (Int × Int × (Nat → Int) × (Nat → Int) × (Nat → Int) × (Nat → Int) × (Nat → Int) × (Nat → Int) × (Nat → Int))) :
    ∃ aimed' v, (∀ j, j < len → aimed' j = ((dg n len code j : Nat) : Int)) ∧ m_X11_aim_302 (n : Int) (len : Int) (code : Int) k335 FU aimed 0 ((n ^ (len - 1) : Nat) : Int) = k335 aimed' (len : Int) v := by
  exact loop_p len (fun F i => ∀ (aimed : Nat → Int) (u : Nat), (∀ j, j < i → aimed j = ((dg n len code j : Nat) : Int)) → u ≤ 1024 → (i < len → u = n ^ (len - 1 - i)) → ∃ aimed' v, (∀ j, j < len → aimed' j = ((dg n len code j : Nat) : Int)) ∧ m_X11_aim_302 (n : Int) (len : Int) (code : Int) k335 F aimed (i : Int) (u : Int) = k335 aimed' (len : Int) v) (fun F aimed u h _ _ => ⟨aimed, (u : Int), h, by rw [m_X11_aim_302, if_pos (by omega)]⟩) (fun F i hi ih _ aimed u h hu1 hu2 => by
    have hue := hu2 hi
    have hup := pow_bd (n := n) (len := len - 1 - i) hn (by omega)
    have hdv : code / u ≤ code := Nat.div_le_self _ _
    have hdv2 : u / n ≤ u := Nat.div_le_self _ _
    obtain ⟨q, hq⟩ : ∃ q : Nat, code / u = q := ⟨_, rfl⟩
    obtain ⟨w, hw2⟩ : ∃ w : Nat, u / n = w := ⟨_, rfl⟩
    rw [hq] at hdv
    rw [hw2] at hdv2
    have hDi := dg_lt hn.1 len code i
    have ed : q % n = dg n len code i := by rw [← hq, hue]; rfl
    rw [m_X11_aim_302, if_neg (by omega), chk_pos (show (u : Int) ≠ 0 by omega), nat_tdiv, hq, chkI (by omega) (by omega), chk_pos (show (n : Int) ≠ 0 by omega), nat_tmod, ed, chkI (by omega) (by omega), chkB (by omega) (by omega), chk_pos (show (n : Int) ≠ 0 by omega), chkI (by omega) (by omega), nat_tdiv, hw2, chkI (by omega) (by omega), tn]
    exact ih (up aimed i ((dg n len code i : Nat) : Int)) w (fun j hj => by
      by_cases cj : j = i
      · subst cj; rw [up_at]
      · rw [up_ne _ _ cj]; exact h j (by omega)) (by omega) (fun h => by rw [← hw2, hue, show len - 1 - i = (len - 1 - (i + 1)) + 1 by omega, pow_down hn.1])) len FU 0 (by omega) (by unfold FU; omega) aimed (n ^ (len - 1)) (fun j hj => by omega) (pow_bd hn (by omega)).2 (fun _ => rfl)


/-! ===== PURE: pushes found, the loop ===== -/
theorem p8_bd {n : Nat} (hn : n ≤ 3) : 1 ≤ 8 ^ n ∧ 8 ^ n ≤ 512 := by
  have h1 : 8 ^ n ≤ 8 ^ 3 := Nat.pow_le_pow_right (by decide) hn
  have h2 : (8 : Nat) ^ 3 = 512 := by decide
  have h3 : 0 < 8 ^ n := Nat.pow_pos (by decide)
  omega
theorem q_s19 {n : Nat} (hn : n ≤ 3) (k41 : (Int → Int → Option (Int × Int × Int × Int × (Nat → Int) × (Nat → Int) × (Nat → Int) × (Nat → Int) × (Nat → Int) × (Nat → Int) × (Nat → Int) × (Nat → RowT)))) : m_X7_searchPushes_19 (n : Int) k41 FU 1 0 = k41 ((8 ^ n : Nat) : Int) (n : Int) := by
  exact loop_up n (fun F i => m_X7_searchPushes_19 (n : Int) k41 F ((8 ^ i : Nat) : Int) (i : Int)) (fun _ => k41 ((8 ^ n : Nat) : Int) (n : Int)) (fun F => by
    show m_X7_searchPushes_19 _ _ (F + 1) _ _ = _
    rw [m_X7_searchPushes_19, if_pos (by omega)]) (fun F i hi ih => by
    show m_X7_searchPushes_19 _ _ (F + 1) _ _ = _
    have hb := p8_bd (n := i + 1) (by omega)
    have e : ((8 ^ i : Nat) : Int) * 8 = ((8 ^ (i + 1) : Nat) : Int) := by rw [Nat.pow_succ, Int.natCast_mul]; rfl
    rw [m_X7_searchPushes_19, if_neg (by omega), e, chkI (by omega) (by omega), chkI (by omega) (by omega)]
    exact ih) n FU 0 (by omega) (by unfold FU; omega)
theorem bsh8 : ∀ n : Fin 4, bShl 1 (3 * (n.val : Int)) = ((8 ^ n.val : Nat) : Int) := by decide +kernel
theorem PA_eq {n c : Nat} {ps : Int} {d : Nat → Nat} {gp push : Nat → Int} (h : ∀ j, (∃ i, i < n ∧ d i = j) ∨ gp j = push j) : (upD d (fun i => ((cd n i c : Nat) : Int) * ps) n gp) = (upD d (fun i => ((cd n i c : Nat) : Int) * ps) n push) := by
  funext j
  exact upD_eq n j (h j)
theorem PA_v {n c : Nat} {ps : Int} (hp : 0 ≤ ps ∧ ps ≤ 100) (i : Nat) : 0 ≤ ((cd n i c : Nat) : Int) * ps ∧ ((cd n i c : Nat) : Int) * ps ≤ 999 := by
  have hb : ((cd n i c : Nat) : Int) ≤ 7 := by unfold cd; omega
  have mb := mul_bd (a := ((cd n i c : Nat) : Int)) (b := ps) (A := 7) (B := 100) (by omega) hb (by omega) hp.2
  have m2 := Int.mul_nonneg (show 0 ≤ ((cd n i c : Nat) : Int) by omega) hp.1
  generalize ((cd n i c : Nat) : Int) * ps = V at *
  omega
theorem rW0 {mk : Nat → Int} (h1 : sg mk) (h2 : Zf 100 mk) (h3 : cnt mk 100 ≤ 30) : rW 0 mk (fun _ => 0) := ⟨h1, h2, h3, fun _ _ => rfl, by unfold sB; dsimp only; omega⟩
theorem q_s44 {n f c T : Nat} {ps q m rch bl bh : Int} {Kt : Nat → Nat} {d : Nat → Nat} {dist lows highs sH so sh mk row push gp told found slo shi : Nat → Int} {R : Nat → RowT} (hn : n ≤ 3) (hc : c < 8 ^ n) (hf : f ≤ c) (hp : 0 ≤ ps ∧ ps ≤ 100) (hd : ∀ i, i < n → dist i = (d i : Int) ∧ 1 ≤ d i ∧ d i ≤ 20) (hgp : ∀ j, (∃ i, i < n ∧ d i = j) ∨ gp j = push j) (hpw : pW push) (hT : T ≤ 200) (hq : -9999 ≤ q ∧ q ≤ 9999) (hH : ∀ k, k < 100 → lows k = hdM bl bh slo shi 0 k ∧ 0 ≤ hdM bl bh slo shi 0 k ∧ hdM bl bh slo shi 0 k ≤ 9999) (ho : sO sh sH so m) (hm : rW 0 mk (fun _ => 0)) (hrow : Zf 100 row) (ht : RTr Kt R) (k167 : (Int → Int → (Nat → Int) → (Nat → Int) → (Nat → Int) → (Nat → RowT) → Int → Option (Int × Int × Int × Int × (Nat → Int) × (Nat → Int) × (Nat → Int) × (Nat → Int) × (Nat → Int) × (Nat → Int) × (Nat → Int) × (Nat → RowT)))) (F : Nat) :
    ∃ (R0 : Int) (told' : Nat → Int) (U1 : Nat → RowT) (v : Int), RTr Kt U1 ∧ (v = 0 ∨ v = 1) ∧ (v = 1 ↔ (rn (upD d (fun i => ((cd n i c : Nat) : Int) * ps) n push) (hdM bl bh slo shi 0) sh q T (mk, fun _ => 0)).2.1 = row) ∧ m_X7_searchPushes_44 (n : Int) ps Kt m lows highs sH so dist (cnt mk 100) 0 0 0 0 0 0 mk row q (T : Int) ((8 ^ n : Nat) : Int) k167 (F + 1) (f : Int) rch gp told found R (c : Int) = if v = 0 then m_X7_searchPushes_44 (n : Int) ps Kt m lows highs sH so dist (cnt mk 100) 0 0 0 0 0 0 mk row q (T : Int) ((8 ^ n : Nat) : Int) k167 F (f : Int) R0 (upD d (fun i => ((cd n i c : Nat) : Int) * ps) n push) told' found U1 ((c + 1 : Nat) : Int) else m_X7_searchPushes_44 (n : Int) ps Kt m lows highs sH so dist (cnt mk 100) 0 0 0 0 0 0 mk row q (T : Int) ((8 ^ n : Nat) : Int) k167 F ((f + 1 : Nat) : Int) R0 (upD d (fun i => ((cd n i c : Nat) : Int) * ps) n push) told' (up found f (c : Int)) U1 ((c + 1 : Nat) : Int) := by
  have h8 := p8_bd hn
  obtain ⟨t1, t2, t3⟩ := ht
  have hpa : pW (upD d (fun i => ((cd n i c : Nat) : Int) * ps) n push) := upD_pW hpw n (fun i _ => PA_v hp i)
  obtain ⟨R0, hR1, hR2, hR3⟩ := q_findReach (push := (upD d (fun i => ((cd n i c : Nat) : Int) * ps) n push)) (r := rch)
  have hg : gW (upD d (fun i => ((cd n i c : Nat) : Int) * ps) n push) (hdM bl bh slo shi 0) lows highs R0 0 := ⟨hR1, hR3, hpa, fun k hk => by rw [if_pos rfl]; exact hH k hk⟩
  obtain ⟨st, ft, x1⟩ := q_X6_runOn (stood := (R (Kt 0)).2.1) (felt := (R (Kt 0)).2.2.1) (T := T) hm (by omega) hg hq.1 hq.2 ho (by omega)
  obtain ⟨y1, y2⟩ := rn_ok (push := (upD d (fun i => ((cd n i c : Nat) : Int) * ps) n push)) (H := hdM bl bh slo shi 0) (sh := sh) hq.1 hq.2 T hm
  obtain ⟨v, v1, v2, v3⟩ := q_X6_standsAs (cur := (rn (upD d (fun i => ((cd n i c : Nat) : Int) * ps) n push) (hdM bl bh slo shi 0) sh q T (mk, fun _ => 0)).2.1) (g := row) y1.2.1 hrow
  have t0 : Int.toNat 0 = 0 := rfl
  rw [m_X7_searchPushes_44, if_neg (by omega)]
  obtain ⟨told', e54⟩ := q_sp54 (n := n) (ps := ps) (dist := dist) (gp := gp) (told := told) (code := c) hn (by omega) hp hd (fun t_ground_pushes' t_ground_pushTold' v8' => m_X7_searchPushes_91 (n : Int) ps (f : Int) Kt m rch t_ground_pushes' t_ground_pushTold' lows highs sH so dist found (cnt mk 100) 0 0 0 0 0 0 mk row R q (T : Int) ((8 ^ n : Nat) : Int) (c : Int) (m_X7_searchPushes_44 (n : Int) ps Kt m lows highs sH so dist (cnt mk 100) 0 0 0 0 0 0 mk row q (T : Int) ((8 ^ n : Nat) : Int) k167 F) k167)
  rw [e54, PA_eq hgp, m_X7_searchPushes_91, hR2, bind_s, t0, chkB (by omega) (by omega), chk_pos (t1 0 (by omega)), q_X6_becomes (t3 _) hm.2.1, bind_s, chkB (by omega) (by omega), chk_pos (t1 0 (by omega))]
  dsimp only
  obtain ⟨U0, hU0⟩ : ∃ U, U = up R (Kt 0) (mk, (R (Kt 0)).2.1, (R (Kt 0)).2.2.1, cnt mk 100, 0, 0, 0, 0, 0, 0) := ⟨_, rfl⟩
  rw [← hU0]
  have p0 : U0 (Kt 0) = (mk, (R (Kt 0)).2.1, (R (Kt 0)).2.2.1, cnt mk 100, 0, 0, 0, 0, 0, 0) := by rw [hU0, up_at]
  have f0 : ∀ i, Zf 100 (U0 i).1 := by rw [hU0]; exact zf_up t3 hm.2.1
  rw [p0]
  dsimp only
  rw [x1, bind_s, chkB (by omega) (by omega), chk_pos (t1 0 (by omega))]
  dsimp only
  obtain ⟨U1, hU1⟩ : ∃ U, U = up U0 (Kt 0) ((rn (upD d (fun i => ((cd n i c : Nat) : Int) * ps) n push) (hdM bl bh slo shi 0) sh q T (mk, fun _ => 0)).2.1, st, ft, cnt (rn (upD d (fun i => ((cd n i c : Nat) : Int) * ps) n push) (hdM bl bh slo shi 0) sh q T (mk, fun _ => 0)).2.1 100, (rn (upD d (fun i => ((cd n i c : Nat) : Int) * ps) n push) (hdM bl bh slo shi 0) sh q T (mk, fun _ => 0)).2.2 0, (rn (upD d (fun i => ((cd n i c : Nat) : Int) * ps) n push) (hdM bl bh slo shi 0) sh q T (mk, fun _ => 0)).2.2 5, (rn (upD d (fun i => ((cd n i c : Nat) : Int) * ps) n push) (hdM bl bh slo shi 0) sh q T (mk, fun _ => 0)).2.2 1, (rn (upD d (fun i => ((cd n i c : Nat) : Int) * ps) n push) (hdM bl bh slo shi 0) sh q T (mk, fun _ => 0)).2.2 2, (rn (upD d (fun i => ((cd n i c : Nat) : Int) * ps) n push) (hdM bl bh slo shi 0) sh q T (mk, fun _ => 0)).2.2 3, (rn (upD d (fun i => ((cd n i c : Nat) : Int) * ps) n push) (hdM bl bh slo shi 0) sh q T (mk, fun _ => 0)).2.2 4) := ⟨_, rfl⟩
  rw [← hU1]
  have f1 : ∀ i, Zf 100 (U1 i).1 := by rw [hU1]; exact zf_up f0 y1.2.1
  have p1 : (U1 (Kt 0)).1 = (rn (upD d (fun i => ((cd n i c : Nat) : Int) * ps) n push) (hdM bl bh slo shi 0) sh q T (mk, fun _ => 0)).2.1 := by rw [hU1, up_at]
  rw [p1, v1, bind_s]
  refine ⟨(R0 : Int), told', U1, v, ⟨t1, t2, f1⟩, v2, v3, ?_⟩
  by_cases cv : v = 0
  · rw [if_pos cv, if_pos cv, m_X7_searchPushes_161, chkI (by omega) (by omega), ca]
  · rw [if_neg cv, if_neg cv, chkB (by omega) (by omega), chkI (by omega) (by omega), m_X7_searchPushes_161, chkI (by omega) (by omega), tn, ca, ca]
theorem q_f143 {n f c T : Nat} {ps q bl bh B : Int} {d : Nat → Nat} {dist sh mk row push slo shi sums cur was feel pA cS fitted : Nat → Int} (hn : n ≤ 3) (hc : c < 8 ^ n) (hf : f ≤ c) (hp : 0 ≤ ps ∧ ps ≤ 100) (hd : ∀ i, i < n → dist i = (d i : Int) ∧ 1 ≤ d i ∧ d i ≤ 20) (hdd : ∀ a b, a < n → b < n → d a = d b → a = b) (hz : Zf 21 push) (hpw : pW push) (hT : T ≤ 200) (hq : -9999 ≤ q ∧ q ≤ 9999) (hH : ∀ k, k < 100 → 0 ≤ hdM bl bh slo shi 0 k ∧ hdM bl bh slo shi 0 k ≤ 9999) (hsh : ∀ j, j < 100 → -1 ≤ sh j ∧ sh j ≤ 9999) (hm : rW B mk sums) (hB : B ≤ 18000000) (hrow : Zf 100 row) (hs : RSc cur pA cS) (k294 : (Int → (Nat → Int) → (Nat → Int) → (Nat → Int) → (Nat → Int) → (Nat → Int) → (Nat → Int) → Int → Option (Int × Int × Int × (Nat → Int) × (Nat → Int) × (Nat → Int) × (Nat → Int) × (Nat → Int) × (Nat → Int) × (Nat → Int)))) (F : Nat) :
    ∃ (wa fe fitted' : Nat → Int) (v : Int), (v = 0 ∨ v = 1) ∧ (v = 1 ↔ (rn (upD d (fun i => ((cd n i c : Nat) : Int) * ps) n push) (hdM bl bh slo shi 0) sh q T (mk, sums)).2.1 = row) ∧ (∀ i, i < n → fitted' (3 * f + i) = ((cd n i c : Nat) : Int) * ps) ∧ (∀ j, j < 3 * f → fitted' j = fitted j) ∧ RSc (rn (upD d (fun i => ((cd n i c : Nat) : Int) * ps) n push) (hdM bl bh slo shi 0) sh q T (mk, sums)).2.1 (upD d (fun i => ((cd n i c : Nat) : Int) * ps) n push) (rn (upD d (fun i => ((cd n i c : Nat) : Int) * ps) n push) (hdM bl bh slo shi 0) sh q T (mk, sums)).2.2 ∧ m_X11_fit_143 bl bh push slo shi sh row mk sums dist (n : Int) ps q (T : Int) k294 (F + 1) (f : Int) cur was feel pA cS fitted (c : Int) = if v = 0 then m_X11_fit_143 bl bh push slo shi sh row mk sums dist (n : Int) ps q (T : Int) k294 F (f : Int) (rn (upD d (fun i => ((cd n i c : Nat) : Int) * ps) n push) (hdM bl bh slo shi 0) sh q T (mk, sums)).2.1 wa fe (upD d (fun i => ((cd n i c : Nat) : Int) * ps) n push) (rn (upD d (fun i => ((cd n i c : Nat) : Int) * ps) n push) (hdM bl bh slo shi 0) sh q T (mk, sums)).2.2 fitted ((c + 1 : Nat) : Int) else m_X11_fit_143 bl bh push slo shi sh row mk sums dist (n : Int) ps q (T : Int) k294 F ((f + 1 : Nat) : Int) (rn (upD d (fun i => ((cd n i c : Nat) : Int) * ps) n push) (hdM bl bh slo shi 0) sh q T (mk, sums)).2.1 wa fe (upD d (fun i => ((cd n i c : Nat) : Int) * ps) n push) (rn (upD d (fun i => ((cd n i c : Nat) : Int) * ps) n push) (hdM bl bh slo shi 0) sh q T (mk, sums)).2.2 fitted' ((c + 1 : Nat) : Int) := by
  have h8 := p8_bd hn
  have hpa : pW (upD d (fun i => ((cd n i c : Nat) : Int) * ps) n push) := upD_pW hpw n (fun i _ => PA_v hp i)
  have hpz : Zf 21 (upD d (fun i => ((cd n i c : Nat) : Int) * ps) n push) := upD_Zf hz n (fun i hi => by have := hd i hi; omega)
  have hb := bsh8 ⟨n, by omega⟩
  dsimp only at hb
  obtain ⟨wa, fe, x2⟩ := q_X11_runs (was := was) (feel := feel) (push := (upD d (fun i => ((cd n i c : Nat) : Int) * ps) n push)) (T := T) (side := 0) (sh := sh) hm (by omega) hpa hq.1 hq.2 hH hsh (by omega)
  obtain ⟨y1, y2⟩ := rn_ok (push := (upD d (fun i => ((cd n i c : Nat) : Int) * ps) n push)) (H := hdM bl bh slo shi 0) (sh := sh) hq.1 hq.2 T hm
  obtain ⟨v, v1, v2, v3⟩ := q_X11_isAs (N := 100) (cur := (rn (upD d (fun i => ((cd n i c : Nat) : Int) * ps) n push) (hdM bl bh slo shi 0) sh q T (mk, sums)).2.1) (g := row) (by omega) y1.2.1 hrow
  have tk0 := q_X11_takes (N1 := 100) (N3 := 6) (a := 0) (b := 0) (cur := cur) (cS := cS) (p1 := mk) (p3 := sums) hs.1 hs.2.2 (by omega) (by omega)
  rw [sl_z hm.2.1, sl_z hm.2.2.2.1] at tk0
  have tk1 : m_X11_takes 100 6 cur cS mk sums 0 0 = some (mk, sums) := tk0
  obtain ⟨fitted', z1, z2, z3⟩ := q_fit240 (n := n) (f := f) (dist := dist) (pA := (upD d (fun i => ((cd n i c : Nat) : Int) * ps) n push)) (fitted := fitted) hn (by omega) hd (fun t_fitted' v10' => m_X11_fit_278 bl bh (f : Int) push slo shi sh (rn (upD d (fun i => ((cd n i c : Nat) : Int) * ps) n push) (hdM bl bh slo shi 0) sh q T (mk, sums)).2.1 wa fe (upD d (fun i => ((cd n i c : Nat) : Int) * ps) n push) (rn (upD d (fun i => ((cd n i c : Nat) : Int) * ps) n push) (hdM bl bh slo shi 0) sh q T (mk, sums)).2.2 row mk sums dist t_fitted' (n : Int) ps q (T : Int) (c : Int) (m_X11_fit_143 bl bh push slo shi sh row mk sums dist (n : Int) ps q (T : Int) k294 F) k294)
  refine ⟨wa, fe, fitted', v, v2, v3, fun i hi => ?_, z2, ⟨y1.2.1, hpz, y1.2.2.2.1⟩, ?_⟩
  · rw [z1 i hi]
    exact upD_in n i hi hdd
  rw [m_X11_fit_143, hb, if_neg (by omega), q_X11_pushesAsRead hz hs.2.1, bind_s, q_fit160 hn (by omega) hp hd, m_X11_fit_201, tk1, bind_s]
  dsimp only
  rw [x2, bind_s]
  dsimp only
  rw [v1, bind_s]
  by_cases cv : v = 0
  · rw [if_pos cv, if_pos cv, m_X11_fit_288, chkI (by omega) (by omega), ca]
  · rw [if_neg cv, if_neg cv, z3, m_X11_fit_278, chkI (by omega) (by omega), m_X11_fit_288, chkI (by omega) (by omega), ca, ca]


/-! ===== PURE: pushes found, class and model ===== -/
theorem q_fitloop {n T : Nat} {ps q m bl bh B : Int} {Kt : Nat → Nat} {d : Nat → Nat} {dist dist2 lows highs sH so sh mk row push slo shi sums : Nat → Int} (hn : n ≤ 3) (hp : 0 ≤ ps ∧ ps ≤ 100) (hd : ∀ i, i < n → dist i = (d i : Int) ∧ 1 ≤ d i ∧ d i ≤ 20) (hd2 : ∀ i, i < n → dist2 i = (d i : Int) ∧ 1 ≤ d i ∧ d i ≤ 20) (hdd : ∀ a b, a < n → b < n → d a = d b → a = b) (hz : Zf 21 push) (hpw : pW push) (hT : T ≤ 200) (hq : -9999 ≤ q ∧ q ≤ 9999) (hH : ∀ k, k < 100 → lows k = hdM bl bh slo shi 0 k ∧ 0 ≤ hdM bl bh slo shi 0 k ∧ hdM bl bh slo shi 0 k ≤ 9999) (ho : sO sh sH so m) (hm0 : rW 0 mk (fun _ => 0)) (hm : rW B mk sums) (hB : B ≤ 18000000) (hrow : Zf 100 row) (k167 : (Int → Int → (Nat → Int) → (Nat → Int) → (Nat → Int) → (Nat → RowT) → Int → Option (Int × Int × Int × Int × (Nat → Int) × (Nat → Int) × (Nat → Int) × (Nat → Int) × (Nat → Int) × (Nat → Int) × (Nat → Int) × (Nat → RowT)))) :
    ∀ nn F c, c + nn = 8 ^ n → nn < F → ∀ (f : Nat) (rch : Int) (gp told found : Nat → Int) (R : Nat → RowT) (cur was feel pA cS fitted : Nat → Int), f ≤ c → (∀ j, (∃ i, i < n ∧ d i = j) ∨ gp j = push j) → Zf 21 gp → RTr Kt R → RSc cur pA cS → (∀ k, k < f → ∃ c : Nat, c < 512 ∧ found k = (c : Int) ∧ ∀ i, i < n → fitted (3 * k + i) = (cd n i c : Nat) * ps) →
      ∃ r r2, m_X7_searchPushes_44 (n : Int) ps Kt m lows highs sH so dist (cnt mk 100) 0 0 0 0 0 0 mk row q (T : Int) ((8 ^ n : Nat) : Int) k167 F (f : Int) rch gp told found R (c : Int) = some r ∧ m_X11_fit_143 bl bh push slo shi sh row mk sums dist2 (n : Int) ps q (T : Int) (fun t_fits' t_cur' t_was' t_feel' t_pushAt' t_curSum' t_fitted' v8' => m_X11_fit_294 t_fits' (n : Int) t_cur' t_was' t_feel' t_pushAt' t_curSum' dist2 t_fitted') F (f : Int) cur was feel pA cS fitted (c : Int) = some r2 ∧ ∃ f2 : Nat, r.1 = (f2 : Int) ∧ r.2.1 = (f2 : Int) ∧ r2.1 = (f2 : Int) ∧ r2.2.1 = (f2 : Int) ∧ f2 ≤ 512 ∧ r2.2.2.1 = (n : Int) ∧ Zf 21 r.2.2.2.2.1 ∧ RTr Kt r.2.2.2.2.2.2.2.2.2.2.2 ∧ RSc r2.2.2.2.1 r2.2.2.2.2.2.2.1 r2.2.2.2.2.2.2.2.1 ∧ (∀ k, k < f2 → ∃ c : Nat, c < 512 ∧ r.2.2.2.2.2.2.2.2.2.2.1 k = (c : Int) ∧ ∀ i, i < n → r2.2.2.2.2.2.2.2.2.2 (3 * k + i) = (cd n i c : Nat) * ps) := by
  exact loop_p (8 ^ n) (fun F c => ∀ (f : Nat) (rch : Int) (gp told found : Nat → Int) (R : Nat → RowT) (cur was feel pA cS fitted : Nat → Int), f ≤ c → (∀ j, (∃ i, i < n ∧ d i = j) ∨ gp j = push j) → Zf 21 gp → RTr Kt R → RSc cur pA cS → (∀ k, k < f → ∃ c : Nat, c < 512 ∧ found k = (c : Int) ∧ ∀ i, i < n → fitted (3 * k + i) = (cd n i c : Nat) * ps) →
      ∃ r r2, m_X7_searchPushes_44 (n : Int) ps Kt m lows highs sH so dist (cnt mk 100) 0 0 0 0 0 0 mk row q (T : Int) ((8 ^ n : Nat) : Int) k167 F (f : Int) rch gp told found R (c : Int) = some r ∧ m_X11_fit_143 bl bh push slo shi sh row mk sums dist2 (n : Int) ps q (T : Int) (fun t_fits' t_cur' t_was' t_feel' t_pushAt' t_curSum' t_fitted' v8' => m_X11_fit_294 t_fits' (n : Int) t_cur' t_was' t_feel' t_pushAt' t_curSum' dist2 t_fitted') F (f : Int) cur was feel pA cS fitted (c : Int) = some r2 ∧ ∃ f2 : Nat, r.1 = (f2 : Int) ∧ r.2.1 = (f2 : Int) ∧ r2.1 = (f2 : Int) ∧ r2.2.1 = (f2 : Int) ∧ f2 ≤ 512 ∧ r2.2.2.1 = (n : Int) ∧ Zf 21 r.2.2.2.2.1 ∧ RTr Kt r.2.2.2.2.2.2.2.2.2.2.2 ∧ RSc r2.2.2.2.1 r2.2.2.2.2.2.2.1 r2.2.2.2.2.2.2.2.1 ∧ (∀ k, k < f2 → ∃ c : Nat, c < 512 ∧ r.2.2.2.2.2.2.2.2.2.2.1 k = (c : Int) ∧ ∀ i, i < n → r2.2.2.2.2.2.2.2.2.2 (3 * k + i) = (cd n i c : Nat) * ps)) (fun F f rch gp told found R cur was feel pA cS fitted hf hgp hgz ht hs hrel => by
    have h8 := p8_bd hn
    have hb := bsh8 ⟨n, by omega⟩
    dsimp only at hb
    rw [m_X7_searchPushes_44, m_X11_fit_143, hb, if_pos (Int.le_refl _), if_pos (Int.le_refl _), m_X11_fit_294]
    exact ⟨_, _, rfl, rfl, f, rfl, rfl, rfl, rfl, by omega, rfl, hgz, ht, hs, hrel⟩) (fun F c hc ih _ f rch gp told found R cur was feel pA cS fitted hf hgp hgz ht hs hrel => by
    obtain ⟨R0, told', U1, v, a1, a2, a3, a4⟩ := q_s44 (Kt := Kt) (m := m) (rch := rch) (told := told) (found := found) (R := R) (bl := bl) (bh := bh) hn hc hf hp hd hgp hpw hT hq hH ho hm0 hrow ht k167 F
    obtain ⟨wa, fe, fitted', v', b1, b2, b3, b4, b5, b6⟩ := q_f143 (was := was) (feel := feel) (fitted := fitted) (bl := bl) (bh := bh) hn hc hf hp hd2 hdd hz hpw hT hq (fun k hk => (hH k hk).2) ho.2.2.1 hm hB hrow hs (fun t_fits' t_cur' t_was' t_feel' t_pushAt' t_curSum' t_fitted' v8' => m_X11_fit_294 t_fits' (n : Int) t_cur' t_was' t_feel' t_pushAt' t_curSum' dist2 t_fitted') F
    rw [rn_ind T mk (fun _ => 0) sums] at a3
    have evv : v = v' := by
      rcases a2 with h | h <;> rcases b1 with h' | h'
      · omega
      · have := a3.mpr (b2.mp h'); omega
      · have := b2.mpr (a3.mp h); omega
      · omega
    subst evv
    have hgp' : ∀ j, (∃ i, i < n ∧ d i = j) ∨ (upD d (fun i => ((cd n i c : Nat) : Int) * ps) n push) j = push j := fun j => by
      by_cases cj : ∃ i, i < n ∧ d i = j
      · exact Or.inl cj
      · exact Or.inr (upD_out n (fun i hi hh => cj ⟨i, hi, hh⟩))
    have hgz' : Zf 21 (upD d (fun i => ((cd n i c : Nat) : Int) * ps) n push) := upD_Zf hz n (fun i hi => by have := hd i hi; omega)
    have h8 := p8_bd hn
    rw [a4, b6]
    by_cases cv : v = 0
    · rw [if_pos cv, if_pos cv]
      exact ih f _ _ _ _ _ _ _ _ _ _ _ (by omega) hgp' hgz' a1 b5 hrel
    · rw [if_neg cv, if_neg cv]
      refine ih (f + 1) _ _ _ _ _ _ _ _ _ _ _ (by omega) hgp' hgz' a1 b5 (fun k hk => ?_)
      by_cases ck : k = f
      · subst ck
        exact ⟨c, by omega, by rw [up_at], fun i hi => b3 i hi⟩
      · obtain ⟨c', z1, z2, z3⟩ := hrel k (by omega)
        exact ⟨c', z1, by rw [up_ne _ _ ck]; exact z2, fun i hi => by rw [b4 _ (by omega)]; exact z3 i hi⟩)
theorem q_fit91 {B m bl bh ps q dm fm v5 fits fitOf a b c : Int} {n T R0 : Nat} {Kt : Nat → Nat} {Rt : Nat → RowT} {row sums cur pA cS was feel push lows highs sH so slo shi sh mk dist dist2 found fitted gp gtold glows ghighs gsH gso : Nat → Int} {gsm greach : Int} (hn : 1 ≤ n ∧ n ≤ 3) (h5 : 1 ≤ v5 ∧ v5 ≤ 100) (hD : ∀ i, i < n → 1 ≤ (up (up (up dist (Int.toNat 0) a) (Int.toNat 1) b) (Int.toNat 2) c) i ∧ (up (up (up dist (Int.toNat 0) a) (Int.toNat 1) b) (Int.toNat 2) c) i ≤ 20) (hDD : ∀ i j, i < n → j < n → (up (up (up dist (Int.toNat 0) a) (Int.toNat 1) b) (Int.toNat 2) c) i = (up (up (up dist (Int.toNat 0) a) (Int.toNat 1) b) (Int.toNat 2) c) j → i = j) (hz : Zf 21 push) (hpw : pW push) (hT : T ≤ 200) (hq : -9999 ≤ q ∧ q ≤ 9999) (hH : ∀ k, k < 100 → lows k = hdM bl bh slo shi 0 k ∧ 0 ≤ hdM bl bh slo shi 0 k ∧ hdM bl bh slo shi 0 k ≤ 9999) (ho : sO sh sH so m) (hm0 : rW 0 mk (fun _ => 0)) (hm : rW B mk sums) (hB : B ≤ 18000000) (hrow : Zf 100 row) (ht : RTr Kt Rt) (hs : RSc cur pA cS) (hgp : Zf 21 gp) :
    ∃ r r2, m_X10_fit_91 row (cnt mk 100) 0 0 0 0 0 0 mk dm ps fm Kt gsm greach gp gtold glows ghighs gsH gso dist found m (R0 : Int) push lows highs sH so Rt (n : Int) a b c v5 q (T : Int) = some r ∧ m_X11_fit_108 bl bh fits fitOf push slo shi sh cur was feel pA cS row mk sums dist2 fitted (n : Int) a b c v5 q (T : Int) = some r2 ∧ r.1 = r2.1 ∧ RTr Kt r.2.2.2.2.2.2.2.2.2.2.2.2.2.2 ∧ Zf 21 r.2.2.2.2.2.2.1 ∧ RFi r.2.1 r.2.2.1 r.2.2.2.1 r.2.2.2.2.2.2.2.2.2.2.2.2.2.1 r2.2.1 r2.2.2.1 r2.2.2.2.2.2.2.2.2.2 ∧ RSc r2.2.2.2.1 r2.2.2.2.2.2.2.1 r2.2.2.2.2.2.2.2.1 := by
  obtain ⟨dc, hdc⟩ : ∃ x, x = (up (up (up dist (Int.toNat 0) a) (Int.toNat 1) b) (Int.toNat 2) c) := ⟨_, rfl⟩
  obtain ⟨d2, hd2⟩ : ∃ x, x = (up (up (up dist2 (Int.toNat 0) a) (Int.toNat 1) b) (Int.toNat 2) c) := ⟨_, rfl⟩
  rw [← hdc] at hD hDD
  have h12 : ∀ i, i < 3 → d2 i = dc i := fun i hi => by
    rw [hdc, hd2]
    rcases (by omega : i = 0 ∨ i = 1 ∨ i = 2) with h | h | h <;> subst h <;> rfl
  obtain ⟨d, hd⟩ : ∃ d : Nat → Nat, d = fun i => (dc i).toNat := ⟨_, rfl⟩
  have e1 : ∀ i, i < n → dc i = (d i : Int) ∧ 1 ≤ d i ∧ d i ≤ 20 := fun i hi => by
    have := hD i hi
    rw [hd]; dsimp only; omega
  have e2 : ∀ i, i < n → d2 i = (d i : Int) ∧ 1 ≤ d i ∧ d i ≤ 20 := fun i hi => by
    rw [h12 i (by omega)]; exact e1 i hi
  have e3 : ∀ i j, i < n → j < n → d i = d j → i = j := fun i j hi hj hh => hDD i j hi hj (by rw [(e1 i hi).1, (e1 j hj).1, hh])
  have bec : m_X3_becomes gsm greach gp glows ghighs gsH gso m (R0 : Int) push lows highs sH so = some (m, (R0 : Int), push, cpy lows glows 0 0 ((100 : Nat) : Int), cpy highs ghighs 0 0 ((100 : Nat) : Int), cpy sH gsH 0 0 ((100 : Nat) : Int), cpy so gso 0 0 ((5 : Nat) : Int)) := by
    rw [m_X3_becomes, m_X3_becomes_0, cpy_all hz hgp]
    simp (disch := decide) only [chk_pos]
  have cl : ∀ (N : Nat) (f g : Nat → Int) (k : Nat), k < N → cpy f g 0 0 (N : Int) k = f k := fun N f g k hk => by
    unfold cpy
    rw [if_pos ⟨by omega, by omega⟩]
    congr 1; simp
  obtain ⟨o1, o2, o3, o4, o5, o6⟩ := ho
  have ho' : sO sh (cpy sH gsH 0 0 ((100 : Nat) : Int)) (cpy so gso 0 0 ((5 : Nat) : Int)) m := ⟨o1, o2, o3, o4, o5, fun p hp hh => by
    have hlt := cnt_lt (f := fun j => sh j + 1) (i := p) (j := 100) hp (by omega)
    have h0 := cnt_bd (fun j => sh j + 1) p
    rw [cl _ _ _ _ (by omega), cl _ _ _ _ hp]
    exact o6 p hp hh⟩
  have td : m_X7_tellDistances dm ps dist (n : Int) a b c v5 = some ((n : Int), v5, dc) := by
    rw [m_X7_tellDistances, m_X7_tellDistances_0]
    simp (disch := omega) only [chkB]
    rw [← hdc, if_neg (show ¬ (3 : Int) < (n : Int) by omega)]
    rw [show (if (1 : Int) < (n : Int) then (n : Int) else 1) = (n : Int) by split <;> omega]
  obtain ⟨r, r2, z1, z2, f2, z3, z4, z5, z6, z7, z8, z9, z10, z11, z12⟩ := q_fitloop (Kt := Kt) (m := m) (bl := bl) (bh := bh) (lows := cpy lows glows 0 0 ((100 : Nat) : Int)) (highs := cpy highs ghighs 0 0 ((100 : Nat) : Int)) (slo := slo) (shi := shi) hn.2 (show 0 ≤ v5 ∧ v5 ≤ 100 by omega) e1 e2 e3 hz hpw hT hq (fun k hk => by rw [cl _ _ _ _ hk]; exact hH k hk) ho' hm0 hm hB hrow (fun t_foundMany' t_ground_reach' t_ground_pushes' t_ground_pushTold' t_found' t_rows_R' v7' => m_X7_searchPushes_167 t_foundMany' m t_ground_reach' t_ground_pushes' t_ground_pushTold' (cpy lows glows 0 0 ((100 : Nat) : Int)) (cpy highs ghighs 0 0 ((100 : Nat) : Int)) (cpy sH gsH 0 0 ((100 : Nat) : Int)) (cpy so gso 0 0 ((5 : Nat) : Int)) t_found' t_rows_R') (8 ^ n) FU 0 (by omega) (by have := p8_bd hn.2; unfold FU; omega) 0 (R0 : Int) push gtold found Rt cur was feel pA cS fitted (by omega) (fun j => Or.inr rfl) hz ht hs (fun k hk => by omega)
  refine ⟨(r.1, (n : Int), v5, r.2.1, r.2.2.1, r.2.2.2.1, r.2.2.2.2.1, r.2.2.2.2.2.1, r.2.2.2.2.2.2.1, r.2.2.2.2.2.2.2.1, r.2.2.2.2.2.2.2.2.1, r.2.2.2.2.2.2.2.2.2.1, dc, r.2.2.2.2.2.2.2.2.2.2.1, r.2.2.2.2.2.2.2.2.2.2.2), r2, ?_, ?_, by rw [z5]; exact z3, z10, z9, ⟨n, f2, rfl, z8, hn.2, z4, z6, z7, show 0 ≤ v5 by omega, show v5 ≤ 100 by omega, z12⟩, z11⟩
  · rw [m_X10_fit_91, td, bind_s, m_X7_searchPushes, m_X7_searchPushes_0, bec, bind_s, q_s19 hn.2, m_X7_searchPushes_41]
    dsimp only
    have z1' := z1
    rw [show ((0 : Nat) : Int) = 0 from rfl] at z1'
    rw [z1', bind_s]
  · rw [m_X11_fit_108, chkB (by omega) (by omega), chkB (by omega) (by omega), chkB (by omega) (by omega), ← hd2]
    exact z2

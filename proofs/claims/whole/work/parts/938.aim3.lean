
/-! ===== PURE: the search for pulls ===== -/
theorem prP {push H sh P P' : Nat → Int} {t n : Nat} {s : (Nat → Int) × (Nat → Int)} {D : Nat → Nat} (hP : ∀ j, j < n → P' j = P j) (hD : ∀ j, D j < n) : ∀ i, pr push H sh P' t s D i = pr push H sh P t s D i := by
  intro i
  induction i with
  | zero => rfl
  | succ i ih => rw [pr_s, pr_s, ih, hP _ (hD i)]
theorem sAP {P P' : Nat → Int} {n : Nat} {D : Nat → Nat} (hP : ∀ j, j < n → P' j = P j) (hD : ∀ j, D j < n) (i : Nat) : sA P' D i = sA P D i := sm_congr (fun j _ => by rw [hP _ (hD j)])
def rchs (x aim : Int) : Int := if aim ≤ 0 then (if aim < x then 0 else 1) else (if x < aim then 0 else 1)
theorem q_reaches (x aim : Int) : m_X7_reaches x aim = some (rchs x aim) := by
  rw [m_X7_reaches, m_X7_reaches_0]
  unfold rchs
  by_cases c : aim ≤ 0
  · rw [if_pos c, if_pos c]
    by_cases c2 : aim < x
    · rw [if_pos c2, if_pos c2]
    · rw [if_neg c2, if_neg c2]
  · rw [if_neg c, if_neg c]
    by_cases c2 : x < aim
    · rw [if_pos c2, if_pos c2]
    · rw [if_neg c2, if_neg c2]
theorem rchs_01 (x aim : Int) : rchs x aim = 0 ∨ rchs x aim = 1 := by unfold rchs; split <;> split <;> omega
/-- what is found so far, class and model -/
def aL2 (len : Nat) (am0 : Int) (best0 aimed0 : Nat → Int) (v5 : Int) (best : Nat → Int) (v10 am : Int) (aimed : Nat → Int) : Prop :=
  (v5 = 1073741824 ∧ v10 = -1 ∧ am = am0 ∧ best = best0 ∧ aimed = aimed0) ∨ (v5 = v10 ∧ 0 ≤ v10 ∧ v10 ≤ 49995 ∧ am = (len : Int) ∧ ∀ j, j < len → best j = aimed j)
theorem q_len {bl bh m am0 aim B : Int} {R0 n len t : Nat} {Kt : Nat → Nat} {R : Nat → RowT} {P P' tried best push slo shi sh lows highs sH so row sums cur was feel pA cS aimed : Nat → Int} (hr : RTr Kt R) (hR : rT (R (Kt 0)) row sums) (hn : 0 < n ∧ n ≤ 4) (hl : 0 < len ∧ len ≤ 5) (ht : t ≤ 20) (hg : gW push (hdM bl bh slo shi 1) lows highs R0 1) (ho : sO sh sH so m) (hpz : Zf 21 push) (hw : rW B row sums) (hB : B ≤ 18000000) (hP : ∀ j, j < n → -9999 ≤ P j ∧ P j ≤ 9999) (hPP : ∀ j, j < n → P' j = P j) (hs : RSc cur pA cS)
    (k341 : Int → (Nat → Int) → (Nat → Int) → (Nat → Int) → (Nat → Int) → (Nat → Int) → (Nat → Int) → Int → Int → Option (Int × Int × (Nat → Int) × (Nat → Int) × (Nat → Int) × (Nat → Int) × (Nat → Int) × (Nat → Int) × (Nat → Int))) :
    ∃ v tried' best' R' am' cur' wa' fe' pA' cS' aimed' v10' v5' e, m_X7_searchOfLength (n : Int) Kt P tried best m (R0 : Int) push lows highs sH so R (len : Int) (t : Int) aim = some (v, tried', best', R') ∧ RTr Kt R' ∧ rT (R' (Kt 0)) row sums ∧ v = (if 1073741824 ≤ v5' then 0 else 1) ∧ aL2 len am0 best aimed v5' best' v10' am' aimed' ∧ RSc cur' pA' cS' ∧
      m_X11_aim_131 bl bh push slo shi sh row sums P' (n : Int) (t : Int) aim ((n ^ len : Nat) : Int) (len : Int) k341 FU am0 cur was feel pA cS aimed (-1) 0 = k341 am' cur' wa' fe' pA' cS' aimed' v10' e := by
  have hD : ∀ c j, dg n len c j < n := fun c j => dg_lt hn.1 len c j
  have hP' : ∀ j, j < n → -9999 ≤ P' j ∧ P' j ≤ 9999 := fun j hj => by rw [hPP j hj]; exact hP j hj
  have hall := pow_bd (n := n) (len := len) hn hl.2
  obtain ⟨hg1, hg2, hg3, hg4⟩ := hg
  have hh : ∀ k, k < 100 → 0 ≤ hdM bl bh slo shi 1 k ∧ hdM bl bh slo shi 1 k ≤ 9999 := fun k hk => (hg4 k hk).2
  rw [m_X7_searchOfLength, m_X7_searchOfLength_0, q_J7_fill (by omega), bind_s, q_waysToPull hn hl.2, bind_s]
  have key := loop_p (n ^ len) (fun F c => ∀ (tried best2 : Nat → Int) (R : Nat → RowT) (ch : Nat) (v5 v10 am : Int) (cur was feel pA cS aimed2 : Nat → Int), RTr Kt R → rT (R (Kt 0)) row sums → aL2 len am0 best aimed v5 best2 v10 am aimed2 → RSc cur pA cS → ch ≤ len → (c < n ^ len → (∀ j, j < len → tried j = ((dg n len c j : Nat) : Int)) ∧ ∀ i, i ≤ ch → rT (R (Kt i)) (pr push (hdM bl bh slo shi 1) sh P t (row, sums) (dg n len c) i).1 (pr push (hdM bl bh slo shi 1) sh P t (row, sums) (dg n len c) i).2) →
      ∃ v tried' best' R' am' cur' wa' fe' pA' cS' aimed' v10' v5' e, m_X7_searchOfLength_25 (n : Int) Kt P m (R0 : Int) push lows highs sH so (len : Int) (t : Int) aim ((n ^ len : Nat) : Int) (fun t_tried' t_best' t_rows_R' v5' v6' v8' => m_X7_searchOfLength_167 t_tried' t_best' t_rows_R' v5') F tried best2 R v5 (ch : Int) (c : Int) = some (v, tried', best', R') ∧ RTr Kt R' ∧ rT (R' (Kt 0)) row sums ∧ v = (if 1073741824 ≤ v5' then 0 else 1) ∧ aL2 len am0 best aimed v5' best' v10' am' aimed' ∧ RSc cur' pA' cS' ∧
      m_X11_aim_131 bl bh push slo shi sh row sums P' (n : Int) (t : Int) aim ((n ^ len : Nat) : Int) (len : Int) k341 F am cur was feel pA cS aimed2 v10 (c : Int) = k341 am' cur' wa' fe' pA' cS' aimed' v10' e) (fun F tried best2 R ch v5 v10 am cur was feel pA cS aimed2 h1 h2 h3 h4 h5 h6 => by
    refine ⟨if 1073741824 ≤ v5 then 0 else 1, tried, best2, R, am, cur, was, feel, pA, cS, aimed2, v10, v5, _, ?_, h1, h2, rfl, h3, h4, by rw [m_X11_aim_131, if_pos (by omega)]⟩
    rw [m_X7_searchOfLength_25, if_pos (by omega), m_X7_searchOfLength_167]
    by_cases c : 1073741824 ≤ v5
    · rw [if_pos c, if_pos c]
    · rw [if_neg c, if_neg c]) (fun F c hc ih _ tried best2 R ch v5 v10 am cur was feel pA cS aimed2 h1 h2 h3 h4 h5 h6 => by
    obtain ⟨h7, h8⟩ := h6 hc
    have hok := pr_ok (push := push) (H := hdM bl bh slo shi 1) (sh := sh) (t := t) hw hP (hD c) len
    have hti : t * len ≤ 20 * 5 := Nat.mul_le_mul ht hl.2
    have hsA := sA_bd (i := len) hP (hD c)
    obtain ⟨R1, r1, r2, r3⟩ := q_search36 (k95 := fun t_rows_R' v9' => m_X7_searchOfLength_95 (n : Int) Kt P tried best2 m (R0 : Int) push lows highs sH so t_rows_R' (len : Int) (t : Int) aim v5 ((n ^ len : Nat) : Int) (c : Int) (m_X7_searchOfLength_25 (n : Int) Kt P m (R0 : Int) push lows highs sH so (len : Int) (t : Int) aim ((n ^ len : Nat) : Int) (fun t_tried' t_best' t_rows_R' v5' v6' v8' => m_X7_searchOfLength_167 t_tried' t_best' t_rows_R' v5') F) (fun t_tried' t_best' t_rows_R' v5' v6' v8' => m_X7_searchOfLength_167 t_tried' t_best' t_rows_R' v5')) h1 hn.2 hl.2 ht ⟨hg1, hg2, hg3, hg4⟩ ho hw hB hP (hD c) h7 h5 h8
    obtain ⟨wa, fe, v16, m1⟩ := q_aim162 (P := P') (was := was) (feel := feel) (code := c) (k216 := fun t_cur' t_was' t_feel' t_curSum' v12' v15' v16' => m_X11_aim_216 bl bh am push slo shi sh t_cur' t_was' t_feel' push t_curSum' row sums P' aimed2 (n : Int) (t : Int) aim ((n ^ len : Nat) : Int) (len : Int) v10 (c : Int) v12' (sums (Int.toNat 0)) (m_X11_aim_131 bl bh push slo shi sh row sums P' (n : Int) (t : Int) aim ((n ^ len : Nat) : Int) (len : Int) k341 F) k341) hn hl ht hw hB hP' hg3 hh ho.2.2.1 (by omega)
    rw [prP hPP (hD c), sAP hPP (hD c)] at m1
    obtain ⟨ch', tr', n1, n2, n3⟩ := q_nextTried (c := c) hn hl h7
    have hr0 := r2 0 (by omega)
    have hrl := r2 len (Nat.le_refl _)
    have hunit : ((n ^ len : Nat) : Int).tdiv (n : Int) = ((n ^ (len - 1) : Nat) : Int) := by
      rw [nat_tdiv]
      congr 1
      have := pow_down (n := n) (k := len - 1) hn.1
      rw [show len - 1 + 1 = len by omega] at this
      exact this
    have hunitb := pow_bd (n := n) (len := len - 1) hn (by omega)
    -- behind a choice
    have nxt : ∀ (best3 aimed3 : Nat → Int) (v5 v10 am : Int), aL2 len am0 best aimed v5 best3 v10 am aimed3 → ∃ v tried' best' R' am' cur' wa' fe' pA' cS' aimed' v10' v5' e, m_X7_searchOfLength_154 (n : Int) Kt P tried best3 m (R0 : Int) push lows highs sH so R1 (len : Int) (t : Int) aim v5 ((n ^ len : Nat) : Int) (c : Int) (m_X7_searchOfLength_25 (n : Int) Kt P m (R0 : Int) push lows highs sH so (len : Int) (t : Int) aim ((n ^ len : Nat) : Int) (fun t_tried' t_best' t_rows_R' v5' v6' v8' => m_X7_searchOfLength_167 t_tried' t_best' t_rows_R' v5') F) (fun t_tried' t_best' t_rows_R' v5' v6' v8' => m_X7_searchOfLength_167 t_tried' t_best' t_rows_R' v5') = some (v, tried', best', R') ∧ RTr Kt R' ∧ rT (R' (Kt 0)) row sums ∧ v = (if 1073741824 ≤ v5' then 0 else 1) ∧ aL2 len am0 best aimed v5' best' v10' am' aimed' ∧ RSc cur' pA' cS' ∧
      m_X11_aim_335 bl bh am push slo shi sh (pr push (hdM bl bh slo shi 1) sh P t (row, sums) (dg n len c) len).1 wa fe push (pr push (hdM bl bh slo shi 1) sh P t (row, sums) (dg n len c) len).2 row sums P' aimed3 (n : Int) (t : Int) aim ((n ^ len : Nat) : Int) (len : Int) v10 (c : Int) (m_X11_aim_131 bl bh push slo shi sh row sums P' (n : Int) (t : Int) aim ((n ^ len : Nat) : Int) (len : Int) k341 F) k341 = k341 am' cur' wa' fe' pA' cS' aimed' v10' e := by
      intro best3 aimed3 v5 v10 am haL
      rw [m_X7_searchOfLength_154, n1, bind_s, chkI (by omega) (by omega), m_X11_aim_335, chkI (by omega) (by omega)]
      refine ih tr' best3 R1 ch' v5 v10 am _ _ _ _ _ aimed3 r1 hr0 haL ⟨hok.2.1, hpz, hok.2.2.2.1⟩ (by omega) (fun h => ?_)
      obtain ⟨n4, n5⟩ := n3 h
      refine ⟨n4, fun i hi => ?_⟩
      rw [pr_congr (D := dg n len (c + 1)) (D' := dg n len c) i (fun j hj => n5 j (by omega))]
      exact r2 i (by omega)
    have b0 := hw.2.2.2.2.1
    have b1 := hok.2.2.2.2.1
    have es0 : sums (Int.toNat 0) = sums 0 := rfl
    have ep0 : (pr push (hdM bl bh slo shi 1) sh P t (row, sums) (dg n len c) len).2 (Int.toNat 0) = (pr push (hdM bl bh slo shi 1) sh P t (row, sums) (dg n len c) len).2 0 := rfl
    have el : (R1 (Kt len)).2.2.2.2.1 = (pr push (hdM bl bh slo shi 1) sh P t (row, sums) (dg n len c) len).2 0 := hrl.2.2.1
    have e0 : (R1 (Kt 0)).2.2.2.2.1 = sums 0 := hr0.2.2.1
    have hx : ∀ (am v10 : Int) (aimed2 : Nat → Int), m_X11_aim_216 bl bh am push slo shi sh (pr push (hdM bl bh slo shi 1) sh P t (row, sums) (dg n len c) len).1 wa fe push (pr push (hdM bl bh slo shi 1) sh P t (row, sums) (dg n len c) len).2 row sums P' aimed2 (n : Int) (t : Int) aim ((n ^ len : Nat) : Int) (len : Int) v10 (c : Int) (sA P (dg n len c) len) (sums 0) (m_X11_aim_131 bl bh push slo shi sh row sums P' (n : Int) (t : Int) aim ((n ^ len : Nat) : Int) (len : Int) k341 F) k341 = m_X11_aim_263 bl bh am push slo shi sh (pr push (hdM bl bh slo shi 1) sh P t (row, sums) (dg n len c) len).1 wa fe push (pr push (hdM bl bh slo shi 1) sh P t (row, sums) (dg n len c) len).2 row sums P' aimed2 (n : Int) (t : Int) aim ((n ^ len : Nat) : Int) (len : Int) v10 (c : Int) (sA P (dg n len c) len) (rchs ((pr push (hdM bl bh slo shi 1) sh P t (row, sums) (dg n len c) len).2 0 - sums 0) aim) (m_X11_aim_131 bl bh push slo shi sh row sums P' (n : Int) (t : Int) aim ((n ^ len : Nat) : Int) (len : Int) k341 F) k341 := by
      intro am v10 aimed2
      rw [m_X11_aim_216, chkB (by omega) (by omega), ep0]
      unfold rchs
      by_cases d1 : aim ≤ 0
      · rw [if_pos d1, if_pos d1, chkJ (by omega) (by omega)]
        by_cases d2 : aim < (pr push (hdM bl bh slo shi 1) sh P t (row, sums) (dg n len c) len).2 0 - sums 0
        · rw [if_pos d2, if_pos d2]
        · rw [if_neg d2, if_neg d2]
      · rw [if_neg d1, if_neg d1, chkJ (by omega) (by omega)]
        by_cases d2 : (pr push (hdM bl bh slo shi 1) sh P t (row, sums) (dg n len c) len).2 0 - sums 0 < aim
        · rw [if_pos d2, if_pos d2]
        · rw [if_neg d2, if_neg d2]
    have hxr := q_reaches ((pr push (hdM bl bh slo shi 1) sh P t (row, sums) (dg n len c) len).2 0 - sums 0) aim
    have hy := rchs_01 ((pr push (hdM bl bh slo shi 1) sh P t (row, sums) (dg n len c) len).2 0 - sums 0) aim
    have tn0 : Int.toNat 0 = 0 := rfl
    rw [m_X7_searchOfLength_25, if_neg (show ¬ ((n ^ len : Nat) : Int) ≤ (c : Int) by omega), r3, m_X7_searchOfLength_95, q_sumOfTried hn.2 hl.2 hP (hD c) h7, bind_s, m_X11_aim_131, if_neg (show ¬ ((n ^ len : Nat) : Int) ≤ (c : Int) by omega), q_X11_atHand hpz h4.2.1 h4.1 h4.2.2 hw.2.1 hw.2.2.2.1, bind_s, chkB (show (0 : Int) ≤ 0 by omega) (show (0 : Int) < ((6 : Nat) : Int) by omega), chk_pos (show (n : Int) ≠ 0 by omega), hunit, chkI (show -2147483648 ≤ ((n ^ (len - 1) : Nat) : Int) by omega) (by omega)]
    dsimp only
    rw [m1, es0, hx]
    generalize rchs ((pr push (hdM bl bh slo shi 1) sh P t (row, sums) (dg n len c) len).2 0 - sums 0) aim = y at *
    rcases hy with hy | hy
    · rw [m_X11_aim_263, if_pos hy]
      have := nxt best2 aimed2 v5 v10 am h3
      by_cases d : v5 ≤ sA P (dg n len c) len
      · rw [if_pos d, chkB (by omega) (by omega)]; exact this
      · rw [if_neg d, chkB (by omega) (by omega), tn, chk_pos (h1.1 _ (by omega)), chkB (by omega) (by omega), tn0, chk_pos (h1.1 _ (by omega)), el, e0, chkI (by omega) (by omega), hxr, bind_s, if_pos hy]
        exact this
    · rw [m_X11_aim_263, if_neg (show ¬ y = 0 by omega)]
      obtain ⟨aimed3, v19, a1, a2⟩ := q_aim302 (aimed := aimed2) (code := c) hn hl (by omega) (fun t_aimed' v18' v19' => m_X11_aim_335 bl bh (len : Int) push slo shi sh (pr push (hdM bl bh slo shi 1) sh P t (row, sums) (dg n len c) len).1 wa fe push (pr push (hdM bl bh slo shi 1) sh P t (row, sums) (dg n len c) len).2 row sums P' t_aimed' (n : Int) (t : Int) aim ((n ^ len : Nat) : Int) (len : Int) (sA P (dg n len c) len) (c : Int) (m_X11_aim_131 bl bh push slo shi sh row sums P' (n : Int) (t : Int) aim ((n ^ len : Nat) : Int) (len : Int) k341 F) k341)
      have upd : aL2 len am0 best aimed (sA P (dg n len c) len) (cpy tried best2 0 0 (len : Int)) (sA P (dg n len c) len) (len : Int) aimed3 := Or.inr ⟨rfl, hsA.1, by omega, rfl, fun j hj => by
        unfold cpy
        rw [if_pos ⟨by omega, by omega⟩, a1 j hj]
        have := h7 j hj
        rw [← this]
        congr 1
        omega⟩
      have h283 : ∀ am (aimed2' : Nat → Int), aimed2' = aimed2 → m_X11_aim_283 bl bh am push slo shi sh (pr push (hdM bl bh slo shi 1) sh P t (row, sums) (dg n len c) len).1 wa fe push (pr push (hdM bl bh slo shi 1) sh P t (row, sums) (dg n len c) len).2 row sums P' aimed2' (n : Int) (t : Int) aim ((n ^ len : Nat) : Int) (len : Int) (c : Int) (sA P (dg n len c) len) (m_X11_aim_131 bl bh push slo shi sh row sums P' (n : Int) (t : Int) aim ((n ^ len : Nat) : Int) (len : Int) k341 F) k341 = m_X11_aim_335 bl bh (len : Int) push slo shi sh (pr push (hdM bl bh slo shi 1) sh P t (row, sums) (dg n len c) len).1 wa fe push (pr push (hdM bl bh slo shi 1) sh P t (row, sums) (dg n len c) len).2 row sums P' aimed3 (n : Int) (t : Int) aim ((n ^ len : Nat) : Int) (len : Int) (sA P (dg n len c) len) (c : Int) (m_X11_aim_131 bl bh push slo shi sh row sums P' (n : Int) (t : Int) aim ((n ^ len : Nat) : Int) (len : Int) k341 F) k341 := by
        intro am aimed2' he
        rw [he, m_X11_aim_283, chk_pos (show (n : Int) ≠ 0 by omega), hunit, chkI (by omega) (by omega), a2]
      have new := nxt _ _ _ _ _ upd
      have cup : v5 ≤ sA P (dg n len c) len ∨ ¬ v5 ≤ sA P (dg n len c) len := Classical.em _
      rcases h3 with ⟨g1, g2, g3, g4, g5⟩ | ⟨g1, g2, g3, g4, g5⟩
      · rw [if_neg (show ¬ v5 ≤ sA P (dg n len c) len by omega), chkB (by omega) (by omega), tn, chk_pos (h1.1 _ (by omega)), chkB (by omega) (by omega), tn0, chk_pos (h1.1 _ (by omega)), el, e0, chkI (by omega) (by omega), hxr, bind_s, if_neg (show ¬ y = 0 by omega), chk_pos ⟨by omega, by omega, by omega, by omega, by omega⟩, if_pos g2, h283 _ _ rfl]
        exact new
      · rw [if_neg (show ¬ v10 = -1 by omega)]
        rcases cup with d | d
        · rw [if_pos d, if_pos (show v10 ≤ sA P (dg n len c) len by omega), chkB (by omega) (by omega)]
          exact nxt best2 aimed2 v5 v10 am (Or.inr ⟨g1, g2, g3, g4, g5⟩)
        · rw [if_neg d, chkB (by omega) (by omega), tn, chk_pos (h1.1 _ (by omega)), chkB (by omega) (by omega), tn0, chk_pos (h1.1 _ (by omega)), el, e0, chkI (by omega) (by omega), hxr, bind_s, if_neg (show ¬ y = 0 by omega), chk_pos ⟨by omega, by omega, by omega, by omega, by omega⟩, if_neg (show ¬ v10 ≤ sA P (dg n len c) len by omega), h283 _ _ rfl]
          exact new) (n ^ len) FU 0 (by omega) (by unfold FU; omega) (mix 5 (fun _ => 0) tried) best R 0 1073741824 (-1) am0 cur was feel pA cS aimed hr hR (Or.inl ⟨rfl, rfl, rfl, rfl, rfl⟩) hs (by omega) (fun _ => ⟨fun j hj => by
            unfold mix
            rw [if_pos (by omega), dg_zero]; rfl, fun i hi => by
            obtain rfl : i = 0 := by omega
            exact hR⟩)
  exact key
theorem q_lens {bl bh m am bm aim B : Int} {R0 n t : Nat} {Kt : Nat → Nat} {P P' best push slo shi sh lows highs sH so row sums aimed : Nat → Int} (hn : 0 < n ∧ n ≤ 4) (ht : t ≤ 20) (hg : gW push (hdM bl bh slo shi 1) lows highs R0 1) (ho : sO sh sH so m) (hpz : Zf 21 push) (hw : rW B row sums) (hB : B ≤ 18000000) (hP : ∀ j, j < n → -9999 ≤ P j ∧ P j ≤ 9999) (hPP : ∀ j, j < n → P' j = P j) (hai : RAi bm best am aimed) : ∀ (c F len : Nat), len + c = 6 → c < F → ∀ (tried : Nat → Int) (R : Nat → RowT) (cur was feel pA cS : Nat → Int), 0 < len → RTr Kt R → rT (R (Kt 0)) row sums → RSc cur pA cS →
    ∃ r r2, m_X7_searchPulls_13 (n : Int) Kt P m (R0 : Int) push lows highs sH so (t : Int) aim (fun t_tried' t_best' t_rows_R' v5' => m_X7_searchPulls_47 bm t_tried' t_best' t_rows_R') (fun t_tried' t_best' t_rows_R' v5' => m_X7_searchPulls_32 bm t_tried' t_best' t_rows_R' v5') F tried best R (len : Int) = some r ∧ m_X11_aim_113 bl bh push slo shi sh row sums P' (n : Int) (t : Int) aim (fun t_aimedMany' t_cur' t_was' t_feel' t_pushAt' t_curSum' t_aimed' v8' v9' => m_X11_aim_356 t_aimedMany' t_cur' t_was' t_feel' t_pushAt' t_curSum' P' t_aimed') (fun t_aimedMany' t_cur' t_was' t_feel' t_pushAt' t_curSum' t_aimed' v8' v9' => m_X11_aim_347 t_aimedMany' t_cur' t_was' t_feel' t_pushAt' t_curSum' P' t_aimed' v9') F am cur was feel pA cS aimed ((n ^ (len - 1) : Nat) : Int) (len : Int) = some r2 ∧ r.1 = r2.1 ∧ RTr Kt r.2.2.2.2 ∧ RSc r2.2.2.1 r2.2.2.2.2.2.1 r2.2.2.2.2.2.2.1 ∧ RAi r.2.1 r.2.2.2.1 r2.2.1 r2.2.2.2.2.2.2.2.2 := by
  exact loop_p 6 (fun F len => ∀ (tried : Nat → Int) (R : Nat → RowT) (cur was feel pA cS : Nat → Int), 0 < len → RTr Kt R → rT (R (Kt 0)) row sums → RSc cur pA cS →
    ∃ r r2, m_X7_searchPulls_13 (n : Int) Kt P m (R0 : Int) push lows highs sH so (t : Int) aim (fun t_tried' t_best' t_rows_R' v5' => m_X7_searchPulls_47 bm t_tried' t_best' t_rows_R') (fun t_tried' t_best' t_rows_R' v5' => m_X7_searchPulls_32 bm t_tried' t_best' t_rows_R' v5') F tried best R (len : Int) = some r ∧ m_X11_aim_113 bl bh push slo shi sh row sums P' (n : Int) (t : Int) aim (fun t_aimedMany' t_cur' t_was' t_feel' t_pushAt' t_curSum' t_aimed' v8' v9' => m_X11_aim_356 t_aimedMany' t_cur' t_was' t_feel' t_pushAt' t_curSum' P' t_aimed') (fun t_aimedMany' t_cur' t_was' t_feel' t_pushAt' t_curSum' t_aimed' v8' v9' => m_X11_aim_347 t_aimedMany' t_cur' t_was' t_feel' t_pushAt' t_curSum' P' t_aimed' v9') F am cur was feel pA cS aimed ((n ^ (len - 1) : Nat) : Int) (len : Int) = some r2 ∧ r.1 = r2.1 ∧ RTr Kt r.2.2.2.2 ∧ RSc r2.2.2.1 r2.2.2.2.2.2.1 r2.2.2.2.2.2.2.1 ∧ RAi r.2.1 r.2.2.2.1 r2.2.1 r2.2.2.2.2.2.2.2.2) (fun F tried R cur was feel pA cS _ h1 h2 h3 => by
      refine ⟨_, _, by rw [m_X7_searchPulls_13, if_pos (by omega), m_X7_searchPulls_47], by rw [m_X11_aim_113, if_pos (by omega)], rfl, h1, h3, hai⟩) (fun F len hl ih _ tried R cur was feel pA cS h0 h1 h2 h3 => by
      have hpw := pow_bd (n := n) (len := len) hn (by omega)
      have hpe : ((n ^ (len - 1) : Nat) : Int) * (n : Int) = ((n ^ len : Nat) : Int) := by
        rw [← Int.natCast_mul, ← Nat.pow_succ, show (len - 1).succ = len by omega]
      obtain ⟨v, tried', best', R', am', cur', wa', fe', pA', cS', aimed', v10', v5', e, q1, q2, q3, q4, q5, q6, q7⟩ := q_len (bl := bl) (bh := bh) (aim := aim) (am0 := am) (tried := tried) (best := best) (was := was) (feel := feel) (aimed := aimed) (t := t) (len := len) (k341 := fun t_aimedMany' t_cur' t_was' t_feel' t_pushAt' t_curSum' t_aimed' v10' v11' => m_X11_aim_341 bl bh t_aimedMany' push slo shi sh t_cur' t_was' t_feel' t_pushAt' t_curSum' row sums P' t_aimed' (n : Int) (t : Int) aim ((n ^ len : Nat) : Int) (len : Int) v10' (m_X11_aim_113 bl bh push slo shi sh row sums P' (n : Int) (t : Int) aim (fun t_aimedMany' t_cur' t_was' t_feel' t_pushAt' t_curSum' t_aimed' v8' v9' => m_X11_aim_356 t_aimedMany' t_cur' t_was' t_feel' t_pushAt' t_curSum' P' t_aimed') (fun t_aimedMany' t_cur' t_was' t_feel' t_pushAt' t_curSum' t_aimed' v8' v9' => m_X11_aim_347 t_aimedMany' t_cur' t_was' t_feel' t_pushAt' t_curSum' P' t_aimed' v9') F) (fun t_aimedMany' t_cur' t_was' t_feel' t_pushAt' t_curSum' t_aimed' v8' v9' => m_X11_aim_356 t_aimedMany' t_cur' t_was' t_feel' t_pushAt' t_curSum' P' t_aimed') (fun t_aimedMany' t_cur' t_was' t_feel' t_pushAt' t_curSum' t_aimed' v8' v9' => m_X11_aim_347 t_aimedMany' t_cur' t_was' t_feel' t_pushAt' t_curSum' P' t_aimed' v9')) h1 h2 hn ⟨by omega, by omega⟩ ht hg ho hpz hw hB hP hPP h3
      rw [m_X7_searchPulls_13, if_neg (by omega), q1, bind_s, m_X11_aim_113, if_neg (show ¬ (5 : Int) < (len : Int) by omega), hpe, chkI (show -2147483648 ≤ ((n ^ len : Nat) : Int) by omega) (by omega), q7, m_X11_aim_341]
      rcases q5 with ⟨f1, f2, f3, f4, f5⟩ | ⟨f1, f2, f3, f4, f5⟩
      · rw [if_pos (show (1073741824 : Int) ≤ v5' by omega)] at q4
        rw [if_pos q4, chkI (by omega) (by omega), if_pos f2, chkI (by omega) (by omega), f3, f4, f5]
        have := ih tried' R' cur' wa' fe' pA' cS' (by omega) q2 q3 q6
        rw [show len + 1 - 1 = len by omega] at this
        exact this
      · rw [if_neg (show ¬ (1073741824 : Int) ≤ v5' by omega)] at q4
        rw [if_neg (show ¬ v = 0 by omega), if_neg (show ¬ v10' = -1 by omega), m_X7_searchPulls_32]
        exact ⟨_, _, rfl, rfl, rfl, q2, q6, len, rfl, f4, by omega, f5⟩)
theorem q_aim74 {n : Nat} {P : Nat → Int} (hn : n ≤ 4) (k107 k99 : Int → Option (Int × Int × (Nat → Int) × (Nat → Int) × (Nat → Int) × (Nat → Int) × (Nat → Int) × (Nat → Int) × (Nat → Int))) : ((∀ j, j < n → -9999 ≤ P j ∧ P j ≤ 9999) → m_X11_aim_74 P (n : Int) k107 k99 FU 0 = k107 (n : Int)) ∧ (¬ (∀ j, j < n → -9999 ≤ P j ∧ P j ≤ 9999) → ∃ v, m_X11_aim_74 P (n : Int) k107 k99 FU 0 = k99 v) := by
  have key := loop_p n (fun F i => (∀ j, j < i → -9999 ≤ P j ∧ P j ≤ 9999) → ((∀ j, j < n → -9999 ≤ P j ∧ P j ≤ 9999) → m_X11_aim_74 P (n : Int) k107 k99 F (i : Int) = k107 (n : Int)) ∧ (¬ (∀ j, j < n → -9999 ≤ P j ∧ P j ≤ 9999) → ∃ v, m_X11_aim_74 P (n : Int) k107 k99 F (i : Int) = k99 v)) (fun F h => ⟨fun _ => by rw [m_X11_aim_74, if_pos (by omega)], fun hh => absurd h hh⟩) (fun F i hi ih _ h => by
    rw [m_X11_aim_74, if_neg (by omega), chkB (by omega) (by omega), tn]
    by_cases c : -9999 ≤ P i ∧ P i ≤ 9999
    · rw [i1 c.1 c.2, bind_s, if_neg ne10, chkI (by omega) (by omega)]
      exact ih (fun j hj => by
        by_cases cj : j = i
        · subst cj; exact c
        · exact h j (by omega))
    · rw [i0 c, bind_s, if_pos rfl]
      exact ⟨fun hh => absurd (hh i hi) c, fun _ => ⟨_, rfl⟩⟩) n FU 0 (by omega) (by unfold FU; omega) (fun j hj => by omega)
  exact key
theorem pc_aim {B now last undos redos fl s g w o lo ca m reach bl bh pm bm am : Int} {K Kt : Nat → Nat} {R Rt : Nat → RowT} {uR uS rR rS row sums signs cur pA cS was feel push pushes lows highs sH so slo shi sh pulls tried best pull aimed : Nat → Int} (h : RAc B now last K R undos redos uR uS rR rS row sums) (hr : RRow fl s g w o lo ca signs row sums) (hg : RGr m reach pushes lows highs sH so bl bh push slo shi sh) (hs : RSc cur pA cS) (hB : B ≤ 18000000) (ht : RTr Kt Rt) (hai : RAi bm best am aimed) (n a b c d T aim : Int) :
    ∃ r r2, m_X10_aim fl s g w o lo ca signs pm bm Kt pulls tried best m reach pushes lows highs sH so Rt n a b c d T aim = some r ∧ m_X11_aim bl bh am push slo shi sh cur was feel pA cS row sums pull aimed n a b c d T aim = some r2 ∧ r.1 = r2.1 ∧ RTr Kt r.2.2.2.2.2.2 ∧ RSc r2.2.2.1 r2.2.2.2.2.2.1 r2.2.2.2.2.2.2.1 ∧ RAi r.2.2.1 r.2.2.2.2.2.1 r2.2.1 r2.2.2.2.2.2.2.2.2 := by
  have hr0 := hr
  obtain ⟨u, r, e1, e2, e3, e4, e5, k1, k2, k3, k4, k5, k6, k7⟩ := h
  obtain ⟨a1, a2, a3, a4, a5, a6, a7, a8⟩ := hr
  subst a1
  obtain ⟨R0, hR0, hg1⟩ := RGr_gW hg 1
  obtain ⟨g1, g2, g3, g4, g5, g6⟩ := hg
  subst g1
  subst hR0
  rw [a2, a3, a4, a5, a6, a7, a8, m_X10_aim, m_X10_aim_0, m_X11_aim, m_X11_aim_0]
  simp (disch := omega) only [chkB]
  have no : ∀ (r : Int × Int × Int × (Nat → Int) × (Nat → Int) × (Nat → Int) × (Nat → RowT)) (pull' : Nat → Int), r = (-1, pm, bm, pulls, tried, best, Rt) → ∃ r1 r2, some r = some r1 ∧ some (-1, am, cur, was, feel, pA, cS, pull', aimed) = some r2 ∧ r1.1 = r2.1 ∧ RTr Kt r1.2.2.2.2.2.2 ∧ RSc r2.2.2.1 r2.2.2.2.2.2.1 r2.2.2.2.2.2.2.1 ∧ RAi r1.2.2.1 r1.2.2.2.2.2.1 r2.2.1 r2.2.2.2.2.2.2.2.2 := by
    intro r pull' hrr
    subst hrr
    exact ⟨_, _, rfl, rfl, rfl, ht, hs, hai⟩
  by_cases c1 : 1 ≤ n ∧ n ≤ 4
  · obtain ⟨n, rfl⟩ : ∃ i : Nat, n = (i : Int) := ⟨n.toNat, by omega⟩
    rw [w1 c1.1 c1.2, i1 c1.1 c1.2, bind_s, bind_s, if_neg ne10, if_neg ne10]
    by_cases c2 : 1 ≤ T ∧ T ≤ 20
    · obtain ⟨t, rfl⟩ : ∃ i : Nat, T = (i : Int) := ⟨T.toNat, by omega⟩
      rw [w1 c2.1 c2.2, i1 c2.1 c2.2, bind_s, bind_s, if_neg ne10, if_neg ne10]
      by_cases c3 : -1000 ≤ aim ∧ aim ≤ 1000
      · rw [w1 c3.1 c3.2, i1 c3.1 c3.2, bind_s, bind_s, if_neg ne10, if_neg ne10]
        by_cases c4 : aim = 0
        · rw [if_pos c4, if_pos c4]
          exact no _ _ rfl
        · rw [if_neg c4, if_neg c4]
          obtain ⟨P, hPd⟩ : ∃ P, P = up (up (up (up pulls (Int.toNat 0) a) (Int.toNat 1) b) (Int.toNat 2) c) (Int.toNat 3) d := ⟨_, rfl⟩
          obtain ⟨P', hPd'⟩ : ∃ P, P = up (up (up (up pull (Int.toNat 0) a) (Int.toNat 1) b) (Int.toNat 2) c) (Int.toNat 3) d := ⟨_, rfl⟩
          have hPP : ∀ j, j < n → P' j = P j := fun j hj => by
            rw [hPd, hPd']
            rcases (by omega : j = 0 ∨ j = 1 ∨ j = 2 ∨ j = 3) with h | h | h | h <;> subst h <;> rfl
          have hv : P' 0 = a ∧ P' 1 = b ∧ P' 2 = c ∧ P' 3 = d := by rw [hPd']; exact ⟨rfl, rfl, rfl, rfl⟩
          rw [← hPd']
          obtain ⟨q1, q2⟩ := q_aim74 (P := P') (n := n) (by omega) (fun v8' => m_X11_aim_107 bl bh am pushes slo shi sh cur was feel pA cS signs sums P' aimed (n : Int) (t : Int) aim) (fun v8' => m_X11_aim_99 am cur was feel pA cS P' aimed)
          by_cases hgood : ∀ j, j < n → -9999 ≤ P' j ∧ P' j ≤ 9999
          · rw [q1 hgood, m_X11_aim_107]
            have ga : -9999 ≤ a ∧ a ≤ 9999 := by have := hgood 0 (by omega); rw [hv.1] at this; exact this
            have tp : m_X7_tellPulls pm pulls (n : Int) a b c d = some ((n : Int), P) := by
              rw [m_X7_tellPulls, m_X7_tellPulls_0]
              simp (disch := omega) only [chkB]
              rw [← hPd, if_neg (show ¬ (4 : Int) < (n : Int) by omega)]
              congr 2
              split <;> omega
            have h88 : ∀ X, m_X10_aim_88 (cnt signs 100) (sums 0) (sums 5) (sums 1) (sums 2) (sums 3) (sums 4) signs pm bm Kt pulls tried best m (R0 : Int) pushes lows highs sH so Rt (n : Int) a b c d (t : Int) aim = X → m_X10_aim_60 (cnt signs 100) (sums 0) (sums 5) (sums 1) (sums 2) (sums 3) (sums 4) signs pm bm Kt pulls tried best m (R0 : Int) pushes lows highs sH so Rt (n : Int) a b c d (t : Int) aim = X := by
              intro X hX
              have h73 : m_X10_aim_73 (cnt signs 100) (sums 0) (sums 5) (sums 1) (sums 2) (sums 3) (sums 4) signs pm bm Kt pulls tried best m (R0 : Int) pushes lows highs sH so Rt (n : Int) a b c d (t : Int) aim = X := by
                rw [m_X10_aim_73]
                by_cases d3 : n ≤ 3
                · rw [if_pos (by omega)]; exact hX
                · have gd := hgood 3 (by omega)
                  rw [hv.2.2.2] at gd
                  rw [if_neg (by omega), isPull1 gd.1 gd.2, bind_s, if_neg ne10]; exact hX
              rw [m_X10_aim_60]
              by_cases d2 : n ≤ 2
              · rw [if_pos (by omega)]; exact h73
              · have gc' := hgood 2 (by omega)
                rw [hv.2.2.1] at gc'
                rw [if_neg (by omega), isPull1 gc'.1 gc'.2, bind_s, if_neg ne10]; exact h73
            have tn0 : Int.toNat 0 = 0 := rfl
            obtain ⟨U0, hU0⟩ : ∃ U, U = up Rt (Kt 0) (signs, (Rt (Kt 0)).2.1, (Rt (Kt 0)).2.2.1, cnt signs 100, sums 0, sums 5, sums 1, sums 2, sums 3, sums 4) := ⟨_, rfl⟩
            have hU1 : RTr Kt U0 := ⟨ht.1, ht.2.1, by rw [hU0]; exact zf_up ht.2.2 k6.2.1⟩
            have hU2 : rT (U0 (Kt 0)) signs sums := by rw [hU0, up_at]; exact ⟨rfl, rfl, rfl, rfl, rfl, rfl, rfl, rfl⟩
            obtain ⟨r, r2, z1, z2, z3, z4, z5, z6⟩ := q_lens (bl := bl) (bh := bh) (Kt := Kt) (aim := aim) (t := t) (P := P) (P' := P') (show 0 < n ∧ n ≤ 4 by omega) (by omega) hg1 g6 g2 k6 hB (fun j hj => by rw [← hPP j hj]; exact hgood j hj) hPP hai 5 FU 1 (by omega) (by unfold FU; omega) tried U0 cur was feel pA cS (by omega) hU1 hU2 hs
            have hX : m_X10_aim_88 (cnt signs 100) (sums 0) (sums 5) (sums 1) (sums 2) (sums 3) (sums 4) signs pm bm Kt pulls tried best m (R0 : Int) pushes lows highs sH so Rt (n : Int) a b c d (t : Int) aim = some (r.1, (n : Int), r.2.1, P, r.2.2.1, r.2.2.2.1, r.2.2.2.2) := by
              rw [m_X10_aim_88, tp, bind_s, m_X7_searchPulls, m_X7_searchPulls_0, chkB (by omega) (by omega), tn0, chk_pos (ht.1 0 (by omega)), q_X6_becomes (ht.2.2 _) k6.2.1, bind_s]
              dsimp only
              rw [← hU0]
              have z1' : m_X7_searchPulls_13 (n : Int) Kt P m (R0 : Int) pushes lows highs sH so (t : Int) aim (fun t_tried' t_best' t_rows_R' v5' => m_X7_searchPulls_47 bm t_tried' t_best' t_rows_R') (fun t_tried' t_best' t_rows_R' v5' => m_X7_searchPulls_32 bm t_tried' t_best' t_rows_R' v5') FU tried best U0 1 = some r := z1
              rw [z1', bind_s]
            have z2' : m_X11_aim_113 bl bh pushes slo shi sh signs sums P' (n : Int) (t : Int) aim (fun t_aimedMany' t_cur' t_was' t_feel' t_pushAt' t_curSum' t_aimed' v8' v9' => m_X11_aim_356 t_aimedMany' t_cur' t_was' t_feel' t_pushAt' t_curSum' P' t_aimed') (fun t_aimedMany' t_cur' t_was' t_feel' t_pushAt' t_curSum' t_aimed' v8' v9' => m_X11_aim_347 t_aimedMany' t_cur' t_was' t_feel' t_pushAt' t_curSum' P' t_aimed' v9') FU am cur was feel pA cS aimed 1 1 = some r2 := z2
            rw [isPull1 ga.1 ga.2, bind_s, if_neg ne10, z2', h88 _ hX]
            by_cases d1 : n ≤ 1
            · rw [if_pos (show (n : Int) ≤ 1 by omega)]
              exact ⟨_, _, rfl, rfl, z3, z4, z5, z6⟩
            · have gb := hgood 1 (by omega)
              rw [hv.2.1] at gb
              rw [if_neg (show ¬ (n : Int) ≤ 1 by omega), isPull1 gb.1 gb.2, bind_s, if_neg ne10]
              exact ⟨_, _, rfl, rfl, z3, z4, z5, z6⟩
          · obtain ⟨v, hv2⟩ := q2 hgood
            rw [hv2, m_X11_aim_99]
            have hbad : ∀ (ga : -9999 ≤ a ∧ a ≤ 9999) (gb : n > 1 → -9999 ≤ b ∧ b ≤ 9999) (gc : n > 2 → -9999 ≤ c ∧ c ≤ 9999) (gd : n > 3 → -9999 ≤ d ∧ d ≤ 9999), False := by
              intro ga gb gc gd
              refine hgood (fun j hj => ?_)
              rcases (by omega : j = 0 ∨ j = 1 ∨ j = 2 ∨ j = 3) with h | h | h | h <;> subst h
              · rw [hv.1]; exact ga
              · rw [hv.2.1]; exact gb (by omega)
              · rw [hv.2.2.1]; exact gc (by omega)
              · rw [hv.2.2.2]; exact gd (by omega)
            by_cases ga : -9999 ≤ a ∧ a ≤ 9999
            · rw [isPull1 ga.1 ga.2, bind_s, if_neg ne10]
              have h60 : (n > 1 → -9999 ≤ b ∧ b ≤ 9999) → m_X10_aim_60 (cnt signs 100) (sums 0) (sums 5) (sums 1) (sums 2) (sums 3) (sums 4) signs pm bm Kt pulls tried best m (R0 : Int) pushes lows highs sH so Rt (n : Int) a b c d (t : Int) aim = some (-1, pm, bm, pulls, tried, best, Rt) := by
                intro gb
                rw [m_X10_aim_60]
                by_cases d2 : n ≤ 2
                · exact (hbad ga gb (fun h => by omega) (fun h => by omega)).elim
                · by_cases gc : -9999 ≤ c ∧ c ≤ 9999
                  · rw [if_neg (by omega), isPull1 gc.1 gc.2, bind_s, if_neg ne10, m_X10_aim_73]
                    by_cases d3 : n ≤ 3
                    · exact (hbad ga gb (fun h => gc) (fun h => by omega)).elim
                    · by_cases gd : -9999 ≤ d ∧ d ≤ 9999
                      · exact (hbad ga gb (fun h => gc) (fun h => gd)).elim
                      · rw [if_neg (by omega), isPull0 gd, bind_s, if_pos rfl]
                  · rw [if_neg (by omega), isPull0 gc, bind_s, if_pos rfl]
              by_cases d1 : n ≤ 1
              · rw [if_pos (show (n : Int) ≤ 1 by omega), h60 (fun h => by omega)]
                exact no _ _ rfl
              · rw [if_neg (show ¬ (n : Int) ≤ 1 by omega)]
                by_cases gb : -9999 ≤ b ∧ b ≤ 9999
                · rw [isPull1 gb.1 gb.2, bind_s, if_neg ne10, h60 (fun _ => gb)]
                  exact no _ _ rfl
                · rw [isPull0 gb, bind_s, if_pos rfl]
                  exact no _ _ rfl
            · rw [isPull0 ga, bind_s, if_pos rfl]
              exact no _ _ rfl
      · rw [w0 c3, i0 c3, bind_s, bind_s, if_pos rfl, if_pos rfl]
        exact no _ _ rfl
    · rw [w0 c2, i0 c2, bind_s, bind_s, if_pos rfl, if_pos rfl]
      exact no _ _ rfl
  · rw [w0 c1, i0 c1, bind_s, bind_s, if_pos rfl, if_pos rfl]
    exact no _ _ rfl

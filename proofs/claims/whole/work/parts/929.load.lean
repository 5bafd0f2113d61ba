
/-! ===== PURE: steps of the grain, loads, the curve ===== -/
theorem gRw_le {B C : Int} {K : Nat → Nat} {R : Nat → RowT} {grain gS : Nat → Int} (h : gRw B K R grain gS) (hC : B ≤ C) : gRw C K R grain gS := by
  obtain ⟨k1, k2, k3⟩ := h
  exact ⟨k1, k2, fun k hk => ⟨(k3 k hk).1, rW_le (k3 k hk).2 hC⟩⟩
theorem q_tickAll_2 {own cross B : Int} {n : Nat} {K : Nat → Nat} {R : Nat → RowT} {grain gS : Nat → Int} {k27 : (Nat → Int) → Int → Option (Int × (Nat → Int) × (Nat → RowT))} {hs0 : Nat → Int} (ho : 0 ≤ own ∧ own ≤ 999) (hc : 0 ≤ cross ∧ cross ≤ 999) (hr : gRw B K R grain gS) (hn : n ≤ 8) (hB : B ≤ 19000000) :
    ∃ hs, (∀ k, k < n → hs k = hN own cross (fun i => gS (6 * i + 5)) k n / 100) ∧ m_X2_tickAll_2 (n : Int) own cross K R k27 FU hs0 0 = k27 hs (n : Int) := by
  exact loop_p n (fun F i => ∀ hs0 : Nat → Int, (∀ k, k < i → hs0 k = hN own cross (fun i => gS (6 * i + 5)) k n / 100) → ∃ hs, (∀ k, k < n → hs k = hN own cross (fun i => gS (6 * i + 5)) k n / 100) ∧ m_X2_tickAll_2 (n : Int) own cross K R k27 F hs0 (i : Int) = k27 hs (n : Int)) (fun F hs0 h => ⟨hs0, h, by rw [m_X2_tickAll_2, if_pos (by omega)]⟩) (fun F i hi ih _ hs0 h => by
    obtain ⟨q1, q2, _⟩ := q_hardnessOf ho hc hr hn hi hB
    rw [m_X2_tickAll_2, if_neg (by omega), q1, bind_s, chkB (by omega) (by omega), chkI (by omega) (by omega), tn]
    exact ih _ (fun k hk => by
      by_cases c : k = i
      · subst c; rw [up_at]
      · rw [up_ne _ _ c]; exact h k (by omega))) n FU 0 (by omega) (by unfold FU; omega) hs0 (fun k hk => by omega)
theorem q_steps_6 {own cross B : Int} {n : Nat} {K : Nat → Nat} {R : Nat → RowT} {grain gS : Nat → Int} {k34 : (Nat → Int) → Int → Option (Int × (Nat → Int) × (Nat → Int) × (Nat → Int) × (Nat → Int) × (Nat → Int) × (Nat → Int) × (Nat → Int) × (Nat → Int))} {hs0 : Nat → Int} (ho : 0 ≤ own ∧ own ≤ 999) (hc : 0 ≤ cross ∧ cross ≤ 999) (hr : gRw B K R grain gS) (hn : n ≤ 8) (hB : B ≤ 19000000) :
    ∃ hs, (∀ k, k < n → hs k = hN own cross (fun i => gS (6 * i + 5)) k n / 100) ∧ m_X11_steps_6 (n : Int) own cross gS k34 FU hs0 0 = k34 hs (n : Int) := by
  exact loop_p n (fun F i => ∀ hs0 : Nat → Int, (∀ k, k < i → hs0 k = hN own cross (fun i => gS (6 * i + 5)) k n / 100) → ∃ hs, (∀ k, k < n → hs k = hN own cross (fun i => gS (6 * i + 5)) k n / 100) ∧ m_X11_steps_6 (n : Int) own cross gS k34 F hs0 (i : Int) = k34 hs (n : Int)) (fun F hs0 h => ⟨hs0, h, by rw [m_X11_steps_6, if_pos (by omega)]⟩) (fun F i hi ih _ hs0 h => by
    obtain ⟨q1, q2, _⟩ := q_hardnessOf ho hc hr hn hi hB
    rw [m_X11_steps_6, if_neg (by omega), q2, bind_s, chkB (by omega) (by omega), chkI (by omega) (by omega), tn]
    exact ih _ (fun k hk => by
      by_cases c : k = i
      · subst c; rw [up_at]
      · rw [up_ne _ _ c]; exact h k (by omega))) n FU 0 (by omega) (by unfold FU; omega) hs0 (fun k hk => by omega)
/-- one step of the grain -/
theorem q_step {m reach bl bh own cross B x y z f side : Int} {pushes lows highs sH so push slo shi sh ways grain gS fo hs0 hd0 cur was feel pA cS : Nat → Int} {n : Nat} {K : Nat → Nat} {R : Nat → RowT} (hg : RGr m reach pushes lows highs sH so bl bh push slo shi sh) (hr : gRw B K R grain gS) (ho : 0 ≤ own ∧ own ≤ 999) (hc : 0 ≤ cross ∧ cross ≤ 999) (hn : n ≤ 8) (hB : B ≤ 18900000) (hs : RSc cur pA cS)
    (hf : ∀ k, k < n → m_X11_pulledOn ways x y z f (k : Int) = some (fo k) ∧ -9999 ≤ fo k ∧ fo k ≤ 9999) :
    ∃ v hs' R' cur' was' feel' cS' grain' hd' gS', m_X2_tickAll (n : Int) own cross K hs0 fo m reach pushes lows highs sH so R side = some (v, hs', R') ∧ m_X11_steps bl bh (n : Int) own cross push slo shi sh cur was feel pA cS grain ways hd0 gS x y z f side = some (v, cur', was', feel', push, cS', grain', hd', gS') ∧ gRw (B + 30) K R' grain' gS' ∧ RSc cur' push cS' ∧ (v = 0 ∨ v = 1) := by
  obtain ⟨hs', hh1, hh2⟩ := q_tickAll_2 (k27 := fun t_hardnesses' v3' => m_X2_tickAll_27 (n : Int) K t_hardnesses' fo m reach pushes lows highs sH so R side) (hs0 := hs0) ho hc hr hn (by omega)
  obtain ⟨hd', hd1, hd2⟩ := q_steps_6 (k34 := fun t_harder' v7' => m_X11_steps_34 bl bh (n : Int) push slo shi sh cur was feel pA cS grain ways t_harder' gS x y z f side 0) (hs0 := hd0) ho hc hr hn (by omega)
  have hbd : ∀ k, k < n → 0 ≤ hs' k ∧ hs' k ≤ 2000000000 := fun k hk => by rw [hh1 k hk]; exact (q_hardnessOf ho hc hr hn hk (by omega)).2.2
  have hde : ∀ k, k < n → hd' k = hs' k := fun k hk => by rw [hh1 k hk, hd1 k hk]
  rw [m_X2_tickAll, m_X2_tickAll_0, hh2, m_X2_tickAll_27, m_X11_steps, m_X11_steps_0, hd2, m_X11_steps_34, q_X11_pushesAsRead hg.2.1 hs.2.1, bind_s]
  obtain ⟨e1, g2, g3, ⟨R0, rfl, r1, r2⟩, g5, g6⟩ := hg
  subst e1
  obtain ⟨k1, k2, k3⟩ := hr
  have key := loop_p n (fun F i => ∀ (v : Int) (R : Nat → RowT) (cur was feel cS grain gS : Nat → Int), (v = 0 ∨ v = 1) → Zf 100 cur → Zf 6 cS → (∀ k, k < 8 → rT (R (K k)) (sl 100 grain (100 * k)) (sl 6 gS (6 * k)) ∧ rW (if k < i then B + 30 else B) (sl 100 grain (100 * k)) (sl 6 gS (6 * k))) → ∃ v' R' cur' was' feel' cS' grain' gS', m_X2_tickAll_32 (n : Int) K hs' fo m (R0 : Int) pushes lows highs sH so side (fun t_rows_R' v3' v4' => m_X2_tickAll_78 hs' t_rows_R' v3') F R v (i : Int) = some (v', hs', R') ∧ m_X11_steps_41 bl bh (n : Int) slo shi sh pushes ways hd' x y z f side (fun t_cur' t_was' t_feel' t_curSum' t_grain' t_grainSum' v6' v7' => m_X11_steps_139 t_cur' t_was' t_feel' pushes t_curSum' t_grain' hd' t_grainSum' v6') F cur was feel cS grain gS v (i : Int) = some (v', cur', was', feel', pushes, cS', grain', hd', gS') ∧ gRw (B + 30) K R' grain' gS' ∧ RSc cur' pushes cS' ∧ (v' = 0 ∨ v' = 1)) (fun F v R cur was feel cS grain gS hv hz1 hz2 hrow => by
      refine ⟨v, R, cur, was, feel, cS, grain, gS, ?_, ?_, ⟨k1, k2, fun k hk => ⟨(hrow k hk).1, rW_le (hrow k hk).2 (by split <;> omega)⟩⟩, ⟨hz1, g2, hz2⟩, hv⟩
      · rw [m_X2_tickAll_32, if_pos (by omega)]
      · rw [m_X11_steps_41, if_pos (by omega)]) (fun F i hi ih _ v R cur was feel cS grain gS hv hz1 hz2 hrow => by
      obtain ⟨⟨t1, t2, t3, t4, t5, t6, t7, t8⟩, hw⟩ := hrow i (by omega)
      rw [if_neg (by omega)] at hw
      obtain ⟨f1, f2, f3⟩ := hf i hi
      obtain ⟨b1, b2⟩ := hbd i hi
      have htk := q_X11_takes (N1 := 800) (N3 := 48) (a := 100 * i) (b := 6 * i) (cur := cur) (cS := cS) (p1 := grain) (p3 := gS) hz1 hz2 (by omega) (by omega)
      obtain ⟨st, ft, x1⟩ := q_X6_tick (push := pushes) (sh := sh) (so := so) (sH := sH) (lows := lows) (highs := highs) (side := side) (more := hs' i) (H := fun k => hdM bl bh slo shi side k + hs' i) (stood := (R (K i)).2.1) (felt := (R (K i)).2.2.1) hw (by omega) r1 r2 g3 f2 f3 ⟨b1, b2⟩ (fun k hk => by
        obtain ⟨y1, y2, y3⟩ := g5 side k hk
        exact ⟨by rw [y1], by omega, by omega⟩) g6
      obtain ⟨wa, fe, x2⟩ := q_X11_tick (push := pushes) (sh := sh) (was := was) (feel := feel) (side := side) (more := hs' i) hw (by omega) g3 f2 f3 ⟨b1, b2⟩ (fun k hk => (g5 side k hk).2) g6.2.2.1
      obtain ⟨o1, o2⟩ := tk_ok (push := pushes) (H := fun k => hdM bl bh slo shi side k + hs' i) (sh := sh) hw f2 f3
      rw [m_X2_tickAll_32, if_neg (by omega), chkB (by omega) (by omega), tn, chk_pos (k1 i (by omega)), chkB (by omega) (by omega), chkB (by omega) (by omega), t1, t2, t3, t4, t5, t6, t7, t8, x1, bind_s, m_X11_steps_41, if_neg (show ¬ (n : Int) ≤ (i : Int) by omega), chkI (by omega) (by omega), chkI (by omega) (by omega), show (100 * (i : Int)) = ((100 * i : Nat) : Int) by omega, show (6 * (i : Int)) = ((6 * i : Nat) : Int) by omega, htk, bind_s, f1, bind_s, chkB (by omega) (by omega), tn, hde i hi]
      dsimp only
      rw [x2, bind_s]
      dsimp only
      generalize tk pushes (fun k => hdM bl bh slo shi side k + hs' i) sh (fo i) (sl 100 grain (100 * i), sl 6 gS (6 * i)) = T at *
      have t109 : ∀ s0, m_X11_steps_109 bl bh (n : Int) slo shi sh T.1 wa fe pushes T.2.1 grain ways hd' gS x y z f side (i : Int) s0 (m_X11_steps_41 bl bh (n : Int) slo shi sh pushes ways hd' x y z f side (fun t_cur' t_was' t_feel' t_curSum' t_grain' t_grainSum' v6' v7' => m_X11_steps_139 t_cur' t_was' t_feel' pushes t_curSum' t_grain' hd' t_grainSum' v6') F) (fun t_cur' t_was' t_feel' t_curSum' t_grain' t_grainSum' v6' v7' => m_X11_steps_139 t_cur' t_was' t_feel' pushes t_curSum' t_grain' hd' t_grainSum' v6') = m_X11_steps_41 bl bh (n : Int) slo shi sh pushes ways hd' x y z f side (fun t_cur' t_was' t_feel' t_curSum' t_grain' t_grainSum' v6' v7' => m_X11_steps_139 t_cur' t_was' t_feel' pushes t_curSum' t_grain' hd' t_grainSum' v6') F T.1 wa fe T.2.1 (ins 100 grain (100 * i) T.1) (ins 6 gS (6 * i) T.2.1) s0 ((i + 1 : Nat) : Int) := by
        intro s0
        rw [m_X11_steps_109, chkI (by omega) (by omega), chkI (by omega) (by omega), show (100 * (i : Int)) = ((100 * i : Nat) : Int) by omega, show (6 * (i : Int)) = ((6 * i : Nat) : Int) by omega, q_X11_keeps (by omega) (by omega), bind_s, chkI (by omega) (by omega)]
        rfl
      have nxt : ∀ w : Int, (w = 0 ∨ w = 1) → _ := fun w hw => ih w (up R (K i) (T.1, st, ft, cnt T.1 100, T.2.1 0, T.2.1 5, T.2.1 1, T.2.1 2, T.2.1 3, T.2.1 4)) T.1 wa fe T.2.1 (ins 100 grain (100 * i) T.1) (ins 6 gS (6 * i) T.2.1) hw o1.2.1 o1.2.2.2.1 (fun k hk => by
        by_cases c : k = i
        · subst c
          rw [up_at, sl_ins o1.2.1, sl_ins o1.2.2.2.1, if_pos (by omega)]
          exact ⟨⟨rfl, rfl, rfl, rfl, rfl, rfl, rfl, rfl⟩, o1⟩
        · have hne : K k ≠ K i := fun hh => c (k2 _ _ hk (by omega) hh)
          rw [up_ne _ _ hne, sl_ins_ne (by omega), sl_ins_ne (by omega)]
          refine ⟨(hrow k hk).1, ?_⟩
          have := (hrow k hk).2
          by_cases c2 : k < i
          · rw [if_pos c2] at this; rw [if_pos (by omega)]; exact this
          · rw [if_neg c2] at this; rw [if_neg (by omega)]; exact this)
      by_cases c : T.2.2 = 0
      · rw [if_pos c, if_pos c, m_X2_tickAll_72, chkI (by omega) (by omega), m_X11_steps_104, t109, t109]
        rcases hv with hv | hv
        · rw [if_pos hv, hv]; exact nxt 0 (Or.inl rfl)
        · rw [if_neg (by omega), hv]; exact nxt 1 (Or.inr rfl)
      · rw [if_neg c, if_neg c, m_X2_tickAll_72, chkI (by omega) (by omega), m_X11_steps_104, t109]
        exact nxt 1 (Or.inr rfl)) n FU 0 (by omega) (by unfold FU; omega) 0 R cur was feel cS grain gS (Or.inl rfl) hs.1 hs.2.2 (fun k hk => by rw [if_neg (by omega)]; exact k3 k hk)
  obtain ⟨v', R', cur', was', feel', cS', grain', gS', z1, z2, z3, z4, z5⟩ := key
  exact ⟨v', hs', R', cur', was', feel', cS', grain', hd', gS', z1, z2, z3, z4, z5⟩
/-- a load -/
theorem q_load {m reach bl bh own cross B x y z f side p a b : Int} {pushes lows highs sH so push slo shi sh px py pz sx sy sz ways grain gS fo0 hs0 hd0 cur was feel pA cS : Nat → Int} {n T : Nat} {K : Nat → Nat} {R : Nat → RowT} (hg : RGr m reach pushes lows highs sH so bl bh push slo shi sh) (hr : gRw B K R grain gS) (ho : 0 ≤ own ∧ own ≤ 999) (hc : 0 ≤ cross ∧ cross ≤ 999) (hn : n ≤ 8) (hB : B + 30 * T ≤ 18900000) (hT : T ≤ 200) (hs : RSc cur pA cS)
    (hw : ∀ k, k < n → gWk px py pz sx sy sz ways k) (ht : pl3 x y z) (hf : 0 ≤ f ∧ f ≤ 9999) :
    ∃ r r2, m_X2_loadBy (n : Int) own cross K (n : Int) px py pz (n : Int) sx sy sz hs0 fo0 m reach pushes lows highs sH so x y z p a b R f (T : Int) side = some r ∧ m_X11_loads bl bh (n : Int) own cross push slo shi sh cur was feel pA cS grain ways hd0 gS x y z f (T : Int) side = some r2 ∧ r.1 = r2.1 ∧ gRw (B + 30 * T) K r.2.2.2.2.2.2 r2.2.2.2.2.2.2.1 r2.2.2.2.2.2.2.2.2 ∧ RSc r2.2.1 r2.2.2.2.2.1 r2.2.2.2.2.2.1 := by
  have hfo := fun (k : Nat) (hk : k < n) (p a b : Int) => q_force (p := p) (a := a) (b := b) ht (hw k hk) hn hk hf
  have k3 : ∀ k33, ∃ fo p' a' b', (∀ k, k < n → m_X11_pulledOn ways x y z f (k : Int) = some (fo k) ∧ -9999 ≤ fo k ∧ fo k ≤ 9999) ∧ m_X2_loadBy_3 (n : Int) (n : Int) px py pz (n : Int) sx sy sz x y z f k33 FU fo0 p a b 0 = k33 fo p' a' b' (n : Int) := by
    intro k33
    exact loop_p n (fun F i => ∀ (fo0 : Nat → Int) (p a b : Int), (∀ k, k < i → m_X11_pulledOn ways x y z f (k : Int) = some (fo0 k) ∧ -9999 ≤ fo0 k ∧ fo0 k ≤ 9999) → ∃ fo p' a' b', (∀ k, k < n → m_X11_pulledOn ways x y z f (k : Int) = some (fo k) ∧ -9999 ≤ fo k ∧ fo k ≤ 9999) ∧ m_X2_loadBy_3 (n : Int) (n : Int) px py pz (n : Int) sx sy sz x y z f k33 F fo0 p a b (i : Int) = k33 fo p' a' b' (n : Int)) (fun F fo0 p a b h => ⟨fo0, p, a, b, h, by rw [m_X2_loadBy_3, if_pos (by omega)]⟩) (fun F i hi ih _ fo0 p a b h => by
      obtain ⟨q, p', a', b', q1, q2, q3, q4⟩ := hfo i hi p a b
      rw [m_X2_loadBy_3, if_neg (by omega), q1, bind_s, chkB (by omega) (by omega), chkI (by omega) (by omega), tn]
      exact ih _ p' a' b' (fun k hk => by
        by_cases c : k = i
        · subst c; rw [up_at]; exact ⟨q2, q3, q4⟩
        · rw [up_ne _ _ c]; exact h k (by omega))) n FU 0 (by omega) (by unfold FU; omega) fo0 p a b (fun k hk => by omega)
  rw [m_X2_loadBy, m_X2_loadBy_0, m_X11_loads, m_X11_loads_0]
  obtain ⟨fo, p', a', b', f1, f2⟩ := k3 (fun t_forces' p2_product' p2_above' p2_below' v6' => m_X2_loadBy_33 (n : Int) own cross K hs0 t_forces' m reach pushes lows highs sH so p2_product' p2_above' p2_below' R (T : Int) side)
  rw [f2, m_X2_loadBy_33]
  have key := loop_p T (fun F i => ∀ (B : Int) (hs0 : Nat → Int) (R : Nat → RowT) (cur was feel pA cS grain hd0 gS : Nat → Int), gRw B K R grain gS → RSc cur pA cS → B + 30 * ((T - i : Nat) : Int) ≤ 18900000 → ∃ r r2, m_X2_loadBy_36 (n : Int) own cross K fo m reach pushes lows highs sH so (T : Int) side (fun t_hardnesses' t_rows_R' v6' => m_X2_loadBy_62 t_hardnesses' fo p' a' b' t_rows_R' (T : Int)) (fun t_hardnesses' t_rows_R' v6' => m_X2_loadBy_53 t_hardnesses' fo p' a' b' t_rows_R' v6') F hs0 R (i : Int) = some r ∧ m_X11_loads_3 bl bh (n : Int) own cross push slo shi sh ways x y z f (T : Int) side (fun t_cur' t_was' t_feel' t_pushAt' t_curSum' t_grain' t_harder' t_grainSum' v7' => m_X11_loads_30 t_cur' t_was' t_feel' t_pushAt' t_curSum' t_grain' t_harder' t_grainSum' v7') F cur was feel pA cS grain hd0 gS (i : Int) = some r2 ∧ r.1 = r2.1 ∧ gRw (B + 30 * ((T - i : Nat) : Int)) K r.2.2.2.2.2.2 r2.2.2.2.2.2.2.1 r2.2.2.2.2.2.2.2.2 ∧ RSc r2.2.1 r2.2.2.2.2.1 r2.2.2.2.2.2.1) (fun F B hs0 R cur was feel pA cS grain hd0 gS hr hs hB => by
      have e : (if 0 < (T : Int) then (T : Int) else 0) = (T : Int) := by split <;> omega
      refine ⟨_, _, by rw [m_X2_loadBy_36, if_pos (by omega), m_X2_loadBy_62, e], by rw [m_X11_loads_3, if_pos (by omega)], rfl, gRw_le hr (by omega), hs⟩) (fun F i hi ih _ B hs0 R cur was feel pA cS grain hd0 gS hr hs hB => by
      obtain ⟨v, hs', R', cur', was', feel', cS', grain', hd', gS', z1, z2, z3, z4, z5⟩ := q_step (was := was) (feel := feel) (hs0 := hs0) (hd0 := hd0) (side := side) hg hr ho hc hn (by omega) hs f1
      rw [m_X2_loadBy_36, if_neg (by omega), z1, bind_s, m_X11_loads_3, if_neg (show ¬ (T : Int) ≤ (i : Int) by omega), z2, bind_s]
      dsimp only
      by_cases c : v = 0
      · rw [if_pos c, if_pos c, m_X2_loadBy_53]
        exact ⟨_, _, rfl, rfl, rfl, gRw_le z3 (by omega), z4⟩
      · rw [if_neg c, if_neg c, chkI (by omega) (by omega), chkI (by omega) (by omega)]
        obtain ⟨r, r2, y1, y2, y3, y4, y5⟩ := ih (B + 30) hs' R' cur' was' feel' push cS' grain' hd' gS' z3 z4 (by omega)
        exact ⟨r, r2, y1, y2, y3, gRw_le y4 (by omega), y5⟩) T FU 0 (by omega) (by unfold FU; omega) B hs0 R cur was feel pA cS grain hd0 gS hr hs (by simpa using hB)
  rw [Nat.sub_zero] at key
  exact key
theorem pc_load {m reach bl bh B many own cross pm sm systems own2 cross2 : Int} {pushes lows highs sH so push slo shi sh px py pz sx sy sz ways grain gS fo0 hs0 hd0 cur was feel pA cS : Nat → Int} {K : Nat → Nat} {R : Nat → RowT} (hg : RGr m reach pushes lows highs sH so bl bh push slo shi sh) (h : RGn B many own cross pm px py pz sm sx sy sz K R systems own2 cross2 ways grain gS) (hB : B ≤ 18000000) (hs : RSc cur pA cS) (a b c d e g x y z f T side : Int) :
    ∃ r r2, m_X10_load a b c d e g many own cross K pm px py pz sm sx sy sz hs0 fo0 m reach pushes lows highs sH so R x y z f T side = some r ∧ m_X11_load bl bh systems own2 cross2 push slo shi sh cur was feel pA cS grain ways hd0 gS x y z f T side = some r2 ∧ r.1 = r2.1 ∧ RGn (B + 6000) many own cross pm px py pz sm sx sy sz K r.2.2.2.2.2.2.2.2.2 systems own2 cross2 ways r2.2.2.2.2.2.2.1 r2.2.2.2.2.2.2.2.2 ∧ RSc r2.2.1 r2.2.2.2.2.1 r2.2.2.2.2.2.1 := by
  obtain ⟨n, rfl, rfl, rfl, rfl, g1, rfl, rfl, g4, g5, g6, g7⟩ := h
  have hup : RGn (B + 6000) (n : Int) own cross (n : Int) px py pz (n : Int) sx sy sz K R (n : Int) own cross ways grain gS := ⟨n, rfl, rfl, rfl, rfl, g1, rfl, rfl, g4, g5, g6, gRw_le g7 (by omega)⟩
  rw [m_X10_load, m_X10_load_0, m_X11_load, m_X11_load_0]
  by_cases c1 : 0 ≤ f ∧ f ≤ 9999
  · rw [isForce1 c1.1 c1.2, bind_s, if_neg ne10]
    by_cases c2 : 0 ≤ T ∧ T ≤ 200
    · obtain ⟨t, rfl⟩ : ∃ t : Nat, T = (t : Int) := ⟨T.toNat, by omega⟩
      rw [isTicks1 c2.1 c2.2, bind_s, if_neg ne10]
      by_cases c3 : side = 0 ∨ side = 1
      · rw [isSide1 c3, bind_s, if_neg ne10]
        by_cases c4 : pl3 x y z
        · obtain ⟨r, r2, q1, q2, q3, q4, q5⟩ := q_load (fo0 := fo0) (hs0 := hs0) (hd0 := hd0) (was := was) (feel := feel) (side := side) (p := d) (a := e) (b := g) (T := t) hg g7 g4 g5 g1 (by omega) (by omega) hs g6 c4 c1
          rw [tell1 c4, isPullm1 c4, bind_s, bind_s, if_neg ne10, if_neg ne10, i1 c1.1 c1.2, bind_s, if_neg ne10, i1 c2.1 c2.2, bind_s, if_neg ne10, i1 (by omega) (by omega), bind_s, if_neg ne10]
          dsimp only
          rw [q1, q2, bind_s, bind_s]
          exact ⟨_, _, rfl, rfl, q3, ⟨n, rfl, rfl, rfl, rfl, g1, rfl, rfl, g4, g5, g6, gRw_le q4 (by omega)⟩, q5⟩
        · rw [tell0 c4, isPullm0 c4, bind_s, bind_s, if_pos rfl, if_pos rfl]
          exact ⟨_, _, rfl, rfl, rfl, hup, hs⟩
      · rw [isSide0 c3, bind_s, if_pos rfl]
        by_cases c4 : pl3 x y z
        · rw [isPullm1 c4, bind_s, if_neg ne10, i1 c1.1 c1.2, bind_s, if_neg ne10, i1 c2.1 c2.2, bind_s, if_neg ne10, i0 (by omega), bind_s, if_pos rfl]
          exact ⟨_, _, rfl, rfl, rfl, hup, hs⟩
        · rw [isPullm0 c4, bind_s, if_pos rfl]
          exact ⟨_, _, rfl, rfl, rfl, hup, hs⟩
    · rw [isTicks0 c2, bind_s, if_pos rfl]
      by_cases c4 : pl3 x y z
      · rw [isPullm1 c4, bind_s, if_neg ne10, i1 c1.1 c1.2, bind_s, if_neg ne10, i0 c2, bind_s, if_pos rfl]
        exact ⟨_, _, rfl, rfl, rfl, hup, hs⟩
      · rw [isPullm0 c4, bind_s, if_pos rfl]
        exact ⟨_, _, rfl, rfl, rfl, hup, hs⟩
  · rw [isForce0 c1, bind_s, if_pos rfl]
    by_cases c4 : pl3 x y z
    · rw [isPullm1 c4, bind_s, if_neg ne10, i0 c1, bind_s, if_pos rfl]
      exact ⟨_, _, rfl, rfl, rfl, hup, hs⟩
    · rw [isPullm0 c4, bind_s, if_pos rfl]
      exact ⟨_, _, rfl, rfl, rfl, hup, hs⟩
theorem between {i n : Nat} {f b : Int} (hi : i < n) (h1 : 0 ≤ f ∧ f ≤ 9999) (h2 : 0 ≤ f + ((n : Int) - 1) * b ∧ f + ((n : Int) - 1) * b ≤ 9999) : 0 ≤ f + (i : Int) * b ∧ f + (i : Int) * b ≤ 9999 := by
  rcases Int.le_total 0 b with h | h
  · have p1 := Int.mul_nonneg (a := (i : Int)) (by omega) h
    have p2 := Int.mul_le_mul_of_nonneg_right (a := (i : Int)) (b := (n : Int) - 1) (by omega) h
    omega
  · have p1 := Int.mul_nonneg (a := (i : Int)) (b := -b) (by omega) (by omega)
    have p2 := Int.mul_le_mul_of_nonneg_right (a := (i : Int)) (b := (n : Int) - 1) (c := -b) (by omega) (by omega)
    rw [Int.mul_neg] at p1
    rw [Int.mul_neg, Int.mul_neg] at p2
    omega
theorem pc_curve {m reach bl bh B many own cross pm sm systems own2 cross2 ptm cl : Int} {pushes lows highs sH so push slo shi sh px py pz sx sy sz ways grain gS fo0 hs0 hd0 cur was feel pA cS points curve : Nat → Int} {K : Nat → Nat} {R : Nat → RowT} (hg : RGr m reach pushes lows highs sH so bl bh push slo shi sh) (h : RGn B many own cross pm px py pz sm sx sy sz K R systems own2 cross2 ways grain gS) (hB : B ≤ 18000000) (hs : RSc cur pA cS) (hcu : RCu ptm points cl curve) (a b c d e g x y z f by_ n M : Int) :
    ∃ r r2, m_X10_curve a b c d e g many own cross ptm K pm px py pz sm sx sy sz hs0 fo0 points m reach pushes lows highs sH so R x y z f by_ n M = some r ∧ m_X11_curve bl bh systems own2 cross2 cl push slo shi sh cur was feel pA cS grain ways hd0 gS curve x y z f by_ n M = some r2 ∧ r.1 = r2.1 ∧ RGn (B + 30000) many own cross pm px py pz sm sx sy sz K r.2.2.2.2.2.2.2.2.2.2.2 systems own2 cross2 ways r2.2.2.2.2.2.2.2.1 r2.2.2.2.2.2.2.2.2.2.1 ∧ RSc r2.2.2.1 r2.2.2.2.2.2.1 r2.2.2.2.2.2.2.1 ∧ RCu r.2.2.2.2.2.2.2.1 r.2.2.2.2.2.2.2.2.2.2.1 r2.2.1 r2.2.2.2.2.2.2.2.2.2.2 := by
  obtain ⟨N, rfl, rfl, rfl, rfl, g1, rfl, rfl, g4, g5, g6, g7⟩ := h
  have hup : RGn (B + 30000) (N : Int) own cross (N : Int) px py pz (N : Int) sx sy sz K R (N : Int) own cross ways grain gS := ⟨N, rfl, rfl, rfl, rfl, g1, rfl, rfl, g4, g5, g6, gRw_le g7 (by omega)⟩
  rw [m_X10_curve, m_X10_curve_0, m_X11_curve, m_X11_curve_0]
  have no : ∀ (v : Int × Int × Int × Int × Int × Int × Int × Int × (Nat → Int) × (Nat → Int) × (Nat → Int) × (Nat → RowT)), v.1 = -1000000000000000 → v.2.2.2.2.2.2.2.2.2.2.2 = R → v.2.2.2.2.2.2.2.1 = ptm → v.2.2.2.2.2.2.2.2.2.2.1 = points → ∃ r r2, some v = some r ∧ some (-1000000000000000, cl, cur, was, feel, pA, cS, grain, hd0, gS, curve) = some r2 ∧ r.1 = r2.1 ∧ RGn (B + 30000) (N : Int) own cross (N : Int) px py pz (N : Int) sx sy sz K r.2.2.2.2.2.2.2.2.2.2.2 (N : Int) own cross ways r2.2.2.2.2.2.2.2.1 r2.2.2.2.2.2.2.2.2.2.1 ∧ RSc r2.2.2.1 r2.2.2.2.2.2.1 r2.2.2.2.2.2.2.1 ∧ RCu r.2.2.2.2.2.2.2.1 r.2.2.2.2.2.2.2.2.2.2.1 r2.2.1 r2.2.2.2.2.2.2.2.2.2.2 := by
    intro v h1 h2 h3 h4
    refine ⟨v, _, rfl, rfl, h1, ?_, hs, ?_⟩
    · rw [h2]; exact hup
    · rw [h3, h4]; exact hcu
  by_cases c4 : pl3 x y z
  · rw [isPullm1 c4, bind_s, if_neg ne10]
    by_cases c1 : 0 ≤ f ∧ f ≤ 9999
    · rw [isForce1 c1.1 c1.2, i1 c1.1 c1.2, bind_s, bind_s, if_neg ne10, if_neg ne10]
      by_cases c2 : -9999 ≤ by_ ∧ by_ ≤ 9999
      · rw [isPull1 c2.1 c2.2, i1 c2.1 c2.2, bind_s, bind_s, if_neg ne10, if_neg ne10]
        by_cases c3 : 1 ≤ n ∧ n ≤ 20
        · obtain ⟨t, rfl⟩ : ∃ t : Nat, n = (t : Int) := ⟨n.toNat, by omega⟩
          rw [w1 c3.1 c3.2, i1 c3.1 c3.2, bind_s, bind_s, if_neg ne10, if_neg ne10]
          by_cases c5 : 1 ≤ M ∧ M ≤ 50
          · obtain ⟨T, rfl⟩ : ∃ t : Nat, M = (t : Int) := ⟨M.toNat, by omega⟩
            have mb := mul_bd (a := (t : Int) - 1) (b := by_) (A := 20) (B := 9999) (by omega) (by omega) (by omega) (by omega)
            rw [w1 c5.1 c5.2, i1 c5.1 c5.2, bind_s, bind_s, if_neg ne10, if_neg ne10, chkI (by omega) (by omega), chkI (by omega) (by omega)]
            by_cases c6 : 0 ≤ f + ((t : Int) - 1) * by_ ∧ f + ((t : Int) - 1) * by_ ≤ 9999
            · have hmin : (if 20 < (t : Int) then 20 else (t : Int)) = (t : Int) := if_neg (by omega)
              rw [isForce1 c6.1 c6.2, i1 c6.1 c6.2, bind_s, bind_s, if_neg ne10, if_neg ne10, tell1 c4, bind_s, if_neg ne10]
              dsimp only
              rw [m_X2_curveBy, m_X2_curveBy_0, hmin]
              have key := loop_p t (fun F i => ∀ (B' : Int) (hs0 fo0 points : Nat → Int) (p a b : Int) (R : Nat → RowT) (cur was feel pA cS grain hd0 gS curve : Nat → Int), B' = B + 1500 * (i : Int) → gRw B' K R grain gS → RSc cur pA cS → (∀ j, j < i → points j = curve j) → ∃ r r2, m_X2_curveBy_14 (N : Int) own cross (t : Int) K (N : Int) px py pz (N : Int) sx sy sz m reach pushes lows highs sH so x y z f by_ (T : Int) (fun t_hardnesses' t_forces' t_points' p2_product' p2_above' p2_below' t_rows_R' v7' => m_X2_curveBy_58 (t : Int) t_hardnesses' t_forces' t_points' p2_product' p2_above' p2_below' t_rows_R') F hs0 fo0 points p a b R (i : Int) = some r ∧ m_X11_curve_84 bl bh (N : Int) own cross push slo shi sh ways x y z f by_ (t : Int) (T : Int) (fun t_cur' t_was' t_feel' t_pushAt' t_curSum' t_grain' t_harder' t_grainSum' t_curve' v8' => m_X11_curve_131 cl t_cur' t_was' t_feel' t_pushAt' t_curSum' t_grain' t_harder' t_grainSum' t_curve' (t : Int)) F cur was feel pA cS grain hd0 gS curve (i : Int) = some r2 ∧ r.1 = r2.1 ∧ gRw (B + 30000) K r.2.2.2.2.2.2.2.2 r2.2.2.2.2.2.2.2.1 r2.2.2.2.2.2.2.2.2.2.1 ∧ RSc r2.2.2.1 r2.2.2.2.2.2.1 r2.2.2.2.2.2.2.1 ∧ RCu r.2.1 r.2.2.2.2.1 r2.2.1 r2.2.2.2.2.2.2.2.2.2.2) (fun F B' hs0 fo0 points p a b R cur was feel pA cS grain hd0 gS curve hB' hr hs hp => by
                have hl := hp (t - 1) (by omega)
                refine ⟨_, _, by rw [m_X2_curveBy_14, if_pos (by omega), m_X2_curveBy_58, chkI (by omega) (by omega), q_curvePoint (by omega), bind_s, if_pos (by omega)], by rw [m_X11_curve_84, if_pos (by omega), m_X11_curve_131, chkB (by omega) (by omega)], ?_, gRw_le hr (by omega), hs, t, rfl, rfl, by omega, hp⟩
                dsimp only
                rw [show Int.toNat ((t : Int) - 1) = t - 1 by omega]
                exact hl) (fun F i hi ih _ B' hs0 fo0 points p a b R cur was feel pA cS grain hd0 gS curve hB' hr hs hp => by
                obtain ⟨b1, b2⟩ := between hi c1 c6
                obtain ⟨r, r2, q1, q2, q3, q4, q5⟩ := q_load (fo0 := fo0) (hs0 := hs0) (hd0 := hd0) (was := was) (feel := feel) (side := 1) (p := p) (a := a) (b := b) (T := T) hg hr g4 g5 g1 (by omega) (by omega) hs g6 c4 ⟨b1, b2⟩
                obtain ⟨s, s1, s2⟩ := q_strain (own := own) (cross := cross) c4.1 g1 g6 q4 (by omega)
                rw [m_X2_curveBy_14, if_neg (by omega), chkI (by omega) (by omega), q1, bind_s, s1, bind_s, chkB (by omega) (by omega), chkI (by omega) (by omega), m_X11_curve_84, if_neg (show ¬ (t : Int) ≤ (i : Int) by omega), chkI (by omega) (by omega), q2, bind_s, s2, bind_s, chkB (by omega) (by omega), chkI (by omega) (by omega), tn]
                exact ih (B + 1500 * ((i + 1 : Nat) : Int)) _ _ _ _ _ _ _ _ _ _ _ _ _ _ _ _ rfl (gRw_le q4 (by omega)) q5 (fun j hj => by
                  by_cases c : j = i
                  · subst c; rw [up_at, up_at]
                  · rw [up_ne _ _ c, up_ne _ _ c]; exact hp j (by omega))) t FU 0 (by omega) (by unfold FU; omega) B hs0 fo0 points d e g R cur was feel pA cS grain hd0 gS curve (by omega) g7 hs (fun j hj => by omega)
              obtain ⟨r, r2, q1, q2, q3, q4, q5, q6⟩ := key
              have q1' := congrArg (fun o => Option.bind o (fun y8 => some (y8.1, x, y, z, y8.2.2.2.2.2.1, y8.2.2.2.2.2.2.1, y8.2.2.2.2.2.2.2.1, y8.2.1, y8.2.2.1, y8.2.2.2.1, y8.2.2.2.2.1, y8.2.2.2.2.2.2.2.2))) q1
              refine ⟨_, r2, q1', q2, q3, ⟨N, rfl, rfl, rfl, rfl, g1, rfl, rfl, g4, g5, g6, q4⟩, q5, q6⟩
            · rw [isForce0 c6, i0 c6, bind_s, bind_s, if_pos rfl, if_pos rfl]
              exact no _ rfl rfl rfl rfl
          · rw [w0 c5, i0 c5, bind_s, bind_s, if_pos rfl, if_pos rfl]
            exact no _ rfl rfl rfl rfl
        · rw [w0 c3, i0 c3, bind_s, bind_s, if_pos rfl, if_pos rfl]
          exact no _ rfl rfl rfl rfl
      · rw [isPull0 c2, i0 c2, bind_s, bind_s, if_pos rfl, if_pos rfl]
        exact no _ rfl rfl rfl rfl
    · rw [isForce0 c1, i0 c1, bind_s, bind_s, if_pos rfl, if_pos rfl]
      exact no _ rfl rfl rfl rfl
  · rw [isPullm0 c4, bind_s, if_pos rfl, tell0 c4]
    have all : ∃ v : Int × Int × Int × Int × Int × Int × Int × Int × (Nat → Int) × (Nat → Int) × (Nat → Int) × (Nat → RowT), m_X10_curve_0 a b c d e g (N : Int) own cross ptm K (N : Int) px py pz (N : Int) sx sy sz hs0 fo0 points m reach pushes lows highs sH so R x y z f by_ n M = some v ∧ v.1 = -1000000000000000 ∧ v.2.2.2.2.2.2.2.2.2.2.2 = R ∧ v.2.2.2.2.2.2.2.1 = ptm ∧ v.2.2.2.2.2.2.2.2.2.2.1 = points := by
      rw [m_X10_curve_0, tell0 c4]
      by_cases c1 : 0 ≤ f ∧ f ≤ 9999
      · rw [isForce1 c1.1 c1.2, bind_s, if_neg ne10]
        by_cases c2 : -9999 ≤ by_ ∧ by_ ≤ 9999
        · rw [isPull1 c2.1 c2.2, bind_s, if_neg ne10]
          by_cases c3 : 1 ≤ n ∧ n ≤ 20
          · rw [w1 c3.1 c3.2, bind_s, if_neg ne10]
            by_cases c5 : 1 ≤ M ∧ M ≤ 50
            · have mb := mul_bd (a := n - 1) (b := by_) (A := 20) (B := 9999) (by omega) (by omega) (by omega) (by omega)
              rw [w1 c5.1 c5.2, bind_s, if_neg ne10, chkI (by omega) (by omega)]
              by_cases c6 : 0 ≤ f + (n - 1) * by_ ∧ f + (n - 1) * by_ ≤ 9999
              · rw [isForce1 c6.1 c6.2, bind_s, if_neg ne10, bind_s, if_pos rfl]; exact ⟨_, rfl, rfl, rfl, rfl, rfl⟩
              · rw [isForce0 c6, bind_s, if_pos rfl]; exact ⟨_, rfl, rfl, rfl, rfl, rfl⟩
            · rw [w0 c5, bind_s, if_pos rfl]; exact ⟨_, rfl, rfl, rfl, rfl, rfl⟩
          · rw [w0 c3, bind_s, if_pos rfl]; exact ⟨_, rfl, rfl, rfl, rfl, rfl⟩
        · rw [isPull0 c2, bind_s, if_pos rfl]; exact ⟨_, rfl, rfl, rfl, rfl, rfl⟩
      · rw [isForce0 c1, bind_s, if_pos rfl]; exact ⟨_, rfl, rfl, rfl, rfl, rfl⟩
    obtain ⟨v, v1, v2, v3, v4, v5⟩ := all
    rw [m_X10_curve_0, tell0 c4] at v1
    rw [v1]
    exact no v v2 v3 v4 v5


/-! ===== PURE: clear, back, mark, run ===== -/
theorem ne10 : ¬ (1 : Int) = 0 := by decide
theorem nought_rW {B : Int} (hB : 0 ≤ B) {S : Nat → Int} (hS : S = fun _ => 0) : rW B (fun _ => 0) S := by
  subst hS
  have hc : cnt (fun _ => 0) 100 = 0 := by
    have : ∀ n, cnt (fun _ => 0) n = 0 := by
      intro n
      induction n with
      | zero => rfl
      | succ n ih => rw [cnt_s, ih, nz_0 rfl]; rfl
    exact this 100
  refine ⟨fun j => by dsimp only; omega, fun j _ => rfl, by omega, fun j _ => rfl, ?_, ?_, ?_, ?_, ?_, ?_⟩ <;> dsimp only <;> omega
theorem cnt_0 (n : Nat) : cnt (fun _ => 0) n = 0 := by
  induction n with
  | zero => rfl
  | succ n ih => rw [cnt_s, ih, nz_0 rfl]; rfl
theorem mix_c0 {n : Nat} {f : Nat → Int} (hf : Zf n f) : mix n (fun _ => 0) f = fun _ => 0 := by
  funext j; unfold mix; split
  · rfl
  · exact hf j (by omega)
theorem pc_clear {B now last undos redos fl s g w o lo ca : Int} {K : Nat → Nat} {R : Nat → RowT} {uR uS rR rS row sums signs cur pA cS push : Nat → Int} (h : RAc B now last K R undos redos uR uS rR rS row sums) (hr : RRow fl s g w o lo ca signs row sums) (hp : Zf 21 push) (hs : RSc cur pA cS) :
    ∃ r r2, m_X10_clear fl s g w o lo ca signs now last K R = some r ∧ m_X11_clear undos redos push cur pA cS row sums uR uS = some r2 ∧ r.1 = r2.1 ∧ RRow r.2.1 r.2.2.1 r.2.2.2.1 r.2.2.2.2.1 r.2.2.2.2.2.1 r.2.2.2.2.2.2.1 r.2.2.2.2.2.2.2.1 r.2.2.2.2.2.2.2.2.1 r2.2.2.2.2.2.2.1 r2.2.2.2.2.2.2.2.1 ∧ RAc B r.2.2.2.2.2.2.2.2.2.1 r.2.2.2.2.2.2.2.2.2.2.1 r.2.2.2.2.2.2.2.2.2.2.2.1 r.2.2.2.2.2.2.2.2.2.2.2.2 r2.2.1 r2.2.2.1 r2.2.2.2.2.2.2.2.2.1 r2.2.2.2.2.2.2.2.2.2 rR rS r2.2.2.2.2.2.2.1 r2.2.2.2.2.2.2.2.1 ∧ RSc r2.2.2.2.1 r2.2.2.2.2.1 r2.2.2.2.2.2.1 := by
  have h0 := h
  obtain ⟨u, r, e1, e2, e3, e4, e5, k1, k2, k3, k4, k5, k6, k7⟩ := h
  obtain ⟨a1, a2, a3, a4, a5, a6, a7, a8⟩ := hr
  subst a1
  have hB : 0 ≤ B := by have := k6.2.2.2.2.1; omega
  have hsc : RSc signs push sums := ⟨k6.2.1, hp, k6.2.2.2.1⟩
  have hw' : rW B (fun _ => 0) (fun _ => 0) := nought_rW hB rfl
  obtain ⟨now', last', K', R', undos', uR', uS', q1, q2, q3⟩ := q_keep h0 k6.2.1 k6.2.2.2.1 hw' (Int.le_refl _)
  rw [cnt_0] at q1
  have k15 := loop_up 100 (fun F i => m_X11_clear_15 (fun t_row' v2' => m_X11_clear_34 undos' 0 signs push sums t_row' sums uR' uS' (cnt signs 100)) F (mix i (fun _ => 0) signs) (i : Int)) (fun _ => m_X11_clear_34 undos' 0 signs push sums (fun _ => 0) sums uR' uS' (cnt signs 100)) (fun F => by
    show m_X11_clear_15 _ (F + 1) _ _ = _
    rw [m_X11_clear_15, if_pos (by omega), mix_c0 k6.2.1]) (fun F i hi ih => by
    show m_X11_clear_15 _ (F + 1) _ _ = _
    rw [m_X11_clear_15, if_neg (by omega), chkB (by omega) (by omega), chkI (by omega) (by omega), tn, mix_s (f := fun _ => 0)]
    exact ih) 100 FU 0 (by omega) (by unfold FU; omega)
  have k36 := loop_up 6 (fun F i => m_X11_clear_36 (fun t_sums' v2' => m_X11_clear_55 undos' 0 signs push sums (fun _ => 0) t_sums' uR' uS' (cnt signs 100)) F (mix i (fun _ => 0) sums) (i : Int)) (fun _ => some (cnt signs 100, undos', 0, signs, push, sums, (fun _ => 0), (fun _ => 0), uR', uS')) (fun F => by
    show m_X11_clear_36 _ (F + 1) _ _ = _
    rw [m_X11_clear_36, if_pos (by omega), mix_c0 k6.2.2.2.1]; rfl) (fun F i hi ih => by
    show m_X11_clear_36 _ (F + 1) _ _ = _
    rw [m_X11_clear_36, if_neg (by omega), chkB (by omega) (by omega), chkI (by omega) (by omega), tn, mix_s (f := fun _ => 0)]
    exact ih) 6 FU 0 (by omega) (by unfold FU; omega)
  rw [mix_z] at k15 k36
  have hm : m_X11_clear undos redos push cur pA cS signs sums uR uS = some (cnt signs 100, undos', 0, signs, push, sums, (fun _ => 0), (fun _ => 0), uR', uS') := by
    rw [m_X11_clear, m_X11_clear_0, q_X11_atHand hp hs.2.1 hs.1 hs.2.2 k6.2.1 k6.2.2.2.1, bind_s]
    dsimp only
    rw [q_X11_flaws, bind_s, q2, bind_s]
    refine k15.trans ?_
    rw [m_X11_clear_34]
    exact k36
  rw [hm, m_X10_clear, m_X10_clear_0, m_X6_drop, m_X6_drop_0, q_J7_fill (by omega), mix_c0 k6.2.1, bind_s, bind_s]
  dsimp only
  rw [q1, bind_s]
  exact ⟨_, _, rfl, rfl, a2, ⟨rfl, (cnt_0 100).symm, rfl, rfl, rfl, rfl, rfl, rfl⟩, q3, hsc⟩
theorem pc_mark {flm fl s g w o lo ca : Int} {signs marked row sums marked2 : Nat → Int} (hr : RRow fl s g w o lo ca signs row sums) (hz : Zf 100 row) (h1 : marked = marked2) (h2 : Zf 100 marked2) :
    ∃ r r2, m_X10_mark fl signs flm marked = some r ∧ m_X11_mark row marked2 = some r2 ∧ r.1 = cnt row 100 ∧ r.2 = row ∧ r2 = row := by
  obtain ⟨a1, a2, _⟩ := hr
  subst a1; subst h1
  have key := loop_up 100 (fun F i => m_X11_mark_2 signs (fun t_marked' v1' => m_X11_mark_26 t_marked') F (mix i signs marked) (i : Int)) (fun _ => some signs) (fun F => by
    show m_X11_mark_2 _ _ (F + 1) _ _ = _
    rw [m_X11_mark_2, if_pos (by omega), mix_Z hz h2]) (fun F i hi ih => by
    show m_X11_mark_2 _ _ (F + 1) _ _ = _
    rw [m_X11_mark_2, if_neg (by omega), chkB (by omega) (by omega), chkB (by omega) (by omega), chkI (by omega) (by omega), tn, mix_s]
    exact ih) 100 FU 0 (by omega) (by unfold FU; omega)
  rw [mix_z] at key
  rw [m_X10_mark, m_X10_mark_0, q_X6_standAs h2 hz, bind_s, m_X11_mark, m_X11_mark_0]
  exact ⟨_, _, rfl, key, a2, rfl, rfl⟩
theorem pc_back {B now last undos redos fl s g w o lo ca flm : Int} {K : Nat → Nat} {R : Nat → RowT} {uR uS rR rS row sums signs cur pA cS push marked : Nat → Int} (h : RAc B now last K R undos redos uR uS rR rS row sums) (hr : RRow fl s g w o lo ca signs row sums) (hp : Zf 21 push) (hs : RSc cur pA cS) (hm1 : flm = cnt marked 100) (hm2 : sg marked) (hm3 : Zf 100 marked) (hm4 : cnt marked 100 ≤ 30) :
    ∃ r r2, m_X10_back fl s g w o lo ca signs flm marked now last K R = some r ∧ m_X11_back undos redos push cur pA cS row marked sums uR uS = some r2 ∧ r.1 = r2.1 ∧ RRow r.2.1 s g w o lo ca r.2.2.1 r2.2.2.2.2.2.2.1 sums ∧ RAc B r.2.2.2.1 r.2.2.2.2.1 r.2.2.2.2.2.1 r.2.2.2.2.2.2 r2.2.1 r2.2.2.1 r2.2.2.2.2.2.2.2.1 r2.2.2.2.2.2.2.2.2 rR rS r2.2.2.2.2.2.2.1 sums ∧ RSc r2.2.2.2.1 r2.2.2.2.2.1 r2.2.2.2.2.2.1 := by
  have h0 := h
  obtain ⟨u, r, e1, e2, e3, e4, e5, k1, k2, k3, k4, k5, k6, k7⟩ := h
  obtain ⟨a1, a2, a3, a4, a5, a6, a7, a8⟩ := hr
  subst a1
  have hw' : rW B marked sums := ⟨hm2, hm3, hm4, k6.2.2.2.1, k6.2.2.2.2⟩
  obtain ⟨now', last', K', R', undos', uR', uS', q1, q2, q3⟩ := q_keep h0 hs.1 hs.2.2 hw' (Int.le_refl _)
  have k := loop_up 100 (fun F i => m_X11_back_6 marked (fun t_row' v1' => m_X11_back_30 undos' 0 push signs pA sums t_row' sums uR' uS') F (mix i marked signs) (i : Int)) (fun _ => some (cnt marked 100, undos', 0, marked, push, sums, marked, uR', uS')) (fun F => by
    show m_X11_back_6 _ _ (F + 1) _ _ = _
    rw [m_X11_back_6, if_pos (by omega), mix_Z hm3 k6.2.1, m_X11_back_30, q_X11_atHand hp hs.2.1 k6.2.1 k6.2.2.2.1 hm3 k6.2.2.2.1, bind_s]
    dsimp only
    rw [q_X11_flaws, bind_s]) (fun F i hi ih => by
    show m_X11_back_6 _ _ (F + 1) _ _ = _
    rw [m_X11_back_6, if_neg (by omega), chkB (by omega) (by omega), chkB (by omega) (by omega), chkI (by omega) (by omega), tn, mix_s]
    exact ih) 100 FU 0 (by omega) (by unfold FU; omega)
  rw [mix_z] at k
  rw [m_X10_back, m_X10_back_0, q_X6_standAs k6.2.1 hm3, bind_s, m_X11_back, m_X11_back_0, q2, bind_s]
  dsimp only
  rw [hm1, a3, a4, a5, a6, a7, a8, q1, bind_s]
  exact ⟨_, _, rfl, k, rfl, ⟨rfl, rfl, rfl, rfl, rfl, rfl, rfl, rfl⟩, q3, hm3, hp, k6.2.2.2.1⟩
theorem RGr_gW {m reach bl bh : Int} {pushes lows highs sH so push slo shi sh : Nat → Int} (h : RGr m reach pushes lows highs sH so bl bh push slo shi sh) (side : Int) : ∃ R : Nat, reach = (R : Int) ∧ gW push (hdM bl bh slo shi side) lows highs R side := by
  obtain ⟨h1, h2, h3, ⟨R, h4, h5, h6⟩, h7, h8⟩ := h
  exact ⟨R, h4, h5, h6, h3, h7 side⟩
theorem pc_run {B now last undos redos fl s g w o lo ca m reach bl bh q T side : Int} {K : Nat → Nat} {R : Nat → RowT} {uR uS rR rS row sums signs cur pA cS was feel push pushes lows highs sH so slo shi sh stood felt : Nat → Int} (h : RAc B now last K R undos redos uR uS rR rS row sums) (hr : RRow fl s g w o lo ca signs row sums) (hg : RGr m reach pushes lows highs sH so bl bh push slo shi sh) (hs : RSc cur pA cS) (hB : B ≤ 18000000) :
    ∃ r r2, m_X10_run fl s g w o lo ca signs stood felt now last K m reach pushes lows highs sH so R q T side = some r ∧ m_X11_run bl bh undos redos push slo shi sh cur was feel pA cS row sums uR uS q T side = some r2 ∧ r.1 = r2.1 ∧ RRow r.2.1 r.2.2.1 r.2.2.2.1 r.2.2.2.2.1 r.2.2.2.2.2.1 r.2.2.2.2.2.2.1 r.2.2.2.2.2.2.2.1 r.2.2.2.2.2.2.2.2.1 r2.2.2.2.2.2.2.2.2.1 r2.2.2.2.2.2.2.2.2.2.1 ∧ RAc (B + 6000) r.2.2.2.2.2.2.2.2.2.2.2.1 r.2.2.2.2.2.2.2.2.2.2.2.2.1 r.2.2.2.2.2.2.2.2.2.2.2.2.2.1 r.2.2.2.2.2.2.2.2.2.2.2.2.2.2 r2.2.1 r2.2.2.1 r2.2.2.2.2.2.2.2.2.2.2.1 r2.2.2.2.2.2.2.2.2.2.2.2 rR rS r2.2.2.2.2.2.2.2.2.1 r2.2.2.2.2.2.2.2.2.2.1 ∧ RSc r2.2.2.2.1 r2.2.2.2.2.2.2.1 r2.2.2.2.2.2.2.2.1 := by
  have h0 := h
  have hr0 := hr
  obtain ⟨u, r, e1, e2, e3, e4, e5, k1, k2, k3, k4, k5, k6, k7⟩ := h
  obtain ⟨a1, a2, a3, a4, a5, a6, a7, a8⟩ := hr
  subst a1
  have hup : RAc (B + 6000) now last K R undos redos uR uS rR rS signs sums := ⟨u, r, e1, e2, e3, e4, e5, k1, k2, k3, fun i hi => ⟨(k4 i hi).1, rW_le (k4 i hi).2 (by omega)⟩, k5, rW_le k6 (by omega), fun i hi => ⟨(k7 i hi).1, rW_le (k7 i hi).2 (by omega)⟩⟩
  rw [m_X10_run, m_X10_run_0, m_X11_run, m_X11_run_0]
  by_cases c1 : -9999 ≤ q ∧ q ≤ 9999
  · rw [isPull1 c1.1 c1.2, i1 c1.1 c1.2, bind_s, bind_s, if_neg ne10, if_neg ne10]
    by_cases c2 : 0 ≤ T ∧ T ≤ 200
    · obtain ⟨t, rfl⟩ : ∃ t : Nat, T = (t : Int) := ⟨T.toNat, by omega⟩
      rw [isTicks1 c2.1 c2.2, i1 c2.1 c2.2, bind_s, bind_s, if_neg ne10, if_neg ne10]
      by_cases c3 : side = 0 ∨ side = 1
      · rw [isSide1 c3, i1 (by omega) (by omega), bind_s, bind_s, if_neg ne10, if_neg ne10]
        obtain ⟨R0, hR0, hg0⟩ := RGr_gW hg side
        obtain ⟨g1, g2, g3, g4, g5, g6⟩ := hg
        subst g1
        subst hR0
        obtain ⟨st, ft, x1⟩ := q_X6_runOn (stood := stood) (felt := felt) (T := t) k6 (by omega) hg0 c1.1 c1.2 g6 (by omega)
        obtain ⟨y1, y2⟩ := rn_ok (push := pushes) (H := hdM bl bh slo shi side) (sh := sh) c1.1 c1.2 t k6
        obtain ⟨now', last', K', R', undos', uR', uS', q1, q2, q3⟩ := q_keep h0 hs.1 hs.2.2 (rW_le y1 (show _ ≤ B + 6000 by omega)) (by omega)
        obtain ⟨wa, fe, x2⟩ := q_X11_runs (was := was) (feel := feel) (T := t) (side := side) (sh := sh) k6 (by omega) g3 c1.1 c1.2 (fun k hk => (g5 side k hk).2) g6.2.2.1 (by omega)
        have x3 := q_X11_keeps (N1 := 100) (N3 := 6) (a := 0) (b := 0) (cur := (rn pushes (hdM bl bh slo shi side) sh q t (signs, sums)).2.1) (cS := (rn pushes (hdM bl bh slo shi side) sh q t (signs, sums)).2.2) (p1 := signs) (p3 := sums) (by omega) (by omega)
        rw [ins_0 k6.2.1 y1.2.1, ins_0 k6.2.2.2.1 y1.2.2.2.1] at x3
        have x3' : m_X11_keeps 100 6 (rn pushes (hdM bl bh slo shi side) sh q t (signs, sums)).2.1 (rn pushes (hdM bl bh slo shi side) sh q t (signs, sums)).2.2 signs sums 0 0 = some ((rn pushes (hdM bl bh slo shi side) sh q t (signs, sums)).2.1, (rn pushes (hdM bl bh slo shi side) sh q t (signs, sums)).2.2) := x3
        rw [a2, a3, a4, a5, a6, a7, a8, x1, bind_s, q2, bind_s]
        dsimp only
        rw [q1, bind_s, q_X11_atHand g2 hs.2.1 k6.2.1 k6.2.2.2.1 k6.2.1 k6.2.2.2.1, bind_s]
        dsimp only
        rw [x2, bind_s]
        dsimp only
        rw [x3', bind_s]
        exact ⟨_, _, rfl, rfl, rfl, ⟨rfl, rfl, rfl, rfl, rfl, rfl, rfl, rfl⟩, q3, y1.2.1, g2, y1.2.2.2.1⟩
      · rw [isSide0 c3, i0 (by omega), bind_s, bind_s, if_pos rfl, if_pos rfl]
        exact ⟨_, _, rfl, rfl, rfl, hr0, hup, hs⟩
    · rw [isTicks0 c2, i0 c2, bind_s, bind_s, if_pos rfl, if_pos rfl]
      exact ⟨_, _, rfl, rfl, rfl, hr0, hup, hs⟩
  · rw [isPull0 c1, i0 c1, bind_s, bind_s, if_pos rfl, if_pos rfl]
    exact ⟨_, _, rfl, rfl, rfl, hr0, hup, hs⟩

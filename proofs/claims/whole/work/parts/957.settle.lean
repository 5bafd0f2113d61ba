
/-! ===== PURE: read, settling and taking over ===== -/
theorem cnt_ext {f g : Nat → Int} : ∀ n, (∀ j, j < n → f j = g j) → cnt f n = cnt g n := by
  intro n
  induction n with
  | zero => intro _; rfl
  | succ n ih => intro h; rw [cnt_s, cnt_s, ih (fun j hj => h j (by omega)), h n (by omega)]
theorem q_settle {bL bH soM0 reach soM : Int} {pu lo0 hi0 spT soT so soH nl nh nho : Nat → Int} (hk : KR lo0 hi0 spT nl nh) (ho : OR soH soT nho soM) (h5 : soM ≤ 5) :
    ∃ (R : Nat) (lo2 hi2 so2 : Nat → Int), m_X3_settle soM0 bL bH reach pu lo0 hi0 spT soT so = some (soM, (R : Int), lo2, hi2, so2) ∧ R ≤ 20 ∧ (∀ d, R < d → d ≤ 20 → pu d = 0) ∧ (∀ k, k < 100 → lo2 k = (if nl k = -1 then bL else nl k) ∧ hi2 k = (if nl k = -1 then bH else nh k)) ∧ (∀ p, p < 100 → nho p ≠ -1 → so2 (cnt (fun j => nho j + 1) p).toNat = (p : Int)) := by
  obtain ⟨o1, o2⟩ := ho
  obtain ⟨R, f1, f2, f3⟩ := q_findReach (push := pu) (r := reach)
  rw [m_X3_settle, m_X3_settle_0]
  exact loop_p 100 (fun F i => ∀ lo hi so : Nat → Int, (∀ k, k < i → lo k = (if nl k = -1 then bL else nl k) ∧ hi k = (if nl k = -1 then bH else nh k)) ∧ (∀ k, i ≤ k → k < 100 → lo k = lo0 k ∧ hi k = hi0 k) ∧ (∀ p, p < i → nho p ≠ -1 → so (cnt (fun j => nho j + 1) p).toNat = (p : Int)) → ∃ (R : Nat) (lo2 hi2 so2 : Nat → Int), m_X3_settle_4 bL bH spT soT (fun t_lows' t_highs' t_sources' v1' v2' => m_X3_settle_69 soM0 reach pu t_lows' t_highs' t_sources' v1') F lo hi so (cnt (fun j => nho j + 1) i) (i : Int) = some (soM, (R : Int), lo2, hi2, so2) ∧ R ≤ 20 ∧ (∀ d, R < d → d ≤ 20 → pu d = 0) ∧ (∀ k, k < 100 → lo2 k = (if nl k = -1 then bL else nl k) ∧ hi2 k = (if nl k = -1 then bH else nh k)) ∧ (∀ p, p < 100 → nho p ≠ -1 → so2 (cnt (fun j => nho j + 1) p).toNat = (p : Int))) (fun F lo hi so ⟨h1, h2, h3⟩ => by
    refine ⟨R, lo, hi, so, ?_, f1, f3, h1, h3⟩
    rw [m_X3_settle_4, if_pos (by omega), m_X3_settle_69, f2, bind_s, ← o1]) (fun F i hi100 ih _ lo hi so ⟨h1, h2, h3⟩ => by
    have hcb := cnt_bd (fun j => nho j + 1) i
    have hcm : cnt (fun j => nho j + 1) (i + 1) ≤ cnt (fun j => nho j + 1) 100 := cnt_mono (by omega)
    -- the source's half
    have src : ∀ lo' hi' : Nat → Int, (∀ k, k < i + 1 → lo' k = (if nl k = -1 then bL else nl k) ∧ hi' k = (if nl k = -1 then bH else nh k)) → (∀ k, i + 1 ≤ k → k < 100 → lo' k = lo0 k ∧ hi' k = hi0 k) → ∃ (R : Nat) (lo2 hi2 so2 : Nat → Int), m_X3_settle_39 bL bH lo' hi' spT soT so (cnt (fun j => nho j + 1) i) (i : Int) (m_X3_settle_4 bL bH spT soT (fun t_lows' t_highs' t_sources' v1' v2' => m_X3_settle_69 soM0 reach pu t_lows' t_highs' t_sources' v1') F) (fun t_lows' t_highs' t_sources' v1' v2' => m_X3_settle_69 soM0 reach pu t_lows' t_highs' t_sources' v1') = some (soM, (R : Int), lo2, hi2, so2) ∧ R ≤ 20 ∧ (∀ d, R < d → d ≤ 20 → pu d = 0) ∧ (∀ k, k < 100 → lo2 k = (if nl k = -1 then bL else nl k) ∧ hi2 k = (if nl k = -1 then bH else nh k)) ∧ (∀ p, p < 100 → nho p ≠ -1 → so2 (cnt (fun j => nho j + 1) p).toNat = (p : Int)) := fun lo' hi' g1 g2 => by
      rw [m_X3_settle_39, chkB (by omega) (by omega), tn]
      rcases o2 i hi100 with ⟨s1, s2⟩ | ⟨s1, s2, s3, s4, s5, s6⟩
      · have ec : cnt (fun j => nho j + 1) (i + 1) = cnt (fun j => nho j + 1) i := by rw [cnt_s, nz_0 (by omega)]; omega
        rw [if_pos s1, m_X3_settle_63, chkI (by omega) (by omega), ← ec]
        exact ih lo' hi' so ⟨g1, g2, fun p hp hh => by
          by_cases cp : p = i
          · subst cp; exact absurd s2 hh
          · exact h3 p (by omega) hh⟩
      · have ec : cnt (fun j => nho j + 1) (i + 1) = cnt (fun j => nho j + 1) i + 1 := by
          rw [cnt_s]
          unfold nz
          rw [if_neg (by omega)]
        rw [if_neg (by omega), if_neg (by omega), chkB (by omega) (by omega), chkI (by omega) (by omega), m_X3_settle_63, chkI (by omega) (by omega), ← ec]
        refine ih lo' hi' _ ⟨g1, g2, fun p hp hh => ?_⟩
        by_cases cp : p = i
        · subst cp; rw [up_at]
        · have hlt := cnt_lt (f := fun j => nho j + 1) (i := p) (j := i) (by omega) (by omega)
          have hb0 := cnt_bd (fun j => nho j + 1) p
          rw [up_ne _ _ (by omega)]
          exact h3 p (by omega) hh
    rw [m_X3_settle_4, if_neg (by omega), chkB (by omega) (by omega), tn]
    rcases hk i hi100 with ⟨k1, k2, k3⟩ | ⟨k1, k2, k3, k4, k5, k6, k7⟩
    · rw [if_pos k1, chkB (by omega) (by omega), chkB (by omega) (by omega)]
      refine src _ _ (fun k hkk => ?_) (fun k g1 g2 => by rw [up_ne _ _ (by omega), up_ne _ _ (by omega)]; exact h2 k (by omega) g2)
      by_cases ck : k = i
      · subst ck; rw [up_at, up_at, if_pos k2, if_pos k2]; exact ⟨rfl, rfl⟩
      · rw [up_ne _ _ ck, up_ne _ _ ck]; exact h1 k (by omega)
    · rw [if_neg (by omega)]
      refine src _ _ (fun k hkk => ?_) (fun k g1 g2 => h2 k (by omega) g2)
      by_cases ck : k = i
      · subst ck
        obtain ⟨x1, x2⟩ := h2 k (Nat.le_refl _) hi100
        rw [if_neg (by omega), if_neg (by omega), x1, x2]
        exact ⟨k2, k3⟩
      · exact h1 k (by omega)) 100 FU 0 (by omega) (by unfold FU; omega) lo0 hi0 so ⟨fun k h => by omega, fun k _ _ => ⟨rfl, rfl⟩, fun p h => by omega⟩
theorem q_settleAny {bL bH soM0 reach : Int} {pu lo0 hi0 spT soT so : Nat → Int} : ∃ y, m_X3_settle soM0 bL bH reach pu lo0 hi0 spT soT so = some y := by
  obtain ⟨R, f1, f2, f3⟩ := q_findReach (push := pu) (r := reach)
  rw [m_X3_settle, m_X3_settle_0]
  exact loop_p 100 (fun F i => ∀ (lo hi so : Nat → Int) (v : Int), 0 ≤ v → v ≤ 5 → ∃ y, m_X3_settle_4 bL bH spT soT (fun t_lows' t_highs' t_sources' v1' v2' => m_X3_settle_69 soM0 reach pu t_lows' t_highs' t_sources' v1') F lo hi so v (i : Int) = some y) (fun F lo hi so v _ _ => ⟨_, by rw [m_X3_settle_4, if_pos (by omega), m_X3_settle_69, f2, bind_s]⟩) (fun F i hi100 ih _ lo hi so v h1 h2 => by
    have src : ∀ lo' hi' : Nat → Int, ∃ y, m_X3_settle_39 bL bH lo' hi' spT soT so v (i : Int) (m_X3_settle_4 bL bH spT soT (fun t_lows' t_highs' t_sources' v1' v2' => m_X3_settle_69 soM0 reach pu t_lows' t_highs' t_sources' v1') F) (fun t_lows' t_highs' t_sources' v1' v2' => m_X3_settle_69 soM0 reach pu t_lows' t_highs' t_sources' v1') = some y := fun lo' hi' => by
      rw [m_X3_settle_39, chkB (by omega) (by omega)]
      by_cases c1 : soT (Int.toNat (i : Int)) = 0
      · rw [if_pos c1, m_X3_settle_63, chkI (by omega) (by omega)]; exact ih _ _ _ _ h1 h2
      · rw [if_neg c1]
        by_cases c2 : 5 ≤ v
        · rw [if_pos c2, m_X3_settle_63, chkI (by omega) (by omega)]; exact ih _ _ _ _ h1 h2
        · rw [if_neg c2, chkB (by omega) (by omega), chkI (by omega) (by omega), m_X3_settle_63, chkI (by omega) (by omega)]; exact ih _ _ _ _ (by omega) (by omega)
    rw [m_X3_settle_4, if_neg (by omega), chkB (by omega) (by omega)]
    by_cases c : spT (Int.toNat (i : Int)) = 0
    · rw [if_pos c, chkB (by omega) (by omega), chkB (by omega) (by omega)]; exact src _ _
    · rw [if_neg c]; exact src _ _) 100 FU 0 (by omega) (by unfold FU; omega) lo0 hi0 so 0 (by omega) (by omega)
theorem q_drop3 {a b c d e f : Int} {pu pT spT soT : Nat → Int} (hz : Zf 21 pu) : ∃ pT2 spT2 soT2, m_X3_drop a b c d e f pu pT spT soT = some (0, 0, 0, 0, 0, 0, (fun _ => 0), pT2, spT2, soT2) ∧ (∀ k, k < 21 → pT2 k = 0) ∧ (∀ k, k < 100 → spT2 k = 0 ∧ soT2 k = 0) := by
  have hm : mix 21 (fun _ => (0 : Int)) pu = fun _ => 0 := mix_Z (fun _ _ => rfl) hz
  rw [m_X3_drop, m_X3_drop_0, q_J7_fill (by omega), bind_s, hm]
  have h1 : ∀ k32, ∃ pT2, (∀ k, k < 21 → pT2 k = 0) ∧ m_X3_drop_10 k32 FU pT 0 = k32 pT2 (21 : Int) := fun k32 => by
    exact loop_p 21 (fun F i => ∀ g : Nat → Int, (∀ k, k < i → g k = 0) → ∃ pT2, (∀ k, k < 21 → pT2 k = 0) ∧ m_X3_drop_10 k32 F g (i : Int) = k32 pT2 (21 : Int)) (fun F g h => ⟨g, h, by rw [m_X3_drop_10, if_pos (by omega)]; rfl⟩) (fun F i hi ih _ g h => by
      rw [m_X3_drop_10, if_neg (by omega), chkB (by omega) (by omega), chkI (by omega) (by omega), tn]
      refine ih _ (fun k hk => ?_)
      by_cases ck : k = i
      · subst ck; rw [up_at]
      · rw [up_ne _ _ ck]; exact h k (by omega)) 21 FU 0 (by omega) (by unfold FU; omega) pT (fun k h => by omega)
  have h2 : ∀ k60, ∃ spT2 soT2, (∀ k, k < 100 → spT2 k = 0 ∧ soT2 k = 0) ∧ m_X3_drop_34 k60 FU spT soT 0 = k60 spT2 soT2 (100 : Int) := fun k60 => by
    exact loop_p 100 (fun F i => ∀ g g' : Nat → Int, (∀ k, k < i → g k = 0 ∧ g' k = 0) → ∃ spT2 soT2, (∀ k, k < 100 → spT2 k = 0 ∧ soT2 k = 0) ∧ m_X3_drop_34 k60 F g g' (i : Int) = k60 spT2 soT2 (100 : Int)) (fun F g g' h => ⟨g, g', h, by rw [m_X3_drop_34, if_pos (by omega)]; rfl⟩) (fun F i hi ih _ g g' h => by
      rw [m_X3_drop_34, if_neg (by omega), chkB (by omega) (by omega), chkB (by omega) (by omega), chkI (by omega) (by omega), tn]
      refine ih _ _ (fun k hk => ?_)
      by_cases ck : k = i
      · subst ck; rw [up_at, up_at]; exact ⟨rfl, rfl⟩
      · rw [up_ne _ _ ck, up_ne _ _ ck]; exact h k (by omega)) 100 FU 0 (by omega) (by unfold FU; omega) spT soT (fun k h => by omega)
  obtain ⟨pT2, a1, a2⟩ := h1 (fun t_pushTold' v1' => m_X3_drop_32 a b c d e f (fun _ => 0) t_pushTold' spT soT)
  obtain ⟨spT2, soT2, b1, b2⟩ := h2 (fun t_speckTold' t_sourceTold' v1' => m_X3_drop_60 a b c d e f (fun _ => 0) pT2 t_speckTold' t_sourceTold')
  refine ⟨pT2, spT2, soT2, ?_, a1, b1⟩
  rw [a2, m_X3_drop_32, b2, m_X3_drop_60]
theorem q_comes {bl bh nbl nbh sights : Int} {many nm way nw push npu slo shi sh nl nh nho : Nat → Int} : m_X11_comes bl bh nbl nbh sights many nm way nw push npu slo shi sh nl nh nho = some (nbl, nbh, 0, mix 7 nm many, mix 144 nw way, mix 21 (fun d => if npu d = -1 then 0 else npu d) push, mix 100 nl slo, mix 100 nh shi, mix 100 nho sh) := by
  rw [m_X11_comes, m_X11_comes_0]
  have l1 : ∀ k : (Nat → Int) → Int → Option (Int × Int × Int × (Nat → Int) × (Nat → Int) × (Nat → Int) × (Nat → Int) × (Nat → Int) × (Nat → Int)), m_X11_comes_2 nm k FU many 0 = k (mix 7 nm many) (7 : Int) := fun k =>
    loop_up 7 (fun F i => m_X11_comes_2 nm k F (mix i nm many) (i : Int)) (fun _ => k (mix 7 nm many) (7 : Int)) (fun F => by
      show m_X11_comes_2 _ _ (F + 1) _ _ = _
      rw [m_X11_comes_2, if_pos (by omega)]; rfl) (fun F i hi ih => by
      show m_X11_comes_2 _ _ (F + 1) _ _ = _
      rw [m_X11_comes_2, if_neg (by omega), chkB (by omega) (by omega), chkB (by omega) (by omega), chkI (by omega) (by omega), tn, mix_s]
      exact ih) 7 FU 0 (by omega) (by unfold FU; omega)
  have l2 : ∀ k : (Nat → Int) → Int → Option (Int × Int × Int × (Nat → Int) × (Nat → Int) × (Nat → Int) × (Nat → Int) × (Nat → Int) × (Nat → Int)), m_X11_comes_28 nw k FU way 0 = k (mix 144 nw way) (144 : Int) := fun k =>
    loop_up 144 (fun F i => m_X11_comes_28 nw k F (mix i nw way) (i : Int)) (fun _ => k (mix 144 nw way) (144 : Int)) (fun F => by
      show m_X11_comes_28 _ _ (F + 1) _ _ = _
      rw [m_X11_comes_28, if_pos (by omega)]; rfl) (fun F i hi ih => by
      show m_X11_comes_28 _ _ (F + 1) _ _ = _
      rw [m_X11_comes_28, if_neg (by omega), chkB (by omega) (by omega), chkB (by omega) (by omega), chkI (by omega) (by omega), tn, mix_s]
      exact ih) 144 FU 0 (by omega) (by unfold FU; omega)
  have l3 : ∀ k : (Nat → Int) → Int → Option (Int × Int × Int × (Nat → Int) × (Nat → Int) × (Nat → Int) × (Nat → Int) × (Nat → Int) × (Nat → Int)), m_X11_comes_55 npu k FU push 0 = k (mix 21 (fun d => if npu d = -1 then 0 else npu d) push) (21 : Int) := fun k =>
    loop_up 21 (fun F i => m_X11_comes_55 npu k F (mix i (fun d => if npu d = -1 then 0 else npu d) push) (i : Int)) (fun _ => k (mix 21 (fun d => if npu d = -1 then 0 else npu d) push) (21 : Int)) (fun F => by
      show m_X11_comes_55 _ _ (F + 1) _ _ = _
      rw [m_X11_comes_55, if_pos (by omega)]; rfl) (fun F i hi ih => by
      show m_X11_comes_55 _ _ (F + 1) _ _ = _
      have e : up (mix i (fun d => if npu d = -1 then 0 else npu d) push) i (if npu i = -1 then 0 else npu i) = mix (i + 1) (fun d => if npu d = -1 then 0 else npu d) push := mix_s (f := fun d => if npu d = -1 then 0 else npu d)
      rw [m_X11_comes_55, if_neg (by omega), chkB (by omega) (by omega), tn]
      by_cases c : npu i = -1
      · rw [if_pos c] at e
        rw [if_pos c, m_X11_comes_86, chkB (by omega) (by omega), chkI (by omega) (by omega), tn, e]
        exact ih
      · rw [if_neg c] at e
        rw [if_neg c, chkB (by omega) (by omega), m_X11_comes_86, chkB (by omega) (by omega), chkI (by omega) (by omega), tn, e]
        exact ih) 21 FU 0 (by omega) (by unfold FU; omega)
  have l4 : ∀ k : (Nat → Int) → (Nat → Int) → (Nat → Int) → Int → Option (Int × Int × Int × (Nat → Int) × (Nat → Int) × (Nat → Int) × (Nat → Int) × (Nat → Int) × (Nat → Int)), m_X11_comes_95 nl nh nho k FU slo shi sh 0 = k (mix 100 nl slo) (mix 100 nh shi) (mix 100 nho sh) (100 : Int) := fun k =>
    loop_up 100 (fun F i => m_X11_comes_95 nl nh nho k F (mix i nl slo) (mix i nh shi) (mix i nho sh) (i : Int)) (fun _ => k (mix 100 nl slo) (mix 100 nh shi) (mix 100 nho sh) (100 : Int)) (fun F => by
      show m_X11_comes_95 _ _ _ _ (F + 1) _ _ _ _ = _
      rw [m_X11_comes_95, if_pos (by omega)]; rfl) (fun F i hi ih => by
      show m_X11_comes_95 _ _ _ _ (F + 1) _ _ _ _ = _
      rw [m_X11_comes_95, if_neg (by omega)]
      simp (disch := omega) only [chkB]
      rw [chkI (by omega) (by omega), tn, mix_s, mix_s, mix_s]
      exact ih) 100 FU 0 (by omega) (by unfold FU; omega)
  rw [l1, m_X11_comes_26, l2, m_X11_comes_53, l3, m_X11_comes_93, l4, m_X11_comes_143]

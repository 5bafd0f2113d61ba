
/-! ===== PURE: read ===== -/
theorem q_fill1 {nm : Nat → Int} (k : (Nat → Int) → Int → Option (Int × Int × Int × Int × Int × Int × Int × Int × Int × Int × (Nat → Int) × (Nat → Int) × (Nat → Int) × (Nat → Int) × (Nat → Int) × (Nat → Int) × (Nat → Int) × (Nat → Int) × (Nat → Int) × (Nat → Int) × (Nat → Int) × (Nat → Int))) : ∃ nm2, (∀ j, j < 7 → nm2 j = 0) ∧ m_X11_read_2 k FU nm 0 = k nm2 (7 : Int) := by
  exact loop_p 7 (fun F i => ∀ g : Nat → Int, (∀ j, j < i → g j = 0) → ∃ g2, (∀ j, j < 7 → g2 j = 0) ∧ m_X11_read_2 k F g (i : Int) = k g2 (7 : Int)) (fun F g h => ⟨g, h, by rw [m_X11_read_2, if_pos (by omega)]; rfl⟩) (fun F i hi ih _ g h => by
    rw [m_X11_read_2, if_neg (by omega), chkB (by omega) (by omega), chkI (by omega) (by omega), tn]
    refine ih _ (fun j hj => ?_)
    by_cases cj : j = i
    · subst cj; rw [up_at]
    · rw [up_ne _ _ cj]; exact h j (by omega)) 7 FU 0 (by omega) (by unfold FU; omega) nm (fun j h => by omega)
theorem q_fill2 {nm : Nat → Int} (k : (Nat → Int) → Int → Option (Int × Int × Int × Int × Int × Int × Int × Int × Int × Int × (Nat → Int) × (Nat → Int) × (Nat → Int) × (Nat → Int) × (Nat → Int) × (Nat → Int) × (Nat → Int) × (Nat → Int) × (Nat → Int) × (Nat → Int) × (Nat → Int) × (Nat → Int))) : ∃ nm2, (∀ j, j < 21 → nm2 j = -1) ∧ m_X11_read_23 k FU nm 0 = k nm2 (21 : Int) := by
  exact loop_p 21 (fun F i => ∀ g : Nat → Int, (∀ j, j < i → g j = -1) → ∃ g2, (∀ j, j < 21 → g2 j = -1) ∧ m_X11_read_23 k F g (i : Int) = k g2 (21 : Int)) (fun F g h => ⟨g, h, by rw [m_X11_read_23, if_pos (by omega)]; rfl⟩) (fun F i hi ih _ g h => by
    rw [m_X11_read_23, if_neg (by omega), chkB (by omega) (by omega), chkI (by omega) (by omega), tn]
    refine ih _ (fun j hj => ?_)
    by_cases cj : j = i
    · subst cj; rw [up_at]
    · rw [up_ne _ _ cj]; exact h j (by omega)) 21 FU 0 (by omega) (by unfold FU; omega) nm (fun j h => by omega)
theorem q_fill3 {a b c : Nat → Int} (k : (Nat → Int) → (Nat → Int) → (Nat → Int) → Int → Option (Int × Int × Int × Int × Int × Int × Int × Int × Int × Int × (Nat → Int) × (Nat → Int) × (Nat → Int) × (Nat → Int) × (Nat → Int) × (Nat → Int) × (Nat → Int) × (Nat → Int) × (Nat → Int) × (Nat → Int) × (Nat → Int) × (Nat → Int))) : ∃ a2 b2 c2, (∀ j, j < 100 → a2 j = -1 ∧ b2 j = -1 ∧ c2 j = -1) ∧ m_X11_read_44 k FU a b c 0 = k a2 b2 c2 (100 : Int) := by
  exact loop_p 100 (fun F i => ∀ a b c : Nat → Int, (∀ j, j < i → a j = -1 ∧ b j = -1 ∧ c j = -1) → ∃ a2 b2 c2, (∀ j, j < 100 → a2 j = -1 ∧ b2 j = -1 ∧ c2 j = -1) ∧ m_X11_read_44 k F a b c (i : Int) = k a2 b2 c2 (100 : Int)) (fun F a b c h => ⟨a, b, c, h, by rw [m_X11_read_44, if_pos (by omega)]; rfl⟩) (fun F i hi ih _ a b c h => by
    rw [m_X11_read_44, if_neg (by omega), chkB (by omega) (by omega), chkB (by omega) (by omega), chkB (by omega) (by omega), chkI (by omega) (by omega), tn]
    refine ih _ _ _ (fun j hj => ?_)
    by_cases cj : j = i
    · subst cj; rw [up_at, up_at, up_at]; exact ⟨rfl, rfl, rfl⟩
    · rw [up_ne _ _ cj, up_ne _ _ cj, up_ne _ _ cj]; exact h j (by omega)) 100 FU 0 (by omega) (by unfold FU; omega) a b c (fun j h => by omega)
theorem pc_read {rmany place fault np taped p fault2 bl bh nbl nbh fr sights sight stm pm em spM soM bT bL bH reach : Int} {bytes tape sx sy sz px py pz ex ey ez pu pT lo hi spT soH soT so0 manyA nm way nw push npu slo shi sh nl nh nho : Nat → Int} (hT : RTp rmany taped bytes tape) (hz : Zf 21 pu) (hpz : Zf 21 push) :
    ∃ r r2, m_X10_read rmany place fault np bytes sight stm sx sy sz pm px py pz em ex ey ez spM soM bT bL bH reach pu pT lo hi spT soH soT so0 = some r ∧ m_X11_read taped p fault2 bl bh nbl nbh fr sights tape manyA nm way nw push npu slo shi sh nl nh nho = some r2 ∧ r.1 = r2.1 ∧ r.2.1 = 0 ∧ r2.2.1 = 0 ∧ Zf 21 (r.2.2.2.2.2.2.2.2.2.2.2.2.2.2.2.2.2.2.2.2.2.2.2.2.1) ∧ ((r.1 < 0 ∧ r2.2.2.2.2.1 = bl ∧ r2.2.2.2.2.2.1 = bh ∧ r2.2.2.2.2.2.2.2.2.2.1 = sights ∧ r2.2.2.2.2.2.2.2.2.2.2.1 = manyA ∧ r2.2.2.2.2.2.2.2.2.2.2.2.2.1 = way ∧ r2.2.2.2.2.2.2.2.2.2.2.2.2.2.2.1 = push ∧ r2.2.2.2.2.2.2.2.2.2.2.2.2.2.2.2.2.1 = slo ∧ r2.2.2.2.2.2.2.2.2.2.2.2.2.2.2.2.2.2.1 = shi ∧ r2.2.2.2.2.2.2.2.2.2.2.2.2.2.2.2.2.2.2.1 = sh) ∨ (0 ≤ r.1 ∧ r.2.2.2.2.2.1 = 0 ∧ r2.2.2.2.2.2.2.2.2.2.1 = 0 ∧ RCw (r.2.2.2.2.2.2.1) (r.2.2.2.2.2.2.2.1) (r.2.2.2.2.2.2.2.2.1) (r.2.2.2.2.2.2.2.2.2.1) (r.2.2.2.2.2.2.2.2.2.2.1) (r.2.2.2.2.2.2.2.2.2.2.2.1) (r.2.2.2.2.2.2.2.2.2.2.2.2.1) (r.2.2.2.2.2.2.2.2.2.2.2.2.2.1) (r.2.2.2.2.2.2.2.2.2.2.2.2.2.2.1) (r.2.2.2.2.2.2.2.2.2.2.2.2.2.2.2.1) (r.2.2.2.2.2.2.2.2.2.2.2.2.2.2.2.2.1) (r.2.2.2.2.2.2.2.2.2.2.2.2.2.2.2.2.2.1) (r2.2.2.2.2.2.2.2.2.2.2.1) (r2.2.2.2.2.2.2.2.2.2.2.2.2.1) ∧ RGr (r.2.2.2.2.2.2.2.2.2.2.2.2.2.2.2.2.2.2.2.1) (r.2.2.2.2.2.2.2.2.2.2.2.2.2.2.2.2.2.2.2.2.2.2.2.1) (r.2.2.2.2.2.2.2.2.2.2.2.2.2.2.2.2.2.2.2.2.2.2.2.2.1) (r.2.2.2.2.2.2.2.2.2.2.2.2.2.2.2.2.2.2.2.2.2.2.2.2.2.2.1) (r.2.2.2.2.2.2.2.2.2.2.2.2.2.2.2.2.2.2.2.2.2.2.2.2.2.2.2.1) (r.2.2.2.2.2.2.2.2.2.2.2.2.2.2.2.2.2.2.2.2.2.2.2.2.2.2.2.2.2.1) (r.2.2.2.2.2.2.2.2.2.2.2.2.2.2.2.2.2.2.2.2.2.2.2.2.2.2.2.2.2.2.2) (r2.2.2.2.2.1) (r2.2.2.2.2.2.1) (r2.2.2.2.2.2.2.2.2.2.2.2.2.2.2.1) (r2.2.2.2.2.2.2.2.2.2.2.2.2.2.2.2.2.1) (r2.2.2.2.2.2.2.2.2.2.2.2.2.2.2.2.2.2.1) (r2.2.2.2.2.2.2.2.2.2.2.2.2.2.2.2.2.2.2.1))) := by
  obtain ⟨n, rfl, rfl, hn, ht⟩ := hT
  obtain ⟨pT2, spT2, soT2, d1, d2, d3⟩ := q_drop3 (a := spM) (b := soM) (c := bT) (d := bL) (e := bH) (f := reach) (pT := pT) (spT := spT) (soT := soT) hz
  obtain ⟨p0, s1, s2, s3, s4, s5⟩ := q_skip (p := 0) hn ht (by omega)
  obtain ⟨nm2, m1, m2⟩ := q_fill1 (nm := nm) (fun t_newMany' v1' => m_X11_read_21 (n : Int) p fault2 bl bh nbl nbh fr sights tape manyA t_newMany' way nw push npu slo shi sh nl nh nho)
  obtain ⟨npu2, m3, m4⟩ := q_fill2 (nm := npu) (fun t_newPush' v1' => m_X11_read_42 (n : Int) p fault2 bl bh nbl nbh fr sights tape manyA nm2 way nw push t_newPush' slo shi sh nl nh nho)
  obtain ⟨nl2, nh2, nho2, m5, m6⟩ := q_fill3 (a := nl) (b := nh) (c := nho) (fun t_newLow' t_newHigh' t_newHold' v1' => m_X11_read_77 (n : Int) p fault2 bl bh nbl nbh fr sights tape manyA nm2 way nw push npu2 slo shi sh t_newLow' t_newHigh' t_newHold')
  have e0 : ((0 : Nat) : Int) = 0 := rfl
  rw [e0] at s4 s5
  have hx1 : m_X1_drop sight stm pm em spM soM bT bL bH reach pu pT spT soT = some (0, 0, 0, 0, 0, 0, 0, 0, 0, 0, (fun _ => 0), pT2, spT2, soT2) := by
    rw [m_X1_drop, m_X1_drop_0, m_X8_drop, m_X8_drop_0, bind_s, m_X8_drop, m_X8_drop_0, bind_s, m_X8_drop, m_X8_drop_0, bind_s, d1, bind_s]
  have h0 : RNw 0 0 sx sy sz 0 px py pz 0 ex ey ez 0 0 0 0 0 (fun _ => 0) pT2 lo hi spT2 soH soT2 0 0 nm2 nw npu2 nl2 nh2 nho2 := by
    refine ⟨⟨0, rfl, m1 0 (by omega), by omega, fun k hk => by omega⟩, ⟨0, rfl, m1 1 (by omega), by omega, fun k hk => by omega⟩, ⟨0, rfl, m1 2 (by omega), by omega, fun k hk => by omega⟩, ?_, ?_, ?_, Or.inl ⟨rfl, m1 6 (by omega)⟩, ⟨rfl, rfl, by omega, by omega, by omega, by omega⟩, ⟨fun _ _ => rfl, fun d hd => Or.inl ⟨d2 d hd, m3 d hd, rfl⟩⟩, fun k hk => Or.inl ⟨(d3 k hk).1, (m5 k hk).1, (m5 k hk).2.1⟩, ?_, fun k hk => Or.inl ⟨(d3 k hk).2, (m5 k hk).2.2⟩⟩
    · have := m1 3 (by omega); omega
    · have := m1 4 (by omega); omega
    · have := m1 5 (by omega); omega
    · rw [cnt_ext (g := fun _ => 0) 100 (fun j hj => by rw [(m5 j hj).2.2]; rfl), cnt_0]
  -- all that is read
  have hall : ∃ (r : Int × Int × Int × Int × (Nat → Int) × (Nat → Int) × (Nat → Int) × Int × (Nat → Int) × (Nat → Int) × (Nat → Int) × Int × (Nat → Int) × (Nat → Int) × (Nat → Int) × Int × Int × Int × Int × Int × (Nat → Int) × (Nat → Int) × (Nat → Int) × (Nat → Int) × (Nat → Int) × (Nat → Int) × (Nat → Int)) (r2 : Int × Int × Int × Int × Int × (Nat → Int) × (Nat → Int) × (Nat → Int) × (Nat → Int) × (Nat → Int) × (Nat → Int)) (v v2 : Int), m_X5_readInto (n : Int) place fault np bytes sight stm sx sy sz pm px py pz em ex ey ez spM soM bT bL bH reach pu pT lo hi spT soH soT so0 = m_X5_readInto_134 (n : Int) r.1 r.2.1 r.2.2.1 0 (r.2.2.2.1) (r.2.2.2.2.1) (r.2.2.2.2.2.1) (r.2.2.2.2.2.2.1) (r.2.2.2.2.2.2.2.1) (r.2.2.2.2.2.2.2.2.1) (r.2.2.2.2.2.2.2.2.2.1) (r.2.2.2.2.2.2.2.2.2.2.1) (r.2.2.2.2.2.2.2.2.2.2.2.1) (r.2.2.2.2.2.2.2.2.2.2.2.2.1) (r.2.2.2.2.2.2.2.2.2.2.2.2.2.1) (r.2.2.2.2.2.2.2.2.2.2.2.2.2.2.1) (r.2.2.2.2.2.2.2.2.2.2.2.2.2.2.2.1) (r.2.2.2.2.2.2.2.2.2.2.2.2.2.2.2.2.1) (r.2.2.2.2.2.2.2.2.2.2.2.2.2.2.2.2.2.1) (r.2.2.2.2.2.2.2.2.2.2.2.2.2.2.2.2.2.2.1) (r.2.2.2.2.2.2.2.2.2.2.2.2.2.2.2.2.2.2.2.1) 0 (r.2.2.2.2.2.2.2.2.2.2.2.2.2.2.2.2.2.2.2.2.1) (r.2.2.2.2.2.2.2.2.2.2.2.2.2.2.2.2.2.2.2.2.2.1) (r.2.2.2.2.2.2.2.2.2.2.2.2.2.2.2.2.2.2.2.2.2.2.1) (r.2.2.2.2.2.2.2.2.2.2.2.2.2.2.2.2.2.2.2.2.2.2.2.1) (r.2.2.2.2.2.2.2.2.2.2.2.2.2.2.2.2.2.2.2.2.2.2.2.2.1) (r.2.2.2.2.2.2.2.2.2.2.2.2.2.2.2.2.2.2.2.2.2.2.2.2.2.1) (r.2.2.2.2.2.2.2.2.2.2.2.2.2.2.2.2.2.2.2.2.2.2.2.2.2.2) so0 v ∧ m_X11_read (n : Int) p fault2 bl bh nbl nbh fr sights tape manyA nm way nw push npu slo shi sh nl nh nho = m_X11_read_226 (n : Int) r2.1 r2.2.1 bl bh r2.2.2.1 r2.2.2.2.1 r2.2.2.2.2.1 sights manyA (r2.2.2.2.2.2.1) way (r2.2.2.2.2.2.2.1) push (r2.2.2.2.2.2.2.2.1) slo shi sh (r2.2.2.2.2.2.2.2.2.1) (r2.2.2.2.2.2.2.2.2.2.1) (r2.2.2.2.2.2.2.2.2.2.2) v2 ∧ r.2.1 = r2.2.1 ∧ 0 ≤ r.2.1 ∧ r.2.1 ≤ 4000 ∧ Zf 21 (r.2.2.2.2.2.2.2.2.2.2.2.2.2.2.2.2.2.2.2.2.1) ∧ Imp (r.2.1 = 0) (v = v2 ∧ 0 ≤ v ∧ v ≤ 41 ∧ ∃ t2, RNw t2 (r.2.2.2.1) (r.2.2.2.2.1) (r.2.2.2.2.2.1) (r.2.2.2.2.2.2.1) (r.2.2.2.2.2.2.2.1) (r.2.2.2.2.2.2.2.2.1) (r.2.2.2.2.2.2.2.2.2.1) (r.2.2.2.2.2.2.2.2.2.2.1) (r.2.2.2.2.2.2.2.2.2.2.2.1) (r.2.2.2.2.2.2.2.2.2.2.2.2.1) (r.2.2.2.2.2.2.2.2.2.2.2.2.2.1) (r.2.2.2.2.2.2.2.2.2.2.2.2.2.2.1) (r.2.2.2.2.2.2.2.2.2.2.2.2.2.2.2.1) (r.2.2.2.2.2.2.2.2.2.2.2.2.2.2.2.2.1) (r.2.2.2.2.2.2.2.2.2.2.2.2.2.2.2.2.2.1) (r.2.2.2.2.2.2.2.2.2.2.2.2.2.2.2.2.2.2.1) (r.2.2.2.2.2.2.2.2.2.2.2.2.2.2.2.2.2.2.2.1) (r.2.2.2.2.2.2.2.2.2.2.2.2.2.2.2.2.2.2.2.2.1) (r.2.2.2.2.2.2.2.2.2.2.2.2.2.2.2.2.2.2.2.2.2.1) (r.2.2.2.2.2.2.2.2.2.2.2.2.2.2.2.2.2.2.2.2.2.2.1) (r.2.2.2.2.2.2.2.2.2.2.2.2.2.2.2.2.2.2.2.2.2.2.2.1) (r.2.2.2.2.2.2.2.2.2.2.2.2.2.2.2.2.2.2.2.2.2.2.2.2.1) (r.2.2.2.2.2.2.2.2.2.2.2.2.2.2.2.2.2.2.2.2.2.2.2.2.2.1) (r.2.2.2.2.2.2.2.2.2.2.2.2.2.2.2.2.2.2.2.2.2.2.2.2.2.2) r2.2.2.1 r2.2.2.2.1 (r2.2.2.2.2.2.1) (r2.2.2.2.2.2.2.1) (r2.2.2.2.2.2.2.2.1) (r2.2.2.2.2.2.2.2.2.1) (r2.2.2.2.2.2.2.2.2.2.1) (r2.2.2.2.2.2.2.2.2.2.2)) := by
    rw [m_X5_readInto, m_X5_readInto_0, hx1, bind_s, s4, bind_s, m_X11_read, m_X11_read_0, m2, m_X11_read_21, m4, m_X11_read_42, m6, m_X11_read_77, s5, bind_s]
    dsimp only
    by_cases c : n ≤ p0
    · rw [if_pos (show (n : Int) ≤ (p0 : Int) by omega), if_pos (show (n : Int) ≤ (p0 : Int) by omega), m_X5_readInto_36, m_X11_read_119]
      obtain ⟨F, hF⟩ : ∃ F, FU = F + 1 := ⟨_, rfl⟩
      rw [hF, m_X5_readInto_37, if_pos rfl, m_X11_read_120, if_pos rfl]
      exact ⟨((p0 : Int), 0, np, 0, sx, sy, sz, 0, px, py, pz, 0, ex, ey, ez, 0, 0, 0, 0, 0, (fun _ => 0), pT2, lo, hi, spT2, soH, soT2), ((p0 : Int), 0, 0, 0, fr, nm2, nw, npu2, nl2, nh2, nho2), 0, 0, rfl, rfl, rfl, Int.le_refl _, (show (0 : Int) ≤ 4000 by decide), (fun _ _ => rfl), fun _ => ⟨rfl, Int.le_refl _, by decide, 0, h0⟩⟩
    · rw [if_neg (show ¬ (n : Int) ≤ (p0 : Int) by omega), if_neg (show ¬ (n : Int) ≤ (p0 : Int) by omega), m_X5_readInto_36, m_X11_read_119]
      exact q_rloop hn ht (fun t_place' t_fault' t_numberPlace' stm' sx' sy' sz' pm' px' py' pz' em' ex' ey' ez' spM' soM' bT' bL' bH' pu' pT' lo' hi' spT' soH' soT' v2' v3' => m_X5_readInto_134 (n : Int) t_place' t_fault' t_numberPlace' 0 stm' sx' sy' sz' pm' px' py' pz' em' ex' ey' ez' spM' soM' bT' bL' bH' 0 pu' pT' lo' hi' spT' soH' soT' so0 v2') (fun t_p' t_fault' nbl' nbh' fr' nm' nw' npu' nl' nh' nho' v1' v2' => m_X11_read_226 (n : Int) t_p' t_fault' bl bh nbl' nbh' fr' sights manyA nm' way nw' push npu' slo shi sh nl' nh' nho' v1') 41 FU 0 rfl (by unfold FU; omega) p0 np fr _ _ _ _ _ _ _ _ _ _ _ _ _ _ _ _ _ _ _ _ _ _ _ _ _ _ _ _ _ _ _ _ (by omega) (by omega) (by unfold FU; omega) h0
  obtain ⟨r, r2, v, v2, a1, a2, a3, a4, a5, a6, a7⟩ := hall
  have hcl : ∀ y, m_X5_readInto (n : Int) place fault np bytes sight stm sx sy sz pm px py pz em ex ey ez spM soM bT bL bH reach pu pT lo hi spT soH soT so0 = some y → m_X10_read (n : Int) place fault np bytes sight stm sx sy sz pm px py pz em ex ey ez spM soM bT bL bH reach pu pT lo hi spT soH soT so0 = some y := fun y hy => by
    rw [m_X10_read, m_X10_read_0, hy, bind_s]
    split <;> rfl
  by_cases cf : r.2.1 = 0
  · obtain ⟨b1, b2, b3, t2, hR⟩ := a7.mp cf
    obtain ⟨h1, h2, h3, h4, h5, h6, h7, h8, h9, h10, h11⟩ := hR
    obtain ⟨R, lo2, hi2, so2, x1, x2, x3, x4, x5⟩ := q_settle (bL := r.2.2.2.2.2.2.2.2.2.2.2.2.2.2.2.2.2.2.1) (bH := r.2.2.2.2.2.2.2.2.2.2.2.2.2.2.2.2.2.2.2.1) (soM0 := r.2.2.2.2.2.2.2.2.2.2.2.2.2.2.2.2.1) (reach := 0) (pu := r.2.2.2.2.2.2.2.2.2.2.2.2.2.2.2.2.2.2.2.2.1) (so := so0) h10 h11 (by omega)
    rw [m_X5_readInto_134, x1, bind_s, if_pos cf] at a1
    rw [m_X11_read_226, if_pos (show r2.2.1 ≤ 0 by omega), q_comes, bind_s] at a2
    refine ⟨_, _, hcl _ a1, a2, b1, rfl, rfl, a6, Or.inr ⟨b2, rfl, rfl, ⟨?_, ?_, ?_⟩, ?_⟩⟩
    · exact RWy_congr h1 (fun j h1 h2 => if_pos (by omega))
    · exact RWy_congr h2 (fun j h1 h2 => if_pos (by omega))
    · exact RWy_congr h3 (fun j h1 h2 => if_pos (by omega))
    · have hpe : r.2.2.2.2.2.2.2.2.2.2.2.2.2.2.2.2.2.2.2.2.1 = mix 21 (fun d => if r2.2.2.2.2.2.2.2.1 d = -1 then 0 else r2.2.2.2.2.2.2.2.1 d) push := by
        funext d
        unfold mix
        by_cases cd : d < 21
        · rw [if_pos cd]
          dsimp only
          rcases h9.2 d cd with ⟨y1, y2, y3⟩ | ⟨y1, y2, y3, y4⟩
          · rw [if_pos y2]; exact y3
          · rw [if_neg (by omega)]; exact y2.symm
        · rw [if_neg cd, hpz d (by omega)]; exact a6 d (by omega)
      have hpw : pW (r.2.2.2.2.2.2.2.2.2.2.2.2.2.2.2.2.2.2.2.2.1) := fun d => by
        by_cases cd : d < 21
        · rcases h9.2 d cd with ⟨y1, y2, y3⟩ | ⟨y1, y2, y3, y4⟩
          · rw [y3]; omega
          · exact ⟨y3, y4⟩
        · rw [a6 d (by omega)]; omega
      dsimp only
      rw [← hpe]
      have hsl : ∀ (f g : Nat → Int) k, k < 100 → mix 100 f g k = f k := fun f g k hk => if_pos hk
      have hcn : ∀ q, q ≤ 100 → cnt (fun j => mix 100 (r2.2.2.2.2.2.2.2.2.2.2) sh j + 1) q = cnt (fun j => (r2.2.2.2.2.2.2.2.2.2.2) j + 1) q := fun q hq => cnt_ext q (fun j hj => by rw [hsl _ _ _ (by omega)])
      obtain ⟨o1, o2⟩ := h11
      refine ⟨rfl, a6, hpw, ⟨R, rfl, x2, x3⟩, fun side k hk => ?_, ?_, ?_, ?_, ?_, ?_, ?_⟩
      · obtain ⟨y1, y2⟩ := x4 k hk
        unfold hdM
        rw [hsl _ _ _ hk, hsl _ _ _ hk, y1, y2, h8.1, h8.2.1]
        refine ⟨rfl, ?_⟩
        by_cases cs : side = 0
        · rw [if_pos cs]
          rcases h10 k hk with ⟨z1, z2, z3⟩ | ⟨z1, z2, z3, z4, z5, z6, z7⟩
          · rw [if_pos z2]; omega
          · rw [if_neg (by omega)]; omega
        · rw [if_neg cs]
          rcases h10 k hk with ⟨z1, z2, z3⟩ | ⟨z1, z2, z3, z4, z5, z6, z7⟩
          · rw [if_pos z2]; omega
          · rw [if_neg (by omega)]; omega
      · rw [hcn 100 (by omega), ← o1]
      · omega
      · intro j hj
        rw [hsl _ _ _ hj]
        rcases o2 j hj with ⟨z1, z2⟩ | ⟨z1, z2, z3, z4, z5, z6⟩ <;> omega
      · rw [hsl _ _ _ (by omega)]
        rcases o2 0 (by omega) with ⟨z1, z2⟩ | ⟨z1, z2, z3, z4, z5, z6⟩ <;> omega
      · rw [hsl _ _ _ (by omega)]
        rcases o2 99 (by omega) with ⟨z1, z2⟩ | ⟨z1, z2, z3, z4, z5, z6⟩ <;> omega
      · intro q hq hh
        rw [hsl _ _ _ hq] at hh ⊢
        rw [hcn q (by omega)]
        refine ⟨x5 q hq hh, ?_⟩
        rcases o2 q hq with ⟨z1, z2⟩ | ⟨z1, z2, z3, z4, z5, z6⟩
        · exact absurd z2 hh
        · exact z4
  · obtain ⟨y, hy⟩ := q_settleAny (bL := r.2.2.2.2.2.2.2.2.2.2.2.2.2.2.2.2.2.2.1) (bH := r.2.2.2.2.2.2.2.2.2.2.2.2.2.2.2.2.2.2.2.1) (soM0 := r.2.2.2.2.2.2.2.2.2.2.2.2.2.2.2.2.1) (reach := 0) (pu := r.2.2.2.2.2.2.2.2.2.2.2.2.2.2.2.2.2.2.2.2.1) (lo0 := r.2.2.2.2.2.2.2.2.2.2.2.2.2.2.2.2.2.2.2.2.2.2.1) (hi0 := r.2.2.2.2.2.2.2.2.2.2.2.2.2.2.2.2.2.2.2.2.2.2.2.1) (spT := r.2.2.2.2.2.2.2.2.2.2.2.2.2.2.2.2.2.2.2.2.2.2.2.2.1) (soT := r.2.2.2.2.2.2.2.2.2.2.2.2.2.2.2.2.2.2.2.2.2.2.2.2.2.2) (so := so0)
    rw [m_X5_readInto_134, hy, bind_s, if_neg cf, chkI (by omega) (by omega)] at a1
    rw [m_X11_read_226, if_neg (show ¬ r2.2.1 ≤ 0 by omega), chkI (by omega) (by omega)] at a2
    exact ⟨_, _, hcl _ a1, a2, by dsimp only; omega, rfl, rfl, a6, Or.inl ⟨by dsimp only; omega, rfl, rfl, rfl, rfl, rfl, rfl, rfl, rfl, rfl⟩⟩


/-! ===== PURE: read, one statement ===== -/
theorem RWy_congr {many m : Int} {xs ys zs way way' : Nat → Int} {o : Nat} (h : RWy many xs ys zs m way o) (hw : ∀ j, o ≤ j → j < o + 48 → way' j = way j) : RWy many xs ys zs m way' o := by
  obtain ⟨n, h1, h2, h3, h4⟩ := h
  refine ⟨n, h1, h2, h3, fun k hk => ?_⟩
  rw [hw _ (by omega) (by omega), hw _ (by omega) (by omega), hw _ (by omega) (by omega)]
  exact h4 k hk
/-- what is read so far, class and model -/
def RNw (t : Nat) (stm : Int) (sx sy sz : Nat → Int) (pm : Int) (px py pz : Nat → Int) (em : Int) (ex ey ez : Nat → Int) (spM soM bT bL bH : Int) (pu pT lo hi spT soH soT : Nat → Int) (nbl nbh : Int) (nm nw npu nl nh nho : Nat → Int) : Prop :=
  RWy stm sx sy sz (nm 0) nw 0 ∧ RWy pm px py pz (nm 1) nw 48 ∧ RWy em ex ey ez (nm 2) nw 96 ∧ (0 ≤ nm 3 ∧ nm 3 ≤ (t : Int)) ∧ (spM = nm 4 ∧ 0 ≤ nm 4 ∧ nm 4 ≤ 20) ∧ (soM = nm 5 ∧ 0 ≤ nm 5 ∧ nm 5 ≤ 5) ∧ ((bT = 0 ∧ nm 6 = 0) ∨ (bT = 1 ∧ nm 6 = 1)) ∧ (bL = nbl ∧ bH = nbh ∧ 0 ≤ nbl ∧ nbl ≤ 9999 ∧ 0 ≤ nbh ∧ nbh ≤ 9999) ∧ PR pu pT npu ∧ KR lo hi spT nl nh ∧ OR soH soT nho soM
theorem q_stmt {n p s t : Nat} {bytes tape : Nat → Int} {np fr stm pm em spM soM bT bL bH nbl nbh : Int} {sx sy sz px py pz ex ey ez pu pT lo hi spT soH soT nm nw npu nl nh nho : Nat → Int} (hn : n ≤ 400) (ht : tpR n bytes tape) (hp : p ≤ n) (htt : t ≤ 40) (hs : s < 7) (h : RNw t stm sx sy sz pm px py pz em ex ey ez spM soM bT bL bH pu pT lo hi spT soH soT nbl nbh nm nw npu nl nh nho) (hfu : (s = 0 → stm < 16) ∧ (s = 1 → pm < 16) ∧ (s = 2 → em < 16) ∧ (s = 4 → spM < 20) ∧ (s = 5 → soM < 5) ∧ (s = 6 → bT = 0)) :
    ∃ r r2, m_X5_readNumbers (n : Int) (p : Int) 0 np bytes stm sx sy sz pm px py pz em ex ey ez spM soM bT bL bH pu pT lo hi spT soH soT (s : Int) = some r ∧ m_X11_statement (n : Int) (p : Int) 0 nbl nbh fr tape nm nw npu nl nh nho (s : Int) = some r2 ∧ ∃ (p2 q2 : Nat) (f2 : Int), r.1 = (p2 : Int) ∧ r.2.1 = f2 ∧ r2.1 = (q2 : Int) ∧ r2.2.1 = f2 ∧ p2 ≤ n ∧ q2 ≤ n ∧ 0 ≤ f2 ∧ f2 ≤ 4000 ∧ Zf 21 (r.2.2.2.2.2.2.2.2.2.2.2.2.2.2.2.2.2.2.2.2.1) ∧ (f2 = 0 → q2 = p2 ∧ RNw (t + 1) (r.2.2.2.1) (r.2.2.2.2.1) (r.2.2.2.2.2.1) (r.2.2.2.2.2.2.1) (r.2.2.2.2.2.2.2.1) (r.2.2.2.2.2.2.2.2.1) (r.2.2.2.2.2.2.2.2.2.1) (r.2.2.2.2.2.2.2.2.2.2.1) (r.2.2.2.2.2.2.2.2.2.2.2.1) (r.2.2.2.2.2.2.2.2.2.2.2.2.1) (r.2.2.2.2.2.2.2.2.2.2.2.2.2.1) (r.2.2.2.2.2.2.2.2.2.2.2.2.2.2.1) (r.2.2.2.2.2.2.2.2.2.2.2.2.2.2.2.1) (r.2.2.2.2.2.2.2.2.2.2.2.2.2.2.2.2.1) (r.2.2.2.2.2.2.2.2.2.2.2.2.2.2.2.2.2.1) (r.2.2.2.2.2.2.2.2.2.2.2.2.2.2.2.2.2.2.1) (r.2.2.2.2.2.2.2.2.2.2.2.2.2.2.2.2.2.2.2.1) (r.2.2.2.2.2.2.2.2.2.2.2.2.2.2.2.2.2.2.2.2.1) (r.2.2.2.2.2.2.2.2.2.2.2.2.2.2.2.2.2.2.2.2.2.1) (r.2.2.2.2.2.2.2.2.2.2.2.2.2.2.2.2.2.2.2.2.2.2.1) (r.2.2.2.2.2.2.2.2.2.2.2.2.2.2.2.2.2.2.2.2.2.2.2.1) (r.2.2.2.2.2.2.2.2.2.2.2.2.2.2.2.2.2.2.2.2.2.2.2.2.1) (r.2.2.2.2.2.2.2.2.2.2.2.2.2.2.2.2.2.2.2.2.2.2.2.2.2.1) (r.2.2.2.2.2.2.2.2.2.2.2.2.2.2.2.2.2.2.2.2.2.2.2.2.2.2) (r2.2.2.1) (r2.2.2.2.1) (r2.2.2.2.2.2.1) (r2.2.2.2.2.2.2.1) (r2.2.2.2.2.2.2.2.1) (r2.2.2.2.2.2.2.2.2.1) (r2.2.2.2.2.2.2.2.2.2.1) (r2.2.2.2.2.2.2.2.2.2.2)) := by
  obtain ⟨h1, h2, h3, h4, h5, h6, h7, h8, h9, h10, h11⟩ := h
  rcases (by omega : s = 0 ∨ s = 1 ∨ s = 2 ∨ s = 3 ∨ s = 4 ∨ s = 5 ∨ s = 6) with h | h | h | h | h | h | h <;> subst h
  · obtain ⟨m, m0, m1, m2, m3⟩ := h1
    have hfull := hfu.1 rfl
    subst m0
    obtain ⟨f2, np2, fr2, many2, p2, q2, xs2, ys2, zs2, nw2, c1, d1, z1, z2, z3, z4, z5⟩ := q_way (s := 0) (m := m) (np := np) (fr := fr) (nm := nm) (nw := nw) (xs := sx) (ys := sy) (zs := sz) hn ht hp (by omega) m1 (by omega) ⟨m, rfl, rfl, m2, m3⟩
    rw [m_X5_readNumbers, m_X5_readNumbers_0, if_pos (show ((0 : Nat) : Int) = 0 from rfl), c1, bind_s, m_X11_statement, m_X11_statement_0, if_neg (by decide), d1, bind_s]
    dsimp only
    rw [q_288 (by omega) (by omega)]
    refine ⟨_, _, rfl, rfl, p2, q2, f2, rfl, rfl, rfl, rfl, z1, z2, z3, z4, h9.1, fun hf => ?_⟩
    obtain ⟨z6, z7, z8⟩ := z5 hf
    dsimp only
    refine ⟨z6, ?_, ?_, ?_, ?_, ?_, ?_, ?_, h8, h9, h10, h11⟩
    · rw [up_at, m1]; exact z7
    · rw [up_ne _ _ (by decide)]; exact RWy_congr h2 (fun j hj1 hj2 => z8 j (by omega))
    · rw [up_ne _ _ (by decide)]; exact RWy_congr h3 (fun j hj1 hj2 => z8 j (by omega))
    · rw [up_ne _ _ (by decide)]; omega
    · rw [up_ne _ _ (by decide)]; exact h5
    · rw [up_ne _ _ (by decide)]; exact h6
    · rw [up_ne _ _ (by decide)]; exact h7
  · obtain ⟨m, m0, m1, m2, m3⟩ := h2
    have hfull := hfu.2.1 rfl
    subst m0
    obtain ⟨f2, np2, fr2, many2, p2, q2, xs2, ys2, zs2, nw2, c1, d1, z1, z2, z3, z4, z5⟩ := q_way (s := 1) (m := m) (np := np) (fr := fr) (nm := nm) (nw := nw) (xs := px) (ys := py) (zs := pz) hn ht hp (by omega) m1 (by omega) ⟨m, rfl, rfl, m2, m3⟩
    rw [m_X5_readNumbers, m_X5_readNumbers_0, if_neg (show ¬ ((1 : Nat) : Int) = 0 by decide), if_pos (show ((1 : Nat) : Int) = 1 from rfl), c1, bind_s, m_X11_statement, m_X11_statement_0, if_neg (by decide), d1, bind_s]
    dsimp only
    rw [q_288 (by omega) (by omega)]
    refine ⟨_, _, rfl, rfl, p2, q2, f2, rfl, rfl, rfl, rfl, z1, z2, z3, z4, h9.1, fun hf => ?_⟩
    obtain ⟨z6, z7, z8⟩ := z5 hf
    dsimp only
    refine ⟨z6, ?_, ?_, ?_, ?_, ?_, ?_, ?_, h8, h9, h10, h11⟩
    · rw [up_ne _ _ (by decide)]; exact RWy_congr h1 (fun j hj1 hj2 => z8 j (by omega))
    · rw [up_at, m1]; exact z7
    · rw [up_ne _ _ (by decide)]; exact RWy_congr h3 (fun j hj1 hj2 => z8 j (by omega))
    · rw [up_ne _ _ (by decide)]; omega
    · rw [up_ne _ _ (by decide)]; exact h5
    · rw [up_ne _ _ (by decide)]; exact h6
    · rw [up_ne _ _ (by decide)]; exact h7
  · obtain ⟨m, m0, m1, m2, m3⟩ := h3
    have hfull := hfu.2.2.1 rfl
    subst m0
    obtain ⟨f2, np2, fr2, many2, p2, q2, xs2, ys2, zs2, nw2, c1, d1, z1, z2, z3, z4, z5⟩ := q_way (s := 2) (m := m) (np := np) (fr := fr) (nm := nm) (nw := nw) (xs := ex) (ys := ey) (zs := ez) hn ht hp (by omega) m1 (by omega) ⟨m, rfl, rfl, m2, m3⟩
    rw [m_X5_readNumbers, m_X5_readNumbers_0, if_neg (show ¬ ((2 : Nat) : Int) = 0 by decide), if_neg (show ¬ ((2 : Nat) : Int) = 1 by decide), if_pos (show ((2 : Nat) : Int) = 2 from rfl), c1, bind_s, m_X11_statement, m_X11_statement_0, if_neg (by decide), d1, bind_s]
    dsimp only
    rw [q_288 (by omega) (by omega)]
    refine ⟨_, _, rfl, rfl, p2, q2, f2, rfl, rfl, rfl, rfl, z1, z2, z3, z4, h9.1, fun hf => ?_⟩
    obtain ⟨z6, z7, z8⟩ := z5 hf
    dsimp only
    refine ⟨z6, ?_, ?_, ?_, ?_, ?_, ?_, ?_, h8, h9, h10, h11⟩
    · rw [up_ne _ _ (by decide)]; exact RWy_congr h1 (fun j hj1 hj2 => z8 j (by omega))
    · rw [up_ne _ _ (by decide)]; exact RWy_congr h2 (fun j hj1 hj2 => z8 j (by omega))
    · rw [up_at, m1]; exact z7
    · rw [up_ne _ _ (by decide)]; omega
    · rw [up_ne _ _ (by decide)]; exact h5
    · rw [up_ne _ _ (by decide)]; exact h6
    · rw [up_ne _ _ (by decide)]; exact h7
  · obtain ⟨f2, np2, fr2, p2, q2, pu2, pT2, npu2, c1, d1, z1, z2, z3, z4, z5, z6⟩ := q_rpush (np := np) (fr := fr) (bl := nbl) (bh := nbh) (nw := nw) (nl := nl) (nh := nh) (nho := nho) hn ht hp (show 0 ≤ nm 3 ∧ nm 3 ≤ 1000 by omega) h9
    rw [m_X5_readNumbers, m_X5_readNumbers_0, if_neg (show ¬ ((3 : Nat) : Int) = 0 by decide), if_neg (show ¬ ((3 : Nat) : Int) = 1 by decide), if_neg (show ¬ ((3 : Nat) : Int) = 2 by decide), if_pos (show ((3 : Nat) : Int) = 3 from rfl), c1, bind_s]
    refine ⟨_, _, rfl, d1, p2, q2, f2, rfl, rfl, rfl, rfl, z1, z2, z3, z4, z5, fun hf => ?_⟩
    obtain ⟨z7, z8⟩ := z6 hf
    dsimp only
    refine ⟨z7, ?_, ?_, ?_, ?_, ?_, ?_, ?_, h8, z8, h10, h11⟩
    · rw [up_ne _ _ (by decide)]; exact h1
    · rw [up_ne _ _ (by decide)]; exact h2
    · rw [up_ne _ _ (by decide)]; exact h3
    · rw [up_at]; omega
    · rw [up_ne _ _ (by decide)]; exact h5
    · rw [up_ne _ _ (by decide)]; exact h6
    · rw [up_ne _ _ (by decide)]; exact h7
  · have hfull := hfu.2.2.2.1 rfl
    obtain ⟨f2, np2, fr2, spM2, p2, q2, lo2, hi2, spT2, nl2, nh2, c1, d1, z1, z2, z3, z4, z6⟩ := q_rspeck (np := np) (fr := fr) (bl := nbl) (bh := nbh) (nw := nw) (npu := npu) (nho := nho) (spM := spM) hn ht hp (show 0 ≤ nm 4 ∧ nm 4 ≤ 1000 by omega) h10 (by omega)
    rw [m_X5_readNumbers, m_X5_readNumbers_0, if_neg (show ¬ ((4 : Nat) : Int) = 0 by decide), if_neg (show ¬ ((4 : Nat) : Int) = 1 by decide), if_neg (show ¬ ((4 : Nat) : Int) = 2 by decide), if_neg (show ¬ ((4 : Nat) : Int) = 3 by decide), if_pos (show ((4 : Nat) : Int) = 4 from rfl), c1, bind_s]
    refine ⟨_, _, rfl, d1, p2, q2, f2, rfl, rfl, rfl, rfl, z1, z2, z3, z4, h9.1, fun hf => ?_⟩
    obtain ⟨z7, z8, z9⟩ := z6 hf
    dsimp only
    refine ⟨z7, ?_, ?_, ?_, ?_, ?_, ?_, ?_, h8, h9, z9, h11⟩
    · rw [up_ne _ _ (by decide)]; exact h1
    · rw [up_ne _ _ (by decide)]; exact h2
    · rw [up_ne _ _ (by decide)]; exact h3
    · rw [up_ne _ _ (by decide)]; omega
    · rw [up_at]; omega
    · rw [up_ne _ _ (by decide)]; exact h6
    · rw [up_ne _ _ (by decide)]; exact h7
  · have hfull := hfu.2.2.2.2.1 rfl
    obtain ⟨f2, np2, fr2, soM2, p2, q2, soH2, soT2, nho2, c1, d1, z1, z2, z3, z4, z6⟩ := q_rsource (np := np) (fr := fr) (bl := nbl) (bh := nbh) (nw := nw) (npu := npu) (nl := nl) (nh := nh) (soM := soM) hn ht hp (show 0 ≤ nm 5 ∧ nm 5 ≤ 1000 by omega) h11 (by omega)
    rw [m_X5_readNumbers, m_X5_readNumbers_0, if_neg (show ¬ ((5 : Nat) : Int) = 0 by decide), if_neg (show ¬ ((5 : Nat) : Int) = 1 by decide), if_neg (show ¬ ((5 : Nat) : Int) = 2 by decide), if_neg (show ¬ ((5 : Nat) : Int) = 3 by decide), if_neg (show ¬ ((5 : Nat) : Int) = 4 by decide), if_pos (show ((5 : Nat) : Int) = 5 from rfl), c1, bind_s]
    refine ⟨_, _, rfl, d1, p2, q2, f2, rfl, rfl, rfl, rfl, z1, z2, z3, z4, h9.1, fun hf => ?_⟩
    obtain ⟨z7, z8, z9⟩ := z6 hf
    dsimp only
    refine ⟨z7, ?_, ?_, ?_, ?_, ?_, ?_, ?_, h8, h9, h10, z9⟩
    · rw [up_ne _ _ (by decide)]; exact h1
    · rw [up_ne _ _ (by decide)]; exact h2
    · rw [up_ne _ _ (by decide)]; exact h3
    · rw [up_ne _ _ (by decide)]; omega
    · rw [up_ne _ _ (by decide)]; exact h5
    · rw [up_at]; omega
    · rw [up_ne _ _ (by decide)]; exact h7
  · have hfull := hfu.2.2.2.2.2 rfl
    obtain ⟨f2, np2, fr2, bT2, bl2, bh2, nbl2, nbh2, p2, q2, c1, d1, z1, z2, z3, z4, z6⟩ := q_rbase (np := np) (fr := fr) (bl := nbl) (bh := nbh) (nw := nw) (npu := npu) (nl := nl) (nh := nh) (nho := nho) (bT := bT) (cl := bL) (ch := bH) hn ht hp (show 0 ≤ nm 6 ∧ nm 6 ≤ 1000 by omega)
    rw [m_X5_readNumbers, m_X5_readNumbers_0, if_neg (show ¬ ((6 : Nat) : Int) = 0 by decide), if_neg (show ¬ ((6 : Nat) : Int) = 1 by decide), if_neg (show ¬ ((6 : Nat) : Int) = 2 by decide), if_neg (show ¬ ((6 : Nat) : Int) = 3 by decide), if_neg (show ¬ ((6 : Nat) : Int) = 4 by decide), if_neg (show ¬ ((6 : Nat) : Int) = 5 by decide), c1, bind_s]
    refine ⟨_, _, rfl, d1, p2, q2, f2, rfl, rfl, rfl, rfl, z1, z2, z3, z4, h9.1, fun hf => ?_⟩
    obtain ⟨z7, z8, z9⟩ := z6 hf
    dsimp only
    refine ⟨z7, ?_, ?_, ?_, ?_, ?_, ?_, ?_, z9, h9, h10, h11⟩
    · rw [up_ne _ _ (by decide)]; exact h1
    · rw [up_ne _ _ (by decide)]; exact h2
    · rw [up_ne _ _ (by decide)]; exact h3
    · rw [up_ne _ _ (by decide)]; omega
    · rw [up_ne _ _ (by decide)]; exact h5
    · rw [up_ne _ _ (by decide)]; exact h6
    · rw [up_at]; right; omega

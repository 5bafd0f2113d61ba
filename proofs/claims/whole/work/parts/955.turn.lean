
/-! ===== PURE: read, one turn ===== -/
theorem most_0 : m_X11_most ((0 : Nat) : Int) = some 16 := by rw [m_X11_most, m_X11_most_0]; rfl
theorem most_1 : m_X11_most ((1 : Nat) : Int) = some 16 := by rw [m_X11_most, m_X11_most_0]; rfl
theorem most_2 : m_X11_most ((2 : Nat) : Int) = some 16 := by rw [m_X11_most, m_X11_most_0]; rfl
theorem most_3 : m_X11_most ((3 : Nat) : Int) = some 41 := by rw [m_X11_most, m_X11_most_0]; rfl
theorem most_4 : m_X11_most ((4 : Nat) : Int) = some 20 := by rw [m_X11_most, m_X11_most_0]; rfl
theorem most_5 : m_X11_most ((5 : Nat) : Int) = some 5 := by rw [m_X11_most, m_X11_most_0]; rfl
theorem most_6 : m_X11_most ((6 : Nat) : Int) = some 1 := by rw [m_X11_most, m_X11_most_0]; rfl
theorem q_isFull5 {s t : Nat} {stm pm em spM soM bT bL bH nbl nbh : Int} {sx sy sz px py pz ex ey ez pu pT lo hi spT soH soT nm nw npu nl nh nho : Nat → Int} (htt : t ≤ 40) (hs : s < 7) (h : RNw t stm sx sy sz pm px py pz em ex ey ez spM soM bT bL bH pu pT lo hi spT soH soT nbl nbh nm nw npu nl nh nho) (h12 : s = 6 → bT = 0) :
    ∃ e mo, m_X5_isFull stm pm em spM soM (s : Int) = some e ∧ m_X11_most (s : Int) = some mo ∧ (e = 0 ∨ e = 1) ∧ (e = 1 ↔ nm s = mo) ∧ (e = 0 → (s = 0 → stm < 16) ∧ (s = 1 → pm < 16) ∧ (s = 2 → em < 16) ∧ (s = 4 → spM < 20) ∧ (s = 5 → soM < 5)) := by
  obtain ⟨h1, h2, h3, h4, h5, h6, h7, h8, h9, h10, h11⟩ := h
  rcases (by omega : s = 0 ∨ s = 1 ∨ s = 2 ∨ s = 3 ∨ s = 4 ∨ s = 5 ∨ s = 6) with h | h | h | h | h | h | h <;> subst h
  · obtain ⟨m, m0, m1, m2, _⟩ := h1
    rw [m_X5_isFull, m_X5_isFull_0, if_pos (show ((0 : Nat) : Int) = 0 from rfl), m_X8_isFull, m_X8_isFull_0]
    by_cases c : stm < ((16 : Nat) : Int)
    · rw [if_pos c, bind_s]; exact ⟨0, 16, rfl, most_0, Or.inl rfl, by omega, fun _ => by omega⟩
    · rw [if_neg c, bind_s]; exact ⟨1, 16, rfl, most_0, Or.inr rfl, by omega, fun h => by omega⟩
  · obtain ⟨m, m0, m1, m2, _⟩ := h2
    rw [m_X5_isFull, m_X5_isFull_0, if_neg (show ¬ ((1 : Nat) : Int) = 0 by decide), if_pos (show ((1 : Nat) : Int) = 1 from rfl), m_X8_isFull, m_X8_isFull_0]
    by_cases c : pm < ((16 : Nat) : Int)
    · rw [if_pos c, bind_s]; exact ⟨0, 16, rfl, most_1, Or.inl rfl, by omega, fun _ => by omega⟩
    · rw [if_neg c, bind_s]; exact ⟨1, 16, rfl, most_1, Or.inr rfl, by omega, fun h => by omega⟩
  · obtain ⟨m, m0, m1, m2, _⟩ := h3
    rw [m_X5_isFull, m_X5_isFull_0, if_neg (show ¬ ((2 : Nat) : Int) = 0 by decide), if_neg (show ¬ ((2 : Nat) : Int) = 1 by decide), if_pos (show ((2 : Nat) : Int) = 2 from rfl), m_X8_isFull, m_X8_isFull_0]
    by_cases c : em < ((16 : Nat) : Int)
    · rw [if_pos c, bind_s]; exact ⟨0, 16, rfl, most_2, Or.inl rfl, by omega, fun _ => by omega⟩
    · rw [if_neg c, bind_s]; exact ⟨1, 16, rfl, most_2, Or.inr rfl, by omega, fun h => by omega⟩
  · rw [m_X5_isFull, m_X5_isFull_0, if_neg (show ¬ ((3 : Nat) : Int) = 0 by decide), if_neg (show ¬ ((3 : Nat) : Int) = 1 by decide), if_neg (show ¬ ((3 : Nat) : Int) = 2 by decide), if_pos (show ((3 : Nat) : Int) = 3 from rfl)]
    exact ⟨0, 41, rfl, most_3, Or.inl rfl, by omega, fun _ => by omega⟩
  · rw [m_X5_isFull, m_X5_isFull_0, if_neg (show ¬ ((4 : Nat) : Int) = 0 by decide), if_neg (show ¬ ((4 : Nat) : Int) = 1 by decide), if_neg (show ¬ ((4 : Nat) : Int) = 2 by decide), if_neg (show ¬ ((4 : Nat) : Int) = 3 by decide), if_pos (show ((4 : Nat) : Int) = 4 from rfl)]
    by_cases c : spM < 20
    · rw [if_pos c]; exact ⟨0, 20, rfl, most_4, Or.inl rfl, by omega, fun _ => by omega⟩
    · rw [if_neg c]; exact ⟨1, 20, rfl, most_4, Or.inr rfl, by omega, fun h => by omega⟩
  · rw [m_X5_isFull, m_X5_isFull_0, if_neg (show ¬ ((5 : Nat) : Int) = 0 by decide), if_neg (show ¬ ((5 : Nat) : Int) = 1 by decide), if_neg (show ¬ ((5 : Nat) : Int) = 2 by decide), if_neg (show ¬ ((5 : Nat) : Int) = 3 by decide), if_neg (show ¬ ((5 : Nat) : Int) = 4 by decide), if_pos (show ((5 : Nat) : Int) = 5 from rfl)]
    by_cases c : soM < 5
    · rw [if_pos c]; exact ⟨0, 5, rfl, most_5, Or.inl rfl, by omega, fun _ => by omega⟩
    · rw [if_neg c]; exact ⟨1, 5, rfl, most_5, Or.inr rfl, by omega, fun h => by omega⟩
  · rw [m_X5_isFull, m_X5_isFull_0, if_neg (show ¬ ((6 : Nat) : Int) = 0 by decide), if_neg (show ¬ ((6 : Nat) : Int) = 1 by decide), if_neg (show ¬ ((6 : Nat) : Int) = 2 by decide), if_neg (show ¬ ((6 : Nat) : Int) = 3 by decide), if_neg (show ¬ ((6 : Nat) : Int) = 4 by decide), if_neg (show ¬ ((6 : Nat) : Int) = 5 by decide)]
    exact ⟨0, 1, rfl, most_6, Or.inl rfl, by have := h12 rfl; omega, fun _ => by omega⟩
theorem w142 {p f v2 v3 : Int} (h : 0 < f) : m_X11_word_142 p f v2 v3 = some (-1, v2, f) := by rw [m_X11_word_142, if_neg (by omega)]
theorem w133 {p : Nat} {v2 v3 : Int} (hp : p ≤ 400) : m_X11_word_133 (p : Int) 0 v2 v3 = some (-1, v2, 1 + 8 * (p : Int) + 4) := by
  rw [m_X11_word_133, q_fails0 (by omega) (by decide), bind_s, w142 (by omega)]
theorem q_rturn {n p t : Nat} {bytes tape : Nat → Int} {np fr stm pm em spM soM bT bL bH nbl nbh : Int} {sx sy sz px py pz ex ey ez pu pT lo hi spT soH soT nm nw npu nl nh nho : Nat → Int} (hn : n ≤ 400) (ht : tpR n bytes tape) (hp : p ≤ n) (htt : t ≤ 40) (h : RNw t stm sx sy sz pm px py pz em ex ey ez spM soM bT bL bH pu pT lo hi spT soH soT nbl nbh nm nw npu nl nh nho) :
    ∃ (r : Int × Int × Int × Int × (Nat → Int) × (Nat → Int) × (Nat → Int) × Int × (Nat → Int) × (Nat → Int) × (Nat → Int) × Int × (Nat → Int) × (Nat → Int) × (Nat → Int) × Int × Int × Int × Int × Int × (Nat → Int) × (Nat → Int) × (Nat → Int) × (Nat → Int) × (Nat → Int) × (Nat → Int) × (Nat → Int)) (r2 : Int × Int × Int × Int × Int × (Nat → Int) × (Nat → Int) × (Nat → Int) × (Nat → Int) × (Nat → Int) × (Nat → Int)) (v1' : Int), m_X5_readStatement (n : Int) (p : Int) 0 np bytes stm sx sy sz pm px py pz em ex ey ez spM soM bT bL bH pu pT lo hi spT soH soT (t : Int) = some r ∧ (∀ (ag k : (Int → Int → Int → Int → Int → (Nat → Int) → (Nat → Int) → (Nat → Int) → (Nat → Int) → (Nat → Int) → (Nat → Int) → Int → Int → Option (Int × Int × Int × Int × Int × Int × Int × Int × Int × Int × (Nat → Int) × (Nat → Int) × (Nat → Int) × (Nat → Int) × (Nat → Int) × (Nat → Int) × (Nat → Int) × (Nat → Int) × (Nat → Int) × (Nat → Int) × (Nat → Int) × (Nat → Int)))), ((m_X11_word (n : Int) (p : Int) 0 tape nm (t : Int)).bind (fun y10 => if y10.2.2 = 0 then ((m_X11_statement (n : Int) y10.2.1 y10.2.2 nbl nbh fr tape nm nw npu nl nh nho y10.1).bind (fun y11 => chk (inI ((t : Int) + 1)) (m_X11_read_145 (n : Int) (y11.1) (y11.2.1) (y11.2.2.1) (y11.2.2.2.1) (y11.2.2.2.2.1) tape (y11.2.2.2.2.2.1) (y11.2.2.2.2.2.2.1) (y11.2.2.2.2.2.2.2.1) (y11.2.2.2.2.2.2.2.2.1) (y11.2.2.2.2.2.2.2.2.2.1) (y11.2.2.2.2.2.2.2.2.2.2) ((t : Int) + 1) ag k))) else (m_X11_read_145 (n : Int) y10.2.1 y10.2.2 nbl nbh fr tape nm nw npu nl nh nho (t : Int) ag k))) = m_X11_read_145 (n : Int) (r2.1) (r2.2.1) (r2.2.2.1) (r2.2.2.2.1) (r2.2.2.2.2.1) tape (r2.2.2.2.2.2.1) (r2.2.2.2.2.2.2.1) (r2.2.2.2.2.2.2.2.1) (r2.2.2.2.2.2.2.2.2.1) (r2.2.2.2.2.2.2.2.2.2.1) (r2.2.2.2.2.2.2.2.2.2.2) v1' ag k) ∧ 0 ≤ v1' ∧ v1' ≤ 41 ∧ (∃ (p2 q2 : Nat) (f2 : Int), r.1 = (p2 : Int) ∧ r.2.1 = f2 ∧ r2.1 = (q2 : Int) ∧ r2.2.1 = f2 ∧ p2 ≤ n ∧ q2 ≤ n ∧ 0 ≤ f2 ∧ f2 ≤ 4000 ∧ Zf 21 (r.2.2.2.2.2.2.2.2.2.2.2.2.2.2.2.2.2.2.2.2.1) ∧ (f2 = 0 → q2 = p2 ∧ RNw (t + 1) (r.2.2.2.1) (r.2.2.2.2.1) (r.2.2.2.2.2.1) (r.2.2.2.2.2.2.1) (r.2.2.2.2.2.2.2.1) (r.2.2.2.2.2.2.2.2.1) (r.2.2.2.2.2.2.2.2.2.1) (r.2.2.2.2.2.2.2.2.2.2.1) (r.2.2.2.2.2.2.2.2.2.2.2.1) (r.2.2.2.2.2.2.2.2.2.2.2.2.1) (r.2.2.2.2.2.2.2.2.2.2.2.2.2.1) (r.2.2.2.2.2.2.2.2.2.2.2.2.2.2.1) (r.2.2.2.2.2.2.2.2.2.2.2.2.2.2.2.1) (r.2.2.2.2.2.2.2.2.2.2.2.2.2.2.2.2.1) (r.2.2.2.2.2.2.2.2.2.2.2.2.2.2.2.2.2.1) (r.2.2.2.2.2.2.2.2.2.2.2.2.2.2.2.2.2.2.1) (r.2.2.2.2.2.2.2.2.2.2.2.2.2.2.2.2.2.2.2.1) (r.2.2.2.2.2.2.2.2.2.2.2.2.2.2.2.2.2.2.2.2.1) (r.2.2.2.2.2.2.2.2.2.2.2.2.2.2.2.2.2.2.2.2.2.1) (r.2.2.2.2.2.2.2.2.2.2.2.2.2.2.2.2.2.2.2.2.2.2.1) (r.2.2.2.2.2.2.2.2.2.2.2.2.2.2.2.2.2.2.2.2.2.2.2.1) (r.2.2.2.2.2.2.2.2.2.2.2.2.2.2.2.2.2.2.2.2.2.2.2.2.1) (r.2.2.2.2.2.2.2.2.2.2.2.2.2.2.2.2.2.2.2.2.2.2.2.2.2.1) (r.2.2.2.2.2.2.2.2.2.2.2.2.2.2.2.2.2.2.2.2.2.2.2.2.2.2) (r2.2.2.1) (r2.2.2.2.1) (r2.2.2.2.2.2.1) (r2.2.2.2.2.2.2.1) (r2.2.2.2.2.2.2.2.1) (r2.2.2.2.2.2.2.2.2.1) (r2.2.2.2.2.2.2.2.2.2.1) (r2.2.2.2.2.2.2.2.2.2.2))) ∧ (r.2.1 = 0 → v1' = ((t + 1 : Nat) : Int) ∧ t < 40) := by
  have hpz := h.2.2.2.2.2.2.2.2.1.1
  obtain ⟨len, s, l1, l2, l3, l4, l5⟩ := q_word (f := 0) (v1 := (t : Int)) (nm := nm) hn ht hp
  rw [m_X5_readStatement, m_X5_readStatement_0, l3, bind_s, l4, bind_s, l5, m_X11_word_67]
  by_cases c7 : s = 7
  · subst c7
    rw [if_pos rfl, if_pos (show (-1 : Int) = -1 from rfl), q_refuse0 (by omega) (by decide), bind_s, if_pos (show ((7 : Nat) : Int) = 7 from rfl), q_fails0 (by omega) (by decide), bind_s, w142 (by omega)]
    refine ⟨((p : Int), 1 + 8 * (p : Int) + 0, np, stm, sx, sy, sz, pm, px, py, pz, em, ex, ey, ez, spM, soM, bT, bL, bH, pu, pT, lo, hi, spT, soH, soT), (((p + len : Nat) : Int), 1 + 8 * (p : Int) + 0, nbl, nbh, fr, nm, nw, npu, nl, nh, nho), (t : Int), ?_, ?_, by omega, by omega, ⟨p, p + len, 1 + 8 * (p : Int) + 0, rfl, rfl, rfl, rfl, hp, l1, by omega, by omega, hpz, fun h => by omega⟩, fun h => by exfalso; dsimp only at h; omega⟩
    · rfl
    · exact fun ag k => by rw [bind_s]; dsimp only; rw [if_neg (show ¬ 1 + 8 * (p : Int) + 0 = 0 by omega)]
  · rw [if_neg c7, if_neg (by omega), if_neg (show ¬ (s : Int) = 7 by omega)]
    have h6 := h.2.2.2.2.2.2.1
    -- told twice, or on
    have go : Imp (s = 6 → bT = 0) (∃ (r : Int × Int × Int × Int × (Nat → Int) × (Nat → Int) × (Nat → Int) × Int × (Nat → Int) × (Nat → Int) × (Nat → Int) × Int × (Nat → Int) × (Nat → Int) × (Nat → Int) × Int × Int × Int × Int × Int × (Nat → Int) × (Nat → Int) × (Nat → Int) × (Nat → Int) × (Nat → Int) × (Nat → Int) × (Nat → Int)) (r2 : Int × Int × Int × Int × Int × (Nat → Int) × (Nat → Int) × (Nat → Int) × (Nat → Int) × (Nat → Int) × (Nat → Int)) (v1' : Int), m_X5_readStatement_59 (n : Int) (p : Int) 0 np bytes stm sx sy sz pm px py pz em ex ey ez spM soM bT bL bH pu pT lo hi spT soH soT (t : Int) (len : Int) (s : Int) = some r ∧ (∀ (ag k : (Int → Int → Int → Int → Int → (Nat → Int) → (Nat → Int) → (Nat → Int) → (Nat → Int) → (Nat → Int) → (Nat → Int) → Int → Int → Option (Int × Int × Int × Int × Int × Int × Int × Int × Int × Int × (Nat → Int) × (Nat → Int) × (Nat → Int) × (Nat → Int) × (Nat → Int) × (Nat → Int) × (Nat → Int) × (Nat → Int) × (Nat → Int) × (Nat → Int) × (Nat → Int) × (Nat → Int)))), ((m_X11_word_114 (p : Int) 0 nm (t : Int) ((p + len : Nat) : Int) (s : Int)).bind (fun y10 => if y10.2.2 = 0 then ((m_X11_statement (n : Int) y10.2.1 y10.2.2 nbl nbh fr tape nm nw npu nl nh nho y10.1).bind (fun y11 => chk (inI ((t : Int) + 1)) (m_X11_read_145 (n : Int) (y11.1) (y11.2.1) (y11.2.2.1) (y11.2.2.2.1) (y11.2.2.2.2.1) tape (y11.2.2.2.2.2.1) (y11.2.2.2.2.2.2.1) (y11.2.2.2.2.2.2.2.1) (y11.2.2.2.2.2.2.2.2.1) (y11.2.2.2.2.2.2.2.2.2.1) (y11.2.2.2.2.2.2.2.2.2.2) ((t : Int) + 1) ag k))) else (m_X11_read_145 (n : Int) y10.2.1 y10.2.2 nbl nbh fr tape nm nw npu nl nh nho (t : Int) ag k))) = m_X11_read_145 (n : Int) (r2.1) (r2.2.1) (r2.2.2.1) (r2.2.2.2.1) (r2.2.2.2.2.1) tape (r2.2.2.2.2.2.1) (r2.2.2.2.2.2.2.1) (r2.2.2.2.2.2.2.2.1) (r2.2.2.2.2.2.2.2.2.1) (r2.2.2.2.2.2.2.2.2.2.1) (r2.2.2.2.2.2.2.2.2.2.2) v1' ag k) ∧ 0 ≤ v1' ∧ v1' ≤ 41 ∧ (∃ (p2 q2 : Nat) (f2 : Int), r.1 = (p2 : Int) ∧ r.2.1 = f2 ∧ r2.1 = (q2 : Int) ∧ r2.2.1 = f2 ∧ p2 ≤ n ∧ q2 ≤ n ∧ 0 ≤ f2 ∧ f2 ≤ 4000 ∧ Zf 21 (r.2.2.2.2.2.2.2.2.2.2.2.2.2.2.2.2.2.2.2.2.1) ∧ (f2 = 0 → q2 = p2 ∧ RNw (t + 1) (r.2.2.2.1) (r.2.2.2.2.1) (r.2.2.2.2.2.1) (r.2.2.2.2.2.2.1) (r.2.2.2.2.2.2.2.1) (r.2.2.2.2.2.2.2.2.1) (r.2.2.2.2.2.2.2.2.2.1) (r.2.2.2.2.2.2.2.2.2.2.1) (r.2.2.2.2.2.2.2.2.2.2.2.1) (r.2.2.2.2.2.2.2.2.2.2.2.2.1) (r.2.2.2.2.2.2.2.2.2.2.2.2.2.1) (r.2.2.2.2.2.2.2.2.2.2.2.2.2.2.1) (r.2.2.2.2.2.2.2.2.2.2.2.2.2.2.2.1) (r.2.2.2.2.2.2.2.2.2.2.2.2.2.2.2.2.1) (r.2.2.2.2.2.2.2.2.2.2.2.2.2.2.2.2.2.1) (r.2.2.2.2.2.2.2.2.2.2.2.2.2.2.2.2.2.2.1) (r.2.2.2.2.2.2.2.2.2.2.2.2.2.2.2.2.2.2.2.1) (r.2.2.2.2.2.2.2.2.2.2.2.2.2.2.2.2.2.2.2.2.1) (r.2.2.2.2.2.2.2.2.2.2.2.2.2.2.2.2.2.2.2.2.2.1) (r.2.2.2.2.2.2.2.2.2.2.2.2.2.2.2.2.2.2.2.2.2.2.1) (r.2.2.2.2.2.2.2.2.2.2.2.2.2.2.2.2.2.2.2.2.2.2.2.1) (r.2.2.2.2.2.2.2.2.2.2.2.2.2.2.2.2.2.2.2.2.2.2.2.2.1) (r.2.2.2.2.2.2.2.2.2.2.2.2.2.2.2.2.2.2.2.2.2.2.2.2.2.1) (r.2.2.2.2.2.2.2.2.2.2.2.2.2.2.2.2.2.2.2.2.2.2.2.2.2.2) (r2.2.2.1) (r2.2.2.2.1) (r2.2.2.2.2.2.1) (r2.2.2.2.2.2.2.1) (r2.2.2.2.2.2.2.2.1) (r2.2.2.2.2.2.2.2.2.1) (r2.2.2.2.2.2.2.2.2.2.1) (r2.2.2.2.2.2.2.2.2.2.2))) ∧ (r.2.1 = 0 → v1' = ((t + 1 : Nat) : Int) ∧ t < 40)) := fun h12 => by
      obtain ⟨e, mo, f1, f2, f3, f4, f5⟩ := q_isFull5 htt (show s < 7 by omega) h h12
      rw [m_X5_readStatement_59, m_X11_word_114, chkB (by omega) (by omega), tn, f2, bind_s]
      by_cases c40 : t = 40
      · rw [if_pos (show (40 : Int) ≤ (t : Int) by omega), m_X5_readStatement_74, q_refuse0 (by omega) (by decide), bind_s]
        have hw : (if nm s = mo then m_X11_word_133 (p : Int) 0 ((p + len : Nat) : Int) (s : Int) else if (t : Int) = 40 then m_X11_word_133 (p : Int) 0 ((p + len : Nat) : Int) (s : Int) else m_X11_word_142 (p : Int) 0 ((p + len : Nat) : Int) (s : Int)) = some (-1, ((p + len : Nat) : Int), 1 + 8 * (p : Int) + 4) := by
          by_cases c : nm s = mo
          · rw [if_pos c, w133 (by omega)]
          · rw [if_neg c, if_pos (show (t : Int) = 40 by omega), w133 (by omega)]
        rw [hw]
        refine ⟨((p : Int), 1 + 8 * (p : Int) + 4, np, stm, sx, sy, sz, pm, px, py, pz, em, ex, ey, ez, spM, soM, bT, bL, bH, pu, pT, lo, hi, spT, soH, soT), (((p + len : Nat) : Int), 1 + 8 * (p : Int) + 4, nbl, nbh, fr, nm, nw, npu, nl, nh, nho), (t : Int), ?_, ?_, by omega, by omega, ⟨p, p + len, 1 + 8 * (p : Int) + 4, rfl, rfl, rfl, rfl, hp, l1, by omega, by omega, hpz, fun h => by omega⟩, fun h => by exfalso; dsimp only at h; omega⟩
        · rfl
        · exact fun ag k => by rw [bind_s]; dsimp only; rw [if_neg (show ¬ 1 + 8 * (p : Int) + 4 = 0 by omega)]
      · rw [if_neg (show ¬ (40 : Int) ≤ (t : Int) by omega), f1, bind_s]
        by_cases ce : e = 0
        · obtain ⟨g1, g2, g3, g4, g5⟩ := f5 ce
          obtain ⟨r, r2, s1, s2, s3⟩ := q_stmt (np := np) (fr := fr) hn ht (show p + len ≤ n from l1) htt (show s < 7 by omega) h ⟨g1, g2, g3, g4, g5, h12⟩
          have hb1 : ((p : Int) + (len : Int)) = ((p + len : Nat) : Int) := by omega
          rw [if_pos ce, hb1, chkI (by omega) (by omega), s1, bind_s, if_neg (show ¬ nm s = mo from fun hh => by have := f4.mpr hh; omega), if_neg (show ¬ (t : Int) = 40 by omega), m_X11_word_142, if_pos (Int.le_refl 0)]
          refine ⟨r, r2, ((t + 1 : Nat) : Int), rfl, ?_, by omega, by omega, s3, fun _ => ⟨rfl, by omega⟩⟩
          intro ag k
          rw [bind_s]
          dsimp only
          rw [if_pos rfl, s2, bind_s, chkI (by omega) (by omega)]
          rfl
        · rw [if_neg ce, m_X5_readStatement_74, q_refuse0 (by omega) (by decide), bind_s, if_pos (show nm s = mo from f4.mp (by omega)), w133 (by omega)]
          refine ⟨((p : Int), 1 + 8 * (p : Int) + 4, np, stm, sx, sy, sz, pm, px, py, pz, em, ex, ey, ez, spM, soM, bT, bL, bH, pu, pT, lo, hi, spT, soH, soT), (((p + len : Nat) : Int), 1 + 8 * (p : Int) + 4, nbl, nbh, fr, nm, nw, npu, nl, nh, nho), (t : Int), ?_, ?_, by omega, by omega, ⟨p, p + len, 1 + 8 * (p : Int) + 4, rfl, rfl, rfl, rfl, hp, l1, by omega, by omega, hpz, fun h => by omega⟩, fun h => by exfalso; dsimp only at h; omega⟩
          · rfl
          · exact fun ag k => by rw [bind_s]; dsimp only; rw [if_neg (show ¬ 1 + 8 * (p : Int) + 4 = 0 by omega)]
    by_cases c6 : s = 6
    · subst c6
      rw [if_pos (show ((6 : Nat) : Int) = 6 from rfl), if_pos (show ((6 : Nat) : Int) = 6 from rfl), chkB (by omega) (by omega), show Int.toNat 6 = 6 from rfl]
      by_cases cb : bT = 0
      · rw [if_pos cb, if_neg (show ¬ nm 6 = 1 by omega)]
        exact go.mp (fun _ => cb)
      · rw [if_neg cb, if_pos (show nm 6 = 1 by omega), q_refuse0 (by omega) (by decide), bind_s, q_fails0 (by omega) (by decide), bind_s, w142 (by omega)]
        refine ⟨((p : Int), 1 + 8 * (p : Int) + 3, np, stm, sx, sy, sz, pm, px, py, pz, em, ex, ey, ez, spM, soM, bT, bL, bH, pu, pT, lo, hi, spT, soH, soT), (((p + len : Nat) : Int), 1 + 8 * (p : Int) + 3, nbl, nbh, fr, nm, nw, npu, nl, nh, nho), (t : Int), ?_, ?_, by omega, by omega, ⟨p, p + len, 1 + 8 * (p : Int) + 3, rfl, rfl, rfl, rfl, hp, l1, by omega, by omega, hpz, fun h => by omega⟩, fun h => by exfalso; dsimp only at h; omega⟩
        · rfl
        · exact fun ag k => by rw [bind_s]; dsimp only; rw [if_neg (show ¬ 1 + 8 * (p : Int) + 3 = 0 by omega)]
    · rw [if_neg (show ¬ (s : Int) = 6 by omega), if_neg (show ¬ (s : Int) = 6 by omega)]
      exact go.mp (fun h => absurd h c6)


/-! ===== PURE: the greatest share, the model's way ===== -/
theorem q_first_17 {n m : Nat} {many2 way zc ok A D : Nat → Int} {x y z k : Int} {k129 : Int → Int → Option Int} (hn : n ≤ 16) (hm : m ≤ 16) (h0 : many2 0 = (n : Int)) (h1 : many2 1 = (m : Int)) (hok : ∀ c, ok c ≠ 0 ↔ (c % 16 < n ∧ c / 16 < m ∧ zc c = 0 ∧ 0 < A c))
    (hIn : ∀ c, c / 16 < m → c % 16 < n → m_X11_isIn many2 way ((c / 16 : Nat) : Int) ((c % 16 : Nat) : Int) = some (if zc c = 0 then 1 else 0)) (hAb : ∀ c, c / 16 < m → c % 16 < n → m_X11_above way x y z ((c / 16 : Nat) : Int) ((c % 16 : Nat) : Int) = some (A c))
    (hCm : ∀ c w, c / 16 < m → c % 16 < n → w / 16 < m → w % 16 < n → m_X11_compares way x y z (c : Int) (w : Int) = some (if A w * D c ≤ A c * D w then (if A c * D w ≤ A w * D c then 0 else 1) else -1)) :
    m_X11_first_17 many2 way x y z k129 FU (-1) 0 = k129 (fS ok A D k (16 * m)).1 ((16 * m : Nat) : Int) := by
  exact loop_p (16 * m) (fun F c => m_X11_first_17 many2 way x y z k129 F (fS ok A D k c).1 (c : Int) = k129 (fS ok A D k (16 * m)).1 ((16 * m : Nat) : Int)) (fun F => by
    rw [m_X11_first_17, chkB (by omega) (by omega), show many2 (Int.toNat 1) = many2 1 from rfl, h1, chkI (by omega) (by omega), if_pos (by omega)]) (fun F c hc ih _ => by
    obtain ⟨e1, e2⟩ := b15 ⟨c, by omega⟩
    dsimp only at e1 e2
    have hb := fS_bd (ok := ok) (A := A) (D := D) (k := k) c
    have t121 : ∀ s0, m_X11_first_121 many2 way x y z (c : Int) s0 (m_X11_first_17 many2 way x y z k129 F) k129 = m_X11_first_17 many2 way x y z k129 F s0 ((c + 1 : Nat) : Int) := by
      intro s0; rw [m_X11_first_121, chkI (by omega) (by omega)]; rfl
    have no : ok c = 0 → m_X11_first_86 many2 way x y z (fS ok A D k c).1 (c : Int) (m_X11_first_17 many2 way x y z k129 F) k129 = k129 (fS ok A D k (16 * m)).1 ((16 * m : Nat) : Int) := by
      intro hz
      rw [m_X11_first_86, m_X11_first_87, if_pos rfl, m_X11_first_119, t121]
      rw [fS_0 hz] at ih
      exact ih
    rw [m_X11_first_17, chkB (by omega) (by omega), show many2 (Int.toNat 1) = many2 1 from rfl, h1, chkI (by omega) (by omega), if_neg (show ¬ 16 * (m : Int) ≤ (c : Int) by omega), chkB (by omega) (by omega), show many2 (Int.toNat 0) = many2 0 from rfl, h0, e1, e2]
    by_cases c1 : n ≤ c % 16
    · rw [if_pos (by omega)]
      refine no ?_
      by_cases hz : ok c = 0
      · exact hz
      · have := ((hok c).mp hz).1; omega
    · rw [if_neg (show ¬ (n : Int) ≤ ((c % 16 : Nat) : Int) by omega), hIn c (by omega) (by omega), bind_s]
      by_cases c2 : zc c = 0
      · rw [if_pos c2, if_neg ne10, hAb c (by omega) (by omega), bind_s]
        by_cases c3 : A c ≤ 0
        · rw [if_pos c3]
          refine no ?_
          by_cases hz : ok c = 0
          · exact hz
          · have := ((hok c).mp hz).2.2.2; omega
        · have hk : ok c ≠ 0 := (hok c).mpr ⟨by omega, by omega, c2, by omega⟩
          rw [fS_s, if_neg hk] at ih
          rw [if_neg c3, m_X11_first_87, if_neg ne10]
          by_cases c4 : (fS ok A D k c).1 = -1
          · rw [if_pos (Or.inl c4)] at ih
            rw [if_pos c4, m_X11_first_114, t121]
            exact ih
          · obtain ⟨w, hw⟩ : ∃ w : Nat, (fS ok A D k c).1 = (w : Int) := ⟨(fS ok A D k c).1.toNat, by omega⟩
            have hwok := hb.2.2.2.2.1 c4
            rw [hw, tn] at hwok
            obtain ⟨w1', w2', _, _⟩ := (hok w).mp hwok
            rw [hw, tn] at ih
            rw [if_neg c4, hw, hCm c w (by omega) (by omega) w2' w1', bind_s]
            by_cases c5 : A w * D c < A c * D w
            · rw [if_pos (Or.inr c5)] at ih
              rw [if_pos (show A w * D c ≤ A c * D w by omega), if_neg (show ¬ A c * D w ≤ A w * D c by omega), if_neg (by omega), m_X11_first_114, t121]
              exact ih
            · have hng : ¬ ((w : Int) = -1 ∨ A w * D c < A c * D w) := fun h => h.elim (fun h => by omega) c5
              have hle : (if A w * D c ≤ A c * D w then (if A c * D w ≤ A w * D c then (0 : Int) else 1) else -1) ≤ 0 := by
                by_cases c6 : A w * D c ≤ A c * D w
                · rw [if_pos c6, if_pos (by omega)]; omega
                · rw [if_neg c6]; omega
              rw [if_neg hng] at ih
              rw [if_pos hle, m_X11_first_119, t121]
              have e : (if A c * D w = A w * D c then ((w : Int), (fS ok A D k c).2.1 + 1, if (fS ok A D k c).2.1 = k then (c : Int) else (fS ok A D k c).2.2) else fS ok A D k c).1 = (w : Int) := by
                split
                · rfl
                · exact hw
              rw [e] at ih
              exact ih
      · rw [if_neg c2, if_pos rfl]
        refine no ?_
        by_cases hz : ok c = 0
        · exact hz
        · exact absurd ((hok c).mp hz).2.2.1 c2) (16 * m) FU 0 (by omega) (by unfold FU; omega)
/-- once the k-th is found, it stays -/
theorem fS_stay {n m : Nat} {zc ok A D : Nat → Int} {k : Int} {W : Nat} (hok : ∀ c, ok c ≠ 0 ↔ (c % 16 < n ∧ c / 16 < m ∧ zc c = 0 ∧ 0 < A c)) (hD : ∀ c, c % 16 < n → c / 16 < m → 0 < D c) (hA : ∀ c, c % 16 < n → c / 16 < m → 0 ≤ A c) (hw : ∀ c, W < c → c ≤ 16 * m → (fS ok A D k c).1 = (W : Int)) : ∀ j c, W < c → c + j = 16 * m → k < (fS ok A D k c).2.1 → (fS ok A D k (16 * m)).2.2 = (fS ok A D k c).2.2 := by
  intro j
  induction j with
  | zero => intro c _ h _; rw [show c = 16 * m by omega]
  | succ j ih =>
    intro c hc h hk
    obtain ⟨s1, s2⟩ := fS_on (n := n) (m := m) (z := zc) (k := k) hok hD hA hc (by omega) (hw c hc (by omega)) (hw (c + 1) (by omega) (by omega))
    by_cases hs : sm2 n zc A D W c
    · obtain ⟨a1, a2⟩ := s1 hs
      have := ih (c + 1) (by omega) (by omega) (by omega)
      rw [this, a2, if_neg (by omega)]
    · have a := s2 hs
      have := ih (c + 1) (by omega) (by omega) (by rw [a]; exact hk)
      rw [this, a]
theorem q_first_136 {n m W : Nat} {many2 way zc ok A D : Nat → Int} {x y z k : Int} (hn : n ≤ 16) (hm : m ≤ 16) (h0 : many2 0 = (n : Int)) (h1 : many2 1 = (m : Int)) (hok : ∀ c, ok c ≠ 0 ↔ (c % 16 < n ∧ c / 16 < m ∧ zc c = 0 ∧ 0 < A c))
    (hIn : ∀ c, c / 16 < m → c % 16 < n → m_X11_isIn many2 way ((c / 16 : Nat) : Int) ((c % 16 : Nat) : Int) = some (if zc c = 0 then 1 else 0))
    (hCm : ∀ c w, c / 16 < m → c % 16 < n → w / 16 < m → w % 16 < n → m_X11_compares way x y z (c : Int) (w : Int) = some (if A w * D c ≤ A c * D w then (if A c * D w ≤ A w * D c then 0 else 1) else -1))
    (hD : ∀ c, c % 16 < n → c / 16 < m → 0 < D c) (hA : ∀ c, c % 16 < n → c / 16 < m → 0 ≤ A c) (hW : (fS ok A D k (16 * m)).1 = (W : Int)) :
    m_X11_first_136 many2 way x y z k (W : Int) (fun v6' v7' => m_X11_first_243 k v6') (fun v6' v7' => m_X11_first_219 v7') FU 0 (W : Int) = some (if k = -1 then (fS ok A D k (16 * m)).2.1 else (fS ok A D k (16 * m)).2.2) := by
  have hWm : W < 16 * m := by have := (fS_bd (ok := ok) (A := A) (D := D) (k := k) (16 * m)).1; omega
  have hw : ∀ c, W < c → c ≤ 16 * m → (fS ok A D k c).1 = (W : Int) := fun c h1 h2 => fS_w (16 * m - c) c (by omega) (by omega) (by rw [show c + (16 * m - c) = 16 * m by omega]; exact hW)
  obtain ⟨n1, n2, n3⟩ := fS_new (hw (W + 1) (by omega) (by omega))
  obtain ⟨w1', w2', w3', w4'⟩ := (hok W).mp n1
  -- one turn
  have turn : ∀ F c (f : Int), W ≤ c → c < 16 * m → 0 ≤ f → f ≤ 256 → (sm2 n zc A D W c → m_X11_first_136 many2 way x y z k (W : Int) (fun v6' v7' => m_X11_first_243 k v6') (fun v6' v7' => m_X11_first_219 v7') (F + 1) f (c : Int) = if f = k then some (c : Int) else m_X11_first_136 many2 way x y z k (W : Int) (fun v6' v7' => m_X11_first_243 k v6') (fun v6' v7' => m_X11_first_219 v7') F (f + 1) ((c + 1 : Nat) : Int)) ∧ (¬ sm2 n zc A D W c → m_X11_first_136 many2 way x y z k (W : Int) (fun v6' v7' => m_X11_first_243 k v6') (fun v6' v7' => m_X11_first_219 v7') (F + 1) f (c : Int) = m_X11_first_136 many2 way x y z k (W : Int) (fun v6' v7' => m_X11_first_243 k v6') (fun v6' v7' => m_X11_first_219 v7') F f ((c + 1 : Nat) : Int)) := by
    intro F c f hc hcm f0 f1
    obtain ⟨e1, e2⟩ := b15 ⟨c, by omega⟩
    dsimp only at e1 e2
    have t234 : ∀ s1, (s1 = 0 ∨ s1 = 1) → m_X11_first_234 many2 way x y z k (W : Int) (c : Int) f s1 (m_X11_first_136 many2 way x y z k (W : Int) (fun v6' v7' => m_X11_first_243 k v6') (fun v6' v7' => m_X11_first_219 v7') F) (fun v6' v7' => m_X11_first_243 k v6') (fun v6' v7' => m_X11_first_219 v7') = m_X11_first_136 many2 way x y z k (W : Int) (fun v6' v7' => m_X11_first_243 k v6') (fun v6' v7' => m_X11_first_219 v7') F (f + s1) ((c + 1 : Nat) : Int) := by
      intro s1 hs1; rw [m_X11_first_234, chkI (by omega) (by omega), chkI (by omega) (by omega)]; rfl
    have t204 : m_X11_first_204 many2 way x y z k (W : Int) f (c : Int) (m_X11_first_136 many2 way x y z k (W : Int) (fun v6' v7' => m_X11_first_243 k v6') (fun v6' v7' => m_X11_first_219 v7') F) (fun v6' v7' => m_X11_first_243 k v6') (fun v6' v7' => m_X11_first_219 v7') = m_X11_first_136 many2 way x y z k (W : Int) (fun v6' v7' => m_X11_first_243 k v6') (fun v6' v7' => m_X11_first_219 v7') F f ((c + 1 : Nat) : Int) := by
      rw [m_X11_first_204, m_X11_first_205, if_pos rfl, m_X11_first_222, if_pos rfl, t234 0 (Or.inl rfl), Int.add_zero]
    have t205 : m_X11_first_205 many2 way x y z k (W : Int) f (c : Int) 1 (m_X11_first_136 many2 way x y z k (W : Int) (fun v6' v7' => m_X11_first_243 k v6') (fun v6' v7' => m_X11_first_219 v7') F) (fun v6' v7' => m_X11_first_243 k v6') (fun v6' v7' => m_X11_first_219 v7') = if f = k then some (c : Int) else m_X11_first_136 many2 way x y z k (W : Int) (fun v6' v7' => m_X11_first_243 k v6') (fun v6' v7' => m_X11_first_219 v7') F (f + 1) ((c + 1 : Nat) : Int) := by
      rw [m_X11_first_205, if_neg ne10, m_X11_first_222, if_neg ne10, t234 1 (Or.inr rfl)]
    rw [m_X11_first_136, if_neg (show ¬ (W : Int) = -1 by omega), chkB (by omega) (by omega), show many2 (Int.toNat 1) = many2 1 from rfl, h1, chkI (by omega) (by omega), if_neg (show ¬ 16 * (m : Int) ≤ (c : Int) by omega), chkB (by omega) (by omega), show many2 (Int.toNat 0) = many2 0 from rfl, h0, e1, e2, t204]
    by_cases c1 : n ≤ c % 16
    · rw [if_pos (show (n : Int) ≤ ((c % 16 : Nat) : Int) by omega)]
      exact ⟨fun h => by have := h.1; omega, fun _ => rfl⟩
    · rw [if_neg (show ¬ (n : Int) ≤ ((c % 16 : Nat) : Int) by omega), hIn c (by omega) (by omega), bind_s]
      by_cases c2 : zc c = 0
      · rw [if_pos c2, if_neg ne10, hCm c W (by omega) (by omega) w2' w1', bind_s, t205]
        by_cases c3 : A c * D W = A W * D c
        · rw [if_pos (show A W * D c ≤ A c * D W by omega), if_pos (show A c * D W ≤ A W * D c by omega), if_pos rfl]
          exact ⟨fun _ => rfl, fun h => absurd ⟨by omega, c2, c3⟩ h⟩
        · have hne : ¬ (if A W * D c ≤ A c * D W then (if A c * D W ≤ A W * D c then (0 : Int) else 1) else -1) = 0 := by
            by_cases c6 : A W * D c ≤ A c * D W
            · rw [if_pos c6, if_neg (by omega)]; decide
            · rw [if_neg c6]; decide
          rw [if_neg hne]
          exact ⟨fun h => absurd h.2.2 c3, fun _ => rfl⟩
      · rw [if_neg c2, if_pos rfl]
        exact ⟨fun h => absurd h.2.1 c2, fun _ => rfl⟩
  -- behind W
  have key : ∀ j F c, c + j = 16 * m → j < F → W < c → (k = -1 ∨ (fS ok A D k c).2.1 ≤ k ∨ k < -1) → (fS ok A D k c).2.2 = -1 → m_X11_first_136 many2 way x y z k (W : Int) (fun v6' v7' => m_X11_first_243 k v6') (fun v6' v7' => m_X11_first_219 v7') F (fS ok A D k c).2.1 (c : Int) = some (if k = -1 then (fS ok A D k (16 * m)).2.1 else (fS ok A D k (16 * m)).2.2) := by
    exact loop_p (16 * m) (fun F c => W < c → (k = -1 ∨ (fS ok A D k c).2.1 ≤ k ∨ k < -1) → (fS ok A D k c).2.2 = -1 → m_X11_first_136 many2 way x y z k (W : Int) (fun v6' v7' => m_X11_first_243 k v6') (fun v6' v7' => m_X11_first_219 v7') F (fS ok A D k c).2.1 (c : Int) = some (if k = -1 then (fS ok A D k (16 * m)).2.1 else (fS ok A D k (16 * m)).2.2)) (fun F _ _ h2 => by
      rw [m_X11_first_136, if_neg (show ¬ (W : Int) = -1 by omega), chkB (by omega) (by omega), show many2 (Int.toNat 1) = many2 1 from rfl, h1, chkI (by omega) (by omega), if_pos (by omega), m_X11_first_243, h2]
      by_cases ck : k = -1
      · rw [if_pos ck, if_pos ck]
      · rw [if_neg ck, if_neg ck]) (fun F c hc ih _ hWc hk h2 => by
      have hb := fS_bd (ok := ok) (A := A) (D := D) (k := k) c
      obtain ⟨t1, t2⟩ := turn F c (fS ok A D k c).2.1 (by omega) hc hb.2.1 (by omega)
      obtain ⟨s1, s2⟩ := fS_on (n := n) (m := m) (z := zc) (k := k) hok hD hA hWc (by omega) (hw c hWc (by omega)) (hw (c + 1) (by omega) (by omega))
      by_cases hs : sm2 n zc A D W c
      · obtain ⟨a1, a2⟩ := s1 hs
        rw [t1 hs]
        by_cases d : (fS ok A D k c).2.1 = k
        · rw [if_pos d, if_neg (by omega)]
          rw [if_pos d] at a2
          have := fS_stay (n := n) (zc := zc) (k := k) hok hD hA hw (16 * m - (c + 1)) (c + 1) (by omega) (by omega) (by omega)
          rw [this, a2]
        · rw [if_neg d]
          rw [if_neg d] at a2
          rw [a1, a2] at ih
          exact ih (by omega) (by omega) h2
      · have a := s2 hs
        rw [t2 hs]
        rw [a] at ih
        exact ih (by omega) hk h2)
  obtain ⟨F, hF⟩ := FU4
  obtain ⟨t1, _⟩ := turn (F + 1 + 1 + 1) W 0 (by omega) hWm (by omega) (by omega)
  rw [hF, t1 ⟨w1', w3', rfl⟩]
  by_cases d : 0 = k
  · rw [if_pos d, if_neg (by omega)]
    rw [if_pos d] at n3
    have := fS_stay (n := n) (zc := zc) (k := k) hok hD hA hw (16 * m - (W + 1)) (W + 1) (by omega) (by omega) (by omega)
    rw [this, n3]
  · rw [if_neg d]
    rw [if_neg d] at n3
    have hF2 : F + 1 + 1 + 1 = 5999 := by unfold FU at hF; omega
    have := key (16 * m - (W + 1)) (F + 1 + 1 + 1) (W + 1) (by omega) (by omega) (by omega) (by rw [n2]; omega) n3
    rw [n2] at this
    exact this
theorem pc_first {sm pm : Int} {sx sy sz px py pz many2 way : Nat → Int} (h1 : RWy sm sx sy sz (many2 0) way 0) (h2 : RWy pm px py pz (many2 1) way 48) (a b c d e f x y z k : Int) :
    ∃ r r2, m_X10_first a b c d e f sm sx sy sz pm px py pz x y z k = some r ∧ m_X11_first many2 way x y z k = some r2 ∧ r.1 = r2 := by
  have h10 := h1
  have h20 := h2
  obtain ⟨n, rfl, e2, e3, e4⟩ := h1
  obtain ⟨m, rfl, f2, f3, f4⟩ := h2
  have hS : ∀ j, j < n → pl3 (sx j) (sy j) (sz j) := fun j hj => ⟨(e4 j hj).2.2.2.1, (e4 j hj).2.2.2.2⟩
  have hP : ∀ j, j < m → pl3 (px j) (py j) (pz j) := fun j hj => ⟨(f4 j hj).2.2.2.1, (f4 j hj).2.2.2.2⟩
  rw [m_X10_first, m_X10_first_0, m_X11_first, m_X11_first_0]
  by_cases ht : pl3 x y z
  · rw [tell1 ht, isPullm1 ht, bind_s, bind_s, if_neg ne10, if_neg ne10]
    dsimp only
    obtain ⟨t', a', b', g1⟩ := q_gs (k := k) ht hS hP e3 f3 d e f
    have hIn : ∀ c, c / 16 < m → c % 16 < n → m_X11_isIn many2 way ((c / 16 : Nat) : Int) ((c % 16 : Nat) : Int) = some (if zF px py pz sx sy sz c = 0 then 1 else 0) := fun c c1 c2 => isIn1 h10 h20 (by omega) (by omega)
    have hAb : ∀ c, c / 16 < m → c % 16 < n → m_X11_above way x y z ((c / 16 : Nat) : Int) ((c % 16 : Nat) : Int) = some (AF x y z px py pz sx sy sz c) := fun c c1 c2 => (q_X11_above h10 h20 c1 c2 ht).1
    have hAD : ∀ c, c / 16 < m → c % 16 < n → 0 ≤ AF x y z px py pz sx sy sz c ∧ AF x y z px py pz sx sy sz c ≤ 3486784401 ∧ 0 < DF px py pz sx sy sz c ∧ DF px py pz sx sy sz c ≤ 59049 := fun c c1 c2 => by
      have q1 := (pS_bd ht.1 (hP _ c1).1 (hS _ c2).1).2
      have q2 := sq3_bd (hP _ c1).1
      have q3 := sq3_bd (hS _ c2).1
      have q4 := Int.mul_pos (sq3_pos (hP _ c1).2) (sq3_pos (hS _ c2).2)
      have q5 := mul_bd (a := sq3 (px (c / 16)) (py (c / 16)) (pz (c / 16))) (b := sq3 (sx (c % 16)) (sy (c % 16)) (sz (c % 16))) (A := 243) (B := 243) (by omega) (by omega) (by omega) (by omega)
      exact ⟨q1.1, q1.2, q4, by unfold DF; omega⟩
    have hCm : ∀ c w, c / 16 < m → c % 16 < n → w / 16 < m → w % 16 < n → m_X11_compares way x y z (c : Int) (w : Int) = some (if AF x y z px py pz sx sy sz w * DF px py pz sx sy sz c ≤ AF x y z px py pz sx sy sz c * DF px py pz sx sy sz w then (if AF x y z px py pz sx sy sz c * DF px py pz sx sy sz w ≤ AF x y z px py pz sx sy sz w * DF px py pz sx sy sz c then 0 else 1) else -1) := fun c w c1 c2 w1' w2' => by
      obtain ⟨u1, u2⟩ := b15 ⟨c, by omega⟩
      obtain ⟨u3, u4⟩ := b15 ⟨w, by omega⟩
      dsimp only at u1 u2 u3 u4
      obtain ⟨q1, _, q2, q3⟩ := q_X11_above h10 h20 c1 c2 ht
      obtain ⟨r1, _, r2, r3⟩ := q_X11_above h10 h20 w1' w2' ht
      obtain ⟨A1, A2, D1, D2⟩ := hAD c c1 c2
      obtain ⟨A3, A4, D3, D4⟩ := hAD w w1' w2'
      have m1 := mul_bd (a := AF x y z px py pz sx sy sz c) (b := DF px py pz sx sy sz w) (A := 3486784401) (B := 59049) (by omega) (by omega) (by omega) (by omega)
      have m2 := mul_bd (a := AF x y z px py pz sx sy sz w) (b := DF px py pz sx sy sz c) (A := 3486784401) (B := 59049) (by omega) (by omega) (by omega) (by omega)
      have hq1 : m_X11_above way x y z ((c / 16 : Nat) : Int) ((c % 16 : Nat) : Int) = some (AF x y z px py pz sx sy sz c) := q1
      have hr1 : m_X11_above way x y z ((w / 16 : Nat) : Int) ((w % 16 : Nat) : Int) = some (AF x y z px py pz sx sy sz w) := r1
      have ea : AF x y z px py pz sx sy sz c * sq3 (px (w / 16)) (py (w / 16)) (pz (w / 16)) * sq3 (sx (w % 16)) (sy (w % 16)) (sz (w % 16)) = AF x y z px py pz sx sy sz c * DF px py pz sx sy sz w := Int.mul_assoc _ _ _
      have eb : AF x y z px py pz sx sy sz w * sq3 (px (c / 16)) (py (c / 16)) (pz (c / 16)) * sq3 (sx (c % 16)) (sy (c % 16)) (sz (c % 16)) = AF x y z px py pz sx sy sz w * DF px py pz sx sy sz c := Int.mul_assoc _ _ _
      rw [m_X11_compares, m_X11_compares_0, u1, u2, u3, u4, hq1, bind_s, r2, bind_s, r3, bind_s, hr1, bind_s, q2, bind_s, q3, bind_s, ea, eb, chkJ (by omega) (by omega), chkJ (by omega) (by omega)]
      by_cases d1 : AF x y z px py pz sx sy sz w * DF px py pz sx sy sz c ≤ AF x y z px py pz sx sy sz c * DF px py pz sx sy sz w
      · rw [if_pos d1, if_pos d1]
        by_cases d2 : AF x y z px py pz sx sy sz c * DF px py pz sx sy sz w ≤ AF x y z px py pz sx sy sz w * DF px py pz sx sy sz c
        · rw [if_pos d2, if_pos d2]
        · rw [if_neg d2, if_neg d2]
      · rw [if_neg d1, if_neg d1]
    have hD : ∀ c, c % 16 < n → c / 16 < m → 0 < DF px py pz sx sy sz c := fun c c1 c2 => (hAD c c2 c1).2.2.1
    have hA : ∀ c, c % 16 < n → c / 16 < m → 0 ≤ AF x y z px py pz sx sy sz c := fun c c1 c2 => (hAD c c2 c1).1
    have hok := fun c => oF_ok (n := n) (m := m) (z := zF px py pz sx sy sz) (A := AF x y z px py pz sx sy sz) c
    have hm17 := q_first_17 (k := k) (k129 := fun v5' v6' => m_X11_first_129 many2 way x y z k v5') e3 f3 e2 f2 hok hIn hAb hCm
    have hmod : m_X11_first_17 many2 way x y z (fun v5' v6' => m_X11_first_129 many2 way x y z k v5') FU (-1) 0 = some (if k = -1 then (fS (oF n m (zF px py pz sx sy sz) (AF x y z px py pz sx sy sz)) (AF x y z px py pz sx sy sz) (DF px py pz sx sy sz) k (16 * m)).2.1 else (fS (oF n m (zF px py pz sx sy sz) (AF x y z px py pz sx sy sz)) (AF x y z px py pz sx sy sz) (DF px py pz sx sy sz) k (16 * m)).2.2) := by
      rw [hm17]
      have hb := fS_bd (ok := oF n m (zF px py pz sx sy sz) (AF x y z px py pz sx sy sz)) (A := AF x y z px py pz sx sy sz) (D := DF px py pz sx sy sz) (k := k) (16 * m)
      by_cases c4 : (fS (oF n m (zF px py pz sx sy sz) (AF x y z px py pz sx sy sz)) (AF x y z px py pz sx sy sz) (DF px py pz sx sy sz) k (16 * m)).1 = -1
      · obtain ⟨F, hF⟩ := FU4
        obtain ⟨z1, z2⟩ := hb.2.2.2.2.2.2 c4
        show m_X11_first_129 many2 way x y z k _ = _
        rw [c4, z1, z2, m_X11_first_129, hF, m_X11_first_136, if_pos rfl, m_X11_first_243]
        by_cases ck : k = -1
        · rw [if_pos ck, if_pos ck]
        · rw [if_neg ck, if_neg ck]
      · obtain ⟨W, hW⟩ : ∃ W : Nat, (fS (oF n m (zF px py pz sx sy sz) (AF x y z px py pz sx sy sz)) (AF x y z px py pz sx sy sz) (DF px py pz sx sy sz) k (16 * m)).1 = (W : Int) := ⟨_, (Int.toNat_of_nonneg (by omega)).symm⟩
        show m_X11_first_129 many2 way x y z k _ = _
        rw [hW, m_X11_first_129]
        exact q_first_136 e3 f3 e2 f2 hok hIn hCm hD hA hW
    rw [hmod]
    by_cases ck : k < -1
    · rw [if_pos ck]
      refine ⟨_, _, rfl, rfl, ?_⟩
      have hb := fS_bd (ok := oF n m (zF px py pz sx sy sz) (AF x y z px py pz sx sy sz)) (A := AF x y z px py pz sx sy sz) (D := DF px py pz sx sy sz) (k := k) (16 * m)
      dsimp only
      rw [if_neg (show ¬ k = -1 by omega), hb.2.2.2.2.2.1 (by omega)]
    · rw [if_neg ck, g1, bind_s]
      exact ⟨_, _, rfl, rfl, rfl⟩
  · rw [tell0 ht, isPullm0 ht, bind_s, bind_s, if_pos rfl, if_pos rfl]
    by_cases ck : k < -1
    · rw [if_pos ck]; exact ⟨_, _, rfl, rfl, rfl⟩
    · rw [if_neg ck]; exact ⟨_, _, rfl, rfl, rfl⟩

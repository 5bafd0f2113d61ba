
/-! ===== PURE: walls ===== -/
/-- systems j and k are alike, and so is what stands at p -/
def lk (g w : Nat → Int) (j k : Nat) : Prop := g j = g k ∧ ∀ c, c < 6 → w (6 * j + c) = w (6 * k + c)
theorem lk_r {g w : Nat → Int} (j : Nat) : lk g w j j := ⟨rfl, fun _ _ => rfl⟩
theorem lk_s {g w : Nat → Int} {j k : Nat} (h : lk g w j k) : lk g w k j := ⟨h.1.symm, fun c hc => (h.2 c hc).symm⟩
theorem lk_t {g w : Nat → Int} {i j k : Nat} (h : lk g w i j) (h2 : lk g w j k) : lk g w i k := ⟨h.1.trans h2.1, fun c hc => (h.2 c hc).trans (h2.2 c hc)⟩
theorem all6 {P : Nat → Prop} : (∀ c, c < 6 → P c) ↔ (P 0 ∧ P 1 ∧ P 2 ∧ P 3 ∧ P 4 ∧ P 5) := by
  constructor
  · intro h
    exact ⟨h 0 (by omega), h 1 (by omega), h 2 (by omega), h 3 (by omega), h 4 (by omega), h 5 (by omega)⟩
  · rintro ⟨h0, h1, h2, h3, h4, h5⟩ c hc
    rcases (by omega : c = 0 ∨ c = 1 ∨ c = 2 ∨ c = 3 ∨ c = 4 ∨ c = 5) with h | h | h | h | h | h <;> subst h <;> assumption
/-- a row of m systems alike from j on -/
def rnn (g w : Nat → Int) (j m : Nat) : Prop := 0 < m ∧ g j ≠ 0 ∧ ∀ i, i < m → lk g w (j + i) j
theorem rnn_less {g w : Nat → Int} {j m : Nat} (h : rnn g w j (m + 1)) (hm : 0 < m) : rnn g w j m := ⟨hm, h.2.1, fun i hi => h.2.2 i (by omega)⟩
/-- f, s: the longest row that ends at k or before, of several the first -/
def bst (g w : Nat → Int) (k f s : Nat) : Prop := (s = 0 ∧ ∀ j m, rnn g w j m → j + m ≤ k → False) ∨ (0 < s ∧ rnn g w f s ∧ f + s ≤ k ∧ ∀ j m, rnn g w j m → j + m ≤ k → m ≤ s ∧ (m = s → f ≤ j))
/-- e: the longest row that ends at k -/
def lst1 (g w : Nat → Int) (k e : Nat) : Prop := e ≤ k ∧ (0 < e → rnn g w (k - e) e) ∧ ∀ j m, rnn g w j m → j + m = k → m ≤ e
theorem bst_step {g w : Nat → Int} {k f s e : Nat} (h : bst g w k f s) (he : lst1 g w (k + 1) e) : bst g w (k + 1) (if e ≤ s then f else k + 1 - e) (if e ≤ s then s else e) := by
  obtain ⟨h1, h2, h3⟩ := he
  by_cases c : e ≤ s
  · rw [if_pos c, if_pos c]
    rcases h with ⟨a, b⟩ | ⟨a, b, d, q⟩
    · refine Or.inl ⟨a, fun j m hr hj => ?_⟩
      by_cases cj : j + m ≤ k
      · exact b j m hr cj
      · have := h3 j m hr (by omega)
        have := hr.1
        omega
    · refine Or.inr ⟨a, b, by omega, fun j m hr hj => ?_⟩
      by_cases cj : j + m ≤ k
      · exact q j m hr cj
      · have := h3 j m hr (by omega)
        exact ⟨by omega, fun _ => by omega⟩
  · rw [if_neg c, if_neg c]
    refine Or.inr ⟨by omega, h2 (by omega), by omega, fun j m hr hj => ?_⟩
    by_cases cj : j + m ≤ k
    · rcases h with ⟨a, b⟩ | ⟨a, b, d, q⟩
      · exact (b j m hr cj).elim
      · have := q j m hr cj
        exact ⟨by omega, fun _ => by omega⟩
    · have := h3 j m hr (by omega)
      exact ⟨this, fun _ => by omega⟩
theorem lst_step0 {g w : Nat → Int} {k : Nat} (h0 : g k = 0) : lst1 g w (k + 1) 0 := by
  refine ⟨by omega, fun h => by omega, fun j m hr hj => ?_⟩
  exfalso
  have h1 := hr.1
  have := (hr.2.2 (m - 1) (by omega)).1
  rw [show j + (m - 1) = k by omega, h0] at this
  exact hr.2.1 this.symm
theorem lst_step1 {g w : Nat → Int} {k e : Nat} (h : lst1 g w k e) (h0 : g k ≠ 0) (hc : e = 0 ∨ ¬ lk g w k (k - 1)) : lst1 g w (k + 1) 1 := by
  refine ⟨by omega, fun _ => ?_, fun j m hr hj => ?_⟩
  · rw [show k + 1 - 1 = k by omega]
    refine ⟨by omega, h0, fun i hi => ?_⟩
    obtain rfl : i = 0 := by omega
    exact lk_r k
  · by_cases c : m ≤ 1
    · exact c
    · exfalso
      obtain ⟨t, rfl⟩ : ∃ t, m = t + 1 := ⟨m - 1, by omega⟩
      have h1 := h.2.2 j t (rnn_less hr (by omega)) (by omega)
      rcases hc with hc | hc
      · omega
      · have a1 := hr.2.2 t (by omega)
        have a2 := hr.2.2 (t - 1) (by omega)
        rw [show j + t = k by omega] at a1
        rw [show j + (t - 1) = k - 1 by omega] at a2
        exact hc (lk_t a1 (lk_s a2))
theorem lst_step2 {g w : Nat → Int} {k e : Nat} (h : lst1 g w k e) (he : 0 < e) (hc : lk g w k (k - 1)) : lst1 g w (k + 1) (e + 1) := by
  obtain ⟨h1, h2, h3⟩ := h
  obtain ⟨r1, r2, r3⟩ := h2 he
  refine ⟨by omega, fun _ => ?_, fun j m hr hj => ?_⟩
  · rw [show k + 1 - (e + 1) = k - e by omega]
    refine ⟨by omega, r2, fun i hi => ?_⟩
    by_cases c : i < e
    · exact r3 i c
    · obtain rfl : i = e := by omega
      have := r3 (i - 1) (by omega)
      rw [show k - i + (i - 1) = k - 1 by omega] at this
      rw [show k - i + i = k by omega]
      exact lk_t hc this
  · by_cases c : m ≤ 1
    · omega
    · obtain ⟨t, rfl⟩ : ∃ t, m = t + 1 := ⟨m - 1, by omega⟩
      have := h3 j t (rnn_less hr (by omega)) (by omega)
      omega
theorem areAlike1 {N n k j : Nat} {xs ys zs : Nat → Int} (hn : n ≤ N) (hk : k < n) (hj : j < n) : m_X8_areAlike N (n : Int) xs ys zs (k : Int) (j : Int) = some (if xs k = xs j ∧ ys k = ys j ∧ zs k = zs j then 1 else 0) := by
  rw [m_X8_areAlike, m_X8_areAlike_0, has1 (by omega) (by omega), bind_s, if_neg ne10, has1 (by omega) (by omega), bind_s, if_neg ne10]
  simp (disch := omega) only [chkB]
  rw [tn, tn]
  by_cases c1 : xs k = xs j
  · by_cases c2 : ys k = ys j
    · by_cases c3 : zs k = zs j
      · rw [if_pos c1, if_pos c2, if_pos c3, if_pos ⟨c1, c2, c3⟩]
      · rw [if_pos c1, if_pos c2, if_neg c3, if_neg (fun h => c3 h.2.2)]
    · rw [if_pos c1, if_neg c2, if_neg (fun h => c2 h.2.1)]
  · rw [if_neg c1, if_neg (fun h => c1 h.1)]
theorem q_goesOn {px py pz sx sy sz ways g : Nat → Int} {K : Nat → Nat} {R : Nat → RowT} {n k p : Nat} (hn : n ≤ 8) (hw : ∀ k, k < n → gWk px py pz sx sy sz ways k) (hK : ∀ i, i < 8 → K i < 8) (hg : ∀ i, i < n → (R (K i)).1 p = g i) (hp : p < 100) (hk : k + 1 < n) :
    ∃ v, m_X2_goesOn (n : Int) K (n : Int) px py pz (n : Int) sx sy sz R ((k + 1 : Nat) : Int) (p : Int) = some v ∧ (v = 0 ∨ v = 1) ∧ (v = 1 ↔ lk g ways (k + 1) k) := by
  have e : ((k + 1 : Nat) : Int) - 1 = (k : Int) := by omega
  obtain ⟨a1, a2, a3, a4, a5, a6, _⟩ := hw (k + 1) hk
  obtain ⟨b1, b2, b3, b4, b5, b6, _⟩ := hw k (by omega)
  have hiff : lk g ways (k + 1) k ↔ ((px (k + 1) = px k ∧ py (k + 1) = py k ∧ pz (k + 1) = pz k) ∧ (sx (k + 1) = sx k ∧ sy (k + 1) = sy k ∧ sz (k + 1) = sz k) ∧ g (k + 1) = g k) := by
    unfold lk
    rw [all6, a1, a2, a3, a4, a5, a6, b1, b2, b3, b4, b5, b6]
    constructor
    · rintro ⟨h, h0, h1, h2, h3, h4, h5⟩; exact ⟨⟨h0, h1, h2⟩, ⟨h3, h4, h5⟩, h⟩
    · rintro ⟨⟨h0, h1, h2⟩, ⟨h3, h4, h5⟩, h⟩; exact ⟨h, h0, h1, h2, h3, h4, h5⟩
  rw [hiff, m_X2_goesOn, m_X2_goesOn_0, chkI (by omega) (by omega), e, hasG1 hn (by omega), bind_s, if_neg ne10, areAlike1 hn hk (by omega), bind_s]
  by_cases c1 : px (k + 1) = px k ∧ py (k + 1) = py k ∧ pz (k + 1) = pz k
  · rw [if_pos c1, if_neg ne10, areAlike1 hn hk (by omega), bind_s]
    by_cases c2 : sx (k + 1) = sx k ∧ sy (k + 1) = sy k ∧ sz (k + 1) = sz k
    · rw [if_pos c2, if_neg ne10, chkB (by omega) (by omega), tn, chk_pos (hK _ (by omega)), q_X6_signAt, if_pos (by omega), bind_s, chkB (by omega) (by omega), tn, chk_pos (hK _ (by omega)), q_X6_signAt, if_pos (by omega), bind_s, tn, hg _ hk, hg _ (by omega)]
      by_cases c3 : g (k + 1) = g k
      · rw [if_pos c3]; exact ⟨1, rfl, Or.inr rfl, ⟨fun _ => ⟨c1, c2, c3⟩, fun _ => rfl⟩⟩
      · rw [if_neg c3]; exact ⟨0, rfl, Or.inl rfl, ⟨fun h => by omega, fun h => absurd h.2.2 c3⟩⟩
    · rw [if_neg c2, if_pos rfl]; exact ⟨0, rfl, Or.inl rfl, ⟨fun h => by omega, fun h => absurd h.2.1 c2⟩⟩
  · rw [if_neg c1, if_pos rfl]; exact ⟨0, rfl, Or.inl rfl, ⟨fun h => by omega, fun h => absurd h.1 c1⟩⟩
theorem q_findWall {px py pz sx sy sz ways g : Nat → Int} {K : Nat → Nat} {R : Nat → RowT} {n p : Nat} {a b : Int} (hn : n ≤ 8) (hw : ∀ k, k < n → gWk px py pz sx sy sz ways k) (hK : ∀ i, i < 8 → K i < 8) (hg : ∀ i, i < n → (R (K i)).1 p = g i) (hp : p < 100) :
    ∃ f s : Nat, m_X2_findWall (n : Int) a b K (n : Int) px py pz (n : Int) sx sy sz R (p : Int) = some ((f : Int), (s : Int)) ∧ bst g ways n f s := by
  rw [m_X2_findWall, m_X2_findWall_0]
  exact loop_p n (fun F i => ∀ f s e : Nat, f ≤ 8 → s ≤ 8 → bst g ways i f s → lst1 g ways i e → ∃ f' s' : Nat, m_X2_findWall_14 (n : Int) K (n : Int) px py pz (n : Int) sx sy sz R (p : Int) (fun t_wallFirst' t_wallSize' v2' v3' => m_X2_findWall_89 t_wallFirst' t_wallSize') F (f : Int) (s : Int) (e : Int) (i : Int) = some ((f' : Int), (s' : Int)) ∧ bst g ways n f' s') (fun F f s e _ _ hb he => ⟨f, s, by rw [m_X2_findWall_14, if_pos (by omega)], hb⟩) (fun F i hi ih _ f s e hf hs hb he => by
    have hgi := hg i hi
    have he1 := he.1
    have t61 : ∀ e' : Nat, lst1 g ways (i + 1) e' → ∃ f' s' : Nat, m_X2_findWall_61 (n : Int) (f : Int) (s : Int) K (n : Int) px py pz (n : Int) sx sy sz R (p : Int) (e' : Int) (i : Int) (m_X2_findWall_14 (n : Int) K (n : Int) px py pz (n : Int) sx sy sz R (p : Int) (fun t_wallFirst' t_wallSize' v2' v3' => m_X2_findWall_89 t_wallFirst' t_wallSize') F) (fun t_wallFirst' t_wallSize' v2' v3' => m_X2_findWall_89 t_wallFirst' t_wallSize') = some ((f' : Int), (s' : Int)) ∧ bst g ways n f' s' := by
      intro e' he'
      have hx := bst_step hb he'
      have he2 := he'.1
      rw [m_X2_findWall_61]
      by_cases c : e' ≤ s
      · rw [if_pos c, if_pos c] at hx
        rw [if_pos (show (e' : Int) ≤ (s : Int) by omega), m_X2_findWall_83, chkI (by omega) (by omega)]
        exact ih f s e' hf hs hx he'
      · rw [if_neg c, if_neg c] at hx
        rw [if_neg (show ¬ (e' : Int) ≤ (s : Int) by omega), chkI (by omega) (by omega), m_X2_findWall_83, chkI (by omega) (by omega), show (i : Int) + 1 - (e' : Int) = ((i + 1 - e' : Nat) : Int) by omega]
        exact ih (i + 1 - e') e' e' (by omega) (by omega) hx he'
    rw [m_X2_findWall_14, if_neg (by omega), chkB (by omega) (by omega), tn, chk_pos (hK i (by omega)), q_X6_signAt, if_pos (by omega), bind_s, tn, hgi]
    by_cases c0 : g i = 0
    · rw [if_pos c0]; exact t61 0 (lst_step0 c0)
    · rw [if_neg c0]
      by_cases c1 : e = 0
      · rw [if_pos (by omega), m_X2_findWall_59, m_X2_findWall_60]
        exact t61 1 (lst_step1 he c0 (Or.inl c1))
      · obtain ⟨k, rfl⟩ : ∃ k, i = k + 1 := ⟨i - 1, by omega⟩
        obtain ⟨v, v1, v2, v3⟩ := q_goesOn (g := g) hn hw hK hg hp hi
        rw [if_neg (by omega), v1, bind_s]
        by_cases c2 : v = 0
        · rw [if_pos c2, m_X2_findWall_59, m_X2_findWall_60]
          refine t61 1 (lst_step1 he c0 (Or.inr (fun h => ?_)))
          rw [show k + 1 - 1 = k by omega] at h
          have := v3.mpr h
          omega
        · rw [if_neg c2, chkI (by omega) (by omega), m_X2_findWall_60]
          exact t61 (e + 1) (lst_step2 he (by omega) (by rw [show k + 1 - 1 = k by omega]; exact v3.mp (v2.resolve_left c2)))) n FU 0 (by omega) (by unfold FU; omega) 0 0 0 (by omega) (by omega) (Or.inl ⟨rfl, fun j m h hj => by have := h.1; omega⟩) ⟨by omega, fun h => by omega, fun j m h hj => by omega⟩
theorem q_wall86 {ways : Nat → Int} {k i : Nat} (hk : k < 8) (hi : i < 8) (k139 : Int → Int → Option Int) (v : Int) (hv : v = 0 ∨ v = 1) : ∃ v', (v' = 0 ∨ v' = 1) ∧ (v' = 1 ↔ (v = 1 ∧ ∀ c, c < 6 → ways (6 * i + c) = ways (6 * k + c))) ∧ m_X11_wallFrom_86 ways (k : Int) (i : Int) k139 FU v 0 = k139 v' 6 := by
  have key := loop_p 6 (fun F j => ∀ v : Int, (v = 0 ∨ v = 1) → ∃ v', (v' = 0 ∨ v' = 1) ∧ (v' = 1 ↔ (v = 1 ∧ ∀ c, j ≤ c → c < 6 → ways (6 * i + c) = ways (6 * k + c))) ∧ m_X11_wallFrom_86 ways (k : Int) (i : Int) k139 F v (j : Int) = k139 v' 6) (fun F v hv => ⟨v, hv, ⟨fun h => ⟨h, fun c h1 h2 => by omega⟩, fun h => h.1⟩, by rw [m_X11_wallFrom_86, if_pos (by omega)]; rfl⟩) (fun F j hj ih _ v hv => by
    have t131 : ∀ s0, m_X11_wallFrom_131 ways (k : Int) (i : Int) (j : Int) s0 (m_X11_wallFrom_86 ways (k : Int) (i : Int) k139 F) k139 = m_X11_wallFrom_86 ways (k : Int) (i : Int) k139 F s0 ((j + 1 : Nat) : Int) := by
      intro s0; rw [m_X11_wallFrom_131, chkI (by omega) (by omega)]; rfl
    rw [m_X11_wallFrom_86, if_neg (by omega)]
    by_cases c : v = 0
    · obtain ⟨v', h1, h2, h3⟩ := ih 0 (Or.inl rfl)
      refine ⟨v', h1, ⟨fun h => by have := (h2.mp h).1; omega, fun h => by have := h.1; omega⟩, ?_⟩
      rw [if_pos c, m_X11_wallFrom_130, t131]; exact h3
    · have hv1 : v = 1 := hv.resolve_left c
      rw [if_neg c, chkB (by omega) (by omega), chkB (by omega) (by omega), show Int.toNat (6 * (i : Int) + (j : Int)) = 6 * i + j by omega, show Int.toNat (6 * (k : Int) + (j : Int)) = 6 * k + j by omega]
      by_cases c2 : ways (6 * i + j) = ways (6 * k + j)
      · obtain ⟨v', h1, h2, h3⟩ := ih 1 (Or.inr rfl)
        refine ⟨v', h1, h2.trans ⟨fun h => ⟨hv1, fun c q1 q2 => ?_⟩, fun h => ⟨rfl, fun c q1 q2 => h.2 c (by omega) q2⟩⟩, ?_⟩
        · by_cases cc : c = j
          · subst cc; exact c2
          · exact h.2 c (by omega) q2
        · rw [if_pos c2, t131]; exact h3
      · obtain ⟨v', h1, h2, h3⟩ := ih 0 (Or.inl rfl)
        refine ⟨v', h1, ⟨fun h => by have := (h2.mp h).1; omega, fun h => absurd (h.2 j (Nat.le_refl _) hj) c2⟩, ?_⟩
        rw [if_neg c2, m_X11_wallFrom_130, t131]; exact h3) 6 FU 0 (by omega) (by unfold FU; omega) v hv
  obtain ⟨v', h1, h2, h3⟩ := key
  exact ⟨v', h1, h2.trans ⟨fun h => ⟨h.1, fun c hc => h.2 c (by omega) hc⟩, fun h => ⟨h.1, fun c _ hc => h.2 c hc⟩⟩, h3⟩
theorem q_wallFrom {grain ways g : Nat → Int} {n k p : Nat} (hn : n ≤ 8) (hk : k < n) (hp : p < 100) (hg : ∀ i, i < n → grain (100 * i + p) = g i) :
    ∃ m : Nat, m ≤ 8 ∧ m_X11_wallFrom (n : Int) grain ways (k : Int) (p : Int) = some (m : Int) ∧ (0 < m → rnn g ways k m ∧ k + m ≤ n) ∧ ∀ m', rnn g ways k m' → k + m' ≤ n → m' ≤ m := by
  have ek : Int.toNat (100 * (k : Int) + (p : Int)) = 100 * k + p := by omega
  rw [m_X11_wallFrom, m_X11_wallFrom_0, chkB (by omega) (by omega), ek, hg k hk]
  -- the loop: on = 1 so far
  have loop1 : ∀ c F i, i + c = n → c < F → n - i < F → ∀ m : Nat, i = k + m → rnn g ways k m → ∃ m' : Nat, m' ≤ 8 ∧ m_X11_wallFrom_36 (n : Int) grain ways (k : Int) (p : Int) (fun v3' v4' v5' => m_X11_wallFrom_158 v3') F (m : Int) 1 (i : Int) = some (m' : Int) ∧ (rnn g ways k m' ∧ k + m' ≤ n) ∧ ∀ m2, rnn g ways k m2 → k + m2 ≤ n → m2 ≤ m' := by
    exact loop_p n (fun F i => n - i < F → ∀ m : Nat, i = k + m → rnn g ways k m → ∃ m' : Nat, m' ≤ 8 ∧ m_X11_wallFrom_36 (n : Int) grain ways (k : Int) (p : Int) (fun v3' v4' v5' => m_X11_wallFrom_158 v3') F (m : Int) 1 (i : Int) = some (m' : Int) ∧ (rnn g ways k m' ∧ k + m' ≤ n) ∧ ∀ m2, rnn g ways k m2 → k + m2 ≤ n → m2 ≤ m') (fun F _ m hm hr => ⟨m, by omega, by rw [m_X11_wallFrom_36, if_pos (by omega)], ⟨hr, by omega⟩, fun m2 _ h => by omega⟩) (fun F i hi ih _ hF m hm hr => by
      have t81 : ∀ s0, (s0 = 0 ∨ s0 = 1) → ∃ v', (v' = 0 ∨ v' = 1) ∧ (v' = 1 ↔ (s0 = 1 ∧ ∀ c, c < 6 → ways (6 * i + c) = ways (6 * k + c))) ∧ m_X11_wallFrom_81 (n : Int) grain ways (k : Int) (p : Int) (m : Int) (i : Int) s0 (m_X11_wallFrom_36 (n : Int) grain ways (k : Int) (p : Int) (fun v3' v4' v5' => m_X11_wallFrom_158 v3') F) (fun v3' v4' v5' => m_X11_wallFrom_158 v3') = m_X11_wallFrom_36 (n : Int) grain ways (k : Int) (p : Int) (fun v3' v4' v5' => m_X11_wallFrom_158 v3') F ((m : Int) + v') v' ((i + 1 : Nat) : Int) := by
        intro s0 hs0
        obtain ⟨v', h1, h2, h3⟩ := q_wall86 (ways := ways) (k := k) (i := i) (by omega) (by omega) (fun v4' v6' => m_X11_wallFrom_139 (n : Int) grain ways (k : Int) (p : Int) (m : Int) v4' (i : Int) (m_X11_wallFrom_36 (n : Int) grain ways (k : Int) (p : Int) (fun v3' v4' v5' => m_X11_wallFrom_158 v3') F) (fun v3' v4' v5' => m_X11_wallFrom_158 v3')) s0 hs0
        refine ⟨v', h1, h2, ?_⟩
        rw [m_X11_wallFrom_81, h3, m_X11_wallFrom_139]
        rcases h1 with h | h
        · rw [if_pos h, m_X11_wallFrom_150, chkI (by omega) (by omega), chkI (by omega) (by omega), h]; rfl
        · rw [if_neg (by omega), m_X11_wallFrom_150, chkI (by omega) (by omega), chkI (by omega) (by omega), h]; rfl
      have dead : m_X11_wallFrom_36 (n : Int) grain ways (k : Int) (p : Int) (fun v3' v4' v5' => m_X11_wallFrom_158 v3') F ((m : Int) + 0) 0 ((i + 1 : Nat) : Int) = some (m : Int) := by
        obtain ⟨G, rfl⟩ : ∃ G, F = G + 1 := ⟨F - 1, by omega⟩
        rw [m_X11_wallFrom_36, Int.add_zero]
        by_cases c : n ≤ i + 1
        · rw [if_pos (by omega)]
        · rw [if_neg (by omega), if_pos rfl]
      have fin : ∀ s0, (s0 = 0 ∨ s0 = 1) → (s0 = 1 ↔ g i = g k) → ∃ m' : Nat, m' ≤ 8 ∧ m_X11_wallFrom_81 (n : Int) grain ways (k : Int) (p : Int) (m : Int) (i : Int) s0 (m_X11_wallFrom_36 (n : Int) grain ways (k : Int) (p : Int) (fun v3' v4' v5' => m_X11_wallFrom_158 v3') F) (fun v3' v4' v5' => m_X11_wallFrom_158 v3') = some (m' : Int) ∧ (rnn g ways k m' ∧ k + m' ≤ n) ∧ ∀ m2, rnn g ways k m2 → k + m2 ≤ n → m2 ≤ m' := by
        intro s0 hs0 hs1
        obtain ⟨v', h1, h2, h3⟩ := t81 s0 hs0
        rw [h3]
        have hl : v' = 1 ↔ lk g ways i k := h2.trans ⟨fun h => ⟨hs1.mp h.1, h.2⟩, fun h => ⟨hs1.mpr h.1, h.2⟩⟩
        rcases h1 with h | h
        · have hno : ¬ lk g ways i k := fun hh => by have := hl.mpr hh; omega
          refine ⟨m, by omega, by rw [h]; exact dead, ⟨hr, by omega⟩, fun m2 q1 q2 => ?_⟩
          by_cases c : m2 ≤ m
          · exact c
          · exfalso
            have := q1.2.2 m (by omega)
            rw [show k + m = i by omega] at this
            exact hno this
        · have hyes := hl.mp h
          obtain ⟨m', y1, y2, y3, y4⟩ := ih (by omega) (m + 1) (by omega) ⟨by omega, hr.2.1, fun j hj => by
            by_cases c : j < m
            · exact hr.2.2 j c
            · obtain rfl : j = m := by omega
              rw [show k + j = i by omega]; exact hyes⟩
          exact ⟨m', y1, by rw [h]; exact y2, y3, y4⟩
      rw [m_X11_wallFrom_36, if_neg (by omega), if_neg ne10, chkB (by omega) (by omega), chkB (by omega) (by omega), show Int.toNat (100 * (i : Int) + (p : Int)) = 100 * i + p by omega, ek, hg i hi, hg k hk]
      by_cases c : g i = g k
      · rw [if_pos c]; exact fin 1 (Or.inr rfl) ⟨fun _ => c, fun _ => rfl⟩
      · rw [if_neg c]; exact fin 0 (Or.inl rfl) ⟨fun h => by omega, fun h => absurd h c⟩)
  by_cases c : g k = 0
  · rw [if_pos c, m_X11_wallFrom_19, if_pos (by omega), m_X11_wallFrom_29, chkI (by omega) (by omega)]
    obtain ⟨F, hF⟩ := FU4
    refine ⟨0, by omega, ?_, fun h => by omega, fun m' h _ => absurd c h.2.1⟩
    rw [hF, m_X11_wallFrom_36]
    by_cases c2 : n ≤ k + 1
    · rw [if_pos (by omega)]; rfl
    · rw [if_neg (by omega), if_pos rfl]; rfl
  · rw [if_neg c, m_X11_wallFrom_19, if_neg (by omega), m_X11_wallFrom_29, chkI (by omega) (by omega)]
    obtain ⟨m', y1, y2, y3, y4⟩ := loop1 (n - (k + 1)) FU (k + 1) (by omega) (by unfold FU; omega) (by unfold FU; omega) 1 rfl ⟨by omega, c, fun i hi => by
      obtain rfl : i = 0 := by omega
      exact lk_r k⟩
    exact ⟨m', y1, y2, fun _ => y3, y4⟩
/-- the model's: the longest row that begins ahead of k -/
def bsf (g w : Nat → Int) (n k f s : Nat) : Prop := (s = 0 ∧ ∀ j m, j < k → rnn g w j m → j + m ≤ n → False) ∨ (0 < s ∧ rnn g w f s ∧ f + s ≤ n ∧ ∀ j m, j < k → rnn g w j m → j + m ≤ n → m ≤ s ∧ (m = s → f ≤ j))
theorem q_X11_wall {grain ways g : Nat → Int} {n p : Nat} {a : Int} (hn : n ≤ 8) (hp : p < 100) (hg : ∀ i, i < n → grain (100 * i + p) = g i) :
    ∃ (f s : Nat) (f2 : Int), m_X11_wall (n : Int) a grain ways (p : Int) = some ((s : Int), f2) ∧ bsf g ways n n f s ∧ (0 < s → f2 = (f : Int)) ∧ s ≤ 8 := by
  rw [m_X11_wall, m_X11_wall_0, i1 (by omega) (by omega), bind_s, if_neg ne10]
  have key := loop_p n (fun F i => ∀ (f s : Nat) (f2 : Int), bsf g ways n i f s → (0 < s → f2 = (f : Int)) → s ≤ 8 → (0 < s → f < i) → ∃ (f' s' : Nat) (f3 : Int), m_X11_wall_16 (n : Int) grain ways (p : Int) (fun t_wallFirst' v2' v3' => m_X11_wall_52 t_wallFirst' v2') F f2 (s : Int) (i : Int) = some ((s' : Int), f3) ∧ bsf g ways n n f' s' ∧ (0 < s' → f3 = (f' : Int)) ∧ s' ≤ 8) (fun F f s f2 hb h1 h2 _ => ⟨f, s, f2, by rw [m_X11_wall_16, if_pos (by omega)], hb, h1, h2⟩) (fun F i hi ih _ f s f2 hb h1 h2 h3 => by
    obtain ⟨m, m1, m2, m3, m4⟩ := q_wallFrom (ways := ways) hn hi hp hg
    rw [m_X11_wall_16, if_neg (by omega), m2, bind_s]
    by_cases c : m ≤ s
    · rw [if_pos (show (m : Int) ≤ (s : Int) by omega), m_X11_wall_46, chkI (by omega) (by omega)]
      refine ih f s f2 ?_ h1 h2 (fun h => by have := h3 h; omega)
      rcases hb with ⟨a, b⟩ | ⟨a, b, d, q⟩
      · refine Or.inl ⟨a, fun j m' hj hr hjm => ?_⟩
        by_cases cj : j < i
        · exact b j m' cj hr hjm
        · obtain rfl : j = i := by omega
          have := m4 m' hr hjm
          have := hr.1
          omega
      · refine Or.inr ⟨a, b, d, fun j m' hj hr hjm => ?_⟩
        by_cases cj : j < i
        · exact q j m' cj hr hjm
        · obtain rfl : j = i := by omega
          have := m4 m' hr hjm
          have := h3 a
          exact ⟨by omega, fun _ => by omega⟩
    · rw [if_neg (show ¬ (m : Int) ≤ (s : Int) by omega), m_X11_wall_46, chkI (by omega) (by omega)]
      obtain ⟨r1, r2⟩ := m3 (by omega)
      refine ih i m (i : Int) ?_ (fun _ => rfl) m1 (fun _ => by omega)
      refine Or.inr ⟨by omega, r1, r2, fun j m' hj hr hjm => ?_⟩
      by_cases cj : j < i
      · rcases hb with ⟨a, b⟩ | ⟨a, b, d, q⟩
        · exact (b j m' cj hr hjm).elim
        · have := q j m' cj hr hjm
          exact ⟨by omega, fun _ => by omega⟩
      · obtain rfl : j = i := by omega
        have := m4 m' hr hjm
        exact ⟨this, fun _ => Nat.le_refl _⟩) n FU 0 (by omega) (by unfold FU; omega)
  have z : bsf g ways n 0 0 0 := Or.inl ⟨rfl, fun j m hj => by omega⟩
  exact key 0 0 a z (fun h => by omega) (by omega) (fun h => by omega)
theorem bst_eq {g w : Nat → Int} {n f s f2 s2 : Nat} (h : bst g w n f s) (h2 : bsf g w n n f2 s2) : s = s2 ∧ (0 < s → f = f2 ∧ f < n) := by
  rcases h with ⟨a, b⟩ | ⟨a, b, c, d⟩
  · rcases h2 with ⟨a2, b2⟩ | ⟨a2, b2, c2, d2⟩
    · exact ⟨by omega, fun h => by omega⟩
    · exact (b f2 s2 b2 c2).elim
  · rcases h2 with ⟨a2, b2⟩ | ⟨a2, b2, c2, d2⟩
    · exact (b2 f s (by omega) b c).elim
    · obtain ⟨x1, x2⟩ := d f2 s2 b2 c2
      obtain ⟨y1, y2⟩ := d2 f s (by omega) b c
      have e : s = s2 := by omega
      have z1 := x2 e.symm
      have z2 := y2 e
      exact ⟨e, fun _ => ⟨by omega, by omega⟩⟩
theorem q_walls {B own cross : Int} {px py pz sx sy sz ways grain gS : Nat → Int} {K : Nat → Nat} {R : Nat → RowT} {n p : Nat} (a b c : Int) (hn : n ≤ 8) (hw : ∀ k, k < n → gWk px py pz sx sy sz ways k) (hr : gRw B K R grain gS) (hp : p < 100) :
    ∃ (f s : Nat) (f2 : Int), m_X2_findWall (n : Int) a b K (n : Int) px py pz (n : Int) sx sy sz R (p : Int) = some ((f : Int), (s : Int)) ∧ m_X11_wall (n : Int) c grain ways (p : Int) = some ((s : Int), f2) ∧ (0 < s → f2 = (f : Int) ∧ f < n) ∧ s ≤ 8 := by
  obtain ⟨k1, k2, k3⟩ := hr
  obtain ⟨f, s, q1, q2⟩ := q_findWall (g := fun i => grain (100 * i + p)) (a := a) (b := b) hn hw k1 (fun i hi => by rw [(k3 i (by omega)).1.1, sl_at hp]) hp
  obtain ⟨f', s', f2, r1, r2, r3, r4⟩ := q_X11_wall (g := fun i => grain (100 * i + p)) (grain := grain) (ways := ways) (a := c) hn hp (fun i hi => rfl)
  obtain ⟨e1, e2⟩ := bst_eq q2 r2
  subst e1
  exact ⟨f, s, f2, q1, r1, fun h => ⟨by rw [r3 h, (e2 h).1], (e2 h).2⟩, r4⟩
theorem pc_wall {B many own cross pm sm systems own2 cross2 : Int} {px py pz sx sy sz ways grain gS : Nat → Int} {K : Nat → Nat} {R : Nat → RowT} (h : RGn B many own cross pm px py pz sm sx sy sz K R systems own2 cross2 ways grain gS) (a b c p : Int) :
    ∃ r r2, m_X10_wall many a b K pm px py pz sm sx sy sz R p = some r ∧ m_X11_wall systems c grain ways p = some r2 ∧ r.1 = r2.1 := by
  obtain ⟨n, rfl, rfl, rfl, rfl, g1, rfl, rfl, g4, g5, g6, g7⟩ := h
  rw [m_X10_wall, m_X10_wall_0]
  by_cases d : 0 ≤ p ∧ p < 100
  · obtain ⟨p, rfl⟩ : ∃ i : Nat, p = (i : Int) := ⟨p.toNat, by omega⟩
    obtain ⟨f, s, f2, q1, q2, _⟩ := q_walls (own := own) (cross := cross) a b c g1 g6 g7 (show p < 100 by omega)
    rw [isPlace1 d.1 d.2, bind_s, if_neg ne10, q1, bind_s, q2]
    exact ⟨_, _, rfl, rfl, rfl⟩
  · rw [isPlace0 d, bind_s, if_pos rfl, m_X11_wall, m_X11_wall_0, i0 (by omega), bind_s, if_pos rfl]
    exact ⟨_, _, rfl, rfl, rfl⟩
theorem pc_tilt {B many own cross pm sm systems own2 cross2 : Int} {px py pz sx sy sz ways grain gS : Nat → Int} {K : Nat → Nat} {R : Nat → RowT} (h : RGn B many own cross pm px py pz sm sx sy sz K R systems own2 cross2 ways grain gS) (a b c p w : Int) :
    ∃ r r2, m_X10_tilt many a b K pm px py pz sm sx sy sz R p w = some r ∧ m_X11_tilt systems c grain ways p w = some r2 ∧ r.1 = r2.1 := by
  obtain ⟨n, rfl, rfl, rfl, rfl, g1, rfl, rfl, g4, g5, g6, g7⟩ := h
  rw [m_X10_tilt, m_X10_tilt_0, m_X11_tilt, m_X11_tilt_0]
  by_cases d : 0 ≤ p ∧ p < 100
  · obtain ⟨p, rfl⟩ : ∃ i : Nat, p = (i : Int) := ⟨p.toNat, by omega⟩
    obtain ⟨f, s, f2, q1, q2, q3, q4⟩ := q_walls (own := own) (cross := cross) a b c g1 g6 g7 (show p < 100 by omega)
    obtain ⟨k1, k2, k3⟩ := g7
    rw [isPlace1 d.1 d.2, i1 d.1 (by omega), bind_s, bind_s, if_neg ne10, if_neg ne10]
    by_cases d2 : 0 ≤ w ∧ w ≤ 2
    · rw [isPart1 d2.1 d2.2, i1 d2.1 d2.2, bind_s, bind_s, if_neg ne10, if_neg ne10, q1, bind_s, q2, bind_s, m_X2_wallTilt, m_X2_wallTilt_0]
      dsimp only
      by_cases c1 : (s : Int) = 0
      · rw [if_pos c1, if_pos c1, bind_s]; exact ⟨_, _, rfl, rfl, rfl⟩
      · obtain ⟨e1, e2⟩ := q3 (by omega)
        obtain ⟨w1', w2', w3', w4', w5', w6', w7', w8', _⟩ := g6 f e2
        have es := pt_ways (xs := sx) (ys := sy) (zs := sz) (ways := ways) (a := 6 * f + 3) (k := f) ⟨w4', w5', w6'⟩ d2
        have b1 := bd9 w8' w
        have b2 : -9 ≤ pt sx sy sz f w ∧ pt sx sy sz f w ≤ 9 := b1
        have b3 := (k3 f (by omega)).2.1 p
        have eg : sl 100 grain (100 * f) p = grain (100 * f + p) := sl_at (by omega)
        rw [eg] at b3
        have m1 := mul_bd (a := (s : Int)) (b := grain (100 * f + p)) (A := 8) (B := 1) (by omega) (by omega) (by omega) (by omega)
        have m2 := mul_bd (a := (s : Int) * grain (100 * f + p)) (b := pt sx sy sz f w) (A := 8) (B := 9) (by omega) (by omega) (by omega) (by omega)
        rw [if_neg c1, if_neg c1, hasG1 g1 (by omega), bind_s, if_neg ne10, chkB (by omega) (by omega), tn, chk_pos (k1 f (by omega)), q_X6_signAt, bind_s, q_partOf g1 e2, bind_s, (k3 f (by omega)).1.1, if_pos (by omega), tn, eg, chkI (by omega) (by omega), bind_s, e1, chkB (by omega) (by omega), chkB (by omega) (by omega), show Int.toNat (100 * (f : Int) + (p : Int)) = 100 * f + p by omega, show Int.toNat (6 * (f : Int) + 3 + w) = 6 * f + 3 + w.toNat by omega, es, chkI (by omega) (by omega)]
        exact ⟨_, _, rfl, rfl, rfl⟩
    · rw [isPart0 d2, i0 d2, bind_s, bind_s, if_pos rfl, if_pos rfl]
      exact ⟨_, _, rfl, rfl, rfl⟩
  · rw [isPlace0 d, bind_s, if_pos rfl, i0 (by omega), bind_s, if_pos rfl]
    exact ⟨_, _, rfl, rfl, rfl⟩

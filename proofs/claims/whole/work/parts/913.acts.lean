
/-! ===== PURE: taking and keeping, acts ===== -/
/-- f with the first n of g put in from a on -/
def ins (n : Nat) (f : Nat → Int) (a : Nat) (g : Nat → Int) : Nat → Int := fun j => if a ≤ j ∧ j < a + n then g (j - a) else f j
theorem ins_z {f g : Nat → Int} {a : Nat} : ins 0 f a g = f := by funext j; unfold ins; exact if_neg (by omega)
theorem ins_s {n : Nat} {f g : Nat → Int} {a : Nat} : up (ins n f a g) (a + n) (g n) = ins (n + 1) f a g := by
  funext j
  unfold up ins
  by_cases h : j = a + n
  · subst h; rw [if_pos rfl, if_pos (by omega)]; congr 1; omega
  · rw [if_neg h]
    by_cases h2 : a ≤ j ∧ j < a + n
    · rw [if_pos h2, if_pos (by omega)]
    · rw [if_neg h2, if_neg (by omega)]
theorem sl_ins {n : Nat} {f g : Nat → Int} {a : Nat} (hg : Zf n g) : sl n (ins n f a g) a = g := by
  funext j
  unfold sl ins
  by_cases h : j < n
  · rw [if_pos h, if_pos (by omega)]; congr 1; omega
  · rw [if_neg h, hg j (by omega)]
theorem sl_ins_ne {n : Nat} {f g : Nat → Int} {a b : Nat} (h : b + n ≤ a ∨ a + n ≤ b) : sl n (ins n f a g) b = sl n f b := by
  funext j
  unfold sl ins
  by_cases h2 : j < n
  · rw [if_pos h2, if_pos h2, if_neg (by omega)]
  · rw [if_neg h2, if_neg h2]
theorem ins_0 {n : Nat} {f g : Nat → Int} (hf : Zf n f) (hg : Zf n g) : ins n f 0 g = g := by
  funext j
  unfold ins
  by_cases h : j < n
  · rw [if_pos (by omega)]; rfl
  · rw [if_neg (by omega), hf j (by omega), hg j (by omega)]
theorem mix_sl {n : Nat} {f g : Nat → Int} {a : Nat} (hg : Zf n g) : mix n (fun j => f (a + j)) g = sl n f a := by
  funext j
  unfold mix sl
  by_cases h : j < n
  · rw [if_pos h, if_pos h]
  · rw [if_neg h, if_neg h, hg j (by omega)]
theorem q_X11_takes {N1 N3 a b : Nat} {cur cS p1 p3 : Nat → Int} (hc : Zf 100 cur) (hS : Zf 6 cS) (h1 : a + 100 ≤ N1) (h3 : b + 6 ≤ N3) : m_X11_takes N1 N3 cur cS p1 p3 (a : Int) (b : Int) = some (sl 100 p1 a, sl 6 p3 b) := by
  rw [m_X11_takes, m_X11_takes_0]
  have k1 := loop_up 100 (fun F i => m_X11_takes_3 N1 N3 p1 (a : Int) (fun t_cur' v5' => m_X11_takes_29 N1 N3 t_cur' cS p3 (b : Int)) F (mix i (fun j => p1 (a + j)) cur) (i : Int)) (fun _ => m_X11_takes_29 N1 N3 (sl 100 p1 a) cS p3 (b : Int)) (fun F => by
    show m_X11_takes_3 _ _ _ _ _ (F + 1) _ _ = _
    rw [m_X11_takes_3, if_pos (by omega), mix_sl hc]) (fun F i hi ih => by
    show m_X11_takes_3 _ _ _ _ _ (F + 1) _ _ = _
    rw [m_X11_takes_3, if_neg (by omega), chkB (by omega) (by omega), chkB (by omega) (by omega), chkI (by omega) (by omega), tn, show Int.toNat ((a : Int) + (i : Int)) = a + i by omega, mix_s (f := fun j => p1 (a + j))]
    exact ih) 100 FU 0 (by omega) (by unfold FU; omega)
  have k2 := loop_up 6 (fun F i => m_X11_takes_32 N1 N3 p3 (b : Int) (fun t_curSum' v5' => m_X11_takes_59 N1 N3 (sl 100 p1 a) t_curSum') F (mix i (fun j => p3 (b + j)) cS) (i : Int)) (fun _ => some (sl 100 p1 a, sl 6 p3 b)) (fun F => by
    show m_X11_takes_32 _ _ _ _ _ (F + 1) _ _ = _
    rw [m_X11_takes_32, if_pos (by omega), mix_sl hS]; rfl) (fun F i hi ih => by
    show m_X11_takes_32 _ _ _ _ _ (F + 1) _ _ = _
    rw [m_X11_takes_32, if_neg (by omega), chkB (by omega) (by omega), chkB (by omega) (by omega), chkI (by omega) (by omega), tn, show Int.toNat ((b : Int) + (i : Int)) = b + i by omega, mix_s (f := fun j => p3 (b + j))]
    exact ih) 6 FU 0 (by omega) (by unfold FU; omega)
  rw [mix_z] at k1 k2
  refine k1.trans ?_
  rw [m_X11_takes_29]
  exact k2
theorem q_X11_keeps {N1 N3 a b : Nat} {cur cS p1 p3 : Nat → Int} (h1 : a + 100 ≤ N1) (h3 : b + 6 ≤ N3) : m_X11_keeps N1 N3 cur cS p1 p3 (a : Int) (b : Int) = some (ins 100 p1 a cur, ins 6 p3 b cS) := by
  rw [m_X11_keeps, m_X11_keeps_0]
  have k1 := loop_up 100 (fun F i => m_X11_keeps_3 N1 N3 cur (a : Int) (fun p1_a' v5' => m_X11_keeps_29 N1 N3 cS p1_a' p3 (b : Int)) F (ins i p1 a cur) (i : Int)) (fun _ => m_X11_keeps_29 N1 N3 cS (ins 100 p1 a cur) p3 (b : Int)) (fun F => by
    show m_X11_keeps_3 _ _ _ _ _ (F + 1) _ _ = _
    rw [m_X11_keeps_3, if_pos (by omega)]) (fun F i hi ih => by
    show m_X11_keeps_3 _ _ _ _ _ (F + 1) _ _ = _
    rw [m_X11_keeps_3, if_neg (by omega), chkB (by omega) (by omega), chkB (by omega) (by omega), chkI (by omega) (by omega), tn, show Int.toNat ((a : Int) + (i : Int)) = a + i by omega, ins_s]
    exact ih) 100 FU 0 (by omega) (by unfold FU; omega)
  have k2 := loop_up 6 (fun F i => m_X11_keeps_32 N1 N3 cS (b : Int) (fun p3_a' v5' => m_X11_keeps_59 N1 N3 (ins 100 p1 a cur) p3_a') F (ins i p3 b cS) (i : Int)) (fun _ => some (ins 100 p1 a cur, ins 6 p3 b cS)) (fun F => by
    show m_X11_keeps_32 _ _ _ _ _ (F + 1) _ _ = _
    rw [m_X11_keeps_32, if_pos (by omega)]; rfl) (fun F i hi ih => by
    show m_X11_keeps_32 _ _ _ _ _ (F + 1) _ _ = _
    rw [m_X11_keeps_32, if_neg (by omega), chkB (by omega) (by omega), chkB (by omega) (by omega), chkI (by omega) (by omega), tn, show Int.toNat ((b : Int) + (i : Int)) = b + i by omega, ins_s]
    exact ih) 6 FU 0 (by omega) (by unfold FU; omega)
  rw [ins_z] at k1 k2
  refine k1.trans ?_
  rw [m_X11_keeps_29]
  exact k2
theorem q_X11_pushesAsRead {push pa : Nat → Int} (h1 : Zf 21 push) (h2 : Zf 21 pa) : m_X11_pushesAsRead push pa = some push := by
  rw [m_X11_pushesAsRead, m_X11_pushesAsRead_0]
  have key := loop_up 21 (fun F i => m_X11_pushesAsRead_2 push (fun t_pushAt' v1' => m_X11_pushesAsRead_26 t_pushAt') F (mix i push pa) (i : Int)) (fun _ => some push) (fun F => by
    show m_X11_pushesAsRead_2 _ _ (F + 1) _ _ = _
    rw [m_X11_pushesAsRead_2, if_pos (by omega), mix_Z h1 h2]) (fun F i hi ih => by
    show m_X11_pushesAsRead_2 _ _ (F + 1) _ _ = _
    rw [m_X11_pushesAsRead_2, if_neg (by omega), chkB (by omega) (by omega), chkB (by omega) (by omega), chkI (by omega) (by omega), tn, mix_s]
    exact ih) 21 FU 0 (by omega) (by unfold FU; omega)
  rw [mix_z] at key
  exact key
theorem q_X11_atHand {push cur pa cS row sums : Nat → Int} (h1 : Zf 21 push) (h2 : Zf 21 pa) (hc : Zf 100 cur) (hS : Zf 6 cS) (hr : Zf 100 row) (hs : Zf 6 sums) : m_X11_atHand push cur pa cS row sums = some (row, push, sums) := by
  have := q_X11_takes (N1 := 100) (N3 := 6) (a := 0) (b := 0) (p1 := row) (p3 := sums) hc hS (by omega) (by omega)
  rw [sl_z hr, sl_z hs] at this
  rw [m_X11_atHand, m_X11_atHand_0, q_X11_pushesAsRead h1 h2, bind_s]
  show (m_X11_takes 100 6 cur cS row sums ((0 : Nat) : Int) ((0 : Nat) : Int)).bind _ = _
  rw [this, bind_s]
theorem q_X11_isAs {N : Nat} {cur g : Nat → Int} (hN : 100 ≤ N) (hc : Zf 100 cur) (hg : Zf 100 g) : ∃ r, m_X11_isAs N cur g = some r ∧ (r = 0 ∨ r = 1) ∧ (r = 1 ↔ cur = g) := by
  rw [m_X11_isAs, m_X11_isAs_0]
  have key := loop_p 100 (fun F i => ∀ v : Int, (v = 0 ∨ v = 1) → (v = 1 ↔ ∀ j, j < i → cur j = g j) → ∃ r, m_X11_isAs_4 N cur g (fun v2' v3' => m_X11_isAs_38 N v2') F v (i : Int) = some r ∧ (r = 0 ∨ r = 1) ∧ (r = 1 ↔ ∀ j, j < 100 → cur j = g j)) (fun F v h1 h2 => ⟨v, by rw [m_X11_isAs_4, if_pos (by omega)], h1, h2⟩) (fun F i hi ih _ v h1 h2 => by
    have t31 : ∀ s, m_X11_isAs_31 N cur g (i : Int) s (m_X11_isAs_4 N cur g (fun v2' v3' => m_X11_isAs_38 N v2') F) (fun v2' v3' => m_X11_isAs_38 N v2') = m_X11_isAs_4 N cur g (fun v2' v3' => m_X11_isAs_38 N v2') F s ((i + 1 : Nat) : Int) := by
      intro s; rw [m_X11_isAs_31, chkI (by omega) (by omega)]; rfl
    rw [m_X11_isAs_4, if_neg (by omega)]
    by_cases c : v = 0
    · rw [if_pos c, m_X11_isAs_30, t31]
      refine ih 0 (Or.inl rfl) ⟨fun h => by omega, fun h => ?_⟩
      have := h2.mpr (fun j hj => h j (by omega))
      omega
    · rw [if_neg c, chkB (by omega) (by omega), chkB (by omega) (by omega), tn]
      have hv : v = 1 := h1.resolve_left c
      by_cases e : cur i = g i
      · rw [if_pos e, t31]
        refine ih 1 (Or.inr rfl) ⟨fun _ j hj => ?_, fun _ => rfl⟩
        rcases Nat.lt_or_ge j i with h | h
        · exact h2.mp hv j h
        · obtain rfl : j = i := by omega
          exact e
      · rw [if_neg e, m_X11_isAs_30, t31]
        refine ih 0 (Or.inl rfl) ⟨fun h => by omega, fun h => absurd (h i (by omega)) e⟩) 100 FU 0 (by omega) (by unfold FU; omega) 1 (Or.inr rfl) ⟨fun _ j hj => by omega, fun _ => rfl⟩
  obtain ⟨r, h1, h2, h3⟩ := key
  exact ⟨r, h1, h2, h3.trans ⟨fun h => Zf_ext hc hg h, fun h j _ => by rw [h]⟩⟩
theorem q_X6_standsAs {cur g : Nat → Int} (hc : Zf 100 cur) (hg : Zf 100 g) : ∃ r, m_X6_standsAs cur g = some r ∧ (r = 0 ∨ r = 1) ∧ (r = 1 ↔ cur = g) := by
  rw [m_X6_standsAs, m_X6_standsAs_0]
  have key := loop_p 100 (fun F i => (∀ j, j < i → cur j = g j) → ∃ r, m_X6_standsAs_2 cur g (fun v2' => m_X6_standsAs_31) (fun v2' => m_X6_standsAs_23) F (i : Int) = some r ∧ (r = 0 ∨ r = 1) ∧ (r = 1 ↔ ∀ j, j < 100 → cur j = g j)) (fun F h => ⟨1, by rw [m_X6_standsAs_2, if_pos (by omega)], Or.inr rfl, ⟨fun _ => h, fun _ => rfl⟩⟩) (fun F i hi ih _ h => by
    rw [m_X6_standsAs_2, if_neg (by omega), chkB (by omega) (by omega), chkB (by omega) (by omega), tn]
    by_cases e : cur i = g i
    · rw [if_pos e, chkI (by omega) (by omega)]
      refine ih (fun j hj => ?_)
      rcases Nat.lt_or_ge j i with h3 | h3
      · exact h j h3
      · obtain rfl : j = i := by omega
        exact e
    · rw [if_neg e]
      exact ⟨0, rfl, Or.inl rfl, ⟨fun h => by omega, fun h => absurd (h i hi) e⟩⟩) 100 FU 0 (by omega) (by unfold FU; omega) (fun j hj => by omega)
  obtain ⟨r, h1, h2, h3⟩ := key
  exact ⟨r, h1, h2, h3.trans ⟨fun h => Zf_ext hc hg h, fun h j _ => by rw [h]⟩⟩
theorem q_X6_standAs {f1 f2 : Int} {cur g : Nat → Int} (hc : Zf 100 cur) (hg : Zf 100 g) : m_X6_standAs f1 cur f2 g = some (f2, g) := by
  rw [m_X6_standAs, m_X6_standAs_0, chk_pos (by omega), cpy_all hg hc]
theorem q_X6_becomes {a1 a2 a3 a4 a5 a6 a7 b1 b2 b3 b4 b5 b6 b7 : Int} {cur g : Nat → Int} (hc : Zf 100 cur) (hg : Zf 100 g) : m_X6_becomes a1 a2 a3 a4 a5 a6 a7 cur b1 b2 b3 b4 b5 b6 b7 g = some (b1, b2, b3, b4, b5, b6, b7, g) := by
  rw [m_X6_becomes, m_X6_becomes_0, q_X6_standAs hc hg, bind_s]
/-- a row of the class is the row cur, S -/
def rT (x : RowT) (cur S : Nat → Int) : Prop := x.1 = cur ∧ x.2.2.2.1 = cnt cur 100 ∧ x.2.2.2.2.1 = S 0 ∧ x.2.2.2.2.2.1 = S 5 ∧ x.2.2.2.2.2.2.1 = S 1 ∧ x.2.2.2.2.2.2.2.1 = S 2 ∧ x.2.2.2.2.2.2.2.2.1 = S 3 ∧ x.2.2.2.2.2.2.2.2.2 = S 4
/-- acts: the class's kept rows against the model's two heaps -/
def RAc (B : Int) (now last : Int) (K : Nat → Nat) (R : Nat → RowT) (undos redos : Int) (uR uS rR rS row sums : Nat → Int) : Prop :=
  ∃ u r : Nat, undos = (u : Int) ∧ redos = (r : Int) ∧ now = (u : Int) ∧ last = (u : Int) + r ∧ u + r ≤ 50 ∧ (∀ i, i < 51 → K i < 51) ∧ (∀ i j, i < 51 → j < 51 → K i = K j → i = j) ∧ (∀ i, Zf 100 (R i).1) ∧
  (∀ i, i < u → rT (R (K i)) (sl 100 uR (100 * i)) (sl 6 uS (6 * i)) ∧ rW B (sl 100 uR (100 * i)) (sl 6 uS (6 * i))) ∧ rT (R (K u)) row sums ∧ rW B row sums ∧
  (∀ i, i < r → rT (R (K (u + r - i))) (sl 100 rR (100 * i)) (sl 6 rS (6 * i)) ∧ rW B (sl 100 rR (100 * i)) (sl 6 rS (6 * i)))
theorem q_X0_forgetOldest {now : Int} {K : Nat → Nat} (hK : ∀ i, i < 51 → K i < 51) : ∃ K', m_X0_forgetOldest now K = some (49, K') ∧ (∀ i, i < 50 → K' i = K (i + 1)) ∧ K' 50 = K 0 := by
  rw [m_X0_forgetOldest, m_X0_forgetOldest_0, chkB (by omega) (by omega), chk_pos (hK _ (by decide))]
  have key := loop_p 50 (fun F i => ∀ L : Nat → Nat, (∀ j, j < i → L j = K (j + 1)) → (∀ j, i ≤ j → L j = K j) → ∃ K', m_X0_forgetOldest_9 (fun t_kept' v2' => m_X0_forgetOldest_35 now t_kept' (K (Int.toNat 0))) F L (i : Int) = some (49, K') ∧ (∀ i, i < 50 → K' i = K (i + 1)) ∧ K' 50 = K 0) (fun F L h1 h2 => ⟨up L 50 (K 0), by
      rw [m_X0_forgetOldest_9, if_pos (by omega), m_X0_forgetOldest_35, chkB (by omega) (by omega)]; rfl, fun i hi => by rw [up_ne _ _ (by omega)]; exact h1 i hi, up_at _ _ _⟩) (fun F i hi ih _ L h1 h2 => by
      have e1 : Int.toNat ((i : Int) + 1) = i + 1 := by omega
      have e2 : L (i + 1) = K (i + 1) := h2 _ (by omega)
      rw [m_X0_forgetOldest_9, if_neg (by omega), chkB (by omega) (by omega), e1, chk_pos (by rw [e2]; exact hK _ (by omega)), chkB (by omega) (by omega), chkI (by omega) (by omega), tn]
      refine ih (up L i (L (i + 1))) (fun j hj => ?_) (fun j hj => ?_)
      · by_cases h : j = i
        · subst h; rw [up_at]; exact e2
        · rw [up_ne _ _ h]; exact h1 j (by omega)
      · rw [up_ne _ _ (by omega)]; exact h2 j (by omega)) 50 FU 0 (by omega) (by unfold FU; omega) K (fun j hj => by omega) (fun j _ => rfl)
  exact key


/-- the first m cells moved down by k -/
def shf (m k i : Nat) (f : Nat → Int) : Nat → Int := fun j => if j < i then f (k + j) else f j
theorem shf_s {m k i : Nat} {f : Nat → Int} (hk : 0 < k) : up (shf m k i f) i (shf m k i f (k + i)) = shf m k (i + 1) f := by
  funext j
  unfold up shf
  by_cases h : j = i
  · subst h; rw [if_pos rfl, if_neg (by omega), if_pos (by omega)]
  · rw [if_neg h]
    by_cases h2 : j < i
    · rw [if_pos h2, if_pos (by omega)]
    · rw [if_neg h2, if_neg (by omega)]
theorem shf_z {m k : Nat} {f : Nat → Int} : shf m k 0 f = f := by funext j; unfold shf; exact if_neg (by omega)
theorem sl_shf {n i M : Nat} {f : Nat → Int} (h : n * i + n ≤ M) : sl n (shf 0 n M f) (n * i) = sl n f (n * (i + 1)) := by
  funext j
  unfold sl shf
  by_cases h2 : j < n
  · rw [if_pos h2, if_pos h2, if_pos (by omega), Nat.mul_add, Nat.mul_one]; congr 1; omega
  · rw [if_neg h2, if_neg h2]
theorem q_X11_remembers {u : Nat} {cur cS row sums uR uS : Nat → Int} (hu : u ≤ 50) (hc : Zf 100 cur) (hS : Zf 6 cS) (hr : Zf 100 row) (hs : Zf 6 sums) :
    ∃ uR' uS', m_X11_remembers (u : Int) cur cS row sums uR uS = some (((u - (if u < 50 then 0 else 1) + 1 : Nat) : Int), row, sums, uR', uS') ∧ (∀ i, i < u - (if u < 50 then 0 else 1) → sl 100 uR' (100 * i) = sl 100 uR (100 * (i + (if u < 50 then 0 else 1))) ∧ sl 6 uS' (6 * i) = sl 6 uS (6 * (i + (if u < 50 then 0 else 1)))) ∧ sl 100 uR' (100 * (u - (if u < 50 then 0 else 1))) = row ∧ sl 6 uS' (6 * (u - (if u < 50 then 0 else 1))) = sums := by
  have t79 : ∀ (v : Nat) (uR uS : Nat → Int), v < 50 → m_X11_remembers_79 (v : Int) cur cS row sums uR uS = some (((v + 1 : Nat) : Int), row, sums, ins 100 uR (100 * v) row, ins 6 uS (6 * v) sums) := by
    intro v uR uS hv
    have k1 := q_X11_takes (N1 := 100) (N3 := 6) (a := 0) (b := 0) (p1 := row) (p3 := sums) hc hS (by omega) (by omega)
    rw [sl_z hr, sl_z hs] at k1
    have k2 := q_X11_keeps (N1 := 5000) (N3 := 300) (a := 100 * v) (b := 6 * v) (cur := row) (cS := sums) (p1 := uR) (p3 := uS) (by omega) (by omega)
    rw [m_X11_remembers_79]
    show (m_X11_takes 100 6 cur cS row sums ((0 : Nat) : Int) ((0 : Nat) : Int)).bind _ = _
    rw [k1, bind_s, chkI (by omega) (by omega), chkI (by omega) (by omega), show (100 * (v : Int)) = ((100 * v : Nat) : Int) by omega, show (6 * (v : Int)) = ((6 * v : Nat) : Int) by omega, k2, bind_s, chkI (by omega) (by omega)]
    rfl
  rw [m_X11_remembers, m_X11_remembers_0]
  by_cases h : u < 50
  · rw [if_neg (by omega), if_pos h]
    refine ⟨_, _, t79 u uR uS h, fun i hi => ⟨?_, ?_⟩, sl_ins hr, sl_ins hs⟩
    · rw [Nat.add_zero]; exact sl_ins_ne (by omega)
    · rw [Nat.add_zero]; exact sl_ins_ne (by omega)
  · obtain rfl : u = 50 := by omega
    rw [if_pos (by rfl), if_neg h]
    have k1 := loop_up 4900 (fun F i => m_X11_remembers_11 (fun t_undoRow' v1' => m_X11_remembers_39 ((50 : Nat) : Int) cur cS row sums t_undoRow' uS) F (shf 0 100 i uR) (i : Int)) (fun _ => m_X11_remembers_39 ((50 : Nat) : Int) cur cS row sums (shf 0 100 4900 uR) uS) (fun F => by
      show m_X11_remembers_11 _ (F + 1) _ _ = _
      rw [m_X11_remembers_11, if_pos (by omega)]) (fun F i hi ih => by
      show m_X11_remembers_11 _ (F + 1) _ _ = _
      rw [m_X11_remembers_11, if_neg (by omega), chkB (by omega) (by omega), chkB (by omega) (by omega), chkI (by omega) (by omega), tn, show Int.toNat (100 + (i : Int)) = 100 + i by omega, shf_s (by omega)]
      exact ih) 4900 FU 0 (by omega) (by unfold FU; omega)
    have k2 := loop_up 294 (fun F i => m_X11_remembers_41 (fun t_undoSum' v1' => m_X11_remembers_69 ((50 : Nat) : Int) cur cS row sums (shf 0 100 4900 uR) t_undoSum') F (shf 0 6 i uS) (i : Int)) (fun _ => m_X11_remembers_69 ((50 : Nat) : Int) cur cS row sums (shf 0 100 4900 uR) (shf 0 6 294 uS)) (fun F => by
      show m_X11_remembers_41 _ (F + 1) _ _ = _
      rw [m_X11_remembers_41, if_pos (by omega)]) (fun F i hi ih => by
      show m_X11_remembers_41 _ (F + 1) _ _ = _
      rw [m_X11_remembers_41, if_neg (by omega), chkB (by omega) (by omega), chkB (by omega) (by omega), chkI (by omega) (by omega), tn, show Int.toNat (6 + (i : Int)) = 6 + i by omega, shf_s (by omega)]
      exact ih) 294 FU 0 (by omega) (by unfold FU; omega)
    rw [shf_z] at k1 k2
    refine ⟨ins 100 (shf 0 100 4900 uR) (100 * 49) row, ins 6 (shf 0 6 294 uS) (6 * 49) sums, ?_, fun i hi => ⟨?_, ?_⟩, sl_ins hr, sl_ins hs⟩
    · refine k1.trans ?_
      rw [m_X11_remembers_39]
      refine k2.trans ?_
      rw [m_X11_remembers_69, chkI (by omega) (by omega)]
      exact t79 49 _ _ (by omega)
    · rw [sl_ins_ne (by omega)]; exact sl_shf (by omega)
    · rw [sl_ins_ne (by omega)]; exact sl_shf (by omega)
theorem q_keep {B C now last undos redos : Int} {K : Nat → Nat} {R : Nat → RowT} {uR uS rR rS row sums row' sums' cur cS : Nat → Int} (h : RAc B now last K R undos redos uR uS rR rS row sums) (hc : Zf 100 cur) (hS : Zf 6 cS) (hn : rW C row' sums') (hBC : B ≤ C) :
    ∃ now' last' K' R' undos' uR' uS', m_X0_keep now last K (cnt row' 100) (sums' 0) (sums' 5) (sums' 1) (sums' 2) (sums' 3) (sums' 4) row' R = some (now', last', K', R') ∧ m_X11_act undos redos cur cS row sums uR uS = some (undos', 0, row, sums, uR', uS') ∧ RAc C now' last' K' R' undos' 0 uR' uS' rR rS row' sums' := by
  obtain ⟨u, r, e1, e2, e3, e4, e5, k1, k2, k3, k4, k5, k6, k7⟩ := h
  subst e1; subst e2; subst e3; subst e4
  obtain ⟨uR', uS', m1, m2, m3, m4⟩ := q_X11_remembers (uR := uR) (uS := uS) (u := u) (by omega) hc hS k6.2.1 k6.2.2.2.1
  have hact : m_X11_act (u : Int) (r : Int) cur cS row sums uR uS = some (((u - (if u < 50 then 0 else 1) + 1 : Nat) : Int), 0, row, sums, uR', uS') := by
    rw [m_X11_act, m_X11_act_0, m1, bind_s]
  -- the class, whatever map it has then
  have t13 : ∀ (v : Nat) (last : Int) (L : Nat → Nat), v < 50 → (∀ i, i < 51 → L i < 51) → (∀ i j, i < 51 → j < 51 → L i = L j → i = j) → (∀ i, i < v → rT (R (L i)) (sl 100 uR' (100 * i)) (sl 6 uS' (6 * i)) ∧ rW B (sl 100 uR' (100 * i)) (sl 6 uS' (6 * i))) → rT (R (L v)) row sums → sl 100 uR' (100 * v) = row → sl 6 uS' (6 * v) = sums →
      ∃ R', m_X0_keep_13 (v : Int) last L (cnt row' 100) (sums' 0) (sums' 5) (sums' 1) (sums' 2) (sums' 3) (sums' 4) row' R = some (((v + 1 : Nat) : Int), ((v + 1 : Nat) : Int), L, R') ∧ RAc C ((v + 1 : Nat) : Int) ((v + 1 : Nat) : Int) L R' ((v + 1 : Nat) : Int) 0 uR' uS' rR rS row' sums' := by
    intro v last L hv l1 l2 l3 l4 l5 l6
    have ev : Int.toNat ((v : Int) + 1) = v + 1 := by omega
    refine ⟨up R (L (v + 1)) (row', (R (L (v + 1))).2.1, (R (L (v + 1))).2.2.1, cnt row' 100, sums' 0, sums' 5, sums' 1, sums' 2, sums' 3, sums' 4), ?_, v + 1, 0, rfl, rfl, rfl, by omega, by omega, l1, l2, fun i => ?_, fun i hi => ?_, ?_, hn, fun i hi => by omega⟩
    · rw [m_X0_keep_13, chkI (by omega) (by omega), chkB (by omega) (by omega), ev, chk_pos (l1 _ (by omega)), q_X6_becomes (k3 _) hn.2.1, bind_s]
      rfl
    · by_cases hi : i = L (v + 1)
      · subst hi; rw [up_at]; exact hn.2.1
      · rw [up_ne _ _ hi]; exact k3 i
    · have hne : L i ≠ L (v + 1) := fun hh => by have := l2 _ _ (by omega) (by omega) hh; omega
      rw [up_ne _ _ hne]
      by_cases hiv : i < v
      · exact ⟨(l3 i hiv).1, rW_le (l3 i hiv).2 hBC⟩
      · obtain rfl : i = v := by omega
        rw [l5, l6]; exact ⟨l4, rW_le k6 hBC⟩
    · rw [up_at]; exact ⟨rfl, rfl, rfl, rfl, rfl, rfl, rfl, rfl⟩
  by_cases h50 : u < 50
  · rw [if_pos h50] at m2 m3 m4 hact
    obtain ⟨R', a1, a2⟩ := t13 u ((u : Int) + r) K h50 k1 k2 (fun i hi => by
      have := m2 i (by omega); rw [Nat.add_zero] at this; rw [this.1, this.2]; exact k4 i hi) k5 m3 m4
    refine ⟨_, _, _, R', _, uR', uS', ?_, hact, a2⟩
    rw [m_X0_keep, m_X0_keep_0, if_pos (by omega)]
    exact a1
  · obtain rfl : u = 50 := by omega
    rw [if_neg h50] at m2 m3 m4 hact
    obtain ⟨K', f1, f2, f3⟩ := q_X0_forgetOldest (now := ((50 : Nat) : Int)) k1
    have fK : ∀ i, i < 51 → ∃ j, j < 51 ∧ K' i = K j ∧ (i < 50 → j = i + 1) ∧ (i = 50 → j = 0) := fun i hi => by
      by_cases h : i < 50
      · exact ⟨i + 1, by omega, f2 i h, fun _ => rfl, fun h2 => by omega⟩
      · obtain rfl : i = 50 := by omega
        exact ⟨0, by omega, f3, fun h2 => by omega, fun _ => rfl⟩
    obtain ⟨R', a1, a2⟩ := t13 49 (((50 : Nat) : Int) + r) K' (by omega) (fun i hi => by obtain ⟨j, j1, j2, _⟩ := fK i hi; rw [j2]; exact k1 j j1) (fun i j hi hj hh => by
      obtain ⟨i', i1, i2, i3, i4⟩ := fK i hi
      obtain ⟨j', j1, j2, j3, j4⟩ := fK j hj
      rw [i2, j2] at hh
      have := k2 _ _ i1 j1 hh
      omega) (fun i hi => by
      have := m2 i (by omega); rw [this.1, this.2, f2 i (by omega)]; exact k4 (i + 1) (by omega)) (by rw [f2 49 (by omega)]; exact k5) m3 m4
    refine ⟨_, _, _, R', _, uR', uS', ?_, hact, a2⟩
    rw [m_X0_keep, m_X0_keep_0, if_neg (by omega), f1, bind_s]
    exact a1


/-! ===== PURE: what a flaw feels ===== -/
def nz (x : Int) : Int := if x = 0 then 0 else 1
theorem nz_bd (x : Int) : 0 ≤ nz x ∧ nz x ≤ 1 := by unfold nz; split <;> omega
theorem nz_0 {x : Int} (h : x = 0) : nz x = 0 := if_pos h
theorem nz_1 {x : Int} (h : x ≠ 0) : nz x = 1 := if_neg h
/-- how many of the first n are not nought -/
def cnt (f : Nat → Int) (n : Nat) : Int := sm (fun j => nz (f j)) n
theorem cnt_z (f : Nat → Int) : cnt f 0 = 0 := rfl
theorem cnt_s (f : Nat → Int) (n : Nat) : cnt f (n + 1) = cnt f n + nz (f n) := rfl
theorem cnt_le (f : Nat → Int) (i : Nat) : ∀ k : Nat, cnt f i ≤ cnt f (i + k) ∧ cnt f (i + k) ≤ cnt f i + k := by
  intro k
  induction k with
  | zero => simp
  | succ k ih =>
    have := nz_bd (f (i + k))
    rw [← Nat.add_assoc, cnt_s]
    omega
theorem cnt_mono {f : Nat → Int} {i j : Nat} (h : i ≤ j) : cnt f i ≤ cnt f j := by
  have := (cnt_le f i (j - i)).1
  rwa [show i + (j - i) = j by omega] at this
theorem cnt_lt {f : Nat → Int} {i j : Nat} (h : i < j) (hf : f i ≠ 0) : cnt f i < cnt f j := by
  have := cnt_mono (f := f) (show i + 1 ≤ j by omega)
  rw [cnt_s, nz_1 hf] at this
  omega
theorem cnt_bd (f : Nat → Int) (n : Nat) : 0 ≤ cnt f n ∧ cnt f n ≤ n := by
  have := cnt_le f 0 n
  rw [Nat.zero_add, cnt_z] at this
  omega
theorem cnt_up {f : Nat → Int} {k n : Nat} {v : Int} (h : k < n) : cnt (up f k v) n = cnt f n + nz v - nz (f k) := by
  have e : (fun j => nz (up f k v j)) = up (fun j => nz (f j)) k (nz v) := by
    funext j; unfold up; split <;> rfl
  unfold cnt
  rw [e, sm_up, if_pos h]
  omega
/-- signs -/
def sg (f : Nat → Int) : Prop := ∀ j, -1 ≤ f j ∧ f j ≤ 1
theorem sg_up {f : Nat → Int} {k : Nat} {v : Int} (h : sg f) (hv : -1 ≤ v ∧ v ≤ 1) : sg (up f k v) := fun j => by
  unfold up; split
  · exact hv
  · exact h j
def fd (cur push : Nat → Int) (p d : Nat) : Int := ((if d ≤ p then cur (p - d) else 0) - (if p + d < 100 then cur (p + d) else 0)) * push d
/-- what a flaw of sign 1 feels at p -/
def frc (cur push : Nat → Int) (p : Nat) (q : Int) : Int := q + sm (fun d => fd cur push p (d + 1)) 20
def pW (push : Nat → Int) : Prop := ∀ j, 0 ≤ push j ∧ push j ≤ 999
theorem fd_bd {cur push : Nat → Int} {p d : Nat} (hs : sg cur) (hp : pW push) : -1998 ≤ fd cur push p d ∧ fd cur push p d ≤ 1998 := by
  unfold fd
  have h1 := hp d
  have h2 := hs (p - d)
  have h3 := hs (p + d)
  have h4 : -2 ≤ ((if d ≤ p then cur (p - d) else 0) - (if p + d < 100 then cur (p + d) else 0)) ∧ ((if d ≤ p then cur (p - d) else 0) - (if p + d < 100 then cur (p + d) else 0)) ≤ 2 := by
    split <;> split <;> omega
  have := mul_bd (A := 2) (B := 999) h4.1 h4.2 (by omega : -999 ≤ push d) h1.2
  omega
theorem fs_bd {cur push : Nat → Int} {p : Nat} (hs : sg cur) (hp : pW push) (n : Nat) : n * (-1998) ≤ sm (fun d => fd cur push p (d + 1)) n ∧ sm (fun d => fd cur push p (d + 1)) n ≤ n * 1998 :=
  sm_bd (fun j _ => fd_bd hs hp)
theorem frc_bd {cur push : Nat → Int} {p : Nat} {q : Int} (hs : sg cur) (hp : pW push) (h1 : -9999 ≤ q) (h2 : q ≤ 9999) : -50000 ≤ frc cur push p q ∧ frc cur push p q ≤ 50000 := by
  have := fs_bd (p := p) hs hp 20
  unfold frc
  omega
theorem q_X6_forceAt {cur push : Nat → Int} {R p : Nat} {q : Int} (hR : R ≤ 20) (hz : ∀ d, R < d → d ≤ 20 → push d = 0) (hs : sg cur) (hp : pW push) (hP : p < 100) (h1 : -9999 ≤ q) (h2 : q ≤ 9999) : m_X6_forceAt cur (R : Int) push (p : Int) q = some (frc cur push p q) := by
  rw [m_X6_forceAt, m_X6_forceAt_0]
  have hb := fs_bd (p := p) hs hp
  have key := loop_up R (fun F i => m_X6_forceAt_6 cur (R : Int) push (p : Int) (fun v4' v5' => m_X6_forceAt_84 v4') F (q + sm (fun d => fd cur push p (d + 1)) i) ((i : Int) + 1)) (fun _ => some (q + sm (fun d => fd cur push p (d + 1)) R)) (fun F => by
    show m_X6_forceAt_6 _ _ _ _ _ (F + 1) _ _ = _
    rw [m_X6_forceAt_6, if_pos (by omega)]) (fun F i hi ih => by
    show m_X6_forceAt_6 _ _ _ _ _ (F + 1) _ _ = _
    have b1 := hb (i + 1)
    have e0 : sm (fun d => fd cur push p (d + 1)) (i + 1) = sm (fun d => fd cur push p (d + 1)) i + fd cur push p (i + 1) := sm_s _ i
    have hi' : (i : Int) + 1 ≤ 20 := by omega
    have t0 : Int.toNat ((i : Int) + 1) = i + 1 := by omega
    have ih' : m_X6_forceAt_6 cur (R : Int) push (p : Int) (fun v4' v5' => m_X6_forceAt_84 v4') F (q + sm (fun d => fd cur push p (d + 1)) i + fd cur push p (i + 1)) ((i : Int) + 1 + 1) = some (q + sm (fun d => fd cur push p (d + 1)) R) := by
      rw [← ih, e0, ← Int.add_assoc]; rfl
    rw [m_X6_forceAt_6, if_neg (by omega)]
    by_cases c1 : i + 1 ≤ p
    · rw [if_neg (by omega), chkB (by omega) (by omega), m_X6_forceAt_34, chkI (by omega) (by omega), show Int.toNat ((p : Int) - ((i : Int) + 1)) = p - (i + 1) by omega]
      by_cases c2 : p + (i + 1) < 100
      · have e : fd cur push p (i + 1) = (cur (p - (i + 1)) - cur (p + (i + 1))) * push (i + 1) := by unfold fd; rw [if_pos c1, if_pos c2]
        rw [if_neg (by omega), chkB (by omega) (by omega), m_X6_forceAt_58, t0, show Int.toNat ((p : Int) + ((i : Int) + 1)) = p + (i + 1) by omega, ← e, chkB (by omega) (by omega), chkI (by omega) (by omega), chkI (by omega) (by omega)]
        exact ih'
      · have e : fd cur push p (i + 1) = (cur (p - (i + 1)) - 0) * push (i + 1) := by unfold fd; rw [if_pos c1, if_neg c2]
        rw [if_pos (by omega), m_X6_forceAt_58, t0, ← e, chkB (by omega) (by omega), chkI (by omega) (by omega), chkI (by omega) (by omega)]
        exact ih'
    · rw [if_pos (by omega), m_X6_forceAt_34, chkI (by omega) (by omega)]
      by_cases c2 : p + (i + 1) < 100
      · have e : fd cur push p (i + 1) = (0 - cur (p + (i + 1))) * push (i + 1) := by unfold fd; rw [if_neg c1, if_pos c2]
        rw [if_neg (by omega), chkB (by omega) (by omega), m_X6_forceAt_58, t0, show Int.toNat ((p : Int) + ((i : Int) + 1)) = p + (i + 1) by omega, ← e, chkB (by omega) (by omega), chkI (by omega) (by omega), chkI (by omega) (by omega)]
        exact ih'
      · have e : fd cur push p (i + 1) = (0 - 0) * push (i + 1) := by unfold fd; rw [if_neg c1, if_neg c2]
        rw [if_pos (by omega), m_X6_forceAt_58, t0, ← e, chkB (by omega) (by omega), chkI (by omega) (by omega), chkI (by omega) (by omega)]
        exact ih') R FU 0 (by omega) (by unfold FU; omega)
  have e : ∀ k, sm (fun d => fd cur push p (d + 1)) (R + k) = sm (fun d => fd cur push p (d + 1)) R ∨ 20 < R + k := by
    intro k
    induction k with
    | zero => exact Or.inl rfl
    | succ k ih =>
      by_cases h : 20 < R + (k + 1)
      · exact Or.inr h
      · rcases ih with ih | ih
        · refine Or.inl ?_
          rw [← Nat.add_assoc, sm_s, ih]
          have : fd cur push p (R + k + 1) = 0 := by unfold fd; rw [hz _ (by omega) (by omega), Int.mul_zero]
          rw [this, Int.add_zero]
        · omega
  have e2 : sm (fun d => fd cur push p (d + 1)) 20 = sm (fun d => fd cur push p (d + 1)) R := by
    rcases e (20 - R) with h | h
    · rwa [show R + (20 - R) = 20 by omega] at h
    · omega
  rw [frc, e2, ← key]
  simp only [sm_z, Int.add_zero]
  rfl
theorem q_X11_feels {cur push : Nat → Int} {p : Nat} {s q : Int} (hs : sg cur) (hp : pW push) (hP : p < 100) (hS : -1 ≤ s ∧ s ≤ 1) (h1 : -9999 ≤ q) (h2 : q ≤ 9999) : m_X11_feels cur push (p : Int) s q = some (s * frc cur push p q) := by
  rw [m_X11_feels, m_X11_feels_0]
  have hb : ∀ n : Nat, n ≤ 20 → -50000 ≤ s * (q + sm (fun d => fd cur push p (d + 1)) n) ∧ s * (q + sm (fun d => fd cur push p (d + 1)) n) ≤ 50000 := by
    intro n hn
    have := fs_bd (p := p) hs hp n
    have := mul_bd (a := s) (b := q + sm (fun d => fd cur push p (d + 1)) n) (A := 1) (B := 50000) hS.1 hS.2 (by omega) (by omega)
    omega
  have hm : ∀ (a b : Nat), -999 ≤ s * cur a * push b ∧ s * cur a * push b ≤ 999 := by
    intro a b
    have h3 := hs a
    have h4 := hp b
    have h5 := mul_bd (a := s) (b := cur a) (A := 1) (B := 1) hS.1 hS.2 h3.1 h3.2
    have := mul_bd (a := s * cur a) (b := push b) (A := 1) (B := 999) (by omega) (by omega) (by omega) h4.2
    omega
  have b0 := hb 0 (by omega)
  rw [sm_z, Int.add_zero] at b0
  rw [chkI (by omega) (by omega)]
  have key := loop_up 20 (fun F i => m_X11_feels_8 cur push (p : Int) s (fun v4' v5' => m_X11_feels_93 v4') F (s * (q + sm (fun d => fd cur push p (d + 1)) i)) ((i : Int) + 1)) (fun _ => some (s * frc cur push p q)) (fun F => by
    show m_X11_feels_8 _ _ _ _ _ (F + 1) _ _ = _
    rw [m_X11_feels_8, if_pos (by omega)]; rfl) (fun F i hi ih => by
    show m_X11_feels_8 _ _ _ _ _ (F + 1) _ _ = _
    have b1 := hb (i + 1) (by omega)
    have b2 := hb i (by omega)
    have t0 : Int.toNat ((i : Int) + 1) = i + 1 := by omega
    have e0 : s * (q + sm (fun d => fd cur push p (d + 1)) (i + 1)) = s * (q + sm (fun d => fd cur push p (d + 1)) i) + s * fd cur push p (i + 1) := by rw [sm_s, ← Int.add_assoc, Int.mul_add]
    have ih' : ∀ z, z = s * (q + sm (fun d => fd cur push p (d + 1)) i) + s * fd cur push p (i + 1) → m_X11_feels_8 cur push (p : Int) s (fun v4' v5' => m_X11_feels_93 v4') F z ((i : Int) + 1 + 1) = some (s * frc cur push p q) := by
      intro z hz; rw [hz, ← ih, e0]; rfl
    rw [e0] at b1
    rw [m_X11_feels_8, if_neg (by omega), chkI (by omega) (by omega)]
    by_cases c1 : i + 1 ≤ p
    · have m1 := hm (p - (i + 1)) (i + 1)
      rw [if_neg (by omega), chkB (by omega) (by omega), chkB (by omega) (by omega), show Int.toNat ((p : Int) - ((i : Int) + 1)) = p - (i + 1) by omega, t0, chkI (by omega) (by omega), m_X11_feels_47, chkI (by omega) (by omega)]
      by_cases c2 : p + (i + 1) < 100
      · have m2 := hm (p + (i + 1)) (i + 1)
        have e : s * fd cur push p (i + 1) = s * cur (p - (i + 1)) * push (i + 1) - s * cur (p + (i + 1)) * push (i + 1) := by unfold fd; rw [if_pos c1, if_pos c2, Int.sub_mul, Int.mul_sub, Int.mul_assoc, Int.mul_assoc]
        rw [if_neg (by omega), chkB (by omega) (by omega), chkB (by omega) (by omega), chkI (by omega) (by omega), show Int.toNat ((p : Int) + ((i : Int) + 1)) = p + (i + 1) by omega, t0, chkI (by omega) (by omega), m_X11_feels_84, chkI (by omega) (by omega), chkI (by omega) (by omega)]
        exact ih' _ (by omega)
      · have e : s * fd cur push p (i + 1) = s * cur (p - (i + 1)) * push (i + 1) := by unfold fd; rw [if_pos c1, if_neg c2, Int.sub_zero, Int.mul_assoc]
        rw [if_pos (by omega), chkI (by omega) (by omega), m_X11_feels_84, chkI (by omega) (by omega), chkI (by omega) (by omega)]
        exact ih' _ (by omega)
    · rw [if_pos (by omega), m_X11_feels_47, chkI (by omega) (by omega)]
      by_cases c2 : p + (i + 1) < 100
      · have m2 := hm (p + (i + 1)) (i + 1)
        have e : s * fd cur push p (i + 1) = - (s * cur (p + (i + 1)) * push (i + 1)) := by unfold fd; rw [if_neg c1, if_pos c2, Int.zero_sub, Int.neg_mul, Int.mul_neg, Int.mul_assoc]
        rw [if_neg (by omega), chkB (by omega) (by omega), chkB (by omega) (by omega), chkI (by omega) (by omega), show Int.toNat ((p : Int) + ((i : Int) + 1)) = p + (i + 1) by omega, t0, chkI (by omega) (by omega), m_X11_feels_84, chkI (by omega) (by omega), chkI (by omega) (by omega)]
        exact ih' _ (by omega)
      · have e : s * fd cur push p (i + 1) = 0 := by unfold fd; rw [if_neg c1, if_neg c2, Int.sub_zero, Int.zero_mul, Int.mul_zero]
        rw [if_pos (by omega), chkI (by omega) (by omega), m_X11_feels_84, chkI (by omega) (by omega), chkI (by omega) (by omega)]
        exact ih' _ (by omega)) 20 FU 0 (by omega) (by unfold FU; omega)
  simp only [sm_z, Int.add_zero] at key
  exact key
theorem q_X11_flaws {cur : Nat → Int} : m_X11_flaws cur = some (cnt cur 100) := by
  rw [m_X11_flaws, m_X11_flaws_0]
  exact loop_up 100 (fun F i => m_X11_flaws_4 cur (fun v1' v2' => m_X11_flaws_33 v1') F (cnt cur i) (i : Int)) (fun _ => some (cnt cur 100)) (fun F => by
    show m_X11_flaws_4 _ _ (F + 1) _ _ = _
    rw [m_X11_flaws_4, if_pos (by omega)]) (fun F i hi ih => by
    show m_X11_flaws_4 _ _ (F + 1) _ _ = _
    have := cnt_bd cur i
    have ih' : ∀ z, z = nz (cur i) → m_X11_flaws_25 cur (i : Int) (cnt cur i) z (m_X11_flaws_4 cur (fun v1' v2' => m_X11_flaws_33 v1') F) (fun v1' v2' => m_X11_flaws_33 v1') = some (cnt cur 100) := by
      intro z hz
      have := nz_bd (cur i)
      rw [m_X11_flaws_25, chkI (by omega) (by omega), chkI (by omega) (by omega), hz]
      exact ih
    rw [m_X11_flaws_4, if_neg (by omega), chkB (by omega) (by omega), tn]
    by_cases c : cur i = 0
    · rw [if_pos c]; exact ih' _ (nz_0 c).symm
    · rw [if_neg c]; exact ih' _ (nz_1 c).symm) 100 FU 0 (by omega) (by unfold FU; omega)

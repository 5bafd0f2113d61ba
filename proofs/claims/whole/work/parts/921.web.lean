
/-! ===== PURE: knots and lines ===== -/
/-- how many of the first n are nought -/
def cno (f : Nat → Int) (n : Nat) : Int := sm (fun j => if f j = 0 then 1 else 0) n
/-- knots and lines of the class against the model's -/
def RWb (kn th : Int) (rims froms tos : Nat → Int) (sm : Int) (xs ys zs there : Nat → Int) (knots lines : Int) (isRim isGone start goal line : Nat → Int) : Prop :=
  ∃ K L : Nat, kn = (K : Int) ∧ knots = (K : Int) ∧ K ≤ 60 ∧ sm = (L : Int) ∧ lines = (L : Int) ∧ L ≤ 120 ∧ rims = isRim ∧ froms = start ∧ tos = goal ∧ th = cno isGone L ∧
  (∀ k, k < L → xs k = line (3 * k) ∧ ys k = line (3 * k + 1) ∧ zs k = line (3 * k + 2) ∧ bd3 99 (xs k) (ys k) (zs k) ∧ ((there k = 1 ∧ isGone k = 0) ∨ (there k = 0 ∧ isGone k = 1)) ∧ (0 ≤ start k ∧ start k < K) ∧ (0 ≤ goal k ∧ goal k < K) ∧ start k ≠ goal k) ∧ (∀ k, L ≤ k → isGone k = 0)
theorem cno_s (f : Nat → Int) (n : Nat) : cno f (n + 1) = cno f n + (if f n = 0 then 1 else 0) := rfl
theorem cno_bd (f : Nat → Int) (n : Nat) : 0 ≤ cno f n ∧ cno f n ≤ n := by
  induction n with
  | zero => exact ⟨Int.le_refl _, Int.le_refl _⟩
  | succ n ih =>
    rw [cno_s]
    split <;> omega
theorem cno_up {f : Nat → Int} {k n : Nat} {v : Int} (h : k < n) : cno (up f k v) n = cno f n + (if v = 0 then 1 else 0) - (if f k = 0 then 1 else 0) := by
  have e : (fun j => if up f k v j = 0 then (1 : Int) else 0) = up (fun j => if f j = 0 then 1 else 0) k (if v = 0 then 1 else 0) := by
    funext j; unfold up; split <;> rfl
  unfold cno
  rw [e, sm_up, if_pos h]
  omega
theorem isKnotc1 {K : Nat} {v : Int} (hK : K ≤ 60) (h : 0 ≤ v ∧ v < K) : m_X9_isKnot (K : Int) v = some 1 := by rw [m_X9_isKnot, m_X9_isKnot_0, chkI (by omega) (by omega), w1 (by omega) (by omega), bind_s]
theorem isKnotc0 {K : Nat} {v : Int} (hK : K ≤ 60) (h : ¬ (0 ≤ v ∧ v < K)) : m_X9_isKnot (K : Int) v = some 0 := by rw [m_X9_isKnot, m_X9_isKnot_0, chkI (by omega) (by omega), w0 (by omega), bind_s]
theorem isKnotm1 {K : Nat} {v : Int} (hK : K ≤ 60) (h : 0 ≤ v ∧ v < K) : m_X11_isKnot (K : Int) v = some 1 := by rw [m_X11_isKnot, m_X11_isKnot_0, chkI (by omega) (by omega), i1 (by omega) (by omega), bind_s]
theorem isKnotm0 {K : Nat} {v : Int} (hK : K ≤ 60) (h : ¬ (0 ≤ v ∧ v < K)) : m_X11_isKnot (K : Int) v = some 0 := by rw [m_X11_isKnot, m_X11_isKnot_0, chkI (by omega) (by omega), i0 (by omega), bind_s]
theorem isThere1 {L k : Nat} {there : Nat → Int} (hL : L ≤ 120) (hk : k < L) (h : there k = 1) : m_X9_isThere (L : Int) there (k : Int) = some 1 := by rw [m_X9_isThere, m_X9_isThere_0, has1 (by omega) (by omega), bind_s, if_neg ne10, chkB (by omega) (by omega), tn, h, if_neg ne10]
theorem isThere0 {L : Nat} {there : Nat → Int} {v : Int} (hL : L ≤ 120) (h : ¬ (0 ≤ v ∧ v < L ∧ there v.toNat ≠ 0)) : m_X9_isThere (L : Int) there v = some 0 := by
  rw [m_X9_isThere, m_X9_isThere_0]
  by_cases c : 0 ≤ v ∧ v < L
  · rw [has1 c.1 c.2, bind_s, if_neg ne10, chkB (by omega) (by omega), if_pos (by by_cases c2 : there v.toNat = 0; exact c2; exact absurd ⟨c.1, c.2, c2⟩ h)]
  · rw [has0 c, bind_s, if_pos rfl]
theorem isLine1 {L k : Nat} {gone : Nat → Int} (hL : L ≤ 120) (hk : k < L) (h : gone k = 0) : m_X11_isLine (L : Int) gone (k : Int) = some 1 := by rw [m_X11_isLine, m_X11_isLine_0, chkI (by omega) (by omega), i1 (by omega) (by omega), bind_s, if_neg ne10, chkB (by omega) (by omega), tn, h, if_pos rfl]
theorem isLine0 {L : Nat} {gone : Nat → Int} {v : Int} (hL : L ≤ 120) (h : ¬ (0 ≤ v ∧ v < L ∧ gone v.toNat = 0)) : m_X11_isLine (L : Int) gone v = some 0 := by
  rw [m_X11_isLine, m_X11_isLine_0, chkI (by omega) (by omega)]
  by_cases c : 0 ≤ v ∧ v < L
  · rw [i1 (by omega) (by omega), bind_s, if_neg ne10, chkB (by omega) (by omega), if_neg (fun c2 => h ⟨c.1, c.2, c2⟩)]
  · rw [i0 (by omega), bind_s, if_pos rfl]
theorem isStepPart1 {v : Int} (h : -99 ≤ v ∧ v ≤ 99) : m_X9_isStepPart v = some 1 := by rw [m_X9_isStepPart, m_X9_isStepPart_0, w1 h.1 h.2, bind_s]
theorem isStepPart0 {v : Int} (h : ¬ (-99 ≤ v ∧ v ≤ 99)) : m_X9_isStepPart v = some 0 := by rw [m_X9_isStepPart, m_X9_isStepPart_0, w0 h, bind_s]
theorem pc_knot {kn th sm knots lines : Int} {rims froms tos xs ys zs there isRim isGone start goal line : Nat → Int} (h : RWb kn th rims froms tos sm xs ys zs there knots lines isRim isGone start goal line) (v : Int) :
    ∃ r r2, m_X10_knot kn rims v = some r ∧ m_X11_knot knots isRim v = some r2 ∧ r.1 = r2.1 ∧ RWb r.2.1 th r.2.2 froms tos sm xs ys zs there r2.2.1 lines r2.2.2 isGone start goal line := by
  have h0 := h
  obtain ⟨K, L, rfl, rfl, hK, rfl, rfl, hL, rfl, rfl, rfl, hth, hl, hg⟩ := h
  rw [m_X10_knot, m_X10_knot_0, m_X9_newKnot, m_X9_newKnot_0, m_X11_knot, m_X11_knot_0]
  by_cases c : K = 60
  · rw [if_neg (by omega), if_pos (by omega), bind_s]; exact ⟨_, _, rfl, rfl, rfl, h0⟩
  · rw [if_pos (by omega), if_neg (by omega), chkB (by omega) (by omega), chkI (by omega) (by omega), chkI (by omega) (by omega), bind_s]
    refine ⟨_, _, rfl, rfl, rfl, K + 1, L, rfl, rfl, by omega, rfl, rfl, hL, rfl, rfl, rfl, hth, fun k hk => ?_, hg⟩
    obtain ⟨a1, a2, a3, a4, a5, a6, a7, a8⟩ := hl k hk
    exact ⟨a1, a2, a3, a4, a5, by omega, by omega, a8⟩
/-- a new line, class and model -/
theorem q_newLine {th : Int} {K L : Nat} {rims froms tos xs ys zs there isGone line : Nat → Int} {a b x y z : Int} (h : RWb (K : Int) th rims froms tos (L : Int) xs ys zs there (K : Int) (L : Int) rims isGone froms tos line) (hL : L < 120) (ha : 0 ≤ a ∧ a < K) (hb : 0 ≤ b ∧ b < K) (hab : a ≠ b) (hx : bd3 99 x y z) (hz : ¬ (x = 0 ∧ y = 0 ∧ z = 0)) :
    ∃ r r2, m_X9_newLine (K : Int) th froms tos (L : Int) xs ys zs there a b x y z = some r ∧ m_X11_lineIn (L : Int) froms tos line a b x y z = some r2 ∧ r.1 = r2.1 ∧ RWb (K : Int) r.2.1 rims r.2.2.1 r.2.2.2.1 r.2.2.2.2.1 r.2.2.2.2.2.1 r.2.2.2.2.2.2.1 r.2.2.2.2.2.2.2.1 r.2.2.2.2.2.2.2.2 (K : Int) r2.2.1 rims isGone r2.2.2.1 r2.2.2.2.1 r2.2.2.2.2 := by
  obtain ⟨K', L', e1, e2, hK, e3, e4, _, e5, e6, e7, hth, hl, hg⟩ := h
  obtain rfl : K = K' := by omega
  obtain rfl : L = L' := by omega
  have hb := cno_bd isGone L
  have t72 : m_X9_newLine_72 th froms tos (L : Int) xs ys zs there a b x y z = some ((L : Int), th + 1, up froms L a, up tos L b, (L : Int) + 1, up xs L x, up ys L y, up zs L z, up there L 1) := by
    rw [m_X9_newLine_72, q_append hL (by omega), bind_s, chkB (by omega) (by omega), chkB (by omega) (by omega), chkB (by omega) (by omega), chkI (by omega) (by omega), tn]
  have hnl : m_X9_newLine (K : Int) th froms tos (L : Int) xs ys zs there a b x y z = some ((L : Int), th + 1, up froms L a, up tos L b, (L : Int) + 1, up xs L x, up ys L y, up zs L z, up there L 1) := by
    rw [m_X9_newLine, m_X9_newLine_0, m_X8_isFull, m_X8_isFull_0, if_pos (by omega), bind_s, if_pos rfl, isKnotc1 hK ha, bind_s, if_neg ne10, isKnotc1 hK (by omega), bind_s, if_neg ne10, if_neg hab, isStepPart1 hx.1, bind_s, if_neg ne10, isStepPart1 hx.2.1, bind_s, if_neg ne10, isStepPart1 hx.2.2, bind_s, if_neg ne10, t72]
    by_cases c1 : x = 0
    · rw [if_pos c1]
      by_cases c2 : y = 0
      · rw [if_pos c2, if_neg (fun c3 => hz ⟨c1, c2, c3⟩)]
      · rw [if_neg c2]
    · rw [if_neg c1]
  rw [hnl, m_X11_lineIn, m_X11_lineIn_0, chkB (by omega) (by omega), chkB (by omega) (by omega), chkB (by omega) (by omega), chkB (by omega) (by omega), chkB (by omega) (by omega), chkI (by omega) (by omega), chkI (by omega) (by omega), tn, show Int.toNat (3 * (L : Int)) = 3 * L by omega, show Int.toNat (3 * (L : Int) + 1) = 3 * L + 1 by omega, show Int.toNat (3 * (L : Int) + 2) = 3 * L + 2 by omega]
  refine ⟨_, _, rfl, rfl, by dsimp only; omega, K, L + 1, rfl, rfl, hK, rfl, rfl, by omega, rfl, rfl, rfl, ?_, fun k hk => ?_, fun k hk => hg k (by omega)⟩
  · dsimp only; rw [cno_s isGone L, hg L (Nat.le_refl _), if_pos rfl, hth]
  · dsimp only
    by_cases c : k = L
    · subst c
      rw [up_at, up_at, up_at, up_at, up_at, up_at, up_at, up_ne _ _ (show 3 * k + 1 ≠ 3 * k + 2 by omega), up_at, up_ne _ _ (show 3 * k ≠ 3 * k + 2 by omega), up_ne _ _ (show 3 * k ≠ 3 * k + 1 by omega), up_at]
      exact ⟨rfl, rfl, rfl, hx, Or.inl ⟨rfl, hg k (Nat.le_refl _)⟩, ha, by omega, hab⟩
    · rw [up_ne _ _ c, up_ne _ _ c, up_ne _ _ c, up_ne _ _ c, up_ne _ _ c, up_ne _ _ c, up_ne _ _ (show 3 * k ≠ 3 * L + 2 by omega), up_ne _ _ (show 3 * k ≠ 3 * L + 1 by omega), up_ne _ _ (show 3 * k ≠ 3 * L by omega), up_ne _ _ (show 3 * k + 1 ≠ 3 * L + 2 by omega), up_ne _ _ (show 3 * k + 1 ≠ 3 * L + 1 by omega), up_ne _ _ (show 3 * k + 1 ≠ 3 * L by omega), up_ne _ _ (show 3 * k + 2 ≠ 3 * L + 2 by omega), up_ne _ _ (show 3 * k + 2 ≠ 3 * L + 1 by omega), up_ne _ _ (show 3 * k + 2 ≠ 3 * L by omega)]
      exact hl k (by omega)
theorem pc_line {kn th sm knots lines : Int} {rims froms tos xs ys zs there isRim isGone start goal line : Nat → Int} (h : RWb kn th rims froms tos sm xs ys zs there knots lines isRim isGone start goal line) (a b x y z : Int) :
    ∃ r r2, m_X10_line kn th froms tos sm xs ys zs there a b x y z = some r ∧ m_X11_line knots lines start goal line a b x y z = some r2 ∧ r.1 = r2.1 ∧ RWb kn r.2.1 rims r.2.2.1 r.2.2.2.1 r.2.2.2.2.1 r.2.2.2.2.2.1 r.2.2.2.2.2.2.1 r.2.2.2.2.2.2.2.1 r.2.2.2.2.2.2.2.2 knots r2.2.1 isRim isGone r2.2.2.1 r2.2.2.2.1 r2.2.2.2.2 := by
  have h0 := h
  obtain ⟨K, L, rfl, rfl, hK, rfl, rfl, hL, rfl, rfl, rfl, hth, hl, hg⟩ := h
  have t74 : m_X11_line_74 (L : Int) froms tos line a b x y z = some (-1, (L : Int), froms, tos, line) := by rw [m_X11_line_74, m_X11_line_75, if_pos rfl]
  have bad : ∀ (e1 : m_X9_newLine (K : Int) th froms tos (L : Int) xs ys zs there a b x y z = some (-1, th, froms, tos, (L : Int), xs, ys, zs, there)) (e2 : m_X11_line_0 (K : Int) (L : Int) froms tos line a b x y z = some (-1, (L : Int), froms, tos, line)), ∃ r r2, m_X10_line (K : Int) th froms tos (L : Int) xs ys zs there a b x y z = some r ∧ m_X11_line (K : Int) (L : Int) froms tos line a b x y z = some r2 ∧ r.1 = r2.1 ∧ RWb (K : Int) r.2.1 rims r.2.2.1 r.2.2.2.1 r.2.2.2.2.1 r.2.2.2.2.2.1 r.2.2.2.2.2.2.1 r.2.2.2.2.2.2.2.1 r.2.2.2.2.2.2.2.2 (K : Int) r2.2.1 rims isGone r2.2.2.1 r2.2.2.2.1 r2.2.2.2.2 := by
    intro e1 e2
    rw [m_X10_line, m_X10_line_0, e1, bind_s, m_X11_line, e2]
    exact ⟨_, _, rfl, rfl, rfl, h0⟩
  by_cases c0 : L = 120
  · have e2 : m_X11_line_0 (K : Int) (L : Int) froms tos line a b x y z = some (-1, (L : Int), froms, tos, line) := by
      have t70 : m_X11_line_70 (L : Int) froms tos line a b x y z = some (-1, (L : Int), froms, tos, line) := by rw [m_X11_line_70, m_X11_line_75, if_neg ne10, if_pos (by omega)]
      rw [m_X11_line_0, t74, t70, ite_self, ite_self, ite_self]
      by_cases d1 : 0 ≤ a ∧ a < K
      · rw [isKnotm1 hK d1, bind_s, if_neg ne10]
        by_cases d2 : 0 ≤ b ∧ b < K
        · rw [isKnotm1 hK d2, bind_s, if_neg ne10]
          by_cases d3 : a = b
          · rw [if_pos d3]
          · rw [if_neg d3]
            by_cases d4 : -99 ≤ x ∧ x ≤ 99
            · rw [i1 d4.1 d4.2, bind_s, if_neg ne10]
              by_cases d5 : -99 ≤ y ∧ y ≤ 99
              · rw [i1 d5.1 d5.2, bind_s, if_neg ne10]
                by_cases d6 : -99 ≤ z ∧ z ≤ 99
                · rw [i1 d6.1 d6.2, bind_s, if_neg ne10]
                · rw [i0 d6, bind_s, if_pos rfl]
              · rw [i0 d5, bind_s, if_pos rfl]
            · rw [i0 d4, bind_s, if_pos rfl]
        · rw [isKnotm0 hK d2, bind_s, if_pos rfl]
      · rw [isKnotm0 hK d1, bind_s, if_pos rfl]
    exact bad (by rw [m_X9_newLine, m_X9_newLine_0, m_X8_isFull, m_X8_isFull_0, if_neg (by omega), bind_s, if_neg ne10]) e2
  · have hf : m_X8_isFull 120 (L : Int) = some 0 := by rw [m_X8_isFull, m_X8_isFull_0, if_pos (by omega)]
    by_cases d1 : 0 ≤ a ∧ a < K
    · by_cases d2 : 0 ≤ b ∧ b < K
      · by_cases d3 : a = b
        · exact bad (by rw [m_X9_newLine, m_X9_newLine_0, hf, bind_s, if_pos rfl, isKnotc1 hK d1, bind_s, if_neg ne10, isKnotc1 hK d2, bind_s, if_neg ne10, if_pos d3]) (by rw [m_X11_line_0, isKnotm1 hK d1, bind_s, if_neg ne10, isKnotm1 hK d2, bind_s, if_neg ne10, if_pos d3, t74])
        · by_cases d4 : -99 ≤ x ∧ x ≤ 99
          · by_cases d5 : -99 ≤ y ∧ y ≤ 99
            · by_cases d6 : -99 ≤ z ∧ z ≤ 99
              · by_cases d7 : x = 0 ∧ y = 0 ∧ z = 0
                · exact bad (by rw [m_X9_newLine, m_X9_newLine_0, hf, bind_s, if_pos rfl, isKnotc1 hK d1, bind_s, if_neg ne10, isKnotc1 hK d2, bind_s, if_neg ne10, if_neg d3, isStepPart1 d4, bind_s, if_neg ne10, isStepPart1 d5, bind_s, if_neg ne10, isStepPart1 d6, bind_s, if_neg ne10, if_pos d7.1, if_pos d7.2.1, if_pos d7.2.2]) (by rw [m_X11_line_0, isKnotm1 hK d1, bind_s, if_neg ne10, isKnotm1 hK d2, bind_s, if_neg ne10, if_neg d3, i1 d4.1 d4.2, bind_s, if_neg ne10, i1 d5.1 d5.2, bind_s, if_neg ne10, i1 d6.1 d6.2, bind_s, if_neg ne10, if_pos d7.1, if_pos d7.2.1, if_pos d7.2.2, t74])
                · obtain ⟨r, r2, q1, q2, q3, q4⟩ := q_newLine h0 (by omega) d1 d2 d3 ⟨d4, d5, d6⟩ d7
                  have e2 : m_X11_line_0 (K : Int) (L : Int) froms tos line a b x y z = some r2 := by
                    have t70 : m_X11_line_70 (L : Int) froms tos line a b x y z = some r2 := by rw [m_X11_line_70, m_X11_line_75, if_neg ne10, if_neg (by omega), q2, bind_s]
                    rw [m_X11_line_0, isKnotm1 hK d1, bind_s, if_neg ne10, isKnotm1 hK d2, bind_s, if_neg ne10, if_neg d3, i1 d4.1 d4.2, bind_s, if_neg ne10, i1 d5.1 d5.2, bind_s, if_neg ne10, i1 d6.1 d6.2, bind_s, if_neg ne10, t70]
                    by_cases c1 : x = 0
                    · rw [if_pos c1]
                      by_cases c2 : y = 0
                      · rw [if_pos c2, if_neg (fun c3 => d7 ⟨c1, c2, c3⟩)]
                      · rw [if_neg c2]
                    · rw [if_neg c1]
                  rw [m_X10_line, m_X10_line_0, q1, bind_s, m_X11_line, e2]
                  exact ⟨_, _, rfl, rfl, q3, q4⟩
              · exact bad (by rw [m_X9_newLine, m_X9_newLine_0, hf, bind_s, if_pos rfl, isKnotc1 hK d1, bind_s, if_neg ne10, isKnotc1 hK d2, bind_s, if_neg ne10, if_neg d3, isStepPart1 d4, bind_s, if_neg ne10, isStepPart1 d5, bind_s, if_neg ne10, isStepPart0 d6, bind_s, if_pos rfl]) (by rw [m_X11_line_0, isKnotm1 hK d1, bind_s, if_neg ne10, isKnotm1 hK d2, bind_s, if_neg ne10, if_neg d3, i1 d4.1 d4.2, bind_s, if_neg ne10, i1 d5.1 d5.2, bind_s, if_neg ne10, i0 d6, bind_s, if_pos rfl, t74])
            · exact bad (by rw [m_X9_newLine, m_X9_newLine_0, hf, bind_s, if_pos rfl, isKnotc1 hK d1, bind_s, if_neg ne10, isKnotc1 hK d2, bind_s, if_neg ne10, if_neg d3, isStepPart1 d4, bind_s, if_neg ne10, isStepPart0 d5, bind_s, if_pos rfl]) (by rw [m_X11_line_0, isKnotm1 hK d1, bind_s, if_neg ne10, isKnotm1 hK d2, bind_s, if_neg ne10, if_neg d3, i1 d4.1 d4.2, bind_s, if_neg ne10, i0 d5, bind_s, if_pos rfl, t74])
          · exact bad (by rw [m_X9_newLine, m_X9_newLine_0, hf, bind_s, if_pos rfl, isKnotc1 hK d1, bind_s, if_neg ne10, isKnotc1 hK d2, bind_s, if_neg ne10, if_neg d3, isStepPart0 d4, bind_s, if_pos rfl]) (by rw [m_X11_line_0, isKnotm1 hK d1, bind_s, if_neg ne10, isKnotm1 hK d2, bind_s, if_neg ne10, if_neg d3, i0 d4, bind_s, if_pos rfl, t74])
      · exact bad (by rw [m_X9_newLine, m_X9_newLine_0, hf, bind_s, if_pos rfl, isKnotc1 hK d1, bind_s, if_neg ne10, isKnotc0 hK d2, bind_s, if_pos rfl]) (by rw [m_X11_line_0, isKnotm1 hK d1, bind_s, if_neg ne10, isKnotm0 hK d2, bind_s, if_pos rfl, t74])
    · exact bad (by rw [m_X9_newLine, m_X9_newLine_0, hf, bind_s, if_pos rfl, isKnotc0 hK d1, bind_s, if_pos rfl]) (by rw [m_X11_line_0, isKnotm0 hK d1, bind_s, if_pos rfl, t74])

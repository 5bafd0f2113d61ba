
/-! ===== PURE: read, bytes and numbers ===== -/
/-- what stands at p, behind the end -1 -/
def bt (n : Nat) (f : Nat → Int) (p : Nat) : Int := if p < n then f p else -1
theorem q_byteAt {n p : Nat} {bytes : Nat → Int} (hn : n ≤ 400) : m_X5_byteAt (n : Int) bytes (p : Int) = some (bt n bytes p) := by
  rw [m_X5_byteAt, m_X5_byteAt_0, if_neg (by omega)]
  unfold bt
  by_cases c : p < n
  · rw [if_neg (by omega), if_pos c, chkB (by omega) (by omega), tn]
  · rw [if_pos (by omega), if_neg c]
theorem q_sign {n p : Nat} {tape : Nat → Int} (hn : n ≤ 400) : m_X11_sign (n : Int) (p : Int) tape = some (bt n tape p) := by
  rw [m_X11_sign, m_X11_sign_0]
  unfold bt
  by_cases c : p < n
  · rw [if_neg (by omega), if_pos c, chkB (by omega) (by omega), tn]
  · rw [if_pos (by omega), if_neg c]
theorem bt_eq {n : Nat} {bytes tape : Nat → Int} (ht : tpR n bytes tape) (p : Nat) : (bt n bytes p = bt n tape p ∧ -1 ≤ bt n bytes p ∧ bt n bytes p ≤ 127 ∧ (bt n bytes p = -1 ↔ n ≤ p)) ∨ (128 ≤ bt n bytes p ∧ bt n tape p < 0 ∧ p < n) := by
  unfold bt
  by_cases c : p < n
  · rw [if_pos c, if_pos c]
    obtain ⟨h1, h2, h3⟩ := ht p c
    rw [h3]
    unfold sb
    by_cases c2 : bytes p < 128
    · rw [if_pos c2]; left; omega
    · rw [if_neg c2]; right; omega
  · rw [if_neg c, if_neg c]; left; omega
theorem q_isDigit5 {v : Int} : m_X5_isDigit v = some (if 48 ≤ v ∧ v ≤ 57 then 1 else 0) := by
  rw [m_X5_isDigit, m_X5_isDigit_0]
  by_cases c : v < 48
  · rw [if_pos c, if_neg (by omega)]
  · rw [if_neg c]
    by_cases c2 : 57 < v
    · rw [if_pos c2, if_neg (by omega)]
    · rw [if_neg c2, if_pos (by omega)]
theorem q_isDigit11 {v : Int} : m_X11_isDigit v = some (if 48 ≤ v ∧ v ≤ 57 then 1 else 0) := by
  rw [m_X11_isDigit, m_X11_isDigit_0]
  by_cases c : v < 48
  · rw [if_pos c, if_neg (by omega)]
  · rw [if_neg c]
    by_cases c2 : 57 < v
    · rw [if_pos c2, if_neg (by omega)]
    · rw [if_neg c2, if_pos (by omega)]
theorem q_refuse0 {p c : Int} (h : 0 ≤ p ∧ p ≤ 400) (hc : 0 ≤ c ∧ c ≤ 4) : m_X5_refuse 0 p c = some (1 + 8 * p + c) := by
  rw [m_X5_refuse, m_X5_refuse_0, if_pos rfl, chkI (by omega) (by omega)]
theorem q_refuse1 {f p c : Int} (h : f ≠ 0) : m_X5_refuse f p c = some f := by
  rw [m_X5_refuse, m_X5_refuse_0, if_neg h]
theorem q_fails0 {p c : Int} (h : 0 ≤ p ∧ p ≤ 400) (hc : 0 ≤ c ∧ c ≤ 4) : m_X11_fails 0 c p = some (1 + 8 * p + c) := by
  rw [m_X11_fails, m_X11_fails_0, if_pos rfl, chkI (by omega) (by omega), m_X11_fails_23]
theorem q_fails1 {f p c : Int} (h : f ≠ 0) : m_X11_fails f c p = some f := by
  rw [m_X11_fails, m_X11_fails_0, if_neg h, m_X11_fails_23]
theorem q_skip {n p : Nat} {bytes tape : Nat → Int} (hn : n ≤ 400) (ht : tpR n bytes tape) (hp : p ≤ 1000) :
    ∃ p2 : Nat, p ≤ p2 ∧ (p ≤ n → p2 ≤ n) ∧ (n ≤ p → p2 = p) ∧ m_X5_skipBlanks (n : Int) (p : Int) bytes = some (p2 : Int) ∧ m_X11_blanks (n : Int) (p : Int) tape = some (p2 : Int) := by
  rw [m_X5_skipBlanks, m_X11_blanks]
  have stop : ∀ F (i : Nat), n ≤ i → m_X5_skipBlanks_0 (n : Int) bytes (fun t_place' => m_X5_skipBlanks_37 t_place') (F + 1) (i : Int) = some (i : Int) ∧ m_X11_blanks_0 (n : Int) tape (fun t_p' => m_X11_blanks_22 t_p') (F + 1) (i : Int) = some (i : Int) := fun F i hi => by
    rw [m_X5_skipBlanks_0, if_pos (by omega), m_X11_blanks_0, q_sign hn, bind_s]
    unfold bt
    rw [if_neg (show ¬ i < n by omega), if_neg (by decide)]
    exact ⟨rfl, rfl⟩
  by_cases c : p < n
  · exact loop_p n (fun F i => p ≤ i → ∃ p2 : Nat, p ≤ p2 ∧ (p ≤ n → p2 ≤ n) ∧ (n ≤ p → p2 = p) ∧ m_X5_skipBlanks_0 (n : Int) bytes (fun t_place' => m_X5_skipBlanks_37 t_place') F (i : Int) = some (p2 : Int) ∧ m_X11_blanks_0 (n : Int) tape (fun t_p' => m_X11_blanks_22 t_p') F (i : Int) = some (p2 : Int)) (fun F hi => ⟨n, hi, fun _ => Nat.le_refl _, fun h => by omega, (stop F n (Nat.le_refl _)).1, (stop F n (Nat.le_refl _)).2⟩) (fun F i hi ih _ hpi => by
      rw [m_X5_skipBlanks_0, if_neg (by omega), q_byteAt hn, bind_s, m_X11_blanks_0, q_sign hn, bind_s]
      have h := bt_eq ht i
      by_cases c2 : bt n bytes i = 32
      · rw [if_pos c2, if_pos (show bt n tape i = 32 by omega), chkI (by omega) (by omega), chkI (by omega) (by omega)]
        exact ih (by omega)
      · rw [if_neg c2, if_neg (show ¬ bt n tape i = 32 by omega)]
        exact ⟨i, hpi, fun _ => by omega, fun h => by omega, rfl, rfl⟩) (n - p) FU p (by omega) (by unfold FU; omega) (Nat.le_refl _)
  · obtain ⟨F, hF⟩ : ∃ F, FU = F + 1 := ⟨_, rfl⟩
    rw [hF]
    exact ⟨p, Nat.le_refl _, fun h => h, fun _ => rfl, (stop F p (by omega)).1, (stop F p (by omega)).2⟩
theorem q_digits {n p : Nat} {bytes tape : Nat → Int} (hn : n ≤ 400) (hp : p ≤ n) (ht : tpR n bytes tape) (k173 k153 : (Int → Int → Int → Option (Int × Int × Int × Int))) :
    ∃ (p2 c2 : Nat) (v : Int), p2 ≤ n ∧ c2 ≤ n ∧ 0 ≤ v ∧ v ≤ 9999 ∧ m_X5_number_105 (n : Int) bytes k173 FU (p : Int) 0 0 = k173 (p2 : Int) v (c2 : Int) ∧ m_X11_number_101 (n : Int) tape k153 FU (p : Int) 0 0 = k153 (p2 : Int) (c2 : Int) v := by
  exact loop_p n (fun F i => ∀ (c : Nat) (v : Int), c ≤ i → 0 ≤ v → v ≤ 9999 → (c = 0 → v = 0) → (c ≤ 1 → v ≤ 9) → (c ≤ 2 → v ≤ 99) → (c ≤ 3 → v ≤ 999) → ∃ (p2 c2 : Nat) (v2 : Int), p2 ≤ n ∧ c2 ≤ n ∧ 0 ≤ v2 ∧ v2 ≤ 9999 ∧ m_X5_number_105 (n : Int) bytes k173 F (i : Int) v (c : Int) = k173 (p2 : Int) v2 (c2 : Int) ∧ m_X11_number_101 (n : Int) tape k153 F (i : Int) (c : Int) v = k153 (p2 : Int) (c2 : Int) v2) (fun F c v h1 h2 h3 _ _ _ _ => by
    refine ⟨n, c, v, Nat.le_refl _, h1, h2, h3, ?_, ?_⟩
    · rw [m_X5_number_105, q_byteAt hn, bind_s, q_isDigit5, bind_s]
      unfold bt
      rw [if_neg (show ¬ n < n by omega), if_neg (show ¬ ((48 : Int) ≤ -1 ∧ (-1 : Int) ≤ 57) by decide), if_pos rfl]
    · rw [m_X11_number_101, q_sign hn, bind_s, q_isDigit11, bind_s]
      unfold bt
      rw [if_neg (show ¬ n < n by omega), if_neg (show ¬ ((48 : Int) ≤ -1 ∧ (-1 : Int) ≤ 57) by decide), if_pos rfl]) (fun F i hi ih _ c v h1 h2 h3 h4 h5 h6 h7 => by
    have h := bt_eq ht i
    rw [m_X5_number_105, q_byteAt hn, m_X11_number_101, q_sign hn]
    simp only [bind_s, q_isDigit5, q_isDigit11]
    by_cases cd : 48 ≤ bt n bytes i ∧ bt n bytes i ≤ 57
    · have ed : bt n tape i = bt n bytes i := by omega
      rw [ed, if_pos cd, if_neg ne10, if_neg ne10, if_neg (show ¬ (400 : Int) ≤ (c : Int) by omega)]
      by_cases c4 : 4 ≤ c
      · rw [if_pos (show (4 : Int) ≤ (c : Int) by omega), if_pos (show (4 : Int) ≤ (c : Int) by omega), m_X5_number_155, m_X11_number_135, chkI (by omega) (by omega), chkI (by omega) (by omega), chkI (by omega) (by omega), chkI (by omega) (by omega)]
        exact ih (c + 1) v (by omega) h2 h3 (by omega) (by omega) (by omega) (by omega)
      · rw [if_neg (show ¬ (4 : Int) ≤ (c : Int) by omega), if_neg (show ¬ (4 : Int) ≤ (c : Int) by omega), chkI (by omega) (by omega), chkI (by omega) (by omega), m_X5_number_155, m_X11_number_135, chkI (by omega) (by omega), chkI (by omega) (by omega), chkI (by omega) (by omega), chkI (by omega) (by omega), Int.mul_comm 10 v]
        exact ih (c + 1) (v * 10 + bt n bytes i - 48) (by omega) (by omega) (by omega) (by omega) (by omega) (by omega) (by omega)
    · rw [if_neg cd, if_pos rfl, if_neg (show ¬ (48 ≤ bt n tape i ∧ bt n tape i ≤ 57) by omega), if_pos rfl]
      exact ⟨i, c, v, by omega, by omega, h2, h3, rfl, rfl⟩) (n - p) FU p (by omega) (by unfold FU; omega) 0 0 (by omega) (by omega) (by omega) (by omega) (by omega) (by omega) (by omega)
theorem q_number {n p q : Nat} {bytes tape : Nat → Int} {f np fr a b : Int} (hn : n ≤ 400) (ht : tpR n bytes tape) (hp : p ≤ n) (hq : q ≤ n) (hf : 0 ≤ f ∧ f ≤ 4000) (hpq : f = 0 → p = q) :
    ∃ (v w f2 np2 fr2 : Int) (p2 q2 : Nat), m_X5_number (n : Int) (p : Int) f np bytes a b = some (v, (p2 : Int), f2, np2) ∧ m_X11_number (n : Int) (q : Int) f fr tape a b = some (w, (q2 : Int), f2, fr2) ∧ p2 ≤ n ∧ q2 ≤ n ∧ 0 ≤ f2 ∧ f2 ≤ 4000 ∧ (f2 = 0 → f = 0 ∧ w = v ∧ q2 = p2 ∧ fr2 = np2 ∧ 0 ≤ np2 ∧ np2 ≤ 400 ∧ a ≤ v ∧ v ≤ b) ∧ (f ≠ 0 → f2 = f) ∧ (-9999 ≤ v ∧ v ≤ 9999) ∧ (-9999 ≤ w ∧ w ≤ 9999) := by
  obtain ⟨p2, s1, s2, s3, s4, s5⟩ := q_skip hn ht (show p ≤ 1000 by omega)
  rw [m_X5_number, m_X5_number_0, q_byteAt hn, bind_s, m_X11_number, m_X11_number_0]
  by_cases c0 : f = 0
  · obtain rfl := hpq c0
    subst c0
    have h := bt_eq ht p
    rw [if_pos (Int.le_refl 0), q_sign hn, bind_s]
    by_cases c1 : bt n bytes p = 32
    · have h2 := bt_eq ht p2
      rw [if_pos c1, if_pos (show bt n tape p = 32 by omega), m_X5_number_22, s4, s5, bind_s, bind_s, if_pos rfl, q_byteAt hn, q_sign hn, bind_s, bind_s]
      -- the sign before it
      have tail : ∀ (g : Nat) (sg : Int), g ≤ n → (sg = 0 ∨ sg = 1) → ∃ (v w f2 np2 fr2 : Int) (p3 q3 : Nat), m_X5_number_76 (n : Int) (g : Int) 0 (p2 : Int) bytes a b sg = some (v, (p3 : Int), f2, np2) ∧ ((m_X11_sign (n : Int) (g : Int) tape).bind (fun y5 => (m_X11_isDigit y5).bind (fun y6 => if y6 = 0 then ((m_X11_fails 0 0 (g : Int)).bind (fun y7 => some (0, (g : Int), y7, (p2 : Int)))) else (m_X11_number_101 (n : Int) tape (fun t_p' v4' v5' => m_X11_number_153 t_p' 0 (p2 : Int) a b sg v4' v5') FU (g : Int) 0 0)))) = some (w, (q3 : Int), f2, fr2) ∧ p3 ≤ n ∧ q3 ≤ n ∧ 0 ≤ f2 ∧ f2 ≤ 4000 ∧ (f2 = 0 → (0 : Int) = 0 ∧ w = v ∧ q3 = p3 ∧ fr2 = np2 ∧ 0 ≤ np2 ∧ np2 ≤ 400 ∧ a ≤ v ∧ v ≤ b) ∧ ((0 : Int) ≠ 0 → f2 = 0) ∧ (-9999 ≤ v ∧ v ≤ 9999) ∧ (-9999 ≤ w ∧ w ≤ 9999) := fun g sg hg hsg => by
        have hd := bt_eq ht g
        have hs2 := s2 hp
        rw [m_X5_number_76, q_byteAt hn, bind_s, q_isDigit5, bind_s, q_sign hn, bind_s, q_isDigit11, bind_s]
        by_cases cd : 48 ≤ bt n bytes g ∧ bt n bytes g ≤ 57
        · rw [if_pos cd, if_neg ne10, if_pos (show 48 ≤ bt n tape g ∧ bt n tape g ≤ 57 by omega), if_neg ne10, m_X5_number_99]
          obtain ⟨p4, c4, v, d1, d2, d3, d4, d5, d6⟩ := q_digits hn hg ht (fun t_place' v4' v5' => m_X5_number_173 t_place' 0 (p2 : Int) a b sg v4' v5') (fun t_p' v4' v5' => m_X11_number_153 t_p' 0 (p2 : Int) a b sg v4' v5')
          rw [d5, d6]
          have fin : ∀ u : Int, -9999 ≤ u ∧ u ≤ 9999 → ∃ (v w f2 np2 fr2 : Int) (p3 q3 : Nat), m_X5_number_185 (p4 : Int) 0 (p2 : Int) a b (c4 : Int) u = some (v, (p3 : Int), f2, np2) ∧ m_X11_number_165 (p4 : Int) 0 (p2 : Int) a b (c4 : Int) u = some (w, (q3 : Int), f2, fr2) ∧ p3 ≤ n ∧ q3 ≤ n ∧ 0 ≤ f2 ∧ f2 ≤ 4000 ∧ (f2 = 0 → (0 : Int) = 0 ∧ w = v ∧ q3 = p3 ∧ fr2 = np2 ∧ 0 ≤ np2 ∧ np2 ≤ 400 ∧ a ≤ v ∧ v ≤ b) ∧ ((0 : Int) ≠ 0 → f2 = 0) ∧ (-9999 ≤ v ∧ v ≤ 9999) ∧ (-9999 ≤ w ∧ w ≤ 9999) := fun u hu => by
            rw [m_X5_number_185, m_X11_number_165]
            by_cases c5 : 4 < c4
            · rw [if_pos (show (4 : Int) < (c4 : Int) by omega), if_pos (show (4 : Int) < (c4 : Int) by omega), m_X5_number_203, m_X11_number_183, q_refuse0 (by omega) (by decide), q_fails0 (by omega) (by decide), bind_s]
              exact ⟨_, _, _, _, _, _, _, rfl, rfl, d1, d1, by omega, by omega, fun h => by omega, fun h => absurd rfl h, hu, hu⟩
            · rw [if_neg (show ¬ (4 : Int) < (c4 : Int) by omega), if_neg (show ¬ (4 : Int) < (c4 : Int) by omega)]
              by_cases c6 : a ≤ u ∧ u ≤ b
              · rw [w1 c6.1 c6.2, i1 c6.1 c6.2, bind_s, bind_s, if_neg ne10, if_neg ne10]
                exact ⟨_, _, _, _, _, _, _, rfl, rfl, d1, d1, by omega, by omega, fun h => ⟨rfl, rfl, rfl, rfl, by omega, by omega, c6.1, c6.2⟩, fun h => absurd rfl h, hu, hu⟩
              · rw [w0 c6, i0 c6, bind_s, bind_s, if_pos rfl, if_pos rfl, m_X5_number_203, m_X11_number_183, q_refuse0 (by omega) (by decide), q_fails0 (by omega) (by decide), bind_s]
                exact ⟨_, _, _, _, _, _, _, rfl, rfl, d1, d1, by omega, by omega, fun h => by omega, fun h => absurd rfl h, hu, hu⟩
          rw [m_X5_number_173, m_X11_number_153]
          by_cases c7 : sg = 0
          · rw [if_pos c7, if_pos c7]
            exact fin v (by omega)
          · rw [if_neg c7, if_neg c7, chkI (by omega) (by omega), chkI (by omega) (by omega)]
            exact fin (-v) (by omega)
        · rw [if_neg cd, if_pos rfl, if_neg (show ¬ (48 ≤ bt n tape g ∧ bt n tape g ≤ 57) by omega), if_pos rfl, q_refuse0 (by omega) (by decide), bind_s, q_fails0 (by omega) (by decide), bind_s, m_X5_number_99]
          obtain ⟨p4, c4, v, d1, d2, d3, d4, d5, d6⟩ := q_digits hn hg ht (fun t_place' v4' v5' => m_X5_number_173 t_place' (1 + 8 * (g : Int) + 0) (p2 : Int) a b sg v4' v5') (fun t_p' v4' v5' => m_X11_number_153 t_p' 0 (p2 : Int) a b sg v4' v5')
          have hz : (1 + 8 * (g : Int) + 0) ≠ 0 := by omega
          rw [d5]
          have fin : ∀ u : Int, -9999 ≤ u ∧ u ≤ 9999 → ∃ v : Int, (-9999 ≤ v ∧ v ≤ 9999) ∧ m_X5_number_185 (p4 : Int) (1 + 8 * (g : Int) + 0) (p2 : Int) a b (c4 : Int) u = some (v, (p4 : Int), 1 + 8 * (g : Int) + 0, (p2 : Int)) := fun u hu => by
            rw [m_X5_number_185]
            by_cases c5 : (4 : Int) < (c4 : Int)
            · rw [if_pos c5, m_X5_number_203, q_refuse1 hz, bind_s]; exact ⟨u, hu, rfl⟩
            · rw [if_neg c5]
              by_cases c6 : a ≤ u ∧ u ≤ b
              · rw [w1 c6.1 c6.2, bind_s, if_neg ne10]; exact ⟨u, hu, rfl⟩
              · rw [w0 c6, bind_s, if_pos rfl, m_X5_number_203, q_refuse1 hz, bind_s]; exact ⟨u, hu, rfl⟩
          rw [m_X5_number_173]
          by_cases c7 : sg = 0
          · obtain ⟨v', x1, x2⟩ := fin v (by omega)
            rw [if_pos c7, x2]
            exact ⟨_, _, _, _, _, _, _, rfl, rfl, d1, hg, by omega, by omega, fun h => by omega, fun h => absurd rfl h, x1, by omega⟩
          · obtain ⟨v', x1, x2⟩ := fin (-v) (by omega)
            rw [if_neg c7, chkI (by omega) (by omega), x2]
            exact ⟨_, _, _, _, _, _, _, rfl, rfl, d1, hg, by omega, by omega, fun h => by omega, fun h => absurd rfl h, x1, by omega⟩
      by_cases c2 : bt n bytes p2 = 45
      · have hlt : p2 < n := by
          rcases h2 with ⟨x1, x2, x3, x4⟩ | ⟨x1, x2, x3⟩
          · by_cases c3 : n ≤ p2
            · have := x4.mpr c3; omega
            · omega
          · exact x3
        rw [if_pos c2, if_pos (show bt n tape p2 = 45 by omega), m_X5_number_61, if_neg ne10, chkI (by omega) (by omega), m_X11_number_55, if_neg ne10, m_X11_number_70, chkI (by omega) (by omega)]
        exact tail (p2 + 1) 1 (by omega) (Or.inr rfl)
      · rw [if_neg c2, if_neg (show ¬ bt n tape p2 = 45 by omega), m_X5_number_61, if_pos rfl, m_X11_number_55, if_pos rfl, m_X11_number_70, chkI (by omega) (by omega), Int.add_zero]
        exact tail p2 0 (s2 hp) (Or.inl rfl)
    · rw [if_neg c1, if_neg (show ¬ bt n tape p = 32 by omega), q_refuse0 (by omega) (by decide), bind_s, m_X5_number_22, s4, bind_s, if_neg (by omega), q_fails0 (by omega) (by decide), bind_s]
      exact ⟨_, _, _, _, _, _, _, rfl, rfl, s2 hp, hp, by omega, by omega, fun h => by omega, fun h => absurd rfl h, by omega, by omega⟩
  · rw [if_neg (show ¬ f ≤ 0 by omega), q_refuse1 c0, bind_s, m_X5_number_22, s4, bind_s, if_neg c0]
    refine ⟨0, 0, f, np, fr, p2, q, by split <;> rfl, rfl, s2 hp, hq, hf.1, hf.2, fun h => absurd h c0, fun _ => rfl, by omega, by omega⟩

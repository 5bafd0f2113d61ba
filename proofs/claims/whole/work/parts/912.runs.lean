
/-! ===== PURE: ticks one behind another ===== -/
/-- at most n ticks: how many brought anything, cells, sums -/
def rn (push H sh : Nat → Int) (q : Int) : Nat → (Nat → Int) × (Nat → Int) → Nat × (Nat → Int) × (Nat → Int)
  | 0, s => (0, s)
  | n + 1, s => if (tk push H sh q s).2.2 = 0 then (0, (tk push H sh q s).1, (tk push H sh q s).2.1) else ((rn push H sh q n ((tk push H sh q s).1, (tk push H sh q s).2.1)).1 + 1, (rn push H sh q n ((tk push H sh q s).1, (tk push H sh q s).2.1)).2)
theorem rW_le {B C : Int} {cur S : Nat → Int} (h : rW B cur S) (hC : B ≤ C) : rW C cur S := by
  obtain ⟨r1, r2, r3, r4, s0, s1, s2, s3, s4, s5⟩ := h
  refine ⟨r1, r2, r3, r4, ?_, ?_, ?_, ?_, ?_, ?_⟩ <;> omega
theorem rn_ok {push H sh : Nat → Int} {q : Int} (h1 : -9999 ≤ q) (h2 : q ≤ 9999) : ∀ (n : Nat) {B : Int} {cur S : Nat → Int}, rW B cur S → rW (B + 30 * n) (rn push H sh q n (cur, S)).2.1 (rn push H sh q n (cur, S)).2.2 ∧ (rn push H sh q n (cur, S)).1 ≤ n := by
  intro n
  induction n with
  | zero => intro B cur S h; exact ⟨rW_le h (by omega), Nat.le_refl _⟩
  | succ n ih =>
    intro B cur S h
    obtain ⟨k1, k2⟩ := tk_ok (push := push) (H := H) (sh := sh) h h1 h2
    rw [rn]
    split
    · exact ⟨rW_le k1 (by omega), by dsimp only; omega⟩
    · obtain ⟨i1, i2⟩ := ih k1
      exact ⟨rW_le i1 (by omega), by dsimp only; omega⟩
/-- a ground that is well: reach, pushes, the pull, holds, sources -/
def gW (push H lows highs : Nat → Int) (R : Nat) (side : Int) : Prop := R ≤ 20 ∧ (∀ d, R < d → d ≤ 20 → push d = 0) ∧ pW push ∧ (∀ k, k < 100 → (if side = 0 then lows k else highs k) = H k ∧ 0 ≤ H k ∧ H k ≤ 9999)
theorem q_X6_runOn {push H sh sH so cur S stood felt lows highs : Nat → Int} {side q B m : Int} {R T : Nat} (hw : rW B cur S) (hB : B + 30 * T ≤ 19000000) (hg : gW push H lows highs R side) (h1 : -9999 ≤ q) (h2 : q ≤ 9999) (ho : sO sh sH so m) (hT : T ≤ 200) :
    ∃ st ft, m_X6_runOn (cnt cur 100) (S 0) (S 5) (S 1) (S 2) (S 3) (S 4) cur stood felt m (R : Int) push lows highs sH so q (T : Int) side = some (((rn push H sh q T (cur, S)).1 : Int), cnt (rn push H sh q T (cur, S)).2.1 100, (rn push H sh q T (cur, S)).2.2 0, (rn push H sh q T (cur, S)).2.2 5, (rn push H sh q T (cur, S)).2.2 1, (rn push H sh q T (cur, S)).2.2 2, (rn push H sh q T (cur, S)).2.2 3, (rn push H sh q T (cur, S)).2.2 4, (rn push H sh q T (cur, S)).2.1, st, ft) := by
  obtain ⟨g1, g2, g3, g4⟩ := hg
  have hh : ∀ k, k < 100 → (if side = 0 then lows k else highs k) + 0 = H k ∧ 0 ≤ H k ∧ H k ≤ 2000009999 := fun k hk => by
    have := g4 k hk; refine ⟨by rw [Int.add_zero]; exact this.1, this.2.1, by omega⟩
  rw [m_X6_runOn, m_X6_runOn_0]
  have key := loop_p T (fun F i => ∀ (B : Int) (cur S st0 ft0 : Nat → Int), rW B cur S → B + 30 * ((T - i : Nat) : Int) ≤ 19000000 → ∃ st ft, m_X6_runOn_3 m (R : Int) push lows highs sH so q (T : Int) side (fun t_flaws' t_slipped' t_gone' t_work' t_out' t_lost' t_came' t_signs' t_stood' t_felt' v5' => m_X6_runOn_30 t_flaws' t_slipped' t_gone' t_work' t_out' t_lost' t_came' t_signs' t_stood' t_felt' (T : Int)) (fun t_flaws' t_slipped' t_gone' t_work' t_out' t_lost' t_came' t_signs' t_stood' t_felt' v5' => m_X6_runOn_21 t_flaws' t_slipped' t_gone' t_work' t_out' t_lost' t_came' t_signs' t_stood' t_felt' v5') F (cnt cur 100) (S 0) (S 5) (S 1) (S 2) (S 3) (S 4) cur st0 ft0 (i : Int) = some ((i : Int) + ((rn push H sh q (T - i) (cur, S)).1 : Int), cnt (rn push H sh q (T - i) (cur, S)).2.1 100, (rn push H sh q (T - i) (cur, S)).2.2 0, (rn push H sh q (T - i) (cur, S)).2.2 5, (rn push H sh q (T - i) (cur, S)).2.2 1, (rn push H sh q (T - i) (cur, S)).2.2 2, (rn push H sh q (T - i) (cur, S)).2.2 3, (rn push H sh q (T - i) (cur, S)).2.2 4, (rn push H sh q (T - i) (cur, S)).2.1, st, ft)) (fun F B cur S st0 ft0 hw hB => ⟨st0, ft0, by
      rw [m_X6_runOn_3, if_pos (by omega), Nat.sub_self]
      show m_X6_runOn_30 _ _ _ _ _ _ _ _ _ _ _ = _
      rw [m_X6_runOn_30]
      congr 2
      split
      · rw [rn]; simp
      · rw [rn]; simp; omega⟩) (fun F i hi ih _ B cur S st0 ft0 hw hB => by
      obtain ⟨st, ft, ht⟩ := q_X6_tick (stood := st0) (felt := ft0) hw (by omega) g1 g2 g3 h1 h2 ⟨by omega, by omega⟩ hh ho
      obtain ⟨k1, k2⟩ := tk_ok (push := push) (H := H) (sh := sh) hw h1 h2
      rw [m_X6_runOn_3, if_neg (by omega), ht, bind_s, show T - i = (T - (i + 1)) + 1 by omega, rn]
      by_cases c : (tk push H sh q (cur, S)).2.2 = 0
      · refine ⟨st, ft, ?_⟩
        rw [if_pos c, if_pos c]
        simp
      · obtain ⟨st', ft', hx⟩ := ih (B + 30) (tk push H sh q (cur, S)).1 (tk push H sh q (cur, S)).2.1 st ft k1 (by omega)
        refine ⟨st', ft', ?_⟩
        rw [if_neg c, if_neg c, chkI (by omega) (by omega)]
        refine hx.trans ?_
        congr 2
        rw [Int.natCast_add, Int.natCast_add]
        omega) T FU 0 (by omega) (by unfold FU; omega) B cur S stood felt hw (by simpa using hB)
  obtain ⟨st, ft, hx⟩ := key
  refine ⟨st, ft, ?_⟩
  rw [Nat.sub_zero] at hx
  refine hx.trans ?_
  congr 2
  simp
theorem q_X11_runs {bl bh side q B : Int} {lo hi sh push cur S was feel : Nat → Int} {T : Nat} (hw : rW B cur S) (hB : B + 30 * T ≤ 19000000) (hp : pW push) (h1 : -9999 ≤ q) (h2 : q ≤ 9999) (hh : ∀ k, k < 100 → 0 ≤ hdM bl bh lo hi side k ∧ hdM bl bh lo hi side k ≤ 9999) (hsh : ∀ j, j < 100 → -1 ≤ sh j ∧ sh j ≤ 9999) (hT : T ≤ 200) :
    ∃ was' feel', m_X11_runs bl bh lo hi sh cur was feel push S q (T : Int) side = some (((rn push (hdM bl bh lo hi side) sh q T (cur, S)).1 : Int), (rn push (hdM bl bh lo hi side) sh q T (cur, S)).2.1, was', feel', (rn push (hdM bl bh lo hi side) sh q T (cur, S)).2.2) := by
  rw [m_X11_runs, m_X11_runs_0]
  have e0 : (fun k => hdM bl bh lo hi side k + 0) = hdM bl bh lo hi side := by funext k; exact Int.add_zero _
  have key := loop_p T (fun F i => ∀ (B : Int) (cur S was feel : Nat → Int), rW B cur S → B + 30 * ((T - i : Nat) : Int) ≤ 19000000 → ∃ was' feel', m_X11_runs_3 bl bh lo hi sh push q (T : Int) side (fun t_cur' t_was' t_feel' t_curSum' v4' => m_X11_runs_25 t_cur' t_was' t_feel' t_curSum' v4') F cur was feel S (i : Int) = some ((i : Int) + ((rn push (hdM bl bh lo hi side) sh q (T - i) (cur, S)).1 : Int), (rn push (hdM bl bh lo hi side) sh q (T - i) (cur, S)).2.1, was', feel', (rn push (hdM bl bh lo hi side) sh q (T - i) (cur, S)).2.2)) (fun F B cur S was feel hw hB => ⟨was, feel, by
      rw [m_X11_runs_3, if_pos (by omega), Nat.sub_self, rn]; simp⟩) (fun F i hi' ih _ B cur S was feel hw hB => by
      obtain ⟨wa, fe, ht⟩ := q_X11_tick (more := 0) (was := was) (feel := feel) hw (by omega) hp h1 h2 ⟨by omega, by omega⟩ hh hsh
      rw [e0] at ht
      obtain ⟨k1, k2⟩ := tk_ok (push := push) (H := hdM bl bh lo hi side) (sh := sh) hw h1 h2
      rw [m_X11_runs_3, if_neg (by omega), ht, bind_s, show T - i = (T - (i + 1)) + 1 by omega, rn]
      by_cases c : (tk push (hdM bl bh lo hi side) sh q (cur, S)).2.2 = 0
      · refine ⟨wa, fe, ?_⟩
        rw [if_pos c, if_pos c]
        simp
      · obtain ⟨wa', fe', hx⟩ := ih (B + 30) (tk push (hdM bl bh lo hi side) sh q (cur, S)).1 (tk push (hdM bl bh lo hi side) sh q (cur, S)).2.1 wa fe k1 (by omega)
        refine ⟨wa', fe', ?_⟩
        rw [if_neg c, if_neg c, chkI (by omega) (by omega)]
        refine hx.trans ?_
        congr 2
        rw [Int.natCast_add, Int.natCast_add]
        omega) T FU 0 (by omega) (by unfold FU; omega) B cur S was feel hw (by simpa using hB)
  obtain ⟨wa, fe, hx⟩ := key
  refine ⟨wa, fe, ?_⟩
  rw [Nat.sub_zero] at hx
  refine hx.trans ?_
  congr 2
  simp

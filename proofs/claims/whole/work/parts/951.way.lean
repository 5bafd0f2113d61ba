
/-! ===== PURE: read, statements ===== -/
/-- an implication that is kept closed -/
def Imp (a b : Prop) : Prop := a → b
theorem Imp.mp {a b : Prop} (h : Imp a b) : a → b := h
def az (a b c : Int) : Prop := a = 0 ∧ b = 0 ∧ c = 0
theorem q_numberI {n p q : Nat} {bytes tape : Nat → Int} {f np fr a b : Int} (hn : n ≤ 400) (ht : tpR n bytes tape) (hp : p ≤ n) (hq : q ≤ n) (hf : 0 ≤ f ∧ f ≤ 4000) (hpq : f = 0 → p = q) :
    ∃ (v w f2 np2 fr2 : Int) (p2 q2 : Nat), m_X5_number (n : Int) (p : Int) f np bytes a b = some (v, (p2 : Int), f2, np2) ∧ m_X11_number (n : Int) (q : Int) f fr tape a b = some (w, (q2 : Int), f2, fr2) ∧ p2 ≤ n ∧ q2 ≤ n ∧ 0 ≤ f2 ∧ f2 ≤ 4000 ∧ Imp (f2 = 0) (f = 0 ∧ v = w ∧ p2 = q2 ∧ np2 = fr2 ∧ 0 ≤ np2 ∧ np2 ≤ 400 ∧ a ≤ v ∧ v ≤ b) ∧ Imp (f ≠ 0) (f2 = f) ∧ (-9999 ≤ v ∧ v ≤ 9999) ∧ (-9999 ≤ w ∧ w ≤ 9999) := by
  obtain ⟨v, w, f2, np2, fr2, p2, q2, h1, h2, h3, h4, h5, h6, h7, h8, h9, h10⟩ := q_number (np := np) (fr := fr) (a := a) (b := b) hn ht hp hq hf hpq
  refine ⟨v, w, f2, np2, fr2, p2, q2, h1, h2, h3, h4, h5, h6, fun h => ?_, h8, h9, h10⟩
  obtain ⟨y1, y2, y3, y4, y5⟩ := h7 h
  exact ⟨y1, y2.symm, y3.symm, y4.symm, y5⟩
theorem q_way {n p s m : Nat} {bytes tape xs ys zs nm nw : Nat → Int} {np fr : Int} (hn : n ≤ 400) (ht : tpR n bytes tape) (hp : p ≤ n) (hs : s ≤ 2) (hm : nm s = (m : Int)) (hmm : m < 16) (hw : RWy (m : Int) xs ys zs (m : Int) nw (48 * s)) :
    ∃ (f2 np2 fr2 many2 : Int) (p2 q2 : Nat) (xs2 ys2 zs2 nw2 : Nat → Int), m_X5_readWay 16 (n : Int) (p : Int) 0 np bytes (m : Int) xs ys zs = some ((p2 : Int), f2, np2, many2, xs2, ys2, zs2) ∧ m_X11_wayIn (n : Int) (p : Int) 0 fr tape nm nw (s : Int) = some ((q2 : Int), f2, fr2, nw2) ∧ p2 ≤ n ∧ q2 ≤ n ∧ 0 ≤ f2 ∧ f2 ≤ 4000 ∧ (f2 = 0 → q2 = p2 ∧ RWy many2 xs2 ys2 zs2 ((m : Int) + 1) nw2 (48 * s) ∧ ∀ j, ¬ (48 * s ≤ j ∧ j < 48 * s + 48) → nw2 j = nw j) := by
  obtain ⟨v1, w1, f1, np1, fr1, p1, q1, c1, d1, a1, a2, a3, a4, a5, a6, a7, a8⟩ := q_numberI (np := np) (fr := fr) (a := -9) (b := 9) hn ht hp hp (show (0 : Int) ≤ 0 ∧ (0 : Int) ≤ 4000 by decide) (fun _ => rfl)
  obtain ⟨v2, w2, f2, np2, fr2, p2, q2, c2, d2, b1, b2, b3, b4, b5, b6, b7, b8⟩ := q_numberI (np := np1) (fr := fr1) (a := -9) (b := 9) hn ht a1 a2 ⟨a3, a4⟩ (fun h => (a5.mp h).2.2.1)
  obtain ⟨v3, w3, f3, np3, fr3, p3, q3, c3, d3, e1, e2, e3, e4, e5, e6, e7, e8⟩ := q_numberI (np := np2) (fr := fr2) (a := -9) (b := 9) hn ht b1 b2 ⟨b3, b4⟩ (fun h => (b5.mp h).2.2.1)
  have n0 : (up (up (up nw (48 * s + 3 * m) w1) (48 * s + 3 * m + 1) w2) (48 * s + 3 * m + 2) w3) (48 * s + 3 * m) = w1 := by rw [up_ne _ _ (by omega), up_ne _ _ (by omega), up_at]
  have n1 : (up (up (up nw (48 * s + 3 * m) w1) (48 * s + 3 * m + 1) w2) (48 * s + 3 * m + 2) w3) (48 * s + 3 * m + 1) = w2 := by rw [up_ne _ _ (by omega), up_at]
  have n2 : (up (up (up nw (48 * s + 3 * m) w1) (48 * s + 3 * m + 1) w2) (48 * s + 3 * m + 2) w3) (48 * s + 3 * m + 2) = w3 := up_at _ _ _
  by_cases c0 : f3 = 0
  · subst c0
    obtain ⟨x1, x2, x3, x4, x5, x6, x7, x8⟩ := e5.mp rfl
    subst x1
    obtain ⟨y1, y2, y3, y4, y5, y6, y7, y8⟩ := b5.mp rfl
    subst y1
    obtain ⟨z1, z2, z3, z4, z5, z6, z7, z8⟩ := a5.mp rfl
    subst x2 y2 z2 x3 y3 z3 x4 y4 z4
    by_cases hz : az v1 v2 v3
    · refine ⟨1 + 8 * np1 + 2, np3, np3, (m : Int), p3, p3, xs, ys, zs, (up (up (up nw (48 * s + 3 * m) v1) (48 * s + 3 * m + 1) v2) (48 * s + 3 * m + 2) v3), ?_, ?_, e1, e1, by omega, by omega, fun h => by omega⟩
      · rw [m_X5_readWay, m_X5_readWay_0, c1, bind_s]
        dsimp only
        rw [c2, bind_s]
        dsimp only
        rw [c3, bind_s]
        dsimp only
        rw [if_pos hz.1, if_pos hz.2.1, if_pos hz.2.2, q_refuse0 (by omega) (by decide), bind_s, m_X5_readWay_54, if_neg (by omega)]
      · rw [m_X11_wayIn, m_X11_wayIn_0, chkB (by omega) (by omega), tn, hm, d1, bind_s]
        dsimp only
        rw [chkB (by omega) (by omega), d2, bind_s]
        dsimp only
        rw [chkB (by omega) (by omega), d3, bind_s]
        dsimp only
        rw [chkB (by omega) (by omega), chkB (by omega) (by omega), show Int.toNat (48 * (s : Int) + 3 * (m : Int)) = 48 * s + 3 * m by omega, show Int.toNat (48 * (s : Int) + 3 * (m : Int) + 1) = 48 * s + 3 * m + 1 by omega, show Int.toNat (48 * (s : Int) + 3 * (m : Int) + 2) = 48 * s + 3 * m + 2 by omega, n0]
        rw [if_pos hz.1, chkB (by omega) (by omega), n1, if_pos hz.2.1, chkB (by omega) (by omega), n2, if_pos hz.2.2, q_fails0 (by omega) (by decide), bind_s]
    · obtain ⟨k, r1, r2, r3, r4⟩ := hw
      obtain rfl : m = k := by omega
      refine ⟨0, np3, np3, (m : Int) + 1, p3, p3, up xs m v1, up ys m v2, up zs m v3, (up (up (up nw (48 * s + 3 * m) v1) (48 * s + 3 * m + 1) v2) (48 * s + 3 * m + 2) v3), ?_, ?_, e1, e1, by omega, by omega, fun _ => ⟨rfl, ⟨m + 1, by omega, by omega, by omega, fun k hk => ?_⟩, fun j hj => ?_⟩⟩
      · rw [m_X5_readWay, m_X5_readWay_0, c1, bind_s]
        dsimp only
        rw [c2, bind_s]
        dsimp only
        rw [c3, bind_s]
        dsimp only
        have h54 : m_X5_readWay_54 16 (p3 : Int) 0 np3 (m : Int) xs ys zs v1 v2 v3 = some ((p3 : Int), 0, np3, (m : Int) + 1, up xs m v1, up ys m v2, up zs m v3) := by
          rw [m_X5_readWay_54, if_pos rfl, q_append (by omega) (by omega), bind_s]
        rw [h54]
        by_cases g1 : v1 = 0
        · rw [if_pos g1]
          by_cases g2 : v2 = 0
          · rw [if_pos g2, if_neg (fun g3 => hz ⟨g1, g2, g3⟩)]
          · rw [if_neg g2]
        · rw [if_neg g1]
      · rw [m_X11_wayIn, m_X11_wayIn_0, chkB (by omega) (by omega), tn, hm, d1, bind_s]
        dsimp only
        rw [chkB (by omega) (by omega), d2, bind_s]
        dsimp only
        rw [chkB (by omega) (by omega), d3, bind_s]
        dsimp only
        rw [chkB (by omega) (by omega), chkB (by omega) (by omega), show Int.toNat (48 * (s : Int) + 3 * (m : Int)) = 48 * s + 3 * m by omega, show Int.toNat (48 * (s : Int) + 3 * (m : Int) + 1) = 48 * s + 3 * m + 1 by omega, show Int.toNat (48 * (s : Int) + 3 * (m : Int) + 2) = 48 * s + 3 * m + 2 by omega, n0]
        by_cases g1 : v1 = 0
        · rw [if_pos g1, chkB (by omega) (by omega), n1]
          by_cases g2 : v2 = 0
          · rw [if_pos g2, chkB (by omega) (by omega), n2, if_neg (fun g3 => hz ⟨g1, g2, g3⟩)]
          · rw [if_neg g2]
        · rw [if_neg g1]
      · by_cases ck : k = m
        · subst ck
          rw [up_at, up_at, up_at, n0, n1, n2]
          exact ⟨rfl, rfl, rfl, ⟨⟨by omega, by omega⟩, ⟨by omega, by omega⟩, ⟨by omega, by omega⟩⟩, hz⟩
        · have hk2 : k < m := by omega
          rw [up_ne _ _ ck, up_ne _ _ ck, up_ne _ _ ck]
          rw [up_ne _ _ (by omega), up_ne _ _ (by omega), up_ne _ _ (by omega), up_ne _ _ (by omega), up_ne _ _ (by omega), up_ne _ _ (by omega), up_ne _ _ (by omega), up_ne _ _ (by omega), up_ne _ _ (by omega)]
          exact r4 k hk2
      · rw [up_ne _ _ (by omega), up_ne _ _ (by omega), up_ne _ _ (by omega)]
  · refine ⟨f3, np3, fr3, (m : Int), p3, q3, xs, ys, zs, (up (up (up nw (48 * s + 3 * m) w1) (48 * s + 3 * m + 1) w2) (48 * s + 3 * m + 2) w3), ?_, ?_, e1, e2, e3, e4, fun h => absurd h c0⟩
    · rw [m_X5_readWay, m_X5_readWay_0, c1, bind_s]
      dsimp only
      rw [c2, bind_s]
      dsimp only
      rw [c3, bind_s]
      dsimp only
      have h54 : m_X5_readWay_54 16 (p3 : Int) f3 np3 (m : Int) xs ys zs v1 v2 v3 = some ((p3 : Int), f3, np3, (m : Int), xs, ys, zs) := by
        rw [m_X5_readWay_54, if_neg c0]
      rw [q_refuse1 c0, bind_s, h54]
      by_cases g1 : v1 = 0
      · rw [if_pos g1]
        by_cases g2 : v2 = 0
        · rw [if_pos g2]
          by_cases g3 : v3 = 0
          · rw [if_pos g3]
          · rw [if_neg g3]
        · rw [if_neg g2]
      · rw [if_neg g1]
    · rw [m_X11_wayIn, m_X11_wayIn_0, chkB (by omega) (by omega), tn, hm, d1, bind_s]
      dsimp only
      rw [chkB (by omega) (by omega), d2, bind_s]
      dsimp only
      rw [chkB (by omega) (by omega), d3, bind_s]
      dsimp only
      rw [chkB (by omega) (by omega), chkB (by omega) (by omega), show Int.toNat (48 * (s : Int) + 3 * (m : Int)) = 48 * s + 3 * m by omega, show Int.toNat (48 * (s : Int) + 3 * (m : Int) + 1) = 48 * s + 3 * m + 1 by omega, show Int.toNat (48 * (s : Int) + 3 * (m : Int) + 2) = 48 * s + 3 * m + 2 by omega, n0]
      by_cases g1 : w1 = 0
      · rw [if_pos g1, chkB (by omega) (by omega), n1]
        by_cases g2 : w2 = 0
        · rw [if_pos g2, chkB (by omega) (by omega), n2]
          by_cases g3 : w3 = 0
          · rw [if_pos g3, q_fails1 c0, bind_s]
          · rw [if_neg g3]
        · rw [if_neg g2]
      · rw [if_neg g1]

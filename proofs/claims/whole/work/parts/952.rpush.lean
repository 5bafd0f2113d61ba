
/-! ===== PURE: read, pushes ===== -/
/-- what is told of pushes, specks, sources, class and model -/
def PR (pu pT npu : Nat → Int) : Prop := Zf 21 pu ∧ ∀ d, d < 21 → (pT d = 0 ∧ npu d = -1 ∧ pu d = 0) ∨ (pT d = 1 ∧ npu d = pu d ∧ 0 ≤ pu d ∧ pu d ≤ 999)
def KR (lo hi spT nl nh : Nat → Int) : Prop := ∀ k, k < 100 → (spT k = 0 ∧ nl k = -1 ∧ nh k = -1) ∨ (spT k = 1 ∧ lo k = nl k ∧ hi k = nh k ∧ 0 ≤ nl k ∧ nl k ≤ 9999 ∧ 0 ≤ nh k ∧ nh k ≤ 9999)
def OR (soH soT nho : Nat → Int) (soM : Int) : Prop := soM = cnt (fun j => nho j + 1) 100 ∧ ∀ k, k < 100 → (soT k = 0 ∧ nho k = -1) ∨ (soT k = 1 ∧ 1 ≤ k ∧ k ≤ 98 ∧ soH k = nho k ∧ 0 ≤ nho k ∧ nho k ≤ 9999)
theorem q_288 {q f bl bh fr : Int} {nm nw npu nl nh nho : Nat → Int} {s : Nat} (hs : s < 7) (hb : 0 ≤ nm s ∧ nm s ≤ 1000) : m_X11_statement_288 q f bl bh fr nm nw npu nl nh nho (s : Int) = some (q, f, bl, bh, fr, up nm s (nm s + 1), nw, npu, nl, nh, nho) := by
  rw [m_X11_statement_288, chkB (by omega) (by omega), tn, chkI (by omega) (by omega), chkB (by omega) (by omega)]
theorem q_rpush {n p : Nat} {bytes tape pu pT nm nw npu nl nh nho : Nat → Int} {np fr bl bh : Int} (hn : n ≤ 400) (ht : tpR n bytes tape) (hp : p ≤ n) (hb : 0 ≤ nm 3 ∧ nm 3 ≤ 1000) (hr : PR pu pT npu) :
    ∃ (f2 np2 fr2 : Int) (p2 q2 : Nat) (pu2 pT2 npu2 : Nat → Int), m_X5_readPush (n : Int) (p : Int) 0 np bytes pu pT = some ((p2 : Int), f2, np2, pu2, pT2) ∧ m_X11_statement (n : Int) (p : Int) 0 bl bh fr tape nm nw npu nl nh nho 3 = some ((q2 : Int), f2, bl, bh, fr2, up nm 3 (nm 3 + 1), nw, npu2, nl, nh, nho) ∧ p2 ≤ n ∧ q2 ≤ n ∧ 0 ≤ f2 ∧ f2 ≤ 4000 ∧ Zf 21 pu2 ∧ (f2 = 0 → q2 = p2 ∧ PR pu2 pT2 npu2) := by
  obtain ⟨v1, w1, f1, np1, fr1, p1, q1, c1, d1, a1, a2, a3, a4, a5, a6, a7, a8⟩ := q_numberI (np := np) (fr := fr) (a := 1) (b := 20) hn ht hp hp (show (0 : Int) ≤ 0 ∧ (0 : Int) ≤ 4000 by decide) (fun _ => rfl)
  obtain ⟨hz, hr2⟩ := hr
  rw [m_X5_readPush, m_X5_readPush_0, c1, bind_s, m_X11_statement, m_X11_statement_0, if_pos (by decide), if_pos rfl, d1, bind_s]
  dsimp only
  -- the second number
  have bad : ∀ (f : Int) (hf : f ≠ 0) (hf2 : 0 ≤ f ∧ f ≤ 4000) (u : Int), ∃ (f2 np2 fr2 : Int) (p2 q2 : Nat) (pu2 pT2 npu2 : Nat → Int), m_X5_readPush_25 (n : Int) (p1 : Int) f np1 bytes pu pT v1 = some ((p2 : Int), f2, np2, pu2, pT2) ∧ m_X11_statement_52 (n : Int) (q1 : Int) f bl bh fr1 tape nm nw npu nl nh nho 3 u = some ((q2 : Int), f2, bl, bh, fr2, up nm 3 (nm 3 + 1), nw, npu2, nl, nh, nho) ∧ p2 ≤ n ∧ q2 ≤ n ∧ 0 ≤ f2 ∧ f2 ≤ 4000 ∧ Zf 21 pu2 ∧ (f2 = 0 → q2 = p2 ∧ PR pu2 pT2 npu2) := fun f hf hf2 u => by
    obtain ⟨v2, w2, f2, np2, fr2, p2, q2, c2, d2, b1, b2, b3, b4, b5, b6, b7, b8⟩ := q_numberI (np := np1) (fr := fr1) (a := 0) (b := 999) hn ht a1 a2 hf2 (fun h => absurd h hf)
    have e2 := b6.mp hf
    subst e2
    rw [m_X5_readPush_25, c2, bind_s, m_X11_statement_52, d2, bind_s]
    dsimp only
    rw [if_neg hf, if_neg (by omega), m_X11_statement_77, chkB (by omega) (by omega), show (3 : Int) = ((3 : Nat) : Int) from rfl, q_288 (by omega) hb]
    exact ⟨_, _, _, _, _, _, _, _, rfl, rfl, b1, b2, b3, b4, hz, fun h => absurd h hf⟩
  by_cases c0 : f1 = 0
  · subst c0
    obtain ⟨z1, z2, z3, z4, z5, z6, z7, z8⟩ := a5.mp rfl
    subst z2 z3 z4
    obtain ⟨d, rfl⟩ : ∃ d : Nat, v1 = (d : Int) := ⟨v1.toNat, by omega⟩
    rw [if_pos rfl, chkB (by omega) (by omega), tn, m_X3_isPushTold, m_X3_isPushTold_0, isDistance1 (by omega) (by omega), bind_s, if_neg ne10, chkB (by omega) (by omega), tn]
    rcases hr2 d (by omega) with ⟨g1, g2, g3⟩ | ⟨g1, g2, g3, g4⟩
    · obtain ⟨v2, w2, f2, np2, fr2, p2, q2, c2, d2, b1, b2, b3, b4, b5, b6, b7, b8⟩ := q_numberI (np := np1) (fr := np1) (a := 0) (b := 999) hn ht a1 a1 (show (0 : Int) ≤ 0 ∧ (0 : Int) ≤ 4000 by decide) (fun _ => rfl)
      rw [if_pos g1, bind_s, if_pos rfl, if_pos g2, m_X5_readPush_25, c2, bind_s, m_X11_statement_52, d2, bind_s]
      dsimp only
      by_cases c3 : f2 = 0
      · subst c3
        obtain ⟨x1, x2, x3, x4, x5, x6, x7, x8⟩ := b5.mp rfl
        subst x2 x3
        rw [if_pos rfl, if_pos (Int.le_refl 0), m_X3_tellPush, m_X3_tellPush_0, isDistance1 (by omega) (by omega), bind_s, if_neg ne10, chkB (by omega) (by omega), chkB (by omega) (by omega), bind_s, m_X11_statement_77, chkB (by omega) (by omega), tn, show (3 : Int) = ((3 : Nat) : Int) from rfl, q_288 (by omega) hb]
        refine ⟨_, _, _, _, _, _, _, _, rfl, rfl, b1, b1, b3, b4, Zf_up hz (by omega), fun _ => ⟨rfl, Zf_up hz (by omega), fun k hk => ?_⟩⟩
        dsimp only
        by_cases ck : k = d
        · subst ck
          rw [up_at, up_at, up_at]
          exact Or.inr ⟨rfl, rfl, x7, x8⟩
        · rw [up_ne _ _ ck, up_ne _ _ ck, up_ne _ _ ck]
          exact hr2 k hk
      · rw [if_neg c3, if_neg (by omega), m_X11_statement_77, chkB (by omega) (by omega), show (3 : Int) = ((3 : Nat) : Int) from rfl, q_288 (by omega) hb]
        exact ⟨_, _, _, _, _, _, _, _, rfl, rfl, b1, b2, b3, b4, hz, fun h => absurd h c3⟩
    · rw [if_neg (by omega), bind_s, if_neg ne10, if_neg (by omega), q_refuse0 (by omega) (by decide), q_fails0 (by omega) (by decide), bind_s, bind_s]
      exact bad _ (by omega) (by omega) _
  · have hto : ∃ e, m_X3_isPushTold pT v1 = some e := by
      rw [m_X3_isPushTold, m_X3_isPushTold_0]
      by_cases cd : 1 ≤ v1 ∧ v1 ≤ 20
      · rw [isDistance1 cd.1 cd.2, bind_s, if_neg ne10, chkB (by omega) (by omega)]
        split <;> exact ⟨_, rfl⟩
      · rw [isDistance0 cd, bind_s, if_pos rfl]
        exact ⟨_, rfl⟩
    obtain ⟨e, he⟩ := hto
    rw [he, bind_s, if_neg c0, q_refuse1 c0, bind_s]
    have hb2 := bad f1 c0 ⟨a3, a4⟩ w1
    by_cases ce : e = 0
    · rw [if_pos ce]; exact hb2
    · rw [if_neg ce]; exact hb2


/-! ===== PURE: read, sources, specks, base ===== -/
theorem q_rsource {n p : Nat} {bytes tape soH soT nm nw npu nl nh nho : Nat → Int} {np fr bl bh soM : Int} (hn : n ≤ 400) (ht : tpR n bytes tape) (hp : p ≤ n) (hb : 0 ≤ nm 5 ∧ nm 5 ≤ 1000) (hr : OR soH soT nho soM) (hso : 0 ≤ soM ∧ soM ≤ 1000) :
    ∃ (f2 np2 fr2 soM2 : Int) (p2 q2 : Nat) (soH2 soT2 nho2 : Nat → Int), m_X5_readSource (n : Int) (p : Int) 0 np bytes soM soH soT = some ((p2 : Int), f2, np2, soM2, soH2, soT2) ∧ m_X11_statement (n : Int) (p : Int) 0 bl bh fr tape nm nw npu nl nh nho 5 = some ((q2 : Int), f2, bl, bh, fr2, up nm 5 (nm 5 + 1), nw, npu, nl, nh, nho2) ∧ p2 ≤ n ∧ q2 ≤ n ∧ 0 ≤ f2 ∧ f2 ≤ 4000 ∧ (f2 = 0 → q2 = p2 ∧ soM2 = soM + 1 ∧ OR soH2 soT2 nho2 soM2) := by
  obtain ⟨v1, w1, f1, np1, fr1, p1, q1, c1, d1, a1, a2, a3, a4, a5, a6, a7, a8⟩ := q_numberI (np := np) (fr := fr) (a := 1) (b := 98) hn ht hp hp (show (0 : Int) ≤ 0 ∧ (0 : Int) ≤ 4000 by decide) (fun _ => rfl)
  obtain ⟨hcn, hr2⟩ := hr
  rw [m_X5_readSource, m_X5_readSource_0, c1, bind_s, m_X11_statement, m_X11_statement_0, if_pos (by decide), if_neg (by decide), if_pos rfl, d1, bind_s]
  dsimp only
  have bad : ∀ (f : Int) (hf : f ≠ 0) (hf2 : 0 ≤ f ∧ f ≤ 4000) (u : Int), ∃ (f2 np2 fr2 soM2 : Int) (p2 q2 : Nat) (soH2 soT2 nho2 : Nat → Int), m_X5_readSource_25 (n : Int) (p1 : Int) f np1 bytes soM soH soT v1 = some ((p2 : Int), f2, np2, soM2, soH2, soT2) ∧ m_X11_statement_121 (n : Int) (q1 : Int) f bl bh fr1 tape nm nw npu nl nh nho 5 u = some ((q2 : Int), f2, bl, bh, fr2, up nm 5 (nm 5 + 1), nw, npu, nl, nh, nho2) ∧ p2 ≤ n ∧ q2 ≤ n ∧ 0 ≤ f2 ∧ f2 ≤ 4000 ∧ (f2 = 0 → q2 = p2 ∧ soM2 = soM + 1 ∧ OR soH2 soT2 nho2 soM2) := fun f hf hf2 u => by
    obtain ⟨v2, w2, f2, np2, fr2, p2, q2, c2, d2, b1, b2, b3, b4, b5, b6, b7, b8⟩ := q_numberI (np := np1) (fr := fr1) (a := 0) (b := 9999) hn ht a1 a2 hf2 (fun h => absurd h hf)
    have e2 := b6.mp hf
    subst e2
    rw [m_X5_readSource_25, c2, bind_s, m_X11_statement_121, d2, bind_s]
    dsimp only
    rw [if_neg hf, if_neg (by omega), m_X11_statement_146, chkB (by omega) (by omega), show (5 : Int) = ((5 : Nat) : Int) from rfl, q_288 (by omega) hb]
    exact ⟨_, _, _, _, _, _, _, _, _, rfl, rfl, b1, b2, b3, b4, fun h => absurd h hf⟩
  by_cases c0 : f1 = 0
  · subst c0
    obtain ⟨z1, z2, z3, z4, z5, z6, z7, z8⟩ := a5.mp rfl
    subst z2 z3 z4
    obtain ⟨d, rfl⟩ : ∃ d : Nat, v1 = (d : Int) := ⟨v1.toNat, by omega⟩
    rw [if_pos rfl, chkB (by omega) (by omega), tn, m_X3_isSourceTold, m_X3_isSourceTold_0, isPlace1 (by omega) (by omega), bind_s, if_neg ne10, chkB (by omega) (by omega), tn]
    rcases hr2 d (by omega) with ⟨g1, g2⟩ | ⟨g1, g2, g3, g4, g5, g6⟩
    · obtain ⟨v2, w2, f2, np2, fr2, p2, q2, c2, d2, b1, b2, b3, b4, b5, b6, b7, b8⟩ := q_numberI (np := np1) (fr := np1) (a := 0) (b := 9999) hn ht a1 a1 (show (0 : Int) ≤ 0 ∧ (0 : Int) ≤ 4000 by decide) (fun _ => rfl)
      rw [if_pos g1, bind_s, if_pos rfl, if_pos g2, m_X5_readSource_25, c2, bind_s, m_X11_statement_121, d2, bind_s]
      dsimp only
      by_cases c3 : f2 = 0
      · subst c3
        obtain ⟨x1, x2, x3, x4, x5, x6, x7, x8⟩ := b5.mp rfl
        subst x2 x3
        rw [if_pos rfl, if_pos (Int.le_refl 0), m_X3_tellSource, m_X3_tellSource_0, isPlace1 (by omega) (by omega), bind_s, if_neg ne10, chkB (by omega) (by omega), chkB (by omega) (by omega), chkI (by omega) (by omega), bind_s, m_X11_statement_146, chkB (by omega) (by omega), tn, show (5 : Int) = ((5 : Nat) : Int) from rfl, q_288 (by omega) hb]
        refine ⟨_, _, _, _, _, _, _, _, _, rfl, rfl, b1, b1, b3, b4, fun _ => ⟨rfl, rfl, ?_, fun k hk => ?_⟩⟩
        · have hu : (fun j => up nho d v2 j + 1) = up (fun j => nho j + 1) d (v2 + 1) := by
            funext j
            unfold up
            split <;> rfl
          dsimp only
          rw [hu, cnt_up (by omega), nz_0 (show nho d + 1 = 0 by omega), hcn]
          unfold nz
          rw [if_neg (by omega)]
          omega
        · dsimp only
          by_cases ck : k = d
          · subst ck
            rw [up_at, up_at, up_at]
            exact Or.inr ⟨rfl, by omega, by omega, rfl, x7, x8⟩
          · rw [up_ne _ _ ck, up_ne _ _ ck, up_ne _ _ ck]
            exact hr2 k hk
      · rw [if_neg c3, if_neg (by omega), m_X11_statement_146, chkB (by omega) (by omega), show (5 : Int) = ((5 : Nat) : Int) from rfl, q_288 (by omega) hb]
        exact ⟨_, _, _, _, _, _, _, _, _, rfl, rfl, b1, b2, b3, b4, fun h => absurd h c3⟩
    · rw [if_neg (by omega), bind_s, if_neg ne10, if_neg (by omega), q_refuse0 (by omega) (by decide), q_fails0 (by omega) (by decide), bind_s, bind_s]
      exact bad _ (by omega) (by omega) _
  · have hto : ∃ e, m_X3_isSourceTold soT v1 = some e := by
      rw [m_X3_isSourceTold, m_X3_isSourceTold_0]
      by_cases cd : 0 ≤ v1 ∧ v1 < 100
      · rw [isPlace1 cd.1 cd.2, bind_s, if_neg ne10, chkB (by omega) (by omega)]
        split <;> exact ⟨_, rfl⟩
      · rw [isPlace0 cd, bind_s, if_pos rfl]
        exact ⟨_, rfl⟩
    obtain ⟨e, he⟩ := hto
    rw [he, bind_s, if_neg c0, q_refuse1 c0, bind_s]
    have hb2 := bad f1 c0 ⟨a3, a4⟩ w1
    by_cases ce : e = 0
    · rw [if_pos ce]; exact hb2
    · rw [if_neg ce]; exact hb2
theorem q_lohi {α β : Type} {n p q : Nat} {bytes tape : Nat → Int} {f np fr : Int} (hn : n ≤ 400) (ht : tpR n bytes tape) (hp : p ≤ n) (hq : q ≤ n) (hf : 0 ≤ f ∧ f ≤ 4000) (hpq : f = 0 → p = q) :
    ∃ (v2 w2 f2 np2 fr2 v3 w3 f3 np3 fr3 f4 : Int) (p2 q2 p3 q3 : Nat), m_X5_number (n : Int) (p : Int) f np bytes 0 9999 = some (v2, (p2 : Int), f2, np2) ∧ m_X11_number (n : Int) (q : Int) f fr tape 0 9999 = some (w2, (q2 : Int), f2, fr2) ∧ m_X5_number (n : Int) (p2 : Int) f2 np2 bytes 0 9999 = some (v3, (p3 : Int), f3, np3) ∧ m_X11_number (n : Int) (q2 : Int) f2 fr2 tape 0 9999 = some (w3, (q3 : Int), f3, fr3) ∧ p3 ≤ n ∧ q3 ≤ n ∧ 0 ≤ f4 ∧ f4 ≤ 4000 ∧ Imp (f4 = 0) (f = 0 ∧ v2 = w2 ∧ v3 = w3 ∧ p3 = q3 ∧ np3 = fr3 ∧ 0 ≤ v2 ∧ v2 ≤ 9999 ∧ 0 ≤ v3 ∧ v3 ≤ 9999) ∧ Imp (f ≠ 0) (f4 = f) ∧ (∀ kc : Int → Option α, (if v2 ≤ v3 then kc f3 else ((m_X5_refuse f3 np3 2).bind (fun y => kc y))) = kc f4) ∧ (∀ km : Int → Option β, (if f3 = 0 then (if w2 ≤ w3 then km f3 else ((m_X11_fails f3 2 fr3).bind (fun y => km y))) else km f3) = km f4) := by
  obtain ⟨v2, w2, f2, np2, fr2, p2, q2, c2, d2, b1, b2, b3, b4, b5, b6, b7, b8⟩ := q_numberI (np := np) (fr := fr) (a := 0) (b := 9999) hn ht hp hq hf hpq
  obtain ⟨v3, w3, f3, np3, fr3, p3, q3, c3, d3, e1, e2, e3, e4, e5, e6, e7, e8⟩ := q_numberI (np := np2) (fr := fr2) (a := 0) (b := 9999) hn ht b1 b2 ⟨b3, b4⟩ (fun h => (b5.mp h).2.2.1)
  have hff : f ≠ 0 → f3 = f := fun h => by
    have h1 := b6.mp h
    have h2 := e6.mp (by rw [h1]; exact h)
    omega
  by_cases cf : f3 = 0
  · subst cf
    obtain ⟨x1, x2, x3, x4, x5, x6, x7, x8⟩ := e5.mp rfl
    subst x1
    obtain ⟨y1, y2, y3, y4, y5, y6, y7, y8⟩ := b5.mp rfl
    by_cases cl : v2 ≤ v3
    · exact ⟨v2, w2, 0, np2, fr2, v3, w3, 0, np3, fr3, 0, p2, q2, p3, q3, c2, d2, c3, d3, e1, e2, by omega, by omega, fun _ => ⟨y1, y2, x2, x3, x4, y7, y8, x7, x8⟩, fun h => (hff h), fun kc => by rw [if_pos cl], fun km => by rw [if_pos rfl, if_pos (by omega)]⟩
    · exact ⟨v2, w2, 0, np2, fr2, v3, w3, 0, np3, fr3, 1 + 8 * np3 + 2, p2, q2, p3, q3, c2, d2, c3, d3, e1, e2, by omega, by omega, fun h => by omega, fun h => absurd y1 h, fun kc => by rw [if_neg cl, q_refuse0 (by omega) (by decide), bind_s], fun km => by rw [if_pos rfl, if_neg (by omega), q_fails0 (by omega) (by decide), bind_s, x4]⟩
  · refine ⟨v2, w2, f2, np2, fr2, v3, w3, f3, np3, fr3, f3, p2, q2, p3, q3, c2, d2, c3, d3, e1, e2, e3, e4, fun h => absurd h cf, hff, fun kc => ?_, fun km => by rw [if_neg cf]⟩
    rw [q_refuse1 cf, bind_s]
    split <;> rfl
theorem q_rbase {n p : Nat} {bytes tape nm nw npu nl nh nho : Nat → Int} {np fr bl bh bT cl ch : Int} (hn : n ≤ 400) (ht : tpR n bytes tape) (hp : p ≤ n) (hb : 0 ≤ nm 6 ∧ nm 6 ≤ 1000) :
    ∃ (f2 np2 fr2 bT2 bl2 bh2 nbl2 nbh2 : Int) (p2 q2 : Nat), m_X5_readBase (n : Int) (p : Int) 0 np bytes bT cl ch = some ((p2 : Int), f2, np2, bT2, bl2, bh2) ∧ m_X11_statement (n : Int) (p : Int) 0 bl bh fr tape nm nw npu nl nh nho 6 = some ((q2 : Int), f2, nbl2, nbh2, fr2, up nm 6 (nm 6 + 1), nw, npu, nl, nh, nho) ∧ p2 ≤ n ∧ q2 ≤ n ∧ 0 ≤ f2 ∧ f2 ≤ 4000 ∧ (f2 = 0 → q2 = p2 ∧ bT2 = 1 ∧ bl2 = nbl2 ∧ bh2 = nbh2 ∧ 0 ≤ nbl2 ∧ nbl2 ≤ 9999 ∧ 0 ≤ nbh2 ∧ nbh2 ≤ 9999) := by
  obtain ⟨v2, w2, f2, np2, fr2, v3, w3, f3, np3, fr3, f4, p2, q2, p3, q3, c2, d2, c3, d3, e1, e2, e3, e4, e5, e6, kc, km⟩ := q_lohi (α := Int × Int × Int × Int × Int × Int) (β := Int × Int × Int × Int × Int × (Nat → Int) × (Nat → Int) × (Nat → Int) × (Nat → Int) × (Nat → Int) × (Nat → Int)) (np := np) (fr := fr) hn ht hp hp (show (0 : Int) ≤ 0 ∧ (0 : Int) ≤ 4000 by decide) (fun _ => rfl)
  have k1 := kc (fun f => m_X5_readBase_32 (p3 : Int) f np3 bT cl ch v2 v3)
  have k2 := km (fun f => m_X11_statement_240 (q3 : Int) f bl bh fr3 nm nw npu nl nh nho 6 0 w2 w3)
  rw [m_X5_readBase, m_X5_readBase_0, c2, bind_s]
  dsimp only
  rw [c3, bind_s]
  dsimp only
  rw [k1, m_X11_statement, m_X11_statement_0, if_pos (by decide), if_neg (by decide), if_neg (by decide), if_neg (by decide), m_X11_statement_167, if_neg (by decide), m_X11_statement_199, d2, bind_s]
  dsimp only
  rw [d3, bind_s]
  dsimp only
  rw [k2, m_X5_readBase_32, m_X11_statement_240, m_X11_statement_270]
  by_cases cf : f4 = 0
  · subst cf
    obtain ⟨x1, x2, x3, x4, x5, x6, x7, x8, x9⟩ := e5.mp rfl
    rw [if_pos rfl, if_pos rfl, if_neg (by decide), if_pos rfl, m_X3_tellBase, m_X3_tellBase_0, bind_s, show (6 : Int) = ((6 : Nat) : Int) from rfl, q_288 (by omega) hb]
    exact ⟨_, _, _, _, _, _, _, _, _, _, rfl, rfl, e1, e2, e3, e4, fun _ => ⟨x4.symm, rfl, x2, x3, by omega, by omega, by omega, by omega⟩⟩
  · rw [if_neg cf, if_neg cf, if_neg cf, show (6 : Int) = ((6 : Nat) : Int) from rfl, q_288 (by omega) hb]
    exact ⟨_, _, _, _, _, _, _, _, _, _, rfl, rfl, e1, e2, e3, e4, fun h => absurd h cf⟩
theorem q_rspeck {n p : Nat} {bytes tape lo hi spT nm nw npu nl nh nho : Nat → Int} {np fr bl bh spM : Int} (hn : n ≤ 400) (ht : tpR n bytes tape) (hp : p ≤ n) (hb : 0 ≤ nm 4 ∧ nm 4 ≤ 1000) (hr : KR lo hi spT nl nh) (hso : 0 ≤ spM ∧ spM ≤ 1000) :
    ∃ (f2 np2 fr2 spM2 : Int) (p2 q2 : Nat) (lo2 hi2 spT2 nl2 nh2 : Nat → Int), m_X5_readSpeck (n : Int) (p : Int) 0 np bytes spM lo hi spT = some ((p2 : Int), f2, np2, spM2, lo2, hi2, spT2) ∧ m_X11_statement (n : Int) (p : Int) 0 bl bh fr tape nm nw npu nl nh nho 4 = some ((q2 : Int), f2, bl, bh, fr2, up nm 4 (nm 4 + 1), nw, npu, nl2, nh2, nho) ∧ p2 ≤ n ∧ q2 ≤ n ∧ 0 ≤ f2 ∧ f2 ≤ 4000 ∧ (f2 = 0 → q2 = p2 ∧ spM2 = spM + 1 ∧ KR lo2 hi2 spT2 nl2 nh2) := by
  obtain ⟨v1, w1, f1, np1, fr1, p1, q1, c1, d1, a1, a2, a3, a4, a5, a6, a7, a8⟩ := q_numberI (np := np) (fr := fr) (a := 0) (b := 99) hn ht hp hp (show (0 : Int) ≤ 0 ∧ (0 : Int) ≤ 4000 by decide) (fun _ => rfl)
  rw [m_X5_readSpeck, m_X5_readSpeck_0, c1, bind_s, m_X11_statement, m_X11_statement_0, if_pos (by decide), if_neg (by decide), if_neg (by decide), if_pos rfl, d1, bind_s, m_X11_statement_167, if_pos rfl]
  dsimp only
  -- behind the place, with a fault or none
  have go : ∀ (f : Int) (hf2 : 0 ≤ f ∧ f ≤ 4000) (hpq : f = 0 → p1 = q1) (hd : f = 0 → ∃ d : Nat, v1 = (d : Int) ∧ w1 = (d : Int) ∧ d < 100), ∃ (f2 np2 fr2 spM2 : Int) (p2 q2 : Nat) (lo2 hi2 spT2 nl2 nh2 : Nat → Int), m_X5_readSpeck_25 (n : Int) (p1 : Int) f np1 bytes spM lo hi spT v1 = some ((p2 : Int), f2, np2, spM2, lo2, hi2, spT2) ∧ m_X11_statement_199 (n : Int) (q1 : Int) f bl bh fr1 tape nm nw npu nl nh nho 4 w1 = some ((q2 : Int), f2, bl, bh, fr2, up nm 4 (nm 4 + 1), nw, npu, nl2, nh2, nho) ∧ p2 ≤ n ∧ q2 ≤ n ∧ 0 ≤ f2 ∧ f2 ≤ 4000 ∧ (f2 = 0 → q2 = p2 ∧ spM2 = spM + 1 ∧ KR lo2 hi2 spT2 nl2 nh2) := fun f hf2 hpq hd => by
    obtain ⟨v2, w2, f2, np2, fr2, v3, w3, f3, np3, fr3, f4, p2, q2, p3, q3, c2, d2, c3, d3, e1, e2, e3, e4, e5, e6, kc, km⟩ := q_lohi (α := Int × Int × Int × Int × (Nat → Int) × (Nat → Int) × (Nat → Int)) (β := Int × Int × Int × Int × Int × (Nat → Int) × (Nat → Int) × (Nat → Int) × (Nat → Int) × (Nat → Int) × (Nat → Int)) (np := np1) (fr := fr1) hn ht a1 a2 hf2 hpq
    have k1 := kc (fun f => m_X5_readSpeck_59 (p3 : Int) f np3 spM lo hi spT v1 v2 v3)
    have k2 := km (fun f => m_X11_statement_240 (q3 : Int) f bl bh fr3 nm nw npu nl nh nho 4 w1 w2 w3)
    rw [m_X5_readSpeck_25, c2, bind_s]
    dsimp only
    rw [c3, bind_s]
    dsimp only
    rw [k1, m_X11_statement_199, d2, bind_s]
    dsimp only
    rw [d3, bind_s]
    dsimp only
    rw [k2, m_X5_readSpeck_59, m_X11_statement_240]
    by_cases cf : f4 = 0
    · subst cf
      obtain ⟨x1, x2, x3, x4, x5, x6, x7, x8, x9⟩ := e5.mp rfl
      obtain ⟨d, g1, g2, g3⟩ := hd x1
      subst x2 x3
      rw [g1, g2, if_pos rfl, if_pos rfl, if_pos rfl, m_X3_tellSpeck, m_X3_tellSpeck_0, isPlace1 (by omega) (by omega), bind_s, if_neg ne10, chkB (by omega) (by omega), chkB (by omega) (by omega), chkB (by omega) (by omega), chkI (by omega) (by omega), bind_s, chkB (by omega) (by omega), chkB (by omega) (by omega), tn, show (4 : Int) = ((4 : Nat) : Int) from rfl, q_288 (by omega) hb]
      refine ⟨_, _, _, _, _, _, _, _, _, _, _, rfl, rfl, e1, e2, e3, e4, fun _ => ⟨x4.symm, rfl, fun k hk => ?_⟩⟩
      dsimp only
      by_cases ck : k = d
      · subst ck
        rw [up_at, up_at, up_at, up_at, up_at]
        exact Or.inr ⟨rfl, rfl, rfl, x6, x7, x8, x9⟩
      · rw [up_ne _ _ ck, up_ne _ _ ck, up_ne _ _ ck, up_ne _ _ ck, up_ne _ _ ck]
        exact hr k hk
    · rw [if_neg cf, if_neg cf, m_X11_statement_270, if_neg cf, show (4 : Int) = ((4 : Nat) : Int) from rfl, q_288 (by omega) hb]
      exact ⟨_, _, _, _, _, _, _, _, _, _, _, rfl, rfl, e1, e2, e3, e4, fun h => absurd h cf⟩
  by_cases c0 : f1 = 0
  · subst c0
    obtain ⟨z1, z2, z3, z4, z5, z6, z7, z8⟩ := a5.mp rfl
    subst z4
    obtain ⟨d, g1⟩ : ∃ d : Nat, v1 = (d : Int) := ⟨v1.toNat, by omega⟩
    have g2 : w1 = (d : Int) := by omega
    rw [if_pos rfl, m_X3_isSpeckTold, m_X3_isSpeckTold_0, isPlace1 (by omega) (by omega), bind_s, if_neg ne10, chkB (by omega) (by omega), chkB (by omega) (by omega), show Int.toNat v1 = d by omega, show Int.toNat w1 = d by omega]
    rcases hr d (by omega) with ⟨h1, h2, h3⟩ | ⟨h1, h2, h3, h4, h5, h6, h7⟩
    · rw [if_pos h1, bind_s, if_pos rfl, if_pos h2]
      exact go 0 (by omega) (fun _ => z3) (fun _ => ⟨d, g1, g2, by omega⟩)
    · rw [if_neg (by omega), bind_s, if_neg ne10, if_neg (by omega), q_refuse0 (by omega) (by decide), q_fails0 (by omega) (by decide), bind_s, bind_s]
      exact go (1 + 8 * np1 + 3) (by omega) (fun h => by omega) (fun h => by omega)
  · have hto : ∃ e, m_X3_isSpeckTold spT v1 = some e := by
      rw [m_X3_isSpeckTold, m_X3_isSpeckTold_0]
      by_cases cd : 0 ≤ v1 ∧ v1 < 100
      · rw [isPlace1 cd.1 cd.2, bind_s, if_neg ne10, chkB (by omega) (by omega)]
        split <;> exact ⟨_, rfl⟩
      · rw [isPlace0 cd, bind_s, if_pos rfl]
        exact ⟨_, rfl⟩
    obtain ⟨e, he⟩ := hto
    rw [he, bind_s, if_neg c0, q_refuse1 c0, bind_s]
    have hb2 := go f1 ⟨a3, a4⟩ (fun h => absurd h c0) (fun h => absurd h c0)
    by_cases ce : e = 0
    · rw [if_pos ce]; exact hb2
    · rw [if_neg ce]; exact hb2


/-! ===== PURE: pushes found ===== -/
theorem gst_ind {cur S S' : Nat → Int} {k : Nat} {b : Int} : (gst cur S k b).1 = (gst cur S' k b).1 ∧ (gst cur S k b).2.2 = (gst cur S' k b).2.2 := by
  unfold gst
  by_cases h : cur k = 0 ∨ gm cur k b = 0
  · rw [if_pos h, if_pos h]; exact ⟨rfl, rfl⟩
  · rw [if_neg h, if_neg h]; exact ⟨rfl, rfl⟩
theorem wk_ind {og push H S S' : Nat → Int} {q : Int} : ∀ k, (wk og push H S q k).1 = (wk og push H S' q k).1 ∧ (wk og push H S q k).2.2 = (wk og push H S' q k).2.2 := by
  intro k
  induction k with
  | zero => exact ⟨rfl, rfl⟩
  | succ k ih =>
    rw [wk_s, wk_s, wk1, wk1]
    by_cases c : og k = 0
    · rw [if_pos c, if_pos c]; exact ih
    · rw [if_neg c, if_neg c]
      dsimp only
      rw [ih.1, ih.2, (gst_ind (S := (wk og push H S q k).2.1) (S' := (wk og push H S' q k).2.1)).1, (gst_ind (S := (wk og push H S q k).2.1) (S' := (wk og push H S' q k).2.1)).2]
      exact ⟨rfl, rfl⟩
theorem sr_ind {push sh : Nat → Int} {q : Int} {s s' : WS} (h1 : s.1 = s'.1) (h2 : s.2.2 = s'.2.2) : ∀ n, (sr push sh q s n).1 = (sr push sh q s' n).1 ∧ (sr push sh q s n).2.2 = (sr push sh q s' n).2.2 := by
  intro n
  induction n with
  | zero => exact ⟨h1, h2⟩
  | succ n ih =>
    rw [sr_s, sr_s, sr1, sr1, ih.1]
    by_cases c : gv (sr push sh q s' n).1 push (sh (n + 1)) (n + 1) q = 0
    · rw [if_pos c, if_pos c]; exact ih
    · rw [if_neg c, if_neg c]; exact ⟨rfl, rfl⟩
theorem tk_ind {push H sh cur S S' : Nat → Int} {q : Int} : (tk push H sh q (cur, S)).1 = (tk push H sh q (cur, S')).1 ∧ (tk push H sh q (cur, S)).2.2 = (tk push H sh q (cur, S')).2.2 := by
  unfold tk
  dsimp only
  have h := wk_ind (og := cur) (push := push) (H := H) (S := S) (S' := S') (q := q) 100
  exact sr_ind h.1 h.2 98
theorem rn_ind {push H sh : Nat → Int} {q : Int} : ∀ (n : Nat) (cur S S' : Nat → Int), (rn push H sh q n (cur, S)).2.1 = (rn push H sh q n (cur, S')).2.1 := by
  intro n
  induction n with
  | zero => intro cur S S'; rfl
  | succ n ih =>
    intro cur S S'
    have h := tk_ind (push := push) (H := H) (sh := sh) (cur := cur) (S := S) (S' := S') (q := q)
    rw [rn, rn, h.2]
    by_cases c : (tk push H sh q (cur, S')).2.2 = 0
    · rw [if_pos c, if_pos c]; exact h.1
    · rw [if_neg c, if_neg c]
      dsimp only
      rw [h.1]
      exact ih _ _ _
/-- n cells of f set, one behind another -/
def upD (d : Nat → Nat) (v : Nat → Int) : Nat → (Nat → Int) → (Nat → Int)
  | 0, f => f
  | i + 1, f => up (upD d v i f) (d i) (v i)
theorem upD_s {d : Nat → Nat} {v f : Nat → Int} (i : Nat) : upD d v (i + 1) f = up (upD d v i f) (d i) (v i) := rfl
theorem upD_out {d : Nat → Nat} {v f : Nat → Int} {j : Nat} : ∀ n, (∀ i, i < n → d i ≠ j) → upD d v n f j = f j := by
  intro n
  induction n with
  | zero => intro _; rfl
  | succ n ih => intro h; rw [upD_s, up_ne _ _ (fun hh => h n (by omega) hh.symm), ih (fun i hi => h i (by omega))]
theorem upD_eq {d : Nat → Nat} {v f g : Nat → Int} : ∀ n j, ((∃ i, i < n ∧ d i = j) ∨ f j = g j) → upD d v n f j = upD d v n g j := by
  intro n
  induction n with
  | zero => intro j h; rcases h with ⟨i, hi, _⟩ | h; omega; exact h
  | succ n ih =>
    intro j h
    rw [upD_s, upD_s]
    by_cases c : j = d n
    · subst c; rw [up_at, up_at]
    · rw [up_ne _ _ c, up_ne _ _ c]
      refine ih j ?_
      rcases h with ⟨i, hi, h2⟩ | h
      · refine Or.inl ⟨i, ?_, h2⟩
        by_cases ci : i = n
        · subst ci; exact absurd h2.symm c
        · omega
      · exact Or.inr h
theorem upD_in {d : Nat → Nat} {v f : Nat → Int} : ∀ n i, i < n → (∀ a b, a < n → b < n → d a = d b → a = b) → upD d v n f (d i) = v i := by
  intro n
  induction n with
  | zero => intro i hi; omega
  | succ n ih =>
    intro i hi hd
    rw [upD_s]
    by_cases c : i = n
    · subst c; rw [up_at]
    · rw [up_ne _ _ (fun hh => c (hd _ _ hi (by omega) hh)), ih i (by omega) (fun a b h1 h2 h3 => hd a b (by omega) (by omega) h3)]
theorem upD_Zf {d : Nat → Nat} {v f : Nat → Int} {N : Nat} (hf : Zf N f) : ∀ n, (∀ i, i < n → d i < N) → Zf N (upD d v n f) := by
  intro n
  induction n with
  | zero => intro _; exact hf
  | succ n ih => intro h; rw [upD_s]; exact Zf_up (ih (fun i hi => h i (by omega))) (h n (by omega))
theorem upD_pW {d : Nat → Nat} {v f : Nat → Int} (hf : pW f) : ∀ n, (∀ i, i < n → 0 ≤ v i ∧ v i ≤ 999) → pW (upD d v n f) := by
  intro n
  induction n with
  | zero => intro _; exact hf
  | succ n ih =>
    intro h j
    rw [upD_s]
    by_cases c : j = d n
    · subst c; rw [up_at]; exact h n (by omega)
    · rw [up_ne _ _ c]; exact ih (fun i hi => h i (by omega)) j
theorem q_findReach {push : Nat → Int} {r : Int} : ∃ R : Nat, R ≤ 20 ∧ m_X3_findReach r push = some (R : Int) ∧ ∀ d, R < d → d ≤ 20 → push d = 0 := by
  rw [m_X3_findReach, m_X3_findReach_0]
  have key := loop_p 20 (fun F i => ∀ R : Nat, R ≤ 20 → (∀ d, R < d → d ≤ i → push d = 0) → ∃ R' : Nat, R' ≤ 20 ∧ m_X3_findReach_7 push (fun t_reach' v1' => m_X3_findReach_33 t_reach') F (R : Int) ((i : Int) + 1) = some (R' : Int) ∧ ∀ d, R' < d → d ≤ 20 → push d = 0) (fun F R hR h => ⟨R, hR, by rw [m_X3_findReach_7, if_pos (by omega)], h⟩) (fun F i hi ih _ R hR h => by
    have e1 : Int.toNat ((i : Int) + 1) = i + 1 := by omega
    rw [m_X3_findReach_7, if_neg (by omega), chkB (by omega) (by omega), e1]
    by_cases c : push (i + 1) = 0
    · rw [if_pos c, m_X3_findReach_27, chkI (by omega) (by omega)]
      exact ih R hR (fun d h1 h2 => by
        by_cases cd : d = i + 1
        · subst cd; exact c
        · exact h d h1 (by omega))
    · rw [if_neg c, m_X3_findReach_27, chkI (by omega) (by omega)]
      exact ih (i + 1) (by omega) (fun d h1 h2 => by omega)) 20 FU 0 (by omega) (by unfold FU; omega) 0 (by omega) (fun d h1 h2 => by omega)
  exact key
theorem q_sp54 {n : Nat} {ps : Int} {dist gp told : Nat → Int} {code : Nat} {d : Nat → Nat} (hn : n ≤ 3) (hc : code < 512) (hp : 0 ≤ ps ∧ ps ≤ 100) (hd : ∀ i, i < n → dist i = (d i : Int) ∧ 1 ≤ d i ∧ d i ≤ 20) (k91 : (Nat → Int) → (Nat → Int) → Int → Option (Int × Int × Int × Int × (Nat → Int) × (Nat → Int) × (Nat → Int) × (Nat → Int) × (Nat → Int) × (Nat → Int) × (Nat → Int) × (Nat → RowT))) :
    ∃ told', m_X7_searchPushes_54 (n : Int) ps dist (code : Int) k91 FU gp told 0 = k91 (upD d (fun i => ((cd n i code : Nat) : Int) * ps) n gp) told' (n : Int) := by
  exact loop_p n (fun F i => ∀ told : Nat → Int, ∃ told', m_X7_searchPushes_54 (n : Int) ps dist (code : Int) k91 F (upD d (fun i => ((cd n i code : Nat) : Int) * ps) i gp) told (i : Int) = k91 (upD d (fun i => ((cd n i code : Nat) : Int) * ps) n gp) told' (n : Int)) (fun F told => ⟨told, by rw [m_X7_searchPushes_54, if_pos (by omega)]⟩) (fun F i hi ih _ told => by
    obtain ⟨d1, d2, d3⟩ := hd i hi
    rw [m_X7_searchPushes_54, if_neg (by omega), chkB (by omega) (by omega), q_pushOf hn hi hc hp, bind_s, tn, d1, m_X3_tellPush, m_X3_tellPush_0, isDistance1 (by omega) (by omega), bind_s, if_neg ne10, chkB (by omega) (by omega), chkB (by omega) (by omega), bind_s, chkI (by omega) (by omega), tn]
    exact ih _) n FU 0 (by omega) (by unfold FU; omega) told
theorem q_fit160 {n : Nat} {ps : Int} {dist pA : Nat → Int} {code : Nat} {d : Nat → Nat} (hn : n ≤ 3) (hc : code < 512) (hp : 0 ≤ ps ∧ ps ≤ 100) (hd : ∀ i, i < n → dist i = (d i : Int) ∧ 1 ≤ d i ∧ d i ≤ 20) (k201 : (Nat → Int) → Int → Option (Int × Int × Int × (Nat → Int) × (Nat → Int) × (Nat → Int) × (Nat → Int) × (Nat → Int) × (Nat → Int) × (Nat → Int))) :
    m_X11_fit_160 dist (n : Int) ps (code : Int) k201 FU pA 0 = k201 (upD d (fun i => ((cd n i code : Nat) : Int) * ps) n pA) (n : Int) := by
  exact loop_up n (fun F i => m_X11_fit_160 dist (n : Int) ps (code : Int) k201 F (upD d (fun i => ((cd n i code : Nat) : Int) * ps) i pA) (i : Int)) (fun _ => k201 (upD d (fun i => ((cd n i code : Nat) : Int) * ps) n pA) (n : Int)) (fun F => by
    show m_X11_fit_160 _ _ _ _ _ (F + 1) _ _ = _
    rw [m_X11_fit_160, if_pos (by omega)]) (fun F i hi ih => by
    show m_X11_fit_160 _ _ _ _ _ (F + 1) _ _ = _
    obtain ⟨d1, d2, d3⟩ := hd i hi
    have h := bsh7 ⟨n - 1 - i, by omega⟩ ⟨code, hc⟩
    dsimp only at h
    have e : (3 * ((n : Int) - 1 - (i : Int))) = 3 * ((n - 1 - i : Nat) : Int) := by omega
    have e2 : ((code / 8 ^ (n - 1 - i) % 8 : Nat) : Int) = ((cd n i code : Nat) : Int) := rfl
    have hb : ((cd n i code : Nat) : Int) ≤ 7 := by unfold cd; omega
    have hb0 : 0 ≤ ((cd n i code : Nat) : Int) := by omega
    have mb := mul_bd (a := ((cd n i code : Nat) : Int)) (b := ps) (A := 7) (B := 100) (by omega) hb (by omega) hp.2
    have nx : m_X11_fit_160 dist (n : Int) ps (code : Int) k201 F (up (upD d (fun i => ((cd n i code : Nat) : Int) * ps) i pA) (d i) (((cd n i code : Nat) : Int) * ps)) ((i + 1 : Nat) : Int) = k201 (upD d (fun i => ((cd n i code : Nat) : Int) * ps) n pA) (n : Int) := ih
    rw [e2] at h
    rw [m_X11_fit_160, if_neg (by omega), chkB (by omega) (by omega), e, h, Int.mul_comm ps]
    generalize ((cd n i code : Nat) : Int) * ps = V at *
    rw [chkI (by omega) (by omega), tn, d1, chkB (by omega) (by omega), chkI (by omega) (by omega), tn]
    exact nx) n FU 0 (by omega) (by unfold FU; omega)
theorem q_fit240 {n f : Nat} {dist pA fitted : Nat → Int} {d : Nat → Nat} (hn : n ≤ 3) (hf : f < 512) (hd : ∀ i, i < n → dist i = (d i : Int) ∧ 1 ≤ d i ∧ d i ≤ 20) (k278 : (Nat → Int) → Int → Option (Int × Int × Int × (Nat → Int) × (Nat → Int) × (Nat → Int) × (Nat → Int) × (Nat → Int) × (Nat → Int) × (Nat → Int))) :
    ∃ fitted', (∀ i, i < n → fitted' (3 * f + i) = pA (d i)) ∧ (∀ j, j < 3 * f → fitted' j = fitted j) ∧ m_X11_fit_240 (f : Int) pA dist (n : Int) k278 FU fitted 0 = k278 fitted' (n : Int) := by
  exact loop_p n (fun F i => ∀ fitted1 : Nat → Int, (∀ k, k < i → fitted1 (3 * f + k) = pA (d k)) → (∀ j, j < 3 * f → fitted1 j = fitted j) → ∃ fitted', (∀ i, i < n → fitted' (3 * f + i) = pA (d i)) ∧ (∀ j, j < 3 * f → fitted' j = fitted j) ∧ m_X11_fit_240 (f : Int) pA dist (n : Int) k278 F fitted1 (i : Int) = k278 fitted' (n : Int)) (fun F f1 h1 h2 => ⟨f1, h1, h2, by rw [m_X11_fit_240, if_pos (by omega)]⟩) (fun F i hi ih _ f1 h1 h2 => by
    obtain ⟨d1, d2, d3⟩ := hd i hi
    rw [m_X11_fit_240, if_neg (by omega), chkB (by omega) (by omega), tn, d1, chkB (by omega) (by omega), chkB (by omega) (by omega), chkI (by omega) (by omega), tn, show Int.toNat (3 * (f : Int) + (i : Int)) = 3 * f + i by omega]
    refine ih _ (fun k hk => ?_) (fun j hj => by rw [up_ne _ _ (by omega)]; exact h2 j hj)
    by_cases ck : k = i
    · subst ck; rw [up_at]
    · rw [up_ne _ _ (by omega)]; exact h1 k (by omega)) n FU 0 (by omega) (by unfold FU; omega) fitted (fun k hk => by omega) (fun j _ => rfl)
/-- the row that was marked, class and model -/
def RMk (fl s g w o lo ca : Int) (mk mk2 : Nat → Int) : Prop := mk = mk2 ∧ sg mk2 ∧ Zf 100 mk2 ∧ cnt mk2 100 ≤ 30 ∧ fl = cnt mk2 100 ∧ s = 0 ∧ g = 0 ∧ w = 0 ∧ o = 0 ∧ lo = 0 ∧ ca = 0

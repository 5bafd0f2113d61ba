
/-! ===== PURE: the class's tick ===== -/
/-- the first i places of a list of those that are not nought -/
def lst (og : Nat → Int) (i : Nat) (st : Nat → Int) : Prop := ∀ p, p < i → og p ≠ 0 → st (cnt og p).toNat = (p : Int)
theorem q_X6_feelAll {og push stood felt : Nat → Int} {R : Nat} {q : Int} (hR : R ≤ 20) (hz : ∀ d, R < d → d ≤ 20 → push d = 0) (hs : sg og) (hc : cnt og 100 ≤ 30) (hp : pW push) (h1 : -9999 ≤ q) (h2 : q ≤ 9999) :
    ∃ st ft, m_X6_feelAll og stood felt (R : Int) push q = some (cnt og 100, st, ft) ∧ ∀ p, p < 100 → og p ≠ 0 → st (cnt og p).toNat = (p : Int) ∧ ft (cnt og p).toNat = og p * frc og push p q := by
  rw [m_X6_feelAll, m_X6_feelAll_0]
  have key := loop_p 100 (fun F i => ∀ st ft, (∀ p, p < i → og p ≠ 0 → st (cnt og p).toNat = (p : Int) ∧ ft (cnt og p).toNat = og p * frc og push p q) → ∃ st' ft', m_X6_feelAll_5 og (R : Int) push q (fun t_stood' t_felt' v3' v4' => m_X6_feelAll_67 t_stood' t_felt' v3') F st ft (cnt og i) (i : Int) = some (cnt og 100, st', ft') ∧ ∀ p, p < 100 → og p ≠ 0 → st' (cnt og p).toNat = (p : Int) ∧ ft' (cnt og p).toNat = og p * frc og push p q) (fun F st ft h => ⟨st, ft, by
    rw [m_X6_feelAll_5, if_pos (by omega)], h⟩) (fun F i hi ih _ st ft h => by
    have hci := cnt_mono (f := og) (show i + 1 ≤ 100 by omega)
    have hcb := cnt_bd og i
    rw [cnt_s og i] at ih hci
    have f1 := frc_bd (p := i) hs hp h1 h2
    have f2 := hs i
    have f3 := mul_bd (a := og i) (b := frc og push i q) (A := 1) (B := 50000) f2.1 f2.2 f1.1 f1.2
    by_cases c1 : 30 ≤ cnt og i
    · refine ⟨st, ft, ?_, fun p hp1 hp2 => ?_⟩
      · rw [m_X6_feelAll_5, if_neg (by omega), if_pos c1, show cnt og i = cnt og 100 by have := cnt_mono (f := og) (show i ≤ 100 by omega); omega]
      · by_cases hpi : p < i
        · exact h p hpi hp2
        · have := cnt_lt (f := og) hp1 hp2
          have := cnt_mono (f := og) (show i ≤ p by omega)
          omega
    · rw [m_X6_feelAll_5, if_neg (by omega), if_neg c1, chkB (by omega) (by omega), tn]
      by_cases c2 : og i = 0
      · rw [nz_0 c2, Int.add_zero] at ih
        obtain ⟨st', ft', hx, hy⟩ := ih st ft (fun p hp1 hp2 => h p (by rcases Nat.lt_or_ge p i with h3 | h3; exact h3; exact absurd c2 (by rwa [show i = p by omega])) hp2)
        refine ⟨st', ft', ?_, hy⟩
        rw [if_pos c2, m_X6_feelAll_61, chkI (by omega) (by omega)]
        exact hx
      · rw [nz_1 c2] at ih
        obtain ⟨st', ft', hx, hy⟩ := ih (up st (cnt og i).toNat (i : Int)) (up ft (cnt og i).toNat (og i * frc og push i q)) (fun p hp1 hp2 => by
          rcases Nat.lt_or_ge p i with h3 | h3
          · have := cnt_lt h3 hp2
            have := cnt_bd og p
            rw [up_ne _ _ (by omega), up_ne _ _ (by omega)]
            exact h p h3 hp2
          · obtain rfl : p = i := by omega
            rw [up_at, up_at]; exact ⟨rfl, rfl⟩)
        refine ⟨st', ft', ?_, hy⟩
        rw [if_neg c2, chkB (by omega) (by omega), chkB (by omega) (by omega), q_X6_forceAt hR hz hs hp hi h1 h2, bind_s, chkI (by omega) (by omega), chkB (by omega) (by omega), chkI (by omega) (by omega), m_X6_feelAll_61, chkI (by omega) (by omega)]
        exact hx) 100 FU 0 (by omega) (by unfold FU; omega) stood felt (fun p hp => by omega)
  exact key
theorem isPlace1 {p : Int} (h1 : 0 ≤ p) (h2 : p < 100) : m_X10_isPlace p = some 1 := by rw [q_X10_isPlace, if_pos ⟨h1, h2⟩]
theorem isFree1 {cur : Nat → Int} {p : Int} (h : 0 ≤ p ∧ p < 100 ∧ cur p.toNat = 0) : m_X6_isFree cur p = some 1 := by rw [q_X6_isFree, if_pos h]
theorem isFree0 {cur : Nat → Int} {p : Int} (h : ¬ (0 ≤ p ∧ p < 100 ∧ cur p.toNat = 0)) : m_X6_isFree cur p = some 0 := by rw [q_X6_isFree, if_neg h]
theorem q_X3_holdAt {lows highs : Nat → Int} {side : Int} {k : Nat} (hk : k < 100) : m_X3_holdAt lows highs (k : Int) side = some (if side = 0 then lows k else highs k) := by
  rw [m_X3_holdAt, m_X3_holdAt_0, isPlace1 (by omega) (by omega), bind_s, if_neg (show ¬(1 : Int) = 0 by decide)]
  by_cases h : side = 0
  · rw [if_pos h, if_pos h, chkB (by omega) (by omega), tn]
  · rw [if_neg h, if_neg h, chkB (by omega) (by omega), tn]
theorem q_X6_tick_26 {og push H S st ft lows highs : Nat → Int} {side more q B : Int} {k67 : Int → Int → Int → Int → Int → (Nat → Int) → Int → Int → Option (Int × Int × Int × Int × Int × Int × Int × Int × (Nat → Int) × (Nat → Int) × (Nat → Int))}
    (hw : rW B og S) (hB : B ≤ 19000000) (hp : pW push) (h1 : -9999 ≤ q) (h2 : q ≤ 9999) (hm : 0 ≤ more ∧ more ≤ 2000000000) (hh : ∀ k, k < 100 → (if side = 0 then lows k else highs k) + more = H k ∧ 0 ≤ H k ∧ H k ≤ 2000009999)
    (hl : ∀ p, p < 100 → og p ≠ 0 → st (cnt og p).toNat = (p : Int) ∧ ft (cnt og p).toNat = og p * frc og push p q) :
    m_X6_tick_26 st ft lows highs side more (cnt og 100) k67 FU (cnt og 100) (S 0) (S 5) (S 2) (S 3) og 0 0 = k67 (cnt (wk og push H S q 100).1 100) ((wk og push H S q 100).2.1 0) ((wk og push H S q 100).2.1 5) ((wk og push H S q 100).2.1 2) ((wk og push H S q 100).2.1 3) (wk og push H S q 100).1 (wk og push H S q 100).2.2 (cnt og 100) := by
  obtain ⟨r1, r2, r3, r4, r5⟩ := hw
  have hB0 : 0 ≤ B := by have := r5.1; omega
  exact loop_p 100 (fun F i => m_X6_tick_26 st ft lows highs side more (cnt og 100) k67 F (cnt (wk og push H S q i).1 100) ((wk og push H S q i).2.1 0) ((wk og push H S q i).2.1 5) ((wk og push H S q i).2.1 2) ((wk og push H S q i).2.1 3) (wk og push H S q i).1 (wk og push H S q i).2.2 (cnt og i) = k67 (cnt (wk og push H S q 100).1 100) ((wk og push H S q 100).2.1 0) ((wk og push H S q 100).2.1 5) ((wk og push H S q 100).2.1 2) ((wk og push H S q 100).2.1 3) (wk og push H S q 100).1 (wk og push H S q 100).2.2 (cnt og 100)) (fun F => by
    rw [m_X6_tick_26, if_pos (by omega)]) (fun F i hi ih ih2 => by
    obtain ⟨i1, i2, i3, i4, i5, i6, i7, i8⟩ := wk_ok (push := push) (H := H) (q := q) r1 r2 r4 i (by omega)
    have hBi := sG_sB i7 r5 (cnt_bd og i).1
    have hci := cnt_mono (f := og) (show i ≤ 100 by omega)
    have hcb := cnt_bd og i
    rw [wk_s i, wk1, cnt_s og i] at ih ih2
    by_cases c0 : og i = 0
    · rw [if_pos c0, nz_0 c0, Int.add_zero] at ih2
      exact ih2
    · have hlt := cnt_lt (f := og) hi c0
      have f1 := frc_bd (p := i) r1 hp h1 h2
      have f2 := r1 i
      have f3 := mul_bd (a := og i) (b := frc og push i q) (A := 1) (B := 50000) f2.1 f2.2 f1.1 f1.2
      obtain ⟨l1, l2⟩ := hl i hi c0
      obtain ⟨e1, e2, e3⟩ := hh i hi
      obtain ⟨c, hcc⟩ : ∃ c : Nat, cnt og i = (c : Int) := ⟨(cnt og i).toNat, by omega⟩
      rw [hcc] at l1 l2 ih
      rw [if_neg c0, nz_1 c0] at ih
      rw [hcc, m_X6_tick_26, if_neg (by omega), chkB (by omega) (by omega)]
      rw [tn] at l1 l2 ⊢
      have hgo := q_X6_go (S := (wk og push H S q i).2.1) (felt := ft) (i := c) (k := i) (H := H i) i1 (by omega) l1 hi (by rw [l2]; exact f3) hBi (by omega)
      rw [l1, q_X3_holdAt hi, bind_s, e1, chkJ (by omega) (by omega), hgo, bind_s, l2]
      rw [l2] at hgo
      by_cases hg : (gst (wk og push H S q i).1 (wk og push H S q i).2.1 i (bw (og i * frc og push i q) (H i))).2.2 = 0
      · rw [if_pos hg] at ih ⊢
        rw [m_X6_tick_61, chkI (by omega) (by omega)]
        exact ih
      · rw [if_neg hg] at ih ⊢
        rw [m_X6_tick_61, chkI (by omega) (by omega)]
        exact ih) 100 FU 0 (by omega) (by unfold FU; omega)
theorem q_X6_give {cur S push sh sH : Nat → Int} {R k : Nat} {q B : Int} (hR : R ≤ 20) (hz : ∀ d, R < d → d ≤ 20 → push d = 0) (hs : sg cur) (hp : pW push) (h1 : -9999 ≤ q) (h2 : q ≤ 9999) (hk : 1 ≤ k ∧ k ≤ 98) (h4 : 0 ≤ S 4 ∧ S 4 ≤ 7 * B) (hB : B ≤ 20000000) (hsh : sH k = sh k) (hsr : 0 ≤ sh k ∧ sh k ≤ 9999) (v : Int) :
    m_X6_give (cnt cur 100) (S 4) cur (R : Int) push sH (k : Int) q = some (cnt (sr1 push sh q k (cur, S, v)).1 100, (sr1 push sh q k (cur, S, v)).2.1 4, (sr1 push sh q k (cur, S, v)).1) := by
  have n0 := cnt_bd cur 100
  have fb := frc_bd (p := k) hs hp h1 h2
  have em : Int.toNat ((k : Int) - 1) = k - 1 := by omega
  have ep : Int.toNat ((k : Int) + 1) = k + 1 := by omega
  have stay : gv cur push (sh k) k q = 0 → sr1 push sh q k (cur, S, v) = (cur, S, v) := fun h => by unfold sr1; dsimp only; rw [if_pos h]
  rw [m_X6_give, m_X6_give_0]
  by_cases c5 : 28 < cnt cur 100
  · rw [if_pos c5, stay (by unfold gv; rw [if_pos (Or.inr (Or.inr (Or.inr (Or.inr c5))))])]
  · rw [if_neg c5, chkI (by omega) (by omega)]
    by_cases c3 : cur (k - 1) = 0
    · rw [isFree1 (p := (k : Int) - 1) ⟨by omega, by omega, by rw [em]; exact c3⟩, bind_s, if_neg (by decide)]
      by_cases c2 : cur k = 0
      · rw [isFree1 (p := (k : Int)) ⟨by omega, by omega, c2⟩, bind_s, if_neg (by decide), chkI (by omega) (by omega)]
        by_cases c4 : cur (k + 1) = 0
        · rw [isFree1 (p := (k : Int) + 1) ⟨by omega, by omega, by rw [ep]; exact c4⟩, bind_s, if_neg (by decide), q_X6_forceAt hR hz hs hp (by omega) h1 h2, bind_s, chkB (by omega) (by omega), tn, hsh]
          have hgv : gv cur push (sh k) k q = bw (frc cur push k q) (sh k) := by
            unfold gv; rw [if_neg]
            rintro (h | h | h | h | h)
            · omega
            · exact h c2
            · exact h c3
            · exact h c4
            · exact c5 h
          have go : ∀ b : Int, b = 1 ∨ b = -1 → gv cur push (sh k) k q = b → m_X6_give_79 (cnt cur 100) (S 4) cur (k : Int) b = some (cnt (sr1 push sh q k (cur, S, v)).1 100, (sr1 push sh q k (cur, S, v)).2.1 4, (sr1 push sh q k (cur, S, v)).1) := by
            intro b hb hg
            have e : sr1 push sh q k (cur, S, v) = (up (up cur (k + 1) b) (k - 1) (-b), up S 4 (S 4 + 2), 1) := by unfold sr1; dsimp only; rw [hg, if_neg (by omega)]
            rw [e]
            dsimp only
            rw [cnt_up (by omega), cnt_up (by omega), up_ne _ _ (by omega), c3, c4, nz_0 (x := 0) rfl, nz_1 (x := b) (by omega), nz_1 (x := -b) (by omega), up_at, m_X6_give_79, if_neg (by omega), chkB (by omega) (by omega), chkI (by omega) (by omega), chkB (by omega) (by omega), chkI (by omega) (by omega), chkI (by omega) (by omega), em, ep, show cnt cur 100 + 1 - 0 + 1 - 0 = cnt cur 100 + 2 by omega]
          by_cases c6 : frc cur push k q ≤ sh k
          · rw [if_pos c6, chkI (by omega) (by omega)]
            by_cases c7 : -(sh k) ≤ frc cur push k q
            · rw [if_pos c7, m_X6_give_79, if_pos rfl, stay (by rw [hgv]; unfold bw; rw [if_pos c6, if_pos (by omega)])]
            · rw [if_neg c7]
              exact go (-1) (Or.inr rfl) (by rw [hgv]; unfold bw; rw [if_pos c6, if_neg (by omega)])
          · rw [if_neg c6]
            exact go 1 (Or.inl rfl) (by rw [hgv]; unfold bw; rw [if_neg c6])
        · rw [isFree0 (p := (k : Int) + 1) (fun h => c4 (by rw [ep] at h; exact h.2.2)), bind_s, if_pos rfl, stay (by unfold gv; rw [if_pos (Or.inr (Or.inr (Or.inr (Or.inl c4))))])]
      · rw [isFree0 (p := (k : Int)) (fun h => c2 h.2.2), bind_s, if_pos rfl, stay (by unfold gv; rw [if_pos (Or.inr (Or.inl c2))])]
    · rw [isFree0 (p := (k : Int) - 1) (fun h => c3 (by rw [em] at h; exact h.2.2)), bind_s, if_pos rfl, stay (by unfold gv; rw [if_pos (Or.inr (Or.inr (Or.inl c3)))])]
/-- the class's list of sources against the model's holds -/
def sO (sh sH so : Nat → Int) (m : Int) : Prop := cnt (fun j => sh j + 1) 100 = m ∧ m ≤ 5 ∧ (∀ j, j < 100 → -1 ≤ sh j ∧ sh j ≤ 9999) ∧ sh 0 = -1 ∧ sh 99 = -1 ∧ (∀ p, p < 100 → sh p ≠ -1 → so (cnt (fun j => sh j + 1) p).toNat = (p : Int) ∧ sH p = sh p)
theorem q_X6_tick_70 {push sh sH so : Nat → Int} {q B m : Int} {R : Nat} {s : WS} {k98 : Int → Int → (Nat → Int) → Int → Option (Int × Int × Int × Int × Int × Int × Int × Int × (Nat → Int) × (Nat → Int) × (Nat → Int))} (hR : R ≤ 20) (hz : ∀ d, R < d → d ≤ 20 → push d = 0) (hs : sg s.1) (hZ : Zf 100 s.1) (hzS : Zf 6 s.2.1) (hc : cnt s.1 100 ≤ 30) (hv : s.2.2 = 0 ∨ s.2.2 = 1) (h4 : 0 ≤ s.2.1 4 ∧ s.2.1 4 ≤ 7 * B) (hB : B ≤ 19900000) (hp : pW push) (h1 : -9999 ≤ q) (h2 : q ≤ 9999) (ho : sO sh sH so m) (hB0 : 0 ≤ B) (hB2 : 7 * B + 200 ≤ 140000000) :
    m_X6_tick_70 m (R : Int) push sH so q k98 FU (cnt s.1 100) (s.2.1 4) s.1 0 = k98 (cnt (sr push sh q s 98).1 100) ((sr push sh q s 98).2.1 4) (sr push sh q s 98).1 m := by
  obtain ⟨o1, o2, o3, o4, o5, o6⟩ := ho
  have c1 : cnt (fun j => sh j + 1) 1 = 0 := by show cnt (fun j => sh j + 1) (0 + 1) = 0; rw [cnt_s _ 0, nz_0 (by rw [o4]; rfl), cnt_z]; rfl
  have c99 : cnt (fun j => sh j + 1) 99 = m := by rw [← o1]; show _ = cnt (fun j => sh j + 1) (99 + 1); rw [cnt_s _ 99, nz_0 (by rw [o5]; rfl), Int.add_zero]
  have key := loop_p 98 (fun F n => m_X6_tick_70 m (R : Int) push sH so q k98 F (cnt (sr push sh q s n).1 100) ((sr push sh q s n).2.1 4) (sr push sh q s n).1 (cnt (fun j => sh j + 1) (n + 1)) = k98 (cnt (sr push sh q s 98).1 100) ((sr push sh q s 98).2.1 4) (sr push sh q s 98).1 m) (fun F => by
    rw [m_X6_tick_70, c99, if_pos (by omega)]) (fun F n hn ih ih2 => by
    obtain ⟨i1, i2, i3, i4, i5, i6, i7, i8⟩ := sr_ok (push := push) (sh := sh) (q := q) hs hZ hzS hc hv n (by omega)
    rw [sr_s n] at ih ih2
    have hci := cnt_mono (f := fun j => sh j + 1) (show n + 1 ≤ 99 by omega)
    have hcb := cnt_bd (fun j => sh j + 1) (n + 1)
    rw [cnt_s (fun j => sh j + 1) (n + 1)] at ih ih2
    generalize sr push sh q s n = st at *
    obtain ⟨cur, S, v⟩ := st
    dsimp only at *
    by_cases c0 : sh (n + 1) = -1
    · have e : sr1 push sh q (n + 1) (cur, S, v) = (cur, S, v) := by unfold sr1; dsimp only; rw [if_pos]; unfold gv; rw [if_pos (Or.inl c0)]
      rw [nz_0 (by rw [c0]; rfl), Int.add_zero, e] at ih2
      exact ih2
    · have hlt := cnt_lt (f := fun j => sh j + 1) (i := n + 1) (j := 100) (by omega) (by omega)
      obtain ⟨l1, l2⟩ := o6 (n + 1) (by omega) c0
      have l3 := o3 (n + 1) (by omega)
      obtain ⟨c, hcc⟩ : ∃ c : Nat, cnt (fun j => sh j + 1) (n + 1) = (c : Int) := ⟨(cnt (fun j => sh j + 1) (n + 1)).toNat, by omega⟩
      rw [nz_1 (by omega)] at ih
      rw [hcc] at l1 ih hlt ⊢
      rw [tn] at l1
      rw [m_X6_tick_70, if_neg (by omega), chkB (by omega) (by omega), tn, l1, q_X6_give (B := B + 30) hR hz i1 hp h1 h2 (by omega) (by omega) (by omega) l2 (by omega) v, bind_s, chkI (by omega) (by omega)]
      exact ih) 98 FU 0 (by omega) (by unfold FU; omega)
  rw [c1] at key
  exact key
/-- the class's numbers of a row -/
theorem q_X6_tick {push H sh sH so cur S stood felt lows highs : Nat → Int} {side more q B m : Int} {R : Nat} (hw : rW B cur S) (hB : B ≤ 19000000) (hR : R ≤ 20) (hz : ∀ d, R < d → d ≤ 20 → push d = 0) (hp : pW push) (h1 : -9999 ≤ q) (h2 : q ≤ 9999) (hm : 0 ≤ more ∧ more ≤ 2000000000) (hh : ∀ k, k < 100 → (if side = 0 then lows k else highs k) + more = H k ∧ 0 ≤ H k ∧ H k ≤ 2000009999) (ho : sO sh sH so m) :
    ∃ st ft, m_X6_tick (cnt cur 100) (S 0) (S 5) (S 1) (S 2) (S 3) (S 4) cur stood felt m (R : Int) push lows highs sH so q side more = some ((tk push H sh q (cur, S)).2.2, cnt (tk push H sh q (cur, S)).1 100, (tk push H sh q (cur, S)).2.1 0, (tk push H sh q (cur, S)).2.1 5, (tk push H sh q (cur, S)).2.1 1, (tk push H sh q (cur, S)).2.1 2, (tk push H sh q (cur, S)).2.1 3, (tk push H sh q (cur, S)).2.1 4, (tk push H sh q (cur, S)).1, st, ft) := by
  obtain ⟨r1, r2, r3, r4, r5⟩ := hw
  have hB0 : 0 ≤ B := by have := r5.1; omega
  obtain ⟨st, ft, hf1, hf2⟩ := q_X6_feelAll (stood := stood) (felt := felt) hR hz r1 r3 hp h1 h2
  refine ⟨st, ft, ?_⟩
  obtain ⟨w1, w2, w3, w4, w5, w6, w7, w8⟩ := wk_ok (push := push) (H := H) (q := q) r1 r2 r4 100 (by omega)
  obtain ⟨s1, s2, s3, s4, s5, s6, s7, s8⟩ := sr_ok (push := push) (sh := sh) (q := q) w1 w2 w3 (by omega) w8 98 (by omega)
  have hc := cnt_bd cur 100
  have t4 : 0 ≤ (wk cur push H S q 100).2.1 4 ∧ (wk cur push H S q 100).2.1 4 ≤ 7 * B := by
    rw [w7.2.2.2.2.1]; exact r5.2.2.2.2.1
  have w4' := w7.2.2.2.2.1
  have h26 := q_X6_tick_26 (k67 := fun t_flaws' t_slipped' t_gone' t_out' t_lost' t_signs' v9' v10' => m_X6_tick_67 t_flaws' t_slipped' t_gone' (S 1) t_out' t_lost' (S 4) t_signs' st ft m (R : Int) push sH so q (S 0) (S 4) v9') ⟨r1, r2, r3, r4, r5⟩ hB hp h1 h2 hm hh hf2
  have h70 := q_X6_tick_70 (k98 := fun t_flaws' t_came' t_signs' v10' => m_X6_tick_98 t_flaws' ((wk cur push H S q 100).2.1 0) ((wk cur push H S q 100).2.1 5) (S 1) ((wk cur push H S q 100).2.1 2) ((wk cur push H S q 100).2.1 3) t_came' t_signs' st ft q (S 0) (S 4) (wk cur push H S q 100).2.2) (B := B) hR hz w1 w2 w3 (by omega) w8 t4 (by omega) hp h1 h2 ho hB0 (by omega)
  obtain ⟨⟨a1, a2⟩, b1, b2, b3, b4, b5⟩ := w7
  obtain ⟨t0, t1, t2, t3, t5, t6⟩ := r5
  have e0 := s7 0 (by decide)
  have e1 := s7 1 (by decide)
  have e2 := s7 2 (by decide)
  have e3 := s7 3 (by decide)
  have e5 := s7 5 (by decide)
  have m := mul_bd (a := q) (b := (wk cur push H S q 100).2.1 0 - S 0) (A := 9999) (B := 30) h1 h2 (by omega) (by omega)
  rw [m_X6_tick, m_X6_tick_0, hf1, bind_s]
  refine h26.trans ?_
  show m_X6_tick_67 _ _ _ _ _ _ _ _ _ _ _ _ _ _ _ _ _ _ _ = _
  rw [m_X6_tick_67]
  rw [w4'] at h70
  refine h70.trans ?_
  show m_X6_tick_98 _ _ _ _ _ _ _ _ _ _ _ _ _ _ = _
  rw [m_X6_tick_98, chkI (by omega) (by omega), chkJ (by omega) (by omega)]
  unfold tk
  dsimp only
  rw [up_at, up_ne _ _ (by decide), up_ne _ _ (by decide), up_ne _ _ (by decide), up_ne _ _ (by decide), up_ne _ _ (by decide), s8, e0, e1, e2, e3, e5, b1, w4']
  by_cases c : (wk cur push H S q 100).2.2 = 0
  · rw [if_pos c]
    by_cases c2 : (sr push sh q (wk cur push H S q 100) 98).2.1 4 = S 4
    · rw [if_pos c2, if_pos c2, c]
    · rw [if_neg c2, if_neg c2, m_X6_tick_132]
  · have c1 : (wk cur push H S q 100).2.2 = 1 := w8.resolve_left c
    rw [if_neg c, m_X6_tick_132, c1, ite_self]


/-! ===== LAW: its first state ===== -/
def zrow : RowT := (fun _ => 0, fun _ => 0, fun _ => 0, 0, 0, 0, 0, 0, 0, 0)
def N0 : Nat → Int := fun i => if i = 14 then 1 else 0
def F0_ : Nat → Nat → Int := fun _ _ => 0
def K0 : Nat → Nat → Nat := fun _ j => j
def R0 : Nat → Nat → RowT := fun _ _ => zrow
def M0 : Nat → Int := fun _ => 0
def Fm0 : Nat → Nat → Int := fun i => if i = 7 then mf 100 else if i = 9 then mf 100 else fun _ => 0
theorem FA_app {h : AH} {as1 as2 : List Nat} {es1 es2 : List va_E} (h1 : FA h as1 es1) (hl : as1.length = es1.length) (h2 : FA h as2 es2) : FA h (as1 ++ as2) (es1 ++ es2) := by
  intro i a e hi he
  by_cases c : i < as1.length
  · rw [List.getElem?_append_left c] at hi
    rw [List.getElem?_append_left (by omega)] at he
    exact h1 i a e hi he
  · rw [List.getElem?_append_right (by omega)] at hi
    rw [List.getElem?_append_right (by omega), ← hl] at he
    exact h2 _ a e hi he
def seg (b o n : Nat) : List Nat := (List.range n).map (fun i => b + (o + i))
theorem lay_mid {a o i : Nat} {blk pre s post : List va_E} {h : AH} {e : va_E} (hb : blk = pre ++ (s ++ post)) (ho : pre.length = o) (he : s[i]? = some e) : lay a blk h (a + (o + i)) = e := by
  subst hb
  have hil : i < s.length := (List.getElem?_eq_some_iff.mp he).1
  refine lay_at ?_
  rw [← ho, List.getElem?_append_right (by omega), Nat.add_sub_cancel_left, List.getElem?_append_left hil]
  exact he
theorem FA_seg {a o n : Nat} {blk pre s post : List va_E} {h : AH} (hb : blk = pre ++ (s ++ post)) (ho : pre.length = o) (hn : s.length = n) : FA (lay a blk h) (seg a o n) s := by
  intro i q e hi he
  have hil : i < s.length := (List.getElem?_eq_some_iff.mp he).1
  have hq : a + (o + i) = q := by
    unfold seg at hi
    rw [List.getElem?_map, List.getElem?_range (by omega)] at hi
    exact Option.some.inj hi
  rw [← hq]
  exact lay_mid hb ho he
theorem rowsB_get {E : EE} {b : Nat} : ∀ (n j : Nat), j < 4 * n → (rowsB E b n)[j]? = some ((rc E (b + 4 * (j / 4)) zrow).getD (j % 4) (.inr (0, [])))
  | 0, j, hj => by omega
  | n + 1, j, hj => by
    show (rowsB E b n ++ blkX6 E (b + 4 * n))[j]? = _
    by_cases c : j < 4 * n
    · rw [List.getElem?_append_left (by rw [rowsB_len]; exact c)]
      exact rowsB_get n j c
    · rw [List.getElem?_append_right (by rw [rowsB_len]; omega), rowsB_len]
      obtain ⟨r, hr, e⟩ : ∃ r : Nat, r < 4 ∧ j = 4 * n + r := ⟨j - 4 * n, by omega, by omega⟩
      subst e
      rw [show (4 * n + r) / 4 = n by omega, show (4 * n + r) % 4 = r by omega, show 4 * n + r - 4 * n = r by omega]
      match r, hr with
      | 0, _ => rfl
      | 1, _ => rfl
      | 2, _ => rfl
      | 3, _ => rfl
theorem FF_seg {E : EE} {b0 o n : Nat} {blk pre post : List va_E} {h : AH} (hb : blk = pre ++ (rowsB E (b0 + o) n ++ post)) (ho : pre.length = o) : FF E (lay b0 blk h) (b0 + o) n (fun _ => zrow) := by
  intro q h1 h2
  obtain ⟨j, e⟩ : ∃ j : Nat, q = b0 + (o + j) := ⟨q - b0 - o, by omega⟩
  subst e
  rw [lay_mid hb ho (rowsB_get n j (by omega))]
  unfold fam
  rw [if_pos ⟨h1, h2⟩, show b0 + (o + j) - (b0 + o) = j by omega]
def sgA (E : EE) (a : Nat) : List va_E := ((((([.inr (10, [.ref (a + 1), .ref (a + 3), .ref (a + 21), .ref (a + 22), .ref (a + 26), .ref (a + 30), .ref (a + 236), .ref (a + 276), .ref (a + 321), .ref (a + 345)])] ++ blkX5 E (a + 1)) ++ blkX9 E (a + 3)) ++ blkX4 E (a + 21)) ++ blkX6 E (a + 22)) ++ blkX6 E (a + 26)) ++ preX0 E (a + 30) (kf (a + 30 + 2) 51)
def sgB (E : EE) (a : Nat) : List va_E := preX7 E (a + 236) (kf (a + 236 + 16) 6)
def sgC (E : EE) (a : Nat) : List va_E := preX2 E (a + 276) (kf (a + 276 + 13) 8)
def sgD (E : EE) (a : Nat) : List va_E := blkX1 E (a + 321) ++ blkX1 E (a + 345)
theorem blk_split {E : EE} {a : Nat} : blkX10 E a = sgA E a ++ (rowsB E (a + 32) 51 ++ (sgB E a ++ (rowsB E (a + 252) 6 ++ (sgC E a ++ (rowsB E (a + 289) 8 ++ sgD E a))))) := by
  unfold blkX10 sgA sgB sgC sgD blkX0 blkX7 blkX2 bljX0 bljX7 bljX2
  simp only [List.append_assoc]
theorem sgA_len {E : EE} {a : Nat} : (sgA E a).length = 32 := rfl
theorem sgB_len {E : EE} {a : Nat} : (sgB E a).length = 16 := rfl
theorem sgC_len {E : EE} {a : Nat} : (sgC E a).length = 13 := rfl
theorem sgD_len {E : EE} {a : Nat} : (sgD E a).length = 48 := rfl
/-- the heap of the class alone -/
theorem start_low {E : EE} {b0 q : Nat} {h : AH} (hq : q < b0 + 369) : h_start E b0 h q = lay b0 (blkX10 E b0) (pu h b0 (.inr (10, [.null, .null, .null, .null, .null, .null, .null, .null, .null, .null]))) q := by
  unfold h_start
  rw [lay_out (Or.inl hq)]
  exact if_neg (by omega)
theorem start_FA {E : EE} {b0 : Nat} {h : AH} : FA (h_start E b0 h) (seg b0 0 32 ++ (seg b0 236 16 ++ (seg b0 276 13 ++ seg b0 321 48))) (sgA E b0 ++ (sgB E b0 ++ (sgC E b0 ++ sgD E b0))) := by
  have hlow : ∀ (o n : Nat), o + n ≤ 369 → ∀ s : List va_E, FA (lay b0 (blkX10 E b0) (pu h b0 (.inr (10, [.null, .null, .null, .null, .null, .null, .null, .null, .null, .null])))) (seg b0 o n) s → FA (h_start E b0 h) (seg b0 o n) s := by
    intro o n hon s hf i q e hi he
    have hq : q < b0 + 369 := by
      unfold seg at hi
      rw [List.getElem?_map] at hi
      cases hr : (List.range n)[i]? with
      | none => rw [hr] at hi; exact absurd hi (by simp)
      | some k =>
        rw [hr] at hi
        have e1 : b0 + (o + k) = q := Option.some.inj hi
        have := List.mem_range.mp (List.mem_of_getElem? hr)
        omega
    rw [start_low hq]
    exact hf i q e hi he
  refine FA_app (hlow _ _ (by decide) _ (FA_seg (pre := []) blk_split rfl sgA_len)) rfl (FA_app (hlow _ _ (by decide) _ (FA_seg (pre := sgA E b0 ++ rowsB E (b0 + 32) 51) (post := rowsB E (b0 + 252) 6 ++ (sgC E b0 ++ (rowsB E (b0 + 289) 8 ++ sgD E b0))) ?_ ?_ sgB_len)) rfl (FA_app (hlow _ _ (by decide) _ (FA_seg (pre := sgA E b0 ++ (rowsB E (b0 + 32) 51 ++ (sgB E b0 ++ rowsB E (b0 + 252) 6))) (post := rowsB E (b0 + 289) 8 ++ sgD E b0) ?_ ?_ sgC_len)) rfl (hlow _ _ (by decide) _ (FA_seg (pre := sgA E b0 ++ (rowsB E (b0 + 32) 51 ++ (sgB E b0 ++ (rowsB E (b0 + 252) 6 ++ (sgC E b0 ++ rowsB E (b0 + 289) 8))))) (post := []) ?_ ?_ sgD_len))))
  · rw [blk_split]; simp only [List.append_assoc]
  · simp only [List.length_append, rowsB_len, sgA_len]
  · rw [blk_split]; simp only [List.append_assoc]
  · simp only [List.length_append, rowsB_len, sgA_len, sgB_len]
  · rw [blk_split]; simp only [List.append_assoc, List.append_nil]
  · simp only [List.length_append, rowsB_len, sgA_len, sgB_len, sgC_len]
theorem start_FF {E : EE} {b0 : Nat} {h : AH} : FF E (h_start E b0 h) (b0 + 32) 51 (R0 0) ∧ FF E (h_start E b0 h) (b0 + 252) 6 (R0 1) ∧ FF E (h_start E b0 h) (b0 + 289) 8 (R0 2) := by
  have hlow : ∀ (o n : Nat), o + 4 * n ≤ 369 → FF E (lay b0 (blkX10 E b0) (pu h b0 (.inr (10, [.null, .null, .null, .null, .null, .null, .null, .null, .null, .null])))) (b0 + o) n (fun _ => zrow) → FF E (h_start E b0 h) (b0 + o) n (fun _ => zrow) := by
    intro o n hon hf q h1 h2
    rw [start_low (by omega), hf q h1 h2]
    unfold fam
    rw [if_pos ⟨h1, h2⟩, if_pos ⟨h1, h2⟩]
  refine ⟨hlow 32 51 (by decide) (FF_seg (pre := sgA E b0) blk_split sgA_len), hlow 252 6 (by decide) (FF_seg (pre := sgA E b0 ++ (rowsB E (b0 + 32) 51 ++ sgB E b0)) (post := sgC E b0 ++ (rowsB E (b0 + 289) 8 ++ sgD E b0)) ?_ ?_), hlow 289 8 (by decide) (FF_seg (pre := sgA E b0 ++ (rowsB E (b0 + 32) 51 ++ (sgB E b0 ++ (rowsB E (b0 + 252) 6 ++ sgC E b0)))) (post := sgD E b0) ?_ ?_)⟩
  · rw [blk_split]; simp only [List.append_assoc]
  · simp only [List.length_append, rowsB_len, sgA_len, sgB_len]
  · rw [blk_split]; simp only [List.append_assoc]
  · simp only [List.length_append, rowsB_len, sgA_len, sgB_len, sgC_len]
theorem start_FM {E : EE} {b0 : Nat} {h : AH} : FA (h_start E b0 h) (asM (b0 + 369)) (esM E (b0 + 369) M0 Fm0) :=
  FA_seg (a := b0 + 369) (o := 0) (n := 49) (blk := blkX11 E (b0 + 369)) (pre := []) (post := []) (s := esM E (b0 + 369) M0 Fm0) rfl rfl rfl
theorem asC_seg {b0 : Nat} : asC b0 (b0 + 321) (b0 + 345) = seg b0 0 32 ++ (seg b0 236 16 ++ (seg b0 276 13 ++ seg b0 321 48)) := rfl
/-- arrays of references, told by their contents below their length -/
theorem RA_le {E : EE} {n q : Nat} {f g : Nat → Option Nat} {D : va_G} {cl : List vw_C} {H : Heap} (hfg : ∀ i, i < n → f i = g i) (h : va_at D cl (q, RA E n f) H) : va_at D cl (q, RA E n g) H := by
  have e : vp_cell (E.2.1 4) (n, .inr (.inr (.inr (.inr f)))) = vp_cell (E.2.1 4) (n, .inr (.inr (.inr (.inr g)))) := by
    rw [vp_cell_q, vp_cell_q]
    unfold arrV
    have e2 : (Array.ofFn (n := n) fun j => va_rf (f j.val)) = Array.ofFn (n := n) fun j => va_rf (g j.val) := congrArg (fun F : Fin n → Value => Array.ofFn F) (funext fun j => by rw [hfg j.val j.isLt])
    rw [e2]
  have h' : H[q]? = some (vp_cell (E.2.1 4) (n, .inr (.inr (.inr (.inr f))))) := h
  rw [e] at h'
  exact h'
theorem G_heap {l : Launch} {E : EE} {b0 : Nat} {M : MB} {X : State → Prop} {Z : ZT} {c1 c2 n pc : Nat} {h h' : AH} {L : LL} {st : List Value} (hh : ∀ a, b0 ≤ a → a < b0 + n → ∀ H : Heap, va_at E.1 vwCl (a, h a) H → va_at E.1 vwCl (a, h' a) H) (k : G l E b0 M X Z c1 c2 n h' pc L st) : G l E b0 M X Z c1 c2 n h pc L st := fun p e s m args below meth c C hX hb H locs ls hR hS hl => k p e s m args below meth c C hX hb H locs ls ⟨hR.1, fun a h1 h2 => hh a h1 h2 H (hR.2 a h1 h2)⟩ hS hl
def h_one (E : EE) (b0 : Nat) (h : AH) : AH := ov [b0 + 31, b0 + 237, b0 + 277] [RK E 51 (b0 + 32) (K0 0), RK E 6 (b0 + 252) (K0 1), RK E 8 (b0 + 289) (K0 2)] (h_start E b0 h)
theorem kf_id {b n i : Nat} (h : i < n) : kf b n i = some (b + 4 * i) := if_pos h
theorem start_le {E : EE} {b0 : Nat} {h : AH} (a : Nat) (H : Heap) (ha : va_at E.1 vwCl (a, h_start E b0 h a) H) : va_at E.1 vwCl (a, h_one E b0 h a) H := by
  by_cases c1 : a = b0 + 31
  · subst c1
    have e : h_start E b0 h (b0 + 31) = RA E 51 (kf (b0 + 30 + 2) 51) := start_FA 31 _ _ rfl rfl
    rw [e] at ha
    rw [show h_one E b0 h (b0 + 31) = RK E 51 (b0 + 32) (K0 0) from if_pos rfl]
    exact RA_le (fun i hi => kf_id hi) ha
  by_cases c2 : a = b0 + 237
  · subst c2
    have e : h_start E b0 h (b0 + 237) = RA E 6 (kf (b0 + 236 + 16) 6) := start_FA 33 _ _ rfl rfl
    rw [e] at ha
    rw [show h_one E b0 h (b0 + 237) = RK E 6 (b0 + 252) (K0 1) from (if_neg c1).trans (if_pos rfl)]
    exact RA_le (fun i hi => kf_id hi) ha
  by_cases c3 : a = b0 + 277
  · subst c3
    have e : h_start E b0 h (b0 + 277) = RA E 8 (kf (b0 + 276 + 13) 8) := start_FA 49 _ _ rfl rfl
    rw [e] at ha
    rw [show h_one E b0 h (b0 + 277) = RK E 8 (b0 + 289) (K0 2) from (if_neg c1).trans ((if_neg c2).trans (if_pos rfl))]
    exact RA_le (fun i hi => kf_id hi) ha
  rw [show h_one E b0 h a = h_start E b0 h a from (if_neg c1).trans ((if_neg c2).trans (if_neg c3))]
  exact ha
theorem ok_01 {x : Int} (t : Nat) (h : x = 0 ∨ x = 1) : okt t x := by
  unfold okt
  split
  · unfold inI; omega
  · unfold inJ; omega
  · unfold inZ; omega
  · trivial
theorem ok_0F (t : Nat) : okf t (fun _ => 0) := by
  unfold okf
  split
  · exact fun _ => (show inI 0 from ⟨by decide, by decide⟩)
  · exact fun _ => (show inJ 0 from ⟨by decide, by decide⟩)
  · exact fun _ => Or.inl rfl
  · exact fun _ => (show inY 0 from ⟨by decide, by decide⟩)
  · trivial
theorem ok_mf : okA (mf 100) := fun j => by
  unfold mf inI
  split <;> omega
theorem ok_zrow : okRow zrow := ⟨ok_0F 0, ok_0F 0, ok_0F 0, ⟨by decide, by decide⟩, ⟨by decide, by decide⟩, ⟨by decide, by decide⟩, ⟨by decide, by decide⟩, ⟨by decide, by decide⟩, ⟨by decide, by decide⟩, ⟨by decide, by decide⟩⟩
def litR (E : EE) (b0 : Nat) : List va_E := [.inr (10, fsX10 b0 (b0 + 321) (b0 + 345)), .inr (5, fsX5 (b0 + 1) 0 0 0 0), IA E 400 (fun _ => 0), .inr (9, fsX9 (b0 + 3) 0 0 0), ZA E 60 (fun _ => 0), IA E 120 (fun _ => 0), IA E 120 (fun _ => 0), .inr (8, fsX8 (b0 + 7) 0), IA E 120 (fun _ => 0), IA E 120 (fun _ => 0), IA E 120 (fun _ => 0), ZA E 120 (fun _ => 0), IA E 8 (fun _ => 0), IA E 8 (fun _ => 0), .inr (8, fsX8 (b0 + 14) 0), IA E 256 (fun _ => 0), IA E 256 (fun _ => 0), IA E 256 (fun _ => 0), IA E 256 (fun _ => 0), IA E 256 (fun _ => 0), IA E 256 (fun _ => 0), .inr (4, fsX4 (b0 + 21) 0 0 0 0 0 1), .inr (6, fsX6 (b0 + 22) 0 0 0 0 0 0 0), IA E 100 (fun _ => 0), IA E 30 (fun _ => 0), IA E 30 (fun _ => 0), .inr (6, fsX6 (b0 + 26) 0 0 0 0 0 0 0), IA E 100 (fun _ => 0), IA E 30 (fun _ => 0), IA E 30 (fun _ => 0), .inr (0, fsX0 (b0 + 30) 0 0), RA E 51 (kf (b0 + 32) 51), .inr (7, fsX7 (b0 + 236) 0 0 0 0 0), RA E 6 (kf (b0 + 252) 6), .inr (3, fsX3 (b0 + 238) 0 0 0 0 0 0), IA E 21 (fun _ => 0), ZA E 21 (fun _ => 0), IA E 100 (fun _ => 0), IA E 100 (fun _ => 0), ZA E 100 (fun _ => 0), IA E 100 (fun _ => 0), ZA E 100 (fun _ => 0), IA E 5 (fun _ => 0), IA E 4 (fun _ => 0), IA E 5 (fun _ => 0), IA E 5 (fun _ => 0), IA E 3 (fun _ => 0), IA E 512 (fun _ => 0), .inr (2, fsX2 (b0 + 276) 0 0 0 0 0 0), RA E 8 (kf (b0 + 289) 8), .inr (8, fsX8 (b0 + 278) 0), IA E 8 (fun _ => 0), IA E 8 (fun _ => 0), IA E 8 (fun _ => 0), .inr (8, fsX8 (b0 + 282) 0), IA E 8 (fun _ => 0), IA E 8 (fun _ => 0), IA E 8 (fun _ => 0), JA E 8 (fun _ => 0), IA E 8 (fun _ => 0), JA E 20 (fun _ => 0), .inr (1, fsX1 (b0 + 321) 0), .inr (8, fsX8 ((b0 + 321) + 1) 0), IA E 16 (fun _ => 0), IA E 16 (fun _ => 0), IA E 16 (fun _ => 0), .inr (8, fsX8 ((b0 + 321) + 5) 0), IA E 16 (fun _ => 0), IA E 16 (fun _ => 0), IA E 16 (fun _ => 0), .inr (8, fsX8 ((b0 + 321) + 9) 0), IA E 16 (fun _ => 0), IA E 16 (fun _ => 0), IA E 16 (fun _ => 0), .inr (3, fsX3 ((b0 + 321) + 13) 0 0 0 0 0 0), IA E 21 (fun _ => 0), ZA E 21 (fun _ => 0), IA E 100 (fun _ => 0), IA E 100 (fun _ => 0), ZA E 100 (fun _ => 0), IA E 100 (fun _ => 0), ZA E 100 (fun _ => 0), IA E 5 (fun _ => 0), IA E 20 (fun _ => 0), ZA E 20 (fun _ => 0), .inr (1, fsX1 (b0 + 345) 0), .inr (8, fsX8 ((b0 + 345) + 1) 0), IA E 16 (fun _ => 0), IA E 16 (fun _ => 0), IA E 16 (fun _ => 0), .inr (8, fsX8 ((b0 + 345) + 5) 0), IA E 16 (fun _ => 0), IA E 16 (fun _ => 0), IA E 16 (fun _ => 0), .inr (8, fsX8 ((b0 + 345) + 9) 0), IA E 16 (fun _ => 0), IA E 16 (fun _ => 0), IA E 16 (fun _ => 0), .inr (3, fsX3 ((b0 + 345) + 13) 0 0 0 0 0 0), IA E 21 (fun _ => 0), ZA E 21 (fun _ => 0), IA E 100 (fun _ => 0), IA E 100 (fun _ => 0), ZA E 100 (fun _ => 0), IA E 100 (fun _ => 0), ZA E 100 (fun _ => 0), IA E 5 (fun _ => 0), IA E 20 (fun _ => 0), ZA E 20 (fun _ => 0)]
def litK (E : EE) (b0 : Nat) : List va_E := [.inr (10, fsX10 b0 (b0 + 321) (b0 + 345)), .inr (5, fsX5 (b0 + 1) 0 0 0 0), IA E 400 (fun _ => 0), .inr (9, fsX9 (b0 + 3) 0 0 0), ZA E 60 (fun _ => 0), IA E 120 (fun _ => 0), IA E 120 (fun _ => 0), .inr (8, fsX8 (b0 + 7) 0), IA E 120 (fun _ => 0), IA E 120 (fun _ => 0), IA E 120 (fun _ => 0), ZA E 120 (fun _ => 0), IA E 8 (fun _ => 0), IA E 8 (fun _ => 0), .inr (8, fsX8 (b0 + 14) 0), IA E 256 (fun _ => 0), IA E 256 (fun _ => 0), IA E 256 (fun _ => 0), IA E 256 (fun _ => 0), IA E 256 (fun _ => 0), IA E 256 (fun _ => 0), .inr (4, fsX4 (b0 + 21) 0 0 0 0 0 1), .inr (6, fsX6 (b0 + 22) 0 0 0 0 0 0 0), IA E 100 (fun _ => 0), IA E 30 (fun _ => 0), IA E 30 (fun _ => 0), .inr (6, fsX6 (b0 + 26) 0 0 0 0 0 0 0), IA E 100 (fun _ => 0), IA E 30 (fun _ => 0), IA E 30 (fun _ => 0), .inr (0, fsX0 (b0 + 30) 0 0), RK E 51 (b0 + 32) (K0 0), .inr (7, fsX7 (b0 + 236) 0 0 0 0 0), RK E 6 (b0 + 252) (K0 1), .inr (3, fsX3 (b0 + 238) 0 0 0 0 0 0), IA E 21 (fun _ => 0), ZA E 21 (fun _ => 0), IA E 100 (fun _ => 0), IA E 100 (fun _ => 0), ZA E 100 (fun _ => 0), IA E 100 (fun _ => 0), ZA E 100 (fun _ => 0), IA E 5 (fun _ => 0), IA E 4 (fun _ => 0), IA E 5 (fun _ => 0), IA E 5 (fun _ => 0), IA E 3 (fun _ => 0), IA E 512 (fun _ => 0), .inr (2, fsX2 (b0 + 276) 0 0 0 0 0 0), RK E 8 (b0 + 289) (K0 2), .inr (8, fsX8 (b0 + 278) 0), IA E 8 (fun _ => 0), IA E 8 (fun _ => 0), IA E 8 (fun _ => 0), .inr (8, fsX8 (b0 + 282) 0), IA E 8 (fun _ => 0), IA E 8 (fun _ => 0), IA E 8 (fun _ => 0), JA E 8 (fun _ => 0), IA E 8 (fun _ => 0), JA E 20 (fun _ => 0), .inr (1, fsX1 (b0 + 321) 0), .inr (8, fsX8 ((b0 + 321) + 1) 0), IA E 16 (fun _ => 0), IA E 16 (fun _ => 0), IA E 16 (fun _ => 0), .inr (8, fsX8 ((b0 + 321) + 5) 0), IA E 16 (fun _ => 0), IA E 16 (fun _ => 0), IA E 16 (fun _ => 0), .inr (8, fsX8 ((b0 + 321) + 9) 0), IA E 16 (fun _ => 0), IA E 16 (fun _ => 0), IA E 16 (fun _ => 0), .inr (3, fsX3 ((b0 + 321) + 13) 0 0 0 0 0 0), IA E 21 (fun _ => 0), ZA E 21 (fun _ => 0), IA E 100 (fun _ => 0), IA E 100 (fun _ => 0), ZA E 100 (fun _ => 0), IA E 100 (fun _ => 0), ZA E 100 (fun _ => 0), IA E 5 (fun _ => 0), IA E 20 (fun _ => 0), ZA E 20 (fun _ => 0), .inr (1, fsX1 (b0 + 345) 0), .inr (8, fsX8 ((b0 + 345) + 1) 0), IA E 16 (fun _ => 0), IA E 16 (fun _ => 0), IA E 16 (fun _ => 0), .inr (8, fsX8 ((b0 + 345) + 5) 0), IA E 16 (fun _ => 0), IA E 16 (fun _ => 0), IA E 16 (fun _ => 0), .inr (8, fsX8 ((b0 + 345) + 9) 0), IA E 16 (fun _ => 0), IA E 16 (fun _ => 0), IA E 16 (fun _ => 0), .inr (3, fsX3 ((b0 + 345) + 13) 0 0 0 0 0 0), IA E 21 (fun _ => 0), ZA E 21 (fun _ => 0), IA E 100 (fun _ => 0), IA E 100 (fun _ => 0), ZA E 100 (fun _ => 0), IA E 100 (fun _ => 0), ZA E 100 (fun _ => 0), IA E 5 (fun _ => 0), IA E 20 (fun _ => 0), ZA E 20 (fun _ => 0)]
theorem litA {E : EE} {b0 : Nat} : sgA E b0 = [.inr (10, fsX10 b0 (b0 + 321) (b0 + 345)), .inr (5, fsX5 (b0 + 1) 0 0 0 0), IA E 400 (fun _ => 0), .inr (9, fsX9 (b0 + 3) 0 0 0), ZA E 60 (fun _ => 0), IA E 120 (fun _ => 0), IA E 120 (fun _ => 0), .inr (8, fsX8 (b0 + 7) 0), IA E 120 (fun _ => 0), IA E 120 (fun _ => 0), IA E 120 (fun _ => 0), ZA E 120 (fun _ => 0), IA E 8 (fun _ => 0), IA E 8 (fun _ => 0), .inr (8, fsX8 (b0 + 14) 0), IA E 256 (fun _ => 0), IA E 256 (fun _ => 0), IA E 256 (fun _ => 0), IA E 256 (fun _ => 0), IA E 256 (fun _ => 0), IA E 256 (fun _ => 0), .inr (4, fsX4 (b0 + 21) 0 0 0 0 0 1), .inr (6, fsX6 (b0 + 22) 0 0 0 0 0 0 0), IA E 100 (fun _ => 0), IA E 30 (fun _ => 0), IA E 30 (fun _ => 0), .inr (6, fsX6 (b0 + 26) 0 0 0 0 0 0 0), IA E 100 (fun _ => 0), IA E 30 (fun _ => 0), IA E 30 (fun _ => 0), .inr (0, fsX0 (b0 + 30) 0 0), RA E 51 (kf (b0 + 32) 51)] := rfl
theorem litB {E : EE} {b0 : Nat} : sgB E b0 = [.inr (7, fsX7 (b0 + 236) 0 0 0 0 0), RA E 6 (kf (b0 + 252) 6), .inr (3, fsX3 (b0 + 238) 0 0 0 0 0 0), IA E 21 (fun _ => 0), ZA E 21 (fun _ => 0), IA E 100 (fun _ => 0), IA E 100 (fun _ => 0), ZA E 100 (fun _ => 0), IA E 100 (fun _ => 0), ZA E 100 (fun _ => 0), IA E 5 (fun _ => 0), IA E 4 (fun _ => 0), IA E 5 (fun _ => 0), IA E 5 (fun _ => 0), IA E 3 (fun _ => 0), IA E 512 (fun _ => 0)] := rfl
theorem litC {E : EE} {b0 : Nat} : sgC E b0 = [.inr (2, fsX2 (b0 + 276) 0 0 0 0 0 0), RA E 8 (kf (b0 + 289) 8), .inr (8, fsX8 (b0 + 278) 0), IA E 8 (fun _ => 0), IA E 8 (fun _ => 0), IA E 8 (fun _ => 0), .inr (8, fsX8 (b0 + 282) 0), IA E 8 (fun _ => 0), IA E 8 (fun _ => 0), IA E 8 (fun _ => 0), JA E 8 (fun _ => 0), IA E 8 (fun _ => 0), JA E 20 (fun _ => 0)] := rfl
theorem litD {E : EE} {b0 : Nat} : sgD E b0 = [.inr (1, fsX1 (b0 + 321) 0), .inr (8, fsX8 ((b0 + 321) + 1) 0), IA E 16 (fun _ => 0), IA E 16 (fun _ => 0), IA E 16 (fun _ => 0), .inr (8, fsX8 ((b0 + 321) + 5) 0), IA E 16 (fun _ => 0), IA E 16 (fun _ => 0), IA E 16 (fun _ => 0), .inr (8, fsX8 ((b0 + 321) + 9) 0), IA E 16 (fun _ => 0), IA E 16 (fun _ => 0), IA E 16 (fun _ => 0), .inr (3, fsX3 ((b0 + 321) + 13) 0 0 0 0 0 0), IA E 21 (fun _ => 0), ZA E 21 (fun _ => 0), IA E 100 (fun _ => 0), IA E 100 (fun _ => 0), ZA E 100 (fun _ => 0), IA E 100 (fun _ => 0), ZA E 100 (fun _ => 0), IA E 5 (fun _ => 0), IA E 20 (fun _ => 0), ZA E 20 (fun _ => 0), .inr (1, fsX1 (b0 + 345) 0), .inr (8, fsX8 ((b0 + 345) + 1) 0), IA E 16 (fun _ => 0), IA E 16 (fun _ => 0), IA E 16 (fun _ => 0), .inr (8, fsX8 ((b0 + 345) + 5) 0), IA E 16 (fun _ => 0), IA E 16 (fun _ => 0), IA E 16 (fun _ => 0), .inr (8, fsX8 ((b0 + 345) + 9) 0), IA E 16 (fun _ => 0), IA E 16 (fun _ => 0), IA E 16 (fun _ => 0), .inr (3, fsX3 ((b0 + 345) + 13) 0 0 0 0 0 0), IA E 21 (fun _ => 0), ZA E 21 (fun _ => 0), IA E 100 (fun _ => 0), IA E 100 (fun _ => 0), ZA E 100 (fun _ => 0), IA E 100 (fun _ => 0), ZA E 100 (fun _ => 0), IA E 5 (fun _ => 0), IA E 20 (fun _ => 0), ZA E 20 (fun _ => 0)] := rfl
theorem lit_seg {E : EE} {b0 : Nat} : sgA E b0 ++ (sgB E b0 ++ (sgC E b0 ++ sgD E b0)) = litR E b0 := by
  rw [litA, litB, litC, litD]
  rfl
theorem esC_0 {E : EE} {b0 : Nat} : esC E b0 (b0 + 321) (b0 + 345) N0 F0_ K0 = litK E b0 := rfl
theorem start_LwS {E : EE} {b0 : Nat} {h : AH} : LwS E b0 (b0 + 321) (b0 + 345) (h_one E b0 h) N0 F0_ K0 R0 M0 Fm0 := by
  have hcr : crK b0 (b0 + 321) (b0 + 345) := Or.inl ⟨rfl, rfl⟩
  have hf : FA (h_start E b0 h) (asC b0 (b0 + 321) (b0 + 345)) (litR E b0) := by
    rw [asC_seg, ← lit_seg]
    exact start_FA
  have hp : [31, 33, 49].map (fun i => (asC b0 (b0 + 321) (b0 + 345))[i]?) = [b0 + 31, b0 + 237, b0 + 277].map some := rfl
  have hc : (List.range 109).all (fun i => [31, 33, 49].contains i || ([true, true, true, true, true, true, true, true, true, true, true, true, true, true, true, true, true, true, true, true, true, true, true, true, true, true, true, true, true, true, true, false, true, false, true, true, true, true, true, true, true, true, true, true, true, true, true, true, true, false, true, true, true, true, true, true, true, true, true, true, true, true, true, true, true, true, true, true, true, true, true, true, true, true, true, true, true, true, true, true, true, true, true, true, true, true, true, true, true, true, true, true, true, true, true, true, true, true, true, true, true, true, true, true, true, true, true, true, true] : List Bool).getD i false) = true := by decide
  have hs : FA (h_one E b0 h) (asC b0 (b0 + 321) (b0 + 345)) (litK E b0) := FA_step (es := litR E b0) (esn := litK E b0) [31, 33, 49] [true, true, true, true, true, true, true, true, true, true, true, true, true, true, true, true, true, true, true, true, true, true, true, true, true, true, true, true, true, true, true, false, true, false, true, true, true, true, true, true, true, true, true, true, true, true, true, true, true, false, true, true, true, true, true, true, true, true, true, true, true, true, true, true, true, true, true, true, true, true, true, true, true, true, true, true, true, true, true, true, true, true, true, true, true, true, true, true, true, true, true, true, true, true, true, true, true, true, true, true, true, true, true, true, true, true, true, true, true] (ao_C hcr).1 rfl rfl hp rfl rfl hc (by decide) hf
  rw [← esC_0] at hs
  obtain ⟨f1, f2, f3⟩ := start_FF (E := E) (b0 := b0) (h := h)
  refine ⟨hcr, hs, FA_miss (apart [31, 33, 49] hcr hp) start_FM, FF_miss (FO_sub [31, 33, 49] (fo_C hcr (Or.inl ⟨rfl, rfl⟩)) hp) f1, FF_miss (FO_sub [31, 33, 49] (fo_C hcr (Or.inr (Or.inl ⟨rfl, rfl⟩))) hp) f2, FF_miss (FO_sub [31, 33, 49] (fo_C hcr (Or.inr (Or.inr ⟨rfl, rfl⟩))) hp) f3, fun j => ok_01 _ ?_, fun j => ok_0F _, ⟨fun _ => ok_zrow, fun _ => ok_zrow, fun _ => ok_zrow⟩, fun j => ok_01 _ (Or.inl rfl), fun j => ?_⟩
  · unfold N0
    split
    · exact Or.inr rfl
    · exact Or.inl rfl
  · unfold Fm0
    by_cases c7 : j = 7
    · subst c7; rw [if_pos rfl]; exact ok_mf
    · rw [if_neg c7]
      by_cases c9 : j = 9
      · subst c9; rw [if_pos rfl]; exact ok_mf
      · rw [if_neg c9]; exact ok_0F _

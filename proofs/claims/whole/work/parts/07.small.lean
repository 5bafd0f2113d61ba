theorem bind_elim {α β : Type} {a : Option α} {f : α → Option β} {r : β} (h : a.bind f = some r) : ∃ y, a = some y ∧ f y = some r := by
  cases a with
  | none => cases h
  | some y => exact ⟨y, rfl, h⟩
def FU : Nat := 6000
def dr : List Bool → LL → LL
  | b :: bs, x :: L => (if b then x else none) :: dr bs L
  | _, L => L
theorem dr_sub {bs : List Bool} {L : LL} {i : Nat} : ∀ q ∈ lc i (dr bs L), q ∈ lc i L := by
  induction bs generalizing L i with
  | nil => cases L <;> exact fun q h => h
  | cons b bs ih =>
    cases L with
    | nil => exact fun q h => h
    | cons x L =>
      intro q hq
      cases b with
      | false =>
        have h2 := ih (L := L) (i := i + 1) q hq
        cases x with
        | none => exact h2
        | some v => exact List.mem_cons_of_mem _ h2
      | true =>
        cases x with
        | none => exact ih (L := L) (i := i + 1) q hq
        | some v =>
          rcases List.mem_cons.mp hq with h | h
          · rw [h]; exact List.mem_cons_self
          · exact List.mem_cons_of_mem _ (ih (L := L) (i := i + 1) q h)
def putL : List va_E → List Nat → List va_E → List va_E
  | es, p :: ps, e :: l => (putL es ps l).set p e
  | es, _, _ => es
theorem putL_len (es : List va_E) : ∀ (ps : List Nat) (l : List va_E), (putL es ps l).length = es.length
  | [], l => by cases l <;> rfl
  | _ :: _, [] => rfl
  | p :: ps, e :: l => by
    show ((putL es ps l).set p e).length = _
    rw [List.length_set, putL_len es ps l]
theorem ov_call {h : AH} {as es esn : List _} : ∀ {as' : List Nat} {es' : List va_E} (ps : List Nat), as.Nodup → as.length = es.length → ps.map (fun i => as[i]?) = as'.map some → putL es ps es' = esn → es'.length = ps.length → ov as' es' (ov as es h) = ov as esn h
  | [], es', [], _, _, _, hw, hl => by
    cases es' with
    | nil => rw [← hw]; rfl
    | cons _ _ => cases hl
  | [], _, _ :: _, _, _, hp, _, _ => by cases hp
  | _ :: _, _, [], _, _, hp, _, _ => by cases hp
  | a :: as', [], p :: ps, _, _, _, _, hl => by cases hl
  | a :: as', e :: es', p :: ps, hn, hlen, hp, hw, hl => by
    have hp1 : as[p]? = some a := (List.cons.inj hp).1
    have hp2 : ps.map (fun i => as[i]?) = as'.map some := (List.cons.inj hp).2
    have hl2 : es'.length = ps.length := Nat.succ.inj hl
    have ih := ov_call (h := h) ps hn hlen hp2 (rfl : putL es ps es' = putL es ps es') hl2
    have hlt : p < (putL es ps es').length := by
      rw [putL_len, ← hlen]
      exact (List.getElem?_eq_some_iff.mp hp1).1
    rw [ov_set p hn hp1 (List.getElem?_eq_getElem hlt) hw]
    funext q
    show (if q = a then e else ov as' es' (ov as es h) q) = _
    rw [ih]
theorem pick_get {as as' : List Nat} {ps : List Nat} (hp : ps.map (fun i => as[i]?) = as'.map some) {i a : Nat} (h : as'[i]? = some a) : ∃ p, ps[i]? = some p ∧ as[p]? = some a := by
  have h1 : (as'.map some)[i]? = some (some a) := by rw [List.getElem?_map, h]; rfl
  rw [← hp, List.getElem?_map] at h1
  cases hq : ps[i]? with
  | none => rw [hq] at h1; cases h1
  | some p => rw [hq] at h1; exact ⟨p, rfl, Option.some.inj h1⟩
theorem nodup_get {l : List Nat} (h : l.Nodup) {i j a : Nat} (hi : l[i]? = some a) (hj : l[j]? = some a) : i = j := by
  obtain ⟨h1, e1⟩ := List.getElem?_eq_some_iff.mp hi
  obtain ⟨h2, e2⟩ := List.getElem?_eq_some_iff.mp hj
  have hp := List.pairwise_iff_getElem.mp h
  rcases Nat.lt_trichotomy i j with q | q | q
  · exact absurd (e1.trans e2.symm) (hp i j h1 h2 q)
  · exact q
  · exact absurd (e2.trans e1.symm) (hp j i h2 h1 q)
theorem nodup_of {l : List Nat} (h : ∀ i j a : Nat, l[i]? = some a → l[j]? = some a → i = j) : l.Nodup :=
  List.pairwise_iff_getElem.mpr fun i j h1 h2 hlt e => absurd (h i j _ (List.getElem?_eq_getElem h1) ((List.getElem?_eq_getElem h2).trans (congrArg some e.symm))) (Nat.ne_of_lt hlt)
theorem AO_call {b0 n : Nat} {as as' : List Nat} (ps : List Nat) (ao : AO b0 n as) (hd : ps.Nodup) (hp : ps.map (fun i => as[i]?) = as'.map some) : AO b0 n as' := by
  refine ⟨nodup_of fun i j a hi hj => ?_, fun i a hi => ?_⟩
  · obtain ⟨p, h1, h2⟩ := pick_get hp hi
    obtain ⟨q, h3, h4⟩ := pick_get hp hj
    have := nodup_get ao.1 h2 h4
    subst this
    exact nodup_get hd h1 h3
  · obtain ⟨p, h1, h2⟩ := pick_get hp hi
    exact ao.2 p a h2
theorem FA_call {h : AH} {as as' : List Nat} {es es' : List va_E} (ps : List Nat) (hn : as.Nodup) (hp : ps.map (fun i => as[i]?) = as'.map some) (he : ps.map (fun i => es[i]?) = es'.map some) : FA (ov as es h) as' es' := by
  intro i a e ha hee
  obtain ⟨p, h1, h2⟩ := pick_get hp ha
  have h3 : (es'.map some)[i]? = some (some e) := by rw [List.getElem?_map, hee]; rfl
  rw [← he, List.getElem?_map, h1] at h3
  exact ov_get p hn h2 (Option.some.inj h3)
section G7
variable {l : Launch} {E : EE} {b0 : Nat} {M : MB} {X : State → Prop} {Z : ZT} {c1 c2 n n' pc pc' tgt : Nat} {h h' : AH} {L : LL} {st : List Value} {a b : Int}
theorem g_mask (bs : List Bool) (k : G l E b0 M X Z c1 c2 n h pc (dr bs L) st) : G l E b0 M X Z c1 c2 n h pc L st := g_drop (dr bs L) dr_sub k
theorem Ct_heap {As : List Value} {v : Option Value} {h1 h2 : AH} {P : Prop} (ct : Ct l E b0 M c1 c2 As h n v h1 n' P) (e : h1 = h2) : Ct l E b0 M c1 c2 As h n v h2 n' P := e ▸ ct

theorem g_icmp_eqT {off : Int} (hd : DB M.2.1 pc (.if_icmp .eq off) off 3 pc' tgt) (ha : inI a) (hb2 : inI b) (hc : a = b) (k : G l E b0 M X Z c1 c2 n h tgt L st) : G l E b0 M X Z c1 c2 n h pc L (vI b :: vI a :: st) := g_icmp_eq hd ha hb2 (r := ()) (A := some ()) (B := some ()) (by split <;> rfl) (fun _ _ => k) (fun q => absurd hc q)
theorem g_icmp_eqF {off : Int} (hd : DB M.2.1 pc (.if_icmp .eq off) off 3 pc' tgt) (ha : inI a) (hb2 : inI b) (hc : ¬ a = b) (k : G l E b0 M X Z c1 c2 n h pc' L st) : G l E b0 M X Z c1 c2 n h pc L (vI b :: vI a :: st) := g_icmp_eq hd ha hb2 (r := ()) (A := some ()) (B := some ()) (by split <;> rfl) (fun q => absurd q hc) (fun _ _ => k)
theorem g_if_eqT {off : Int} (hd : DB M.2.1 pc (.ifCond .eq off) off 3 pc' tgt) (ha : inI a) (hc : a = 0) (k : G l E b0 M X Z c1 c2 n h tgt L st) : G l E b0 M X Z c1 c2 n h pc L (vI a :: st) := g_if_eq hd ha (r := ()) (A := some ()) (B := some ()) (by split <;> rfl) (fun _ _ => k) (fun q => absurd hc q)
theorem g_if_eqF {off : Int} (hd : DB M.2.1 pc (.ifCond .eq off) off 3 pc' tgt) (ha : inI a) (hc : ¬ a = 0) (k : G l E b0 M X Z c1 c2 n h pc' L st) : G l E b0 M X Z c1 c2 n h pc L (vI a :: st) := g_if_eq hd ha (r := ()) (A := some ()) (B := some ()) (by split <;> rfl) (fun q => absurd q hc) (fun _ _ => k)
theorem g_icmp_neT {off : Int} (hd : DB M.2.1 pc (.if_icmp .ne off) off 3 pc' tgt) (ha : inI a) (hb2 : inI b) (hc : a = b) (k : G l E b0 M X Z c1 c2 n h pc' L st) : G l E b0 M X Z c1 c2 n h pc L (vI b :: vI a :: st) := g_icmp_ne hd ha hb2 (r := ()) (A := some ()) (B := some ()) (by split <;> rfl) (fun _ _ => k) (fun q => absurd hc q)
theorem g_icmp_neF {off : Int} (hd : DB M.2.1 pc (.if_icmp .ne off) off 3 pc' tgt) (ha : inI a) (hb2 : inI b) (hc : ¬ a = b) (k : G l E b0 M X Z c1 c2 n h tgt L st) : G l E b0 M X Z c1 c2 n h pc L (vI b :: vI a :: st) := g_icmp_ne hd ha hb2 (r := ()) (A := some ()) (B := some ()) (by split <;> rfl) (fun q => absurd q hc) (fun _ _ => k)
theorem g_if_neT {off : Int} (hd : DB M.2.1 pc (.ifCond .ne off) off 3 pc' tgt) (ha : inI a) (hc : a = 0) (k : G l E b0 M X Z c1 c2 n h pc' L st) : G l E b0 M X Z c1 c2 n h pc L (vI a :: st) := g_if_ne hd ha (r := ()) (A := some ()) (B := some ()) (by split <;> rfl) (fun _ _ => k) (fun q => absurd hc q)
theorem g_if_neF {off : Int} (hd : DB M.2.1 pc (.ifCond .ne off) off 3 pc' tgt) (ha : inI a) (hc : ¬ a = 0) (k : G l E b0 M X Z c1 c2 n h tgt L st) : G l E b0 M X Z c1 c2 n h pc L (vI a :: st) := g_if_ne hd ha (r := ()) (A := some ()) (B := some ()) (by split <;> rfl) (fun q => absurd q hc) (fun _ _ => k)
theorem g_icmp_ltT {off : Int} (hd : DB M.2.1 pc (.if_icmp .lt off) off 3 pc' tgt) (ha : inI a) (hb2 : inI b) (hc : a < b) (k : G l E b0 M X Z c1 c2 n h tgt L st) : G l E b0 M X Z c1 c2 n h pc L (vI b :: vI a :: st) := g_icmp_lt hd ha hb2 (r := ()) (A := some ()) (B := some ()) (by split <;> rfl) (fun _ _ => k) (fun q => absurd hc q)
theorem g_icmp_ltF {off : Int} (hd : DB M.2.1 pc (.if_icmp .lt off) off 3 pc' tgt) (ha : inI a) (hb2 : inI b) (hc : ¬ a < b) (k : G l E b0 M X Z c1 c2 n h pc' L st) : G l E b0 M X Z c1 c2 n h pc L (vI b :: vI a :: st) := g_icmp_lt hd ha hb2 (r := ()) (A := some ()) (B := some ()) (by split <;> rfl) (fun q => absurd q hc) (fun _ _ => k)
theorem g_if_ltT {off : Int} (hd : DB M.2.1 pc (.ifCond .lt off) off 3 pc' tgt) (ha : inI a) (hc : a < 0) (k : G l E b0 M X Z c1 c2 n h tgt L st) : G l E b0 M X Z c1 c2 n h pc L (vI a :: st) := g_if_lt hd ha (r := ()) (A := some ()) (B := some ()) (by split <;> rfl) (fun _ _ => k) (fun q => absurd hc q)
theorem g_if_ltF {off : Int} (hd : DB M.2.1 pc (.ifCond .lt off) off 3 pc' tgt) (ha : inI a) (hc : ¬ a < 0) (k : G l E b0 M X Z c1 c2 n h pc' L st) : G l E b0 M X Z c1 c2 n h pc L (vI a :: st) := g_if_lt hd ha (r := ()) (A := some ()) (B := some ()) (by split <;> rfl) (fun q => absurd q hc) (fun _ _ => k)
theorem g_icmp_geT {off : Int} (hd : DB M.2.1 pc (.if_icmp .ge off) off 3 pc' tgt) (ha : inI a) (hb2 : inI b) (hc : b ≤ a) (k : G l E b0 M X Z c1 c2 n h tgt L st) : G l E b0 M X Z c1 c2 n h pc L (vI b :: vI a :: st) := g_icmp_ge hd ha hb2 (r := ()) (A := some ()) (B := some ()) (by split <;> rfl) (fun _ _ => k) (fun q => absurd hc q)
theorem g_icmp_geF {off : Int} (hd : DB M.2.1 pc (.if_icmp .ge off) off 3 pc' tgt) (ha : inI a) (hb2 : inI b) (hc : ¬ b ≤ a) (k : G l E b0 M X Z c1 c2 n h pc' L st) : G l E b0 M X Z c1 c2 n h pc L (vI b :: vI a :: st) := g_icmp_ge hd ha hb2 (r := ()) (A := some ()) (B := some ()) (by split <;> rfl) (fun q => absurd q hc) (fun _ _ => k)
theorem g_if_geT {off : Int} (hd : DB M.2.1 pc (.ifCond .ge off) off 3 pc' tgt) (ha : inI a) (hc : 0 ≤ a) (k : G l E b0 M X Z c1 c2 n h tgt L st) : G l E b0 M X Z c1 c2 n h pc L (vI a :: st) := g_if_ge hd ha (r := ()) (A := some ()) (B := some ()) (by split <;> rfl) (fun _ _ => k) (fun q => absurd hc q)
theorem g_if_geF {off : Int} (hd : DB M.2.1 pc (.ifCond .ge off) off 3 pc' tgt) (ha : inI a) (hc : ¬ 0 ≤ a) (k : G l E b0 M X Z c1 c2 n h pc' L st) : G l E b0 M X Z c1 c2 n h pc L (vI a :: st) := g_if_ge hd ha (r := ()) (A := some ()) (B := some ()) (by split <;> rfl) (fun q => absurd q hc) (fun _ _ => k)
theorem g_icmp_gtT {off : Int} (hd : DB M.2.1 pc (.if_icmp .gt off) off 3 pc' tgt) (ha : inI a) (hb2 : inI b) (hc : b < a) (k : G l E b0 M X Z c1 c2 n h tgt L st) : G l E b0 M X Z c1 c2 n h pc L (vI b :: vI a :: st) := g_icmp_gt hd ha hb2 (r := ()) (A := some ()) (B := some ()) (by split <;> rfl) (fun _ _ => k) (fun q => absurd hc q)
theorem g_icmp_gtF {off : Int} (hd : DB M.2.1 pc (.if_icmp .gt off) off 3 pc' tgt) (ha : inI a) (hb2 : inI b) (hc : ¬ b < a) (k : G l E b0 M X Z c1 c2 n h pc' L st) : G l E b0 M X Z c1 c2 n h pc L (vI b :: vI a :: st) := g_icmp_gt hd ha hb2 (r := ()) (A := some ()) (B := some ()) (by split <;> rfl) (fun q => absurd q hc) (fun _ _ => k)
theorem g_if_gtT {off : Int} (hd : DB M.2.1 pc (.ifCond .gt off) off 3 pc' tgt) (ha : inI a) (hc : 0 < a) (k : G l E b0 M X Z c1 c2 n h tgt L st) : G l E b0 M X Z c1 c2 n h pc L (vI a :: st) := g_if_gt hd ha (r := ()) (A := some ()) (B := some ()) (by split <;> rfl) (fun _ _ => k) (fun q => absurd hc q)
theorem g_if_gtF {off : Int} (hd : DB M.2.1 pc (.ifCond .gt off) off 3 pc' tgt) (ha : inI a) (hc : ¬ 0 < a) (k : G l E b0 M X Z c1 c2 n h pc' L st) : G l E b0 M X Z c1 c2 n h pc L (vI a :: st) := g_if_gt hd ha (r := ()) (A := some ()) (B := some ()) (by split <;> rfl) (fun q => absurd q hc) (fun _ _ => k)
theorem g_icmp_leT {off : Int} (hd : DB M.2.1 pc (.if_icmp .le off) off 3 pc' tgt) (ha : inI a) (hb2 : inI b) (hc : a ≤ b) (k : G l E b0 M X Z c1 c2 n h tgt L st) : G l E b0 M X Z c1 c2 n h pc L (vI b :: vI a :: st) := g_icmp_le hd ha hb2 (r := ()) (A := some ()) (B := some ()) (by split <;> rfl) (fun _ _ => k) (fun q => absurd hc q)
theorem g_icmp_leF {off : Int} (hd : DB M.2.1 pc (.if_icmp .le off) off 3 pc' tgt) (ha : inI a) (hb2 : inI b) (hc : ¬ a ≤ b) (k : G l E b0 M X Z c1 c2 n h pc' L st) : G l E b0 M X Z c1 c2 n h pc L (vI b :: vI a :: st) := g_icmp_le hd ha hb2 (r := ()) (A := some ()) (B := some ()) (by split <;> rfl) (fun q => absurd q hc) (fun _ _ => k)
theorem g_if_leT {off : Int} (hd : DB M.2.1 pc (.ifCond .le off) off 3 pc' tgt) (ha : inI a) (hc : a ≤ 0) (k : G l E b0 M X Z c1 c2 n h tgt L st) : G l E b0 M X Z c1 c2 n h pc L (vI a :: st) := g_if_le hd ha (r := ()) (A := some ()) (B := some ()) (by split <;> rfl) (fun _ _ => k) (fun q => absurd hc q)
theorem g_if_leF {off : Int} (hd : DB M.2.1 pc (.ifCond .le off) off 3 pc' tgt) (ha : inI a) (hc : ¬ a ≤ 0) (k : G l E b0 M X Z c1 c2 n h pc' L st) : G l E b0 M X Z c1 c2 n h pc L (vI a :: st) := g_if_le hd ha (r := ()) (A := some ()) (B := some ()) (by split <;> rfl) (fun q => absurd q hc) (fun _ _ => k)
end G7
theorem st1_0 {x0 : Option Value} {L : LL} {v : Value} : st1 (x0 :: L) 0 v = (some v :: L) := rfl
theorem st2_0 {x0 x1 : Option Value} {L : LL} {v : Value} : st2 (x0 :: x1 :: L) 0 v = (some v :: none :: L) := rfl
theorem ls_0 {x0 e : va_E} {l : List va_E} : (x0 :: l).set 0 e = (e :: l) := rfl
theorem st1_1 {x0 x1 : Option Value} {L : LL} {v : Value} : st1 (x0 :: x1 :: L) 1 v = (x0 :: some v :: L) := rfl
theorem st2_1 {x0 x1 x2 : Option Value} {L : LL} {v : Value} : st2 (x0 :: x1 :: x2 :: L) 1 v = (x0 :: some v :: none :: L) := rfl
theorem ls_1 {x0 x1 e : va_E} {l : List va_E} : (x0 :: x1 :: l).set 1 e = (x0 :: e :: l) := rfl
theorem st1_2 {x0 x1 x2 : Option Value} {L : LL} {v : Value} : st1 (x0 :: x1 :: x2 :: L) 2 v = (x0 :: x1 :: some v :: L) := rfl
theorem st2_2 {x0 x1 x2 x3 : Option Value} {L : LL} {v : Value} : st2 (x0 :: x1 :: x2 :: x3 :: L) 2 v = (x0 :: x1 :: some v :: none :: L) := rfl
theorem ls_2 {x0 x1 x2 e : va_E} {l : List va_E} : (x0 :: x1 :: x2 :: l).set 2 e = (x0 :: x1 :: e :: l) := rfl
theorem st1_3 {x0 x1 x2 x3 : Option Value} {L : LL} {v : Value} : st1 (x0 :: x1 :: x2 :: x3 :: L) 3 v = (x0 :: x1 :: x2 :: some v :: L) := rfl
theorem st2_3 {x0 x1 x2 x3 x4 : Option Value} {L : LL} {v : Value} : st2 (x0 :: x1 :: x2 :: x3 :: x4 :: L) 3 v = (x0 :: x1 :: x2 :: some v :: none :: L) := rfl
theorem ls_3 {x0 x1 x2 x3 e : va_E} {l : List va_E} : (x0 :: x1 :: x2 :: x3 :: l).set 3 e = (x0 :: x1 :: x2 :: e :: l) := rfl
theorem st1_4 {x0 x1 x2 x3 x4 : Option Value} {L : LL} {v : Value} : st1 (x0 :: x1 :: x2 :: x3 :: x4 :: L) 4 v = (x0 :: x1 :: x2 :: x3 :: some v :: L) := rfl
theorem st2_4 {x0 x1 x2 x3 x4 x5 : Option Value} {L : LL} {v : Value} : st2 (x0 :: x1 :: x2 :: x3 :: x4 :: x5 :: L) 4 v = (x0 :: x1 :: x2 :: x3 :: some v :: none :: L) := rfl
theorem ls_4 {x0 x1 x2 x3 x4 e : va_E} {l : List va_E} : (x0 :: x1 :: x2 :: x3 :: x4 :: l).set 4 e = (x0 :: x1 :: x2 :: x3 :: e :: l) := rfl
theorem st1_5 {x0 x1 x2 x3 x4 x5 : Option Value} {L : LL} {v : Value} : st1 (x0 :: x1 :: x2 :: x3 :: x4 :: x5 :: L) 5 v = (x0 :: x1 :: x2 :: x3 :: x4 :: some v :: L) := rfl
theorem st2_5 {x0 x1 x2 x3 x4 x5 x6 : Option Value} {L : LL} {v : Value} : st2 (x0 :: x1 :: x2 :: x3 :: x4 :: x5 :: x6 :: L) 5 v = (x0 :: x1 :: x2 :: x3 :: x4 :: some v :: none :: L) := rfl
theorem ls_5 {x0 x1 x2 x3 x4 x5 e : va_E} {l : List va_E} : (x0 :: x1 :: x2 :: x3 :: x4 :: x5 :: l).set 5 e = (x0 :: x1 :: x2 :: x3 :: x4 :: e :: l) := rfl
theorem st1_6 {x0 x1 x2 x3 x4 x5 x6 : Option Value} {L : LL} {v : Value} : st1 (x0 :: x1 :: x2 :: x3 :: x4 :: x5 :: x6 :: L) 6 v = (x0 :: x1 :: x2 :: x3 :: x4 :: x5 :: some v :: L) := rfl
theorem st2_6 {x0 x1 x2 x3 x4 x5 x6 x7 : Option Value} {L : LL} {v : Value} : st2 (x0 :: x1 :: x2 :: x3 :: x4 :: x5 :: x6 :: x7 :: L) 6 v = (x0 :: x1 :: x2 :: x3 :: x4 :: x5 :: some v :: none :: L) := rfl
theorem ls_6 {x0 x1 x2 x3 x4 x5 x6 e : va_E} {l : List va_E} : (x0 :: x1 :: x2 :: x3 :: x4 :: x5 :: x6 :: l).set 6 e = (x0 :: x1 :: x2 :: x3 :: x4 :: x5 :: e :: l) := rfl
theorem st1_7 {x0 x1 x2 x3 x4 x5 x6 x7 : Option Value} {L : LL} {v : Value} : st1 (x0 :: x1 :: x2 :: x3 :: x4 :: x5 :: x6 :: x7 :: L) 7 v = (x0 :: x1 :: x2 :: x3 :: x4 :: x5 :: x6 :: some v :: L) := rfl
theorem st2_7 {x0 x1 x2 x3 x4 x5 x6 x7 x8 : Option Value} {L : LL} {v : Value} : st2 (x0 :: x1 :: x2 :: x3 :: x4 :: x5 :: x6 :: x7 :: x8 :: L) 7 v = (x0 :: x1 :: x2 :: x3 :: x4 :: x5 :: x6 :: some v :: none :: L) := rfl
theorem ls_7 {x0 x1 x2 x3 x4 x5 x6 x7 e : va_E} {l : List va_E} : (x0 :: x1 :: x2 :: x3 :: x4 :: x5 :: x6 :: x7 :: l).set 7 e = (x0 :: x1 :: x2 :: x3 :: x4 :: x5 :: x6 :: e :: l) := rfl
theorem st1_8 {x0 x1 x2 x3 x4 x5 x6 x7 x8 : Option Value} {L : LL} {v : Value} : st1 (x0 :: x1 :: x2 :: x3 :: x4 :: x5 :: x6 :: x7 :: x8 :: L) 8 v = (x0 :: x1 :: x2 :: x3 :: x4 :: x5 :: x6 :: x7 :: some v :: L) := rfl
theorem st2_8 {x0 x1 x2 x3 x4 x5 x6 x7 x8 x9 : Option Value} {L : LL} {v : Value} : st2 (x0 :: x1 :: x2 :: x3 :: x4 :: x5 :: x6 :: x7 :: x8 :: x9 :: L) 8 v = (x0 :: x1 :: x2 :: x3 :: x4 :: x5 :: x6 :: x7 :: some v :: none :: L) := rfl
theorem ls_8 {x0 x1 x2 x3 x4 x5 x6 x7 x8 e : va_E} {l : List va_E} : (x0 :: x1 :: x2 :: x3 :: x4 :: x5 :: x6 :: x7 :: x8 :: l).set 8 e = (x0 :: x1 :: x2 :: x3 :: x4 :: x5 :: x6 :: x7 :: e :: l) := rfl
theorem st1_9 {x0 x1 x2 x3 x4 x5 x6 x7 x8 x9 : Option Value} {L : LL} {v : Value} : st1 (x0 :: x1 :: x2 :: x3 :: x4 :: x5 :: x6 :: x7 :: x8 :: x9 :: L) 9 v = (x0 :: x1 :: x2 :: x3 :: x4 :: x5 :: x6 :: x7 :: x8 :: some v :: L) := rfl
theorem st2_9 {x0 x1 x2 x3 x4 x5 x6 x7 x8 x9 x10 : Option Value} {L : LL} {v : Value} : st2 (x0 :: x1 :: x2 :: x3 :: x4 :: x5 :: x6 :: x7 :: x8 :: x9 :: x10 :: L) 9 v = (x0 :: x1 :: x2 :: x3 :: x4 :: x5 :: x6 :: x7 :: x8 :: some v :: none :: L) := rfl
theorem ls_9 {x0 x1 x2 x3 x4 x5 x6 x7 x8 x9 e : va_E} {l : List va_E} : (x0 :: x1 :: x2 :: x3 :: x4 :: x5 :: x6 :: x7 :: x8 :: x9 :: l).set 9 e = (x0 :: x1 :: x2 :: x3 :: x4 :: x5 :: x6 :: x7 :: x8 :: e :: l) := rfl
theorem st1_10 {x0 x1 x2 x3 x4 x5 x6 x7 x8 x9 x10 : Option Value} {L : LL} {v : Value} : st1 (x0 :: x1 :: x2 :: x3 :: x4 :: x5 :: x6 :: x7 :: x8 :: x9 :: x10 :: L) 10 v = (x0 :: x1 :: x2 :: x3 :: x4 :: x5 :: x6 :: x7 :: x8 :: x9 :: some v :: L) := rfl
theorem st2_10 {x0 x1 x2 x3 x4 x5 x6 x7 x8 x9 x10 x11 : Option Value} {L : LL} {v : Value} : st2 (x0 :: x1 :: x2 :: x3 :: x4 :: x5 :: x6 :: x7 :: x8 :: x9 :: x10 :: x11 :: L) 10 v = (x0 :: x1 :: x2 :: x3 :: x4 :: x5 :: x6 :: x7 :: x8 :: x9 :: some v :: none :: L) := rfl
theorem ls_10 {x0 x1 x2 x3 x4 x5 x6 x7 x8 x9 x10 e : va_E} {l : List va_E} : (x0 :: x1 :: x2 :: x3 :: x4 :: x5 :: x6 :: x7 :: x8 :: x9 :: x10 :: l).set 10 e = (x0 :: x1 :: x2 :: x3 :: x4 :: x5 :: x6 :: x7 :: x8 :: x9 :: e :: l) := rfl
theorem st1_11 {x0 x1 x2 x3 x4 x5 x6 x7 x8 x9 x10 x11 : Option Value} {L : LL} {v : Value} : st1 (x0 :: x1 :: x2 :: x3 :: x4 :: x5 :: x6 :: x7 :: x8 :: x9 :: x10 :: x11 :: L) 11 v = (x0 :: x1 :: x2 :: x3 :: x4 :: x5 :: x6 :: x7 :: x8 :: x9 :: x10 :: some v :: L) := rfl
theorem st2_11 {x0 x1 x2 x3 x4 x5 x6 x7 x8 x9 x10 x11 x12 : Option Value} {L : LL} {v : Value} : st2 (x0 :: x1 :: x2 :: x3 :: x4 :: x5 :: x6 :: x7 :: x8 :: x9 :: x10 :: x11 :: x12 :: L) 11 v = (x0 :: x1 :: x2 :: x3 :: x4 :: x5 :: x6 :: x7 :: x8 :: x9 :: x10 :: some v :: none :: L) := rfl
theorem ls_11 {x0 x1 x2 x3 x4 x5 x6 x7 x8 x9 x10 x11 e : va_E} {l : List va_E} : (x0 :: x1 :: x2 :: x3 :: x4 :: x5 :: x6 :: x7 :: x8 :: x9 :: x10 :: x11 :: l).set 11 e = (x0 :: x1 :: x2 :: x3 :: x4 :: x5 :: x6 :: x7 :: x8 :: x9 :: x10 :: e :: l) := rfl
theorem st1_12 {x0 x1 x2 x3 x4 x5 x6 x7 x8 x9 x10 x11 x12 : Option Value} {L : LL} {v : Value} : st1 (x0 :: x1 :: x2 :: x3 :: x4 :: x5 :: x6 :: x7 :: x8 :: x9 :: x10 :: x11 :: x12 :: L) 12 v = (x0 :: x1 :: x2 :: x3 :: x4 :: x5 :: x6 :: x7 :: x8 :: x9 :: x10 :: x11 :: some v :: L) := rfl
theorem st2_12 {x0 x1 x2 x3 x4 x5 x6 x7 x8 x9 x10 x11 x12 x13 : Option Value} {L : LL} {v : Value} : st2 (x0 :: x1 :: x2 :: x3 :: x4 :: x5 :: x6 :: x7 :: x8 :: x9 :: x10 :: x11 :: x12 :: x13 :: L) 12 v = (x0 :: x1 :: x2 :: x3 :: x4 :: x5 :: x6 :: x7 :: x8 :: x9 :: x10 :: x11 :: some v :: none :: L) := rfl
theorem ls_12 {x0 x1 x2 x3 x4 x5 x6 x7 x8 x9 x10 x11 x12 e : va_E} {l : List va_E} : (x0 :: x1 :: x2 :: x3 :: x4 :: x5 :: x6 :: x7 :: x8 :: x9 :: x10 :: x11 :: x12 :: l).set 12 e = (x0 :: x1 :: x2 :: x3 :: x4 :: x5 :: x6 :: x7 :: x8 :: x9 :: x10 :: x11 :: e :: l) := rfl
theorem st1_13 {x0 x1 x2 x3 x4 x5 x6 x7 x8 x9 x10 x11 x12 x13 : Option Value} {L : LL} {v : Value} : st1 (x0 :: x1 :: x2 :: x3 :: x4 :: x5 :: x6 :: x7 :: x8 :: x9 :: x10 :: x11 :: x12 :: x13 :: L) 13 v = (x0 :: x1 :: x2 :: x3 :: x4 :: x5 :: x6 :: x7 :: x8 :: x9 :: x10 :: x11 :: x12 :: some v :: L) := rfl
theorem st2_13 {x0 x1 x2 x3 x4 x5 x6 x7 x8 x9 x10 x11 x12 x13 x14 : Option Value} {L : LL} {v : Value} : st2 (x0 :: x1 :: x2 :: x3 :: x4 :: x5 :: x6 :: x7 :: x8 :: x9 :: x10 :: x11 :: x12 :: x13 :: x14 :: L) 13 v = (x0 :: x1 :: x2 :: x3 :: x4 :: x5 :: x6 :: x7 :: x8 :: x9 :: x10 :: x11 :: x12 :: some v :: none :: L) := rfl
theorem ls_13 {x0 x1 x2 x3 x4 x5 x6 x7 x8 x9 x10 x11 x12 x13 e : va_E} {l : List va_E} : (x0 :: x1 :: x2 :: x3 :: x4 :: x5 :: x6 :: x7 :: x8 :: x9 :: x10 :: x11 :: x12 :: x13 :: l).set 13 e = (x0 :: x1 :: x2 :: x3 :: x4 :: x5 :: x6 :: x7 :: x8 :: x9 :: x10 :: x11 :: x12 :: e :: l) := rfl
theorem st1_14 {x0 x1 x2 x3 x4 x5 x6 x7 x8 x9 x10 x11 x12 x13 x14 : Option Value} {L : LL} {v : Value} : st1 (x0 :: x1 :: x2 :: x3 :: x4 :: x5 :: x6 :: x7 :: x8 :: x9 :: x10 :: x11 :: x12 :: x13 :: x14 :: L) 14 v = (x0 :: x1 :: x2 :: x3 :: x4 :: x5 :: x6 :: x7 :: x8 :: x9 :: x10 :: x11 :: x12 :: x13 :: some v :: L) := rfl
theorem st2_14 {x0 x1 x2 x3 x4 x5 x6 x7 x8 x9 x10 x11 x12 x13 x14 x15 : Option Value} {L : LL} {v : Value} : st2 (x0 :: x1 :: x2 :: x3 :: x4 :: x5 :: x6 :: x7 :: x8 :: x9 :: x10 :: x11 :: x12 :: x13 :: x14 :: x15 :: L) 14 v = (x0 :: x1 :: x2 :: x3 :: x4 :: x5 :: x6 :: x7 :: x8 :: x9 :: x10 :: x11 :: x12 :: x13 :: some v :: none :: L) := rfl
theorem ls_14 {x0 x1 x2 x3 x4 x5 x6 x7 x8 x9 x10 x11 x12 x13 x14 e : va_E} {l : List va_E} : (x0 :: x1 :: x2 :: x3 :: x4 :: x5 :: x6 :: x7 :: x8 :: x9 :: x10 :: x11 :: x12 :: x13 :: x14 :: l).set 14 e = (x0 :: x1 :: x2 :: x3 :: x4 :: x5 :: x6 :: x7 :: x8 :: x9 :: x10 :: x11 :: x12 :: x13 :: e :: l) := rfl
theorem st1_15 {x0 x1 x2 x3 x4 x5 x6 x7 x8 x9 x10 x11 x12 x13 x14 x15 : Option Value} {L : LL} {v : Value} : st1 (x0 :: x1 :: x2 :: x3 :: x4 :: x5 :: x6 :: x7 :: x8 :: x9 :: x10 :: x11 :: x12 :: x13 :: x14 :: x15 :: L) 15 v = (x0 :: x1 :: x2 :: x3 :: x4 :: x5 :: x6 :: x7 :: x8 :: x9 :: x10 :: x11 :: x12 :: x13 :: x14 :: some v :: L) := rfl
theorem st2_15 {x0 x1 x2 x3 x4 x5 x6 x7 x8 x9 x10 x11 x12 x13 x14 x15 x16 : Option Value} {L : LL} {v : Value} : st2 (x0 :: x1 :: x2 :: x3 :: x4 :: x5 :: x6 :: x7 :: x8 :: x9 :: x10 :: x11 :: x12 :: x13 :: x14 :: x15 :: x16 :: L) 15 v = (x0 :: x1 :: x2 :: x3 :: x4 :: x5 :: x6 :: x7 :: x8 :: x9 :: x10 :: x11 :: x12 :: x13 :: x14 :: some v :: none :: L) := rfl
theorem ls_15 {x0 x1 x2 x3 x4 x5 x6 x7 x8 x9 x10 x11 x12 x13 x14 x15 e : va_E} {l : List va_E} : (x0 :: x1 :: x2 :: x3 :: x4 :: x5 :: x6 :: x7 :: x8 :: x9 :: x10 :: x11 :: x12 :: x13 :: x14 :: x15 :: l).set 15 e = (x0 :: x1 :: x2 :: x3 :: x4 :: x5 :: x6 :: x7 :: x8 :: x9 :: x10 :: x11 :: x12 :: x13 :: x14 :: e :: l) := rfl
theorem st1_16 {x0 x1 x2 x3 x4 x5 x6 x7 x8 x9 x10 x11 x12 x13 x14 x15 x16 : Option Value} {L : LL} {v : Value} : st1 (x0 :: x1 :: x2 :: x3 :: x4 :: x5 :: x6 :: x7 :: x8 :: x9 :: x10 :: x11 :: x12 :: x13 :: x14 :: x15 :: x16 :: L) 16 v = (x0 :: x1 :: x2 :: x3 :: x4 :: x5 :: x6 :: x7 :: x8 :: x9 :: x10 :: x11 :: x12 :: x13 :: x14 :: x15 :: some v :: L) := rfl
theorem st2_16 {x0 x1 x2 x3 x4 x5 x6 x7 x8 x9 x10 x11 x12 x13 x14 x15 x16 x17 : Option Value} {L : LL} {v : Value} : st2 (x0 :: x1 :: x2 :: x3 :: x4 :: x5 :: x6 :: x7 :: x8 :: x9 :: x10 :: x11 :: x12 :: x13 :: x14 :: x15 :: x16 :: x17 :: L) 16 v = (x0 :: x1 :: x2 :: x3 :: x4 :: x5 :: x6 :: x7 :: x8 :: x9 :: x10 :: x11 :: x12 :: x13 :: x14 :: x15 :: some v :: none :: L) := rfl
theorem ls_16 {x0 x1 x2 x3 x4 x5 x6 x7 x8 x9 x10 x11 x12 x13 x14 x15 x16 e : va_E} {l : List va_E} : (x0 :: x1 :: x2 :: x3 :: x4 :: x5 :: x6 :: x7 :: x8 :: x9 :: x10 :: x11 :: x12 :: x13 :: x14 :: x15 :: x16 :: l).set 16 e = (x0 :: x1 :: x2 :: x3 :: x4 :: x5 :: x6 :: x7 :: x8 :: x9 :: x10 :: x11 :: x12 :: x13 :: x14 :: x15 :: e :: l) := rfl
theorem st1_17 {x0 x1 x2 x3 x4 x5 x6 x7 x8 x9 x10 x11 x12 x13 x14 x15 x16 x17 : Option Value} {L : LL} {v : Value} : st1 (x0 :: x1 :: x2 :: x3 :: x4 :: x5 :: x6 :: x7 :: x8 :: x9 :: x10 :: x11 :: x12 :: x13 :: x14 :: x15 :: x16 :: x17 :: L) 17 v = (x0 :: x1 :: x2 :: x3 :: x4 :: x5 :: x6 :: x7 :: x8 :: x9 :: x10 :: x11 :: x12 :: x13 :: x14 :: x15 :: x16 :: some v :: L) := rfl
theorem st2_17 {x0 x1 x2 x3 x4 x5 x6 x7 x8 x9 x10 x11 x12 x13 x14 x15 x16 x17 x18 : Option Value} {L : LL} {v : Value} : st2 (x0 :: x1 :: x2 :: x3 :: x4 :: x5 :: x6 :: x7 :: x8 :: x9 :: x10 :: x11 :: x12 :: x13 :: x14 :: x15 :: x16 :: x17 :: x18 :: L) 17 v = (x0 :: x1 :: x2 :: x3 :: x4 :: x5 :: x6 :: x7 :: x8 :: x9 :: x10 :: x11 :: x12 :: x13 :: x14 :: x15 :: x16 :: some v :: none :: L) := rfl
theorem ls_17 {x0 x1 x2 x3 x4 x5 x6 x7 x8 x9 x10 x11 x12 x13 x14 x15 x16 x17 e : va_E} {l : List va_E} : (x0 :: x1 :: x2 :: x3 :: x4 :: x5 :: x6 :: x7 :: x8 :: x9 :: x10 :: x11 :: x12 :: x13 :: x14 :: x15 :: x16 :: x17 :: l).set 17 e = (x0 :: x1 :: x2 :: x3 :: x4 :: x5 :: x6 :: x7 :: x8 :: x9 :: x10 :: x11 :: x12 :: x13 :: x14 :: x15 :: x16 :: e :: l) := rfl
theorem st1_18 {x0 x1 x2 x3 x4 x5 x6 x7 x8 x9 x10 x11 x12 x13 x14 x15 x16 x17 x18 : Option Value} {L : LL} {v : Value} : st1 (x0 :: x1 :: x2 :: x3 :: x4 :: x5 :: x6 :: x7 :: x8 :: x9 :: x10 :: x11 :: x12 :: x13 :: x14 :: x15 :: x16 :: x17 :: x18 :: L) 18 v = (x0 :: x1 :: x2 :: x3 :: x4 :: x5 :: x6 :: x7 :: x8 :: x9 :: x10 :: x11 :: x12 :: x13 :: x14 :: x15 :: x16 :: x17 :: some v :: L) := rfl
theorem st2_18 {x0 x1 x2 x3 x4 x5 x6 x7 x8 x9 x10 x11 x12 x13 x14 x15 x16 x17 x18 x19 : Option Value} {L : LL} {v : Value} : st2 (x0 :: x1 :: x2 :: x3 :: x4 :: x5 :: x6 :: x7 :: x8 :: x9 :: x10 :: x11 :: x12 :: x13 :: x14 :: x15 :: x16 :: x17 :: x18 :: x19 :: L) 18 v = (x0 :: x1 :: x2 :: x3 :: x4 :: x5 :: x6 :: x7 :: x8 :: x9 :: x10 :: x11 :: x12 :: x13 :: x14 :: x15 :: x16 :: x17 :: some v :: none :: L) := rfl
theorem ls_18 {x0 x1 x2 x3 x4 x5 x6 x7 x8 x9 x10 x11 x12 x13 x14 x15 x16 x17 x18 e : va_E} {l : List va_E} : (x0 :: x1 :: x2 :: x3 :: x4 :: x5 :: x6 :: x7 :: x8 :: x9 :: x10 :: x11 :: x12 :: x13 :: x14 :: x15 :: x16 :: x17 :: x18 :: l).set 18 e = (x0 :: x1 :: x2 :: x3 :: x4 :: x5 :: x6 :: x7 :: x8 :: x9 :: x10 :: x11 :: x12 :: x13 :: x14 :: x15 :: x16 :: x17 :: e :: l) := rfl
theorem st1_19 {x0 x1 x2 x3 x4 x5 x6 x7 x8 x9 x10 x11 x12 x13 x14 x15 x16 x17 x18 x19 : Option Value} {L : LL} {v : Value} : st1 (x0 :: x1 :: x2 :: x3 :: x4 :: x5 :: x6 :: x7 :: x8 :: x9 :: x10 :: x11 :: x12 :: x13 :: x14 :: x15 :: x16 :: x17 :: x18 :: x19 :: L) 19 v = (x0 :: x1 :: x2 :: x3 :: x4 :: x5 :: x6 :: x7 :: x8 :: x9 :: x10 :: x11 :: x12 :: x13 :: x14 :: x15 :: x16 :: x17 :: x18 :: some v :: L) := rfl
theorem st2_19 {x0 x1 x2 x3 x4 x5 x6 x7 x8 x9 x10 x11 x12 x13 x14 x15 x16 x17 x18 x19 x20 : Option Value} {L : LL} {v : Value} : st2 (x0 :: x1 :: x2 :: x3 :: x4 :: x5 :: x6 :: x7 :: x8 :: x9 :: x10 :: x11 :: x12 :: x13 :: x14 :: x15 :: x16 :: x17 :: x18 :: x19 :: x20 :: L) 19 v = (x0 :: x1 :: x2 :: x3 :: x4 :: x5 :: x6 :: x7 :: x8 :: x9 :: x10 :: x11 :: x12 :: x13 :: x14 :: x15 :: x16 :: x17 :: x18 :: some v :: none :: L) := rfl
theorem ls_19 {x0 x1 x2 x3 x4 x5 x6 x7 x8 x9 x10 x11 x12 x13 x14 x15 x16 x17 x18 x19 e : va_E} {l : List va_E} : (x0 :: x1 :: x2 :: x3 :: x4 :: x5 :: x6 :: x7 :: x8 :: x9 :: x10 :: x11 :: x12 :: x13 :: x14 :: x15 :: x16 :: x17 :: x18 :: x19 :: l).set 19 e = (x0 :: x1 :: x2 :: x3 :: x4 :: x5 :: x6 :: x7 :: x8 :: x9 :: x10 :: x11 :: x12 :: x13 :: x14 :: x15 :: x16 :: x17 :: x18 :: e :: l) := rfl
theorem st1_20 {x0 x1 x2 x3 x4 x5 x6 x7 x8 x9 x10 x11 x12 x13 x14 x15 x16 x17 x18 x19 x20 : Option Value} {L : LL} {v : Value} : st1 (x0 :: x1 :: x2 :: x3 :: x4 :: x5 :: x6 :: x7 :: x8 :: x9 :: x10 :: x11 :: x12 :: x13 :: x14 :: x15 :: x16 :: x17 :: x18 :: x19 :: x20 :: L) 20 v = (x0 :: x1 :: x2 :: x3 :: x4 :: x5 :: x6 :: x7 :: x8 :: x9 :: x10 :: x11 :: x12 :: x13 :: x14 :: x15 :: x16 :: x17 :: x18 :: x19 :: some v :: L) := rfl
theorem st2_20 {x0 x1 x2 x3 x4 x5 x6 x7 x8 x9 x10 x11 x12 x13 x14 x15 x16 x17 x18 x19 x20 x21 : Option Value} {L : LL} {v : Value} : st2 (x0 :: x1 :: x2 :: x3 :: x4 :: x5 :: x6 :: x7 :: x8 :: x9 :: x10 :: x11 :: x12 :: x13 :: x14 :: x15 :: x16 :: x17 :: x18 :: x19 :: x20 :: x21 :: L) 20 v = (x0 :: x1 :: x2 :: x3 :: x4 :: x5 :: x6 :: x7 :: x8 :: x9 :: x10 :: x11 :: x12 :: x13 :: x14 :: x15 :: x16 :: x17 :: x18 :: x19 :: some v :: none :: L) := rfl
theorem ls_20 {x0 x1 x2 x3 x4 x5 x6 x7 x8 x9 x10 x11 x12 x13 x14 x15 x16 x17 x18 x19 x20 e : va_E} {l : List va_E} : (x0 :: x1 :: x2 :: x3 :: x4 :: x5 :: x6 :: x7 :: x8 :: x9 :: x10 :: x11 :: x12 :: x13 :: x14 :: x15 :: x16 :: x17 :: x18 :: x19 :: x20 :: l).set 20 e = (x0 :: x1 :: x2 :: x3 :: x4 :: x5 :: x6 :: x7 :: x8 :: x9 :: x10 :: x11 :: x12 :: x13 :: x14 :: x15 :: x16 :: x17 :: x18 :: x19 :: e :: l) := rfl
theorem st1_21 {x0 x1 x2 x3 x4 x5 x6 x7 x8 x9 x10 x11 x12 x13 x14 x15 x16 x17 x18 x19 x20 x21 : Option Value} {L : LL} {v : Value} : st1 (x0 :: x1 :: x2 :: x3 :: x4 :: x5 :: x6 :: x7 :: x8 :: x9 :: x10 :: x11 :: x12 :: x13 :: x14 :: x15 :: x16 :: x17 :: x18 :: x19 :: x20 :: x21 :: L) 21 v = (x0 :: x1 :: x2 :: x3 :: x4 :: x5 :: x6 :: x7 :: x8 :: x9 :: x10 :: x11 :: x12 :: x13 :: x14 :: x15 :: x16 :: x17 :: x18 :: x19 :: x20 :: some v :: L) := rfl
theorem st2_21 {x0 x1 x2 x3 x4 x5 x6 x7 x8 x9 x10 x11 x12 x13 x14 x15 x16 x17 x18 x19 x20 x21 x22 : Option Value} {L : LL} {v : Value} : st2 (x0 :: x1 :: x2 :: x3 :: x4 :: x5 :: x6 :: x7 :: x8 :: x9 :: x10 :: x11 :: x12 :: x13 :: x14 :: x15 :: x16 :: x17 :: x18 :: x19 :: x20 :: x21 :: x22 :: L) 21 v = (x0 :: x1 :: x2 :: x3 :: x4 :: x5 :: x6 :: x7 :: x8 :: x9 :: x10 :: x11 :: x12 :: x13 :: x14 :: x15 :: x16 :: x17 :: x18 :: x19 :: x20 :: some v :: none :: L) := rfl
theorem ls_21 {x0 x1 x2 x3 x4 x5 x6 x7 x8 x9 x10 x11 x12 x13 x14 x15 x16 x17 x18 x19 x20 x21 e : va_E} {l : List va_E} : (x0 :: x1 :: x2 :: x3 :: x4 :: x5 :: x6 :: x7 :: x8 :: x9 :: x10 :: x11 :: x12 :: x13 :: x14 :: x15 :: x16 :: x17 :: x18 :: x19 :: x20 :: x21 :: l).set 21 e = (x0 :: x1 :: x2 :: x3 :: x4 :: x5 :: x6 :: x7 :: x8 :: x9 :: x10 :: x11 :: x12 :: x13 :: x14 :: x15 :: x16 :: x17 :: x18 :: x19 :: x20 :: e :: l) := rfl
theorem st1_22 {x0 x1 x2 x3 x4 x5 x6 x7 x8 x9 x10 x11 x12 x13 x14 x15 x16 x17 x18 x19 x20 x21 x22 : Option Value} {L : LL} {v : Value} : st1 (x0 :: x1 :: x2 :: x3 :: x4 :: x5 :: x6 :: x7 :: x8 :: x9 :: x10 :: x11 :: x12 :: x13 :: x14 :: x15 :: x16 :: x17 :: x18 :: x19 :: x20 :: x21 :: x22 :: L) 22 v = (x0 :: x1 :: x2 :: x3 :: x4 :: x5 :: x6 :: x7 :: x8 :: x9 :: x10 :: x11 :: x12 :: x13 :: x14 :: x15 :: x16 :: x17 :: x18 :: x19 :: x20 :: x21 :: some v :: L) := rfl
theorem st2_22 {x0 x1 x2 x3 x4 x5 x6 x7 x8 x9 x10 x11 x12 x13 x14 x15 x16 x17 x18 x19 x20 x21 x22 x23 : Option Value} {L : LL} {v : Value} : st2 (x0 :: x1 :: x2 :: x3 :: x4 :: x5 :: x6 :: x7 :: x8 :: x9 :: x10 :: x11 :: x12 :: x13 :: x14 :: x15 :: x16 :: x17 :: x18 :: x19 :: x20 :: x21 :: x22 :: x23 :: L) 22 v = (x0 :: x1 :: x2 :: x3 :: x4 :: x5 :: x6 :: x7 :: x8 :: x9 :: x10 :: x11 :: x12 :: x13 :: x14 :: x15 :: x16 :: x17 :: x18 :: x19 :: x20 :: x21 :: some v :: none :: L) := rfl
theorem ls_22 {x0 x1 x2 x3 x4 x5 x6 x7 x8 x9 x10 x11 x12 x13 x14 x15 x16 x17 x18 x19 x20 x21 x22 e : va_E} {l : List va_E} : (x0 :: x1 :: x2 :: x3 :: x4 :: x5 :: x6 :: x7 :: x8 :: x9 :: x10 :: x11 :: x12 :: x13 :: x14 :: x15 :: x16 :: x17 :: x18 :: x19 :: x20 :: x21 :: x22 :: l).set 22 e = (x0 :: x1 :: x2 :: x3 :: x4 :: x5 :: x6 :: x7 :: x8 :: x9 :: x10 :: x11 :: x12 :: x13 :: x14 :: x15 :: x16 :: x17 :: x18 :: x19 :: x20 :: x21 :: e :: l) := rfl
theorem st1_23 {x0 x1 x2 x3 x4 x5 x6 x7 x8 x9 x10 x11 x12 x13 x14 x15 x16 x17 x18 x19 x20 x21 x22 x23 : Option Value} {L : LL} {v : Value} : st1 (x0 :: x1 :: x2 :: x3 :: x4 :: x5 :: x6 :: x7 :: x8 :: x9 :: x10 :: x11 :: x12 :: x13 :: x14 :: x15 :: x16 :: x17 :: x18 :: x19 :: x20 :: x21 :: x22 :: x23 :: L) 23 v = (x0 :: x1 :: x2 :: x3 :: x4 :: x5 :: x6 :: x7 :: x8 :: x9 :: x10 :: x11 :: x12 :: x13 :: x14 :: x15 :: x16 :: x17 :: x18 :: x19 :: x20 :: x21 :: x22 :: some v :: L) := rfl
theorem st2_23 {x0 x1 x2 x3 x4 x5 x6 x7 x8 x9 x10 x11 x12 x13 x14 x15 x16 x17 x18 x19 x20 x21 x22 x23 x24 : Option Value} {L : LL} {v : Value} : st2 (x0 :: x1 :: x2 :: x3 :: x4 :: x5 :: x6 :: x7 :: x8 :: x9 :: x10 :: x11 :: x12 :: x13 :: x14 :: x15 :: x16 :: x17 :: x18 :: x19 :: x20 :: x21 :: x22 :: x23 :: x24 :: L) 23 v = (x0 :: x1 :: x2 :: x3 :: x4 :: x5 :: x6 :: x7 :: x8 :: x9 :: x10 :: x11 :: x12 :: x13 :: x14 :: x15 :: x16 :: x17 :: x18 :: x19 :: x20 :: x21 :: x22 :: some v :: none :: L) := rfl
theorem ls_23 {x0 x1 x2 x3 x4 x5 x6 x7 x8 x9 x10 x11 x12 x13 x14 x15 x16 x17 x18 x19 x20 x21 x22 x23 e : va_E} {l : List va_E} : (x0 :: x1 :: x2 :: x3 :: x4 :: x5 :: x6 :: x7 :: x8 :: x9 :: x10 :: x11 :: x12 :: x13 :: x14 :: x15 :: x16 :: x17 :: x18 :: x19 :: x20 :: x21 :: x22 :: x23 :: l).set 23 e = (x0 :: x1 :: x2 :: x3 :: x4 :: x5 :: x6 :: x7 :: x8 :: x9 :: x10 :: x11 :: x12 :: x13 :: x14 :: x15 :: x16 :: x17 :: x18 :: x19 :: x20 :: x21 :: x22 :: e :: l) := rfl
def fsX0 (a : Nat) (f1 f2 : Int) : List Value := [.ref (a + 1), vI f1, vI f2]
theorem fsX0_g0 {a : Nat} {f1 f2 : Int} : (fsX0 a f1 f2)[0]? = some (.ref (a + 1)) := rfl
theorem fsX0_g1 {a : Nat} {f1 f2 : Int} : (fsX0 a f1 f2)[1]? = some (vI f1) := rfl
theorem fsX0_s1 {a : Nat} {f1 f2 : Int} {z : Int} : (fsX0 a f1 f2).set 1 (vI z) = fsX0 a z f2 := rfl
theorem fsX0_k1 {a : Nat} {f1 f2 : Int} : 1 < (fsX0 a f1 f2).length := (Nat.le_of_ble_eq_true rfl : (1 : Nat) < 3)
theorem fsX0_g2 {a : Nat} {f1 f2 : Int} : (fsX0 a f1 f2)[2]? = some (vI f2) := rfl
theorem fsX0_s2 {a : Nat} {f1 f2 : Int} {z : Int} : (fsX0 a f1 f2).set 2 (vI z) = fsX0 a f1 z := rfl
theorem fsX0_k2 {a : Nat} {f1 f2 : Int} : 2 < (fsX0 a f1 f2).length := (Nat.le_of_ble_eq_true rfl : (2 : Nat) < 3)
def fsX1 (a : Nat) (f6 : Int) : List Value := [.ref (a + 1), .ref (a + 5), .ref (a + 9), .ref (a + 13), .ref (a + 22), .ref (a + 23), vI f6]
theorem fsX1_g0 {a : Nat} {f6 : Int} : (fsX1 a f6)[0]? = some (.ref (a + 1)) := rfl
theorem fsX1_g1 {a : Nat} {f6 : Int} : (fsX1 a f6)[1]? = some (.ref (a + 5)) := rfl
theorem fsX1_g2 {a : Nat} {f6 : Int} : (fsX1 a f6)[2]? = some (.ref (a + 9)) := rfl
theorem fsX1_g3 {a : Nat} {f6 : Int} : (fsX1 a f6)[3]? = some (.ref (a + 13)) := rfl
theorem fsX1_g4 {a : Nat} {f6 : Int} : (fsX1 a f6)[4]? = some (.ref (a + 22)) := rfl
theorem fsX1_g5 {a : Nat} {f6 : Int} : (fsX1 a f6)[5]? = some (.ref (a + 23)) := rfl
theorem fsX1_g6 {a : Nat} {f6 : Int} : (fsX1 a f6)[6]? = some (vI f6) := rfl
theorem fsX1_s6 {a : Nat} {f6 : Int} {z : Int} : (fsX1 a f6).set 6 (vI z) = fsX1 a z := rfl
theorem fsX1_k6 {a : Nat} {f6 : Int} : 6 < (fsX1 a f6).length := (Nat.le_of_ble_eq_true rfl : (6 : Nat) < 7)
def fsX2 (a : Nat) (f6 f7 f8 f9 f10 f11 : Int) : List Value := [.ref (a + 1), .ref (a + 2), .ref (a + 6), .ref (a + 10), .ref (a + 11), .ref (a + 12), vI f6, vI f7, vI f8, vI f9, vI f10, vI f11]
theorem fsX2_g0 {a : Nat} {f6 f7 f8 f9 f10 f11 : Int} : (fsX2 a f6 f7 f8 f9 f10 f11)[0]? = some (.ref (a + 1)) := rfl
theorem fsX2_g1 {a : Nat} {f6 f7 f8 f9 f10 f11 : Int} : (fsX2 a f6 f7 f8 f9 f10 f11)[1]? = some (.ref (a + 2)) := rfl
theorem fsX2_g2 {a : Nat} {f6 f7 f8 f9 f10 f11 : Int} : (fsX2 a f6 f7 f8 f9 f10 f11)[2]? = some (.ref (a + 6)) := rfl
theorem fsX2_g3 {a : Nat} {f6 f7 f8 f9 f10 f11 : Int} : (fsX2 a f6 f7 f8 f9 f10 f11)[3]? = some (.ref (a + 10)) := rfl
theorem fsX2_g4 {a : Nat} {f6 f7 f8 f9 f10 f11 : Int} : (fsX2 a f6 f7 f8 f9 f10 f11)[4]? = some (.ref (a + 11)) := rfl
theorem fsX2_g5 {a : Nat} {f6 f7 f8 f9 f10 f11 : Int} : (fsX2 a f6 f7 f8 f9 f10 f11)[5]? = some (.ref (a + 12)) := rfl
theorem fsX2_g6 {a : Nat} {f6 f7 f8 f9 f10 f11 : Int} : (fsX2 a f6 f7 f8 f9 f10 f11)[6]? = some (vI f6) := rfl
theorem fsX2_s6 {a : Nat} {f6 f7 f8 f9 f10 f11 : Int} {z : Int} : (fsX2 a f6 f7 f8 f9 f10 f11).set 6 (vI z) = fsX2 a z f7 f8 f9 f10 f11 := rfl
theorem fsX2_k6 {a : Nat} {f6 f7 f8 f9 f10 f11 : Int} : 6 < (fsX2 a f6 f7 f8 f9 f10 f11).length := (Nat.le_of_ble_eq_true rfl : (6 : Nat) < 12)
theorem fsX2_g7 {a : Nat} {f6 f7 f8 f9 f10 f11 : Int} : (fsX2 a f6 f7 f8 f9 f10 f11)[7]? = some (vI f7) := rfl
theorem fsX2_s7 {a : Nat} {f6 f7 f8 f9 f10 f11 : Int} {z : Int} : (fsX2 a f6 f7 f8 f9 f10 f11).set 7 (vI z) = fsX2 a f6 z f8 f9 f10 f11 := rfl
theorem fsX2_k7 {a : Nat} {f6 f7 f8 f9 f10 f11 : Int} : 7 < (fsX2 a f6 f7 f8 f9 f10 f11).length := (Nat.le_of_ble_eq_true rfl : (7 : Nat) < 12)
theorem fsX2_g8 {a : Nat} {f6 f7 f8 f9 f10 f11 : Int} : (fsX2 a f6 f7 f8 f9 f10 f11)[8]? = some (vI f8) := rfl
theorem fsX2_s8 {a : Nat} {f6 f7 f8 f9 f10 f11 : Int} {z : Int} : (fsX2 a f6 f7 f8 f9 f10 f11).set 8 (vI z) = fsX2 a f6 f7 z f9 f10 f11 := rfl
theorem fsX2_k8 {a : Nat} {f6 f7 f8 f9 f10 f11 : Int} : 8 < (fsX2 a f6 f7 f8 f9 f10 f11).length := (Nat.le_of_ble_eq_true rfl : (8 : Nat) < 12)
theorem fsX2_g9 {a : Nat} {f6 f7 f8 f9 f10 f11 : Int} : (fsX2 a f6 f7 f8 f9 f10 f11)[9]? = some (vI f9) := rfl
theorem fsX2_s9 {a : Nat} {f6 f7 f8 f9 f10 f11 : Int} {z : Int} : (fsX2 a f6 f7 f8 f9 f10 f11).set 9 (vI z) = fsX2 a f6 f7 f8 z f10 f11 := rfl
theorem fsX2_k9 {a : Nat} {f6 f7 f8 f9 f10 f11 : Int} : 9 < (fsX2 a f6 f7 f8 f9 f10 f11).length := (Nat.le_of_ble_eq_true rfl : (9 : Nat) < 12)
theorem fsX2_g10 {a : Nat} {f6 f7 f8 f9 f10 f11 : Int} : (fsX2 a f6 f7 f8 f9 f10 f11)[10]? = some (vI f10) := rfl
theorem fsX2_s10 {a : Nat} {f6 f7 f8 f9 f10 f11 : Int} {z : Int} : (fsX2 a f6 f7 f8 f9 f10 f11).set 10 (vI z) = fsX2 a f6 f7 f8 f9 z f11 := rfl
theorem fsX2_k10 {a : Nat} {f6 f7 f8 f9 f10 f11 : Int} : 10 < (fsX2 a f6 f7 f8 f9 f10 f11).length := (Nat.le_of_ble_eq_true rfl : (10 : Nat) < 12)
theorem fsX2_g11 {a : Nat} {f6 f7 f8 f9 f10 f11 : Int} : (fsX2 a f6 f7 f8 f9 f10 f11)[11]? = some (vI f11) := rfl
theorem fsX2_s11 {a : Nat} {f6 f7 f8 f9 f10 f11 : Int} {z : Int} : (fsX2 a f6 f7 f8 f9 f10 f11).set 11 (vI z) = fsX2 a f6 f7 f8 f9 f10 z := rfl
theorem fsX2_k11 {a : Nat} {f6 f7 f8 f9 f10 f11 : Int} : 11 < (fsX2 a f6 f7 f8 f9 f10 f11).length := (Nat.le_of_ble_eq_true rfl : (11 : Nat) < 12)
def fsX3 (a : Nat) (f8 f9 f10 f11 f12 f13 : Int) : List Value := [.ref (a + 1), .ref (a + 2), .ref (a + 3), .ref (a + 4), .ref (a + 5), .ref (a + 6), .ref (a + 7), .ref (a + 8), vI f8, vI f9, vI f10, vI f11, vI f12, vI f13]
theorem fsX3_g0 {a : Nat} {f8 f9 f10 f11 f12 f13 : Int} : (fsX3 a f8 f9 f10 f11 f12 f13)[0]? = some (.ref (a + 1)) := rfl
theorem fsX3_g1 {a : Nat} {f8 f9 f10 f11 f12 f13 : Int} : (fsX3 a f8 f9 f10 f11 f12 f13)[1]? = some (.ref (a + 2)) := rfl
theorem fsX3_g2 {a : Nat} {f8 f9 f10 f11 f12 f13 : Int} : (fsX3 a f8 f9 f10 f11 f12 f13)[2]? = some (.ref (a + 3)) := rfl
theorem fsX3_g3 {a : Nat} {f8 f9 f10 f11 f12 f13 : Int} : (fsX3 a f8 f9 f10 f11 f12 f13)[3]? = some (.ref (a + 4)) := rfl
theorem fsX3_g4 {a : Nat} {f8 f9 f10 f11 f12 f13 : Int} : (fsX3 a f8 f9 f10 f11 f12 f13)[4]? = some (.ref (a + 5)) := rfl
theorem fsX3_g5 {a : Nat} {f8 f9 f10 f11 f12 f13 : Int} : (fsX3 a f8 f9 f10 f11 f12 f13)[5]? = some (.ref (a + 6)) := rfl
theorem fsX3_g6 {a : Nat} {f8 f9 f10 f11 f12 f13 : Int} : (fsX3 a f8 f9 f10 f11 f12 f13)[6]? = some (.ref (a + 7)) := rfl
theorem fsX3_g7 {a : Nat} {f8 f9 f10 f11 f12 f13 : Int} : (fsX3 a f8 f9 f10 f11 f12 f13)[7]? = some (.ref (a + 8)) := rfl
theorem fsX3_g8 {a : Nat} {f8 f9 f10 f11 f12 f13 : Int} : (fsX3 a f8 f9 f10 f11 f12 f13)[8]? = some (vI f8) := rfl
theorem fsX3_s8 {a : Nat} {f8 f9 f10 f11 f12 f13 : Int} {z : Int} : (fsX3 a f8 f9 f10 f11 f12 f13).set 8 (vI z) = fsX3 a z f9 f10 f11 f12 f13 := rfl
theorem fsX3_k8 {a : Nat} {f8 f9 f10 f11 f12 f13 : Int} : 8 < (fsX3 a f8 f9 f10 f11 f12 f13).length := (Nat.le_of_ble_eq_true rfl : (8 : Nat) < 14)
theorem fsX3_g9 {a : Nat} {f8 f9 f10 f11 f12 f13 : Int} : (fsX3 a f8 f9 f10 f11 f12 f13)[9]? = some (vI f9) := rfl
theorem fsX3_s9 {a : Nat} {f8 f9 f10 f11 f12 f13 : Int} {z : Int} : (fsX3 a f8 f9 f10 f11 f12 f13).set 9 (vI z) = fsX3 a f8 z f10 f11 f12 f13 := rfl
theorem fsX3_k9 {a : Nat} {f8 f9 f10 f11 f12 f13 : Int} : 9 < (fsX3 a f8 f9 f10 f11 f12 f13).length := (Nat.le_of_ble_eq_true rfl : (9 : Nat) < 14)
theorem fsX3_g10 {a : Nat} {f8 f9 f10 f11 f12 f13 : Int} : (fsX3 a f8 f9 f10 f11 f12 f13)[10]? = some (vI f10) := rfl
theorem fsX3_s10 {a : Nat} {f8 f9 f10 f11 f12 f13 : Int} {z : Int} : (fsX3 a f8 f9 f10 f11 f12 f13).set 10 (vI z) = fsX3 a f8 f9 z f11 f12 f13 := rfl
theorem fsX3_k10 {a : Nat} {f8 f9 f10 f11 f12 f13 : Int} : 10 < (fsX3 a f8 f9 f10 f11 f12 f13).length := (Nat.le_of_ble_eq_true rfl : (10 : Nat) < 14)
theorem fsX3_g11 {a : Nat} {f8 f9 f10 f11 f12 f13 : Int} : (fsX3 a f8 f9 f10 f11 f12 f13)[11]? = some (vI f11) := rfl
theorem fsX3_s11 {a : Nat} {f8 f9 f10 f11 f12 f13 : Int} {z : Int} : (fsX3 a f8 f9 f10 f11 f12 f13).set 11 (vI z) = fsX3 a f8 f9 f10 z f12 f13 := rfl
theorem fsX3_k11 {a : Nat} {f8 f9 f10 f11 f12 f13 : Int} : 11 < (fsX3 a f8 f9 f10 f11 f12 f13).length := (Nat.le_of_ble_eq_true rfl : (11 : Nat) < 14)
theorem fsX3_g12 {a : Nat} {f8 f9 f10 f11 f12 f13 : Int} : (fsX3 a f8 f9 f10 f11 f12 f13)[12]? = some (vI f12) := rfl
theorem fsX3_s12 {a : Nat} {f8 f9 f10 f11 f12 f13 : Int} {z : Int} : (fsX3 a f8 f9 f10 f11 f12 f13).set 12 (vI z) = fsX3 a f8 f9 f10 f11 z f13 := rfl
theorem fsX3_k12 {a : Nat} {f8 f9 f10 f11 f12 f13 : Int} : 12 < (fsX3 a f8 f9 f10 f11 f12 f13).length := (Nat.le_of_ble_eq_true rfl : (12 : Nat) < 14)
theorem fsX3_g13 {a : Nat} {f8 f9 f10 f11 f12 f13 : Int} : (fsX3 a f8 f9 f10 f11 f12 f13)[13]? = some (vI f13) := rfl
theorem fsX3_s13 {a : Nat} {f8 f9 f10 f11 f12 f13 : Int} {z : Int} : (fsX3 a f8 f9 f10 f11 f12 f13).set 13 (vI z) = fsX3 a f8 f9 f10 f11 f12 z := rfl
theorem fsX3_k13 {a : Nat} {f8 f9 f10 f11 f12 f13 : Int} : 13 < (fsX3 a f8 f9 f10 f11 f12 f13).length := (Nat.le_of_ble_eq_true rfl : (13 : Nat) < 14)
def fsX4 (a : Nat) (f0 f1 f2 f3 f4 f5 : Int) : List Value := [vI f0, vI f1, vI f2, vJ f3, vJ f4, vJ f5]
theorem fsX4_g0 {a : Nat} {f0 f1 f2 f3 f4 f5 : Int} : (fsX4 a f0 f1 f2 f3 f4 f5)[0]? = some (vI f0) := rfl
theorem fsX4_s0 {a : Nat} {f0 f1 f2 f3 f4 f5 : Int} {z : Int} : (fsX4 a f0 f1 f2 f3 f4 f5).set 0 (vI z) = fsX4 a z f1 f2 f3 f4 f5 := rfl
theorem fsX4_k0 {a : Nat} {f0 f1 f2 f3 f4 f5 : Int} : 0 < (fsX4 a f0 f1 f2 f3 f4 f5).length := (Nat.le_of_ble_eq_true rfl : (0 : Nat) < 6)
theorem fsX4_g1 {a : Nat} {f0 f1 f2 f3 f4 f5 : Int} : (fsX4 a f0 f1 f2 f3 f4 f5)[1]? = some (vI f1) := rfl
theorem fsX4_s1 {a : Nat} {f0 f1 f2 f3 f4 f5 : Int} {z : Int} : (fsX4 a f0 f1 f2 f3 f4 f5).set 1 (vI z) = fsX4 a f0 z f2 f3 f4 f5 := rfl
theorem fsX4_k1 {a : Nat} {f0 f1 f2 f3 f4 f5 : Int} : 1 < (fsX4 a f0 f1 f2 f3 f4 f5).length := (Nat.le_of_ble_eq_true rfl : (1 : Nat) < 6)
theorem fsX4_g2 {a : Nat} {f0 f1 f2 f3 f4 f5 : Int} : (fsX4 a f0 f1 f2 f3 f4 f5)[2]? = some (vI f2) := rfl
theorem fsX4_s2 {a : Nat} {f0 f1 f2 f3 f4 f5 : Int} {z : Int} : (fsX4 a f0 f1 f2 f3 f4 f5).set 2 (vI z) = fsX4 a f0 f1 z f3 f4 f5 := rfl
theorem fsX4_k2 {a : Nat} {f0 f1 f2 f3 f4 f5 : Int} : 2 < (fsX4 a f0 f1 f2 f3 f4 f5).length := (Nat.le_of_ble_eq_true rfl : (2 : Nat) < 6)
theorem fsX4_g3 {a : Nat} {f0 f1 f2 f3 f4 f5 : Int} : (fsX4 a f0 f1 f2 f3 f4 f5)[3]? = some (vJ f3) := rfl
theorem fsX4_s3 {a : Nat} {f0 f1 f2 f3 f4 f5 : Int} {z : Int} : (fsX4 a f0 f1 f2 f3 f4 f5).set 3 (vJ z) = fsX4 a f0 f1 f2 z f4 f5 := rfl
theorem fsX4_k3 {a : Nat} {f0 f1 f2 f3 f4 f5 : Int} : 3 < (fsX4 a f0 f1 f2 f3 f4 f5).length := (Nat.le_of_ble_eq_true rfl : (3 : Nat) < 6)
theorem fsX4_g4 {a : Nat} {f0 f1 f2 f3 f4 f5 : Int} : (fsX4 a f0 f1 f2 f3 f4 f5)[4]? = some (vJ f4) := rfl
theorem fsX4_s4 {a : Nat} {f0 f1 f2 f3 f4 f5 : Int} {z : Int} : (fsX4 a f0 f1 f2 f3 f4 f5).set 4 (vJ z) = fsX4 a f0 f1 f2 f3 z f5 := rfl
theorem fsX4_k4 {a : Nat} {f0 f1 f2 f3 f4 f5 : Int} : 4 < (fsX4 a f0 f1 f2 f3 f4 f5).length := (Nat.le_of_ble_eq_true rfl : (4 : Nat) < 6)
theorem fsX4_g5 {a : Nat} {f0 f1 f2 f3 f4 f5 : Int} : (fsX4 a f0 f1 f2 f3 f4 f5)[5]? = some (vJ f5) := rfl
theorem fsX4_s5 {a : Nat} {f0 f1 f2 f3 f4 f5 : Int} {z : Int} : (fsX4 a f0 f1 f2 f3 f4 f5).set 5 (vJ z) = fsX4 a f0 f1 f2 f3 f4 z := rfl
theorem fsX4_k5 {a : Nat} {f0 f1 f2 f3 f4 f5 : Int} : 5 < (fsX4 a f0 f1 f2 f3 f4 f5).length := (Nat.le_of_ble_eq_true rfl : (5 : Nat) < 6)
def fsX5 (a : Nat) (f1 f2 f3 f4 : Int) : List Value := [.ref (a + 1), vI f1, vI f2, vI f3, vI f4]
theorem fsX5_g0 {a : Nat} {f1 f2 f3 f4 : Int} : (fsX5 a f1 f2 f3 f4)[0]? = some (.ref (a + 1)) := rfl
theorem fsX5_g1 {a : Nat} {f1 f2 f3 f4 : Int} : (fsX5 a f1 f2 f3 f4)[1]? = some (vI f1) := rfl
theorem fsX5_s1 {a : Nat} {f1 f2 f3 f4 : Int} {z : Int} : (fsX5 a f1 f2 f3 f4).set 1 (vI z) = fsX5 a z f2 f3 f4 := rfl
theorem fsX5_k1 {a : Nat} {f1 f2 f3 f4 : Int} : 1 < (fsX5 a f1 f2 f3 f4).length := (Nat.le_of_ble_eq_true rfl : (1 : Nat) < 5)
theorem fsX5_g2 {a : Nat} {f1 f2 f3 f4 : Int} : (fsX5 a f1 f2 f3 f4)[2]? = some (vI f2) := rfl
theorem fsX5_s2 {a : Nat} {f1 f2 f3 f4 : Int} {z : Int} : (fsX5 a f1 f2 f3 f4).set 2 (vI z) = fsX5 a f1 z f3 f4 := rfl
theorem fsX5_k2 {a : Nat} {f1 f2 f3 f4 : Int} : 2 < (fsX5 a f1 f2 f3 f4).length := (Nat.le_of_ble_eq_true rfl : (2 : Nat) < 5)
theorem fsX5_g3 {a : Nat} {f1 f2 f3 f4 : Int} : (fsX5 a f1 f2 f3 f4)[3]? = some (vI f3) := rfl
theorem fsX5_s3 {a : Nat} {f1 f2 f3 f4 : Int} {z : Int} : (fsX5 a f1 f2 f3 f4).set 3 (vI z) = fsX5 a f1 f2 z f4 := rfl
theorem fsX5_k3 {a : Nat} {f1 f2 f3 f4 : Int} : 3 < (fsX5 a f1 f2 f3 f4).length := (Nat.le_of_ble_eq_true rfl : (3 : Nat) < 5)
theorem fsX5_g4 {a : Nat} {f1 f2 f3 f4 : Int} : (fsX5 a f1 f2 f3 f4)[4]? = some (vI f4) := rfl
theorem fsX5_s4 {a : Nat} {f1 f2 f3 f4 : Int} {z : Int} : (fsX5 a f1 f2 f3 f4).set 4 (vI z) = fsX5 a f1 f2 f3 z := rfl
theorem fsX5_k4 {a : Nat} {f1 f2 f3 f4 : Int} : 4 < (fsX5 a f1 f2 f3 f4).length := (Nat.le_of_ble_eq_true rfl : (4 : Nat) < 5)
def fsX6 (a : Nat) (f3 f4 f5 f6 f7 f8 f9 : Int) : List Value := [.ref (a + 1), .ref (a + 2), .ref (a + 3), vI f3, vI f4, vI f5, vJ f6, vI f7, vI f8, vI f9]
theorem fsX6_g0 {a : Nat} {f3 f4 f5 f6 f7 f8 f9 : Int} : (fsX6 a f3 f4 f5 f6 f7 f8 f9)[0]? = some (.ref (a + 1)) := rfl
theorem fsX6_g1 {a : Nat} {f3 f4 f5 f6 f7 f8 f9 : Int} : (fsX6 a f3 f4 f5 f6 f7 f8 f9)[1]? = some (.ref (a + 2)) := rfl
theorem fsX6_g2 {a : Nat} {f3 f4 f5 f6 f7 f8 f9 : Int} : (fsX6 a f3 f4 f5 f6 f7 f8 f9)[2]? = some (.ref (a + 3)) := rfl
theorem fsX6_g3 {a : Nat} {f3 f4 f5 f6 f7 f8 f9 : Int} : (fsX6 a f3 f4 f5 f6 f7 f8 f9)[3]? = some (vI f3) := rfl
theorem fsX6_s3 {a : Nat} {f3 f4 f5 f6 f7 f8 f9 : Int} {z : Int} : (fsX6 a f3 f4 f5 f6 f7 f8 f9).set 3 (vI z) = fsX6 a z f4 f5 f6 f7 f8 f9 := rfl
theorem fsX6_k3 {a : Nat} {f3 f4 f5 f6 f7 f8 f9 : Int} : 3 < (fsX6 a f3 f4 f5 f6 f7 f8 f9).length := (Nat.le_of_ble_eq_true rfl : (3 : Nat) < 10)
theorem fsX6_g4 {a : Nat} {f3 f4 f5 f6 f7 f8 f9 : Int} : (fsX6 a f3 f4 f5 f6 f7 f8 f9)[4]? = some (vI f4) := rfl
theorem fsX6_s4 {a : Nat} {f3 f4 f5 f6 f7 f8 f9 : Int} {z : Int} : (fsX6 a f3 f4 f5 f6 f7 f8 f9).set 4 (vI z) = fsX6 a f3 z f5 f6 f7 f8 f9 := rfl
theorem fsX6_k4 {a : Nat} {f3 f4 f5 f6 f7 f8 f9 : Int} : 4 < (fsX6 a f3 f4 f5 f6 f7 f8 f9).length := (Nat.le_of_ble_eq_true rfl : (4 : Nat) < 10)
theorem fsX6_g5 {a : Nat} {f3 f4 f5 f6 f7 f8 f9 : Int} : (fsX6 a f3 f4 f5 f6 f7 f8 f9)[5]? = some (vI f5) := rfl
theorem fsX6_s5 {a : Nat} {f3 f4 f5 f6 f7 f8 f9 : Int} {z : Int} : (fsX6 a f3 f4 f5 f6 f7 f8 f9).set 5 (vI z) = fsX6 a f3 f4 z f6 f7 f8 f9 := rfl
theorem fsX6_k5 {a : Nat} {f3 f4 f5 f6 f7 f8 f9 : Int} : 5 < (fsX6 a f3 f4 f5 f6 f7 f8 f9).length := (Nat.le_of_ble_eq_true rfl : (5 : Nat) < 10)
theorem fsX6_g6 {a : Nat} {f3 f4 f5 f6 f7 f8 f9 : Int} : (fsX6 a f3 f4 f5 f6 f7 f8 f9)[6]? = some (vJ f6) := rfl
theorem fsX6_s6 {a : Nat} {f3 f4 f5 f6 f7 f8 f9 : Int} {z : Int} : (fsX6 a f3 f4 f5 f6 f7 f8 f9).set 6 (vJ z) = fsX6 a f3 f4 f5 z f7 f8 f9 := rfl
theorem fsX6_k6 {a : Nat} {f3 f4 f5 f6 f7 f8 f9 : Int} : 6 < (fsX6 a f3 f4 f5 f6 f7 f8 f9).length := (Nat.le_of_ble_eq_true rfl : (6 : Nat) < 10)
theorem fsX6_g7 {a : Nat} {f3 f4 f5 f6 f7 f8 f9 : Int} : (fsX6 a f3 f4 f5 f6 f7 f8 f9)[7]? = some (vI f7) := rfl
theorem fsX6_s7 {a : Nat} {f3 f4 f5 f6 f7 f8 f9 : Int} {z : Int} : (fsX6 a f3 f4 f5 f6 f7 f8 f9).set 7 (vI z) = fsX6 a f3 f4 f5 f6 z f8 f9 := rfl
theorem fsX6_k7 {a : Nat} {f3 f4 f5 f6 f7 f8 f9 : Int} : 7 < (fsX6 a f3 f4 f5 f6 f7 f8 f9).length := (Nat.le_of_ble_eq_true rfl : (7 : Nat) < 10)
theorem fsX6_g8 {a : Nat} {f3 f4 f5 f6 f7 f8 f9 : Int} : (fsX6 a f3 f4 f5 f6 f7 f8 f9)[8]? = some (vI f8) := rfl
theorem fsX6_s8 {a : Nat} {f3 f4 f5 f6 f7 f8 f9 : Int} {z : Int} : (fsX6 a f3 f4 f5 f6 f7 f8 f9).set 8 (vI z) = fsX6 a f3 f4 f5 f6 f7 z f9 := rfl
theorem fsX6_k8 {a : Nat} {f3 f4 f5 f6 f7 f8 f9 : Int} : 8 < (fsX6 a f3 f4 f5 f6 f7 f8 f9).length := (Nat.le_of_ble_eq_true rfl : (8 : Nat) < 10)
theorem fsX6_g9 {a : Nat} {f3 f4 f5 f6 f7 f8 f9 : Int} : (fsX6 a f3 f4 f5 f6 f7 f8 f9)[9]? = some (vI f9) := rfl
theorem fsX6_s9 {a : Nat} {f3 f4 f5 f6 f7 f8 f9 : Int} {z : Int} : (fsX6 a f3 f4 f5 f6 f7 f8 f9).set 9 (vI z) = fsX6 a f3 f4 f5 f6 f7 f8 z := rfl
theorem fsX6_k9 {a : Nat} {f3 f4 f5 f6 f7 f8 f9 : Int} : 9 < (fsX6 a f3 f4 f5 f6 f7 f8 f9).length := (Nat.le_of_ble_eq_true rfl : (9 : Nat) < 10)
def fsX7 (a : Nat) (f5 f6 f9 f10 f11 : Int) : List Value := [.ref (a + 1), .ref (a + 2), .ref (a + 11), .ref (a + 12), .ref (a + 13), vI f5, vI f6, .ref (a + 14), .ref (a + 15), vI f9, vI f10, vI f11]
theorem fsX7_g0 {a : Nat} {f5 f6 f9 f10 f11 : Int} : (fsX7 a f5 f6 f9 f10 f11)[0]? = some (.ref (a + 1)) := rfl
theorem fsX7_g1 {a : Nat} {f5 f6 f9 f10 f11 : Int} : (fsX7 a f5 f6 f9 f10 f11)[1]? = some (.ref (a + 2)) := rfl
theorem fsX7_g2 {a : Nat} {f5 f6 f9 f10 f11 : Int} : (fsX7 a f5 f6 f9 f10 f11)[2]? = some (.ref (a + 11)) := rfl
theorem fsX7_g3 {a : Nat} {f5 f6 f9 f10 f11 : Int} : (fsX7 a f5 f6 f9 f10 f11)[3]? = some (.ref (a + 12)) := rfl
theorem fsX7_g4 {a : Nat} {f5 f6 f9 f10 f11 : Int} : (fsX7 a f5 f6 f9 f10 f11)[4]? = some (.ref (a + 13)) := rfl
theorem fsX7_g5 {a : Nat} {f5 f6 f9 f10 f11 : Int} : (fsX7 a f5 f6 f9 f10 f11)[5]? = some (vI f5) := rfl
theorem fsX7_s5 {a : Nat} {f5 f6 f9 f10 f11 : Int} {z : Int} : (fsX7 a f5 f6 f9 f10 f11).set 5 (vI z) = fsX7 a z f6 f9 f10 f11 := rfl
theorem fsX7_k5 {a : Nat} {f5 f6 f9 f10 f11 : Int} : 5 < (fsX7 a f5 f6 f9 f10 f11).length := (Nat.le_of_ble_eq_true rfl : (5 : Nat) < 12)
theorem fsX7_g6 {a : Nat} {f5 f6 f9 f10 f11 : Int} : (fsX7 a f5 f6 f9 f10 f11)[6]? = some (vI f6) := rfl
theorem fsX7_s6 {a : Nat} {f5 f6 f9 f10 f11 : Int} {z : Int} : (fsX7 a f5 f6 f9 f10 f11).set 6 (vI z) = fsX7 a f5 z f9 f10 f11 := rfl
theorem fsX7_k6 {a : Nat} {f5 f6 f9 f10 f11 : Int} : 6 < (fsX7 a f5 f6 f9 f10 f11).length := (Nat.le_of_ble_eq_true rfl : (6 : Nat) < 12)
theorem fsX7_g7 {a : Nat} {f5 f6 f9 f10 f11 : Int} : (fsX7 a f5 f6 f9 f10 f11)[7]? = some (.ref (a + 14)) := rfl
theorem fsX7_g8 {a : Nat} {f5 f6 f9 f10 f11 : Int} : (fsX7 a f5 f6 f9 f10 f11)[8]? = some (.ref (a + 15)) := rfl
theorem fsX7_g9 {a : Nat} {f5 f6 f9 f10 f11 : Int} : (fsX7 a f5 f6 f9 f10 f11)[9]? = some (vI f9) := rfl
theorem fsX7_s9 {a : Nat} {f5 f6 f9 f10 f11 : Int} {z : Int} : (fsX7 a f5 f6 f9 f10 f11).set 9 (vI z) = fsX7 a f5 f6 z f10 f11 := rfl
theorem fsX7_k9 {a : Nat} {f5 f6 f9 f10 f11 : Int} : 9 < (fsX7 a f5 f6 f9 f10 f11).length := (Nat.le_of_ble_eq_true rfl : (9 : Nat) < 12)
theorem fsX7_g10 {a : Nat} {f5 f6 f9 f10 f11 : Int} : (fsX7 a f5 f6 f9 f10 f11)[10]? = some (vI f10) := rfl
theorem fsX7_s10 {a : Nat} {f5 f6 f9 f10 f11 : Int} {z : Int} : (fsX7 a f5 f6 f9 f10 f11).set 10 (vI z) = fsX7 a f5 f6 f9 z f11 := rfl
theorem fsX7_k10 {a : Nat} {f5 f6 f9 f10 f11 : Int} : 10 < (fsX7 a f5 f6 f9 f10 f11).length := (Nat.le_of_ble_eq_true rfl : (10 : Nat) < 12)
theorem fsX7_g11 {a : Nat} {f5 f6 f9 f10 f11 : Int} : (fsX7 a f5 f6 f9 f10 f11)[11]? = some (vI f11) := rfl
theorem fsX7_s11 {a : Nat} {f5 f6 f9 f10 f11 : Int} {z : Int} : (fsX7 a f5 f6 f9 f10 f11).set 11 (vI z) = fsX7 a f5 f6 f9 f10 z := rfl
theorem fsX7_k11 {a : Nat} {f5 f6 f9 f10 f11 : Int} : 11 < (fsX7 a f5 f6 f9 f10 f11).length := (Nat.le_of_ble_eq_true rfl : (11 : Nat) < 12)
def fsX8 (a : Nat) (f3 : Int) : List Value := [.ref (a + 1), .ref (a + 2), .ref (a + 3), vI f3]
theorem fsX8_g0 {a : Nat} {f3 : Int} : (fsX8 a f3)[0]? = some (.ref (a + 1)) := rfl
theorem fsX8_g1 {a : Nat} {f3 : Int} : (fsX8 a f3)[1]? = some (.ref (a + 2)) := rfl
theorem fsX8_g2 {a : Nat} {f3 : Int} : (fsX8 a f3)[2]? = some (.ref (a + 3)) := rfl
theorem fsX8_g3 {a : Nat} {f3 : Int} : (fsX8 a f3)[3]? = some (vI f3) := rfl
theorem fsX8_s3 {a : Nat} {f3 : Int} {z : Int} : (fsX8 a f3).set 3 (vI z) = fsX8 a z := rfl
theorem fsX8_k3 {a : Nat} {f3 : Int} : 3 < (fsX8 a f3).length := (Nat.le_of_ble_eq_true rfl : (3 : Nat) < 4)
def fsX9 (a : Nat) (f5 f6 f13 : Int) : List Value := [.ref (a + 1), .ref (a + 2), .ref (a + 3), .ref (a + 4), .ref (a + 8), vI f5, vI f6, .ref (a + 9), .ref (a + 10), .ref (a + 11), .ref (a + 15), .ref (a + 16), .ref (a + 17), vI f13]
theorem fsX9_g0 {a : Nat} {f5 f6 f13 : Int} : (fsX9 a f5 f6 f13)[0]? = some (.ref (a + 1)) := rfl
theorem fsX9_g1 {a : Nat} {f5 f6 f13 : Int} : (fsX9 a f5 f6 f13)[1]? = some (.ref (a + 2)) := rfl
theorem fsX9_g2 {a : Nat} {f5 f6 f13 : Int} : (fsX9 a f5 f6 f13)[2]? = some (.ref (a + 3)) := rfl
theorem fsX9_g3 {a : Nat} {f5 f6 f13 : Int} : (fsX9 a f5 f6 f13)[3]? = some (.ref (a + 4)) := rfl
theorem fsX9_g4 {a : Nat} {f5 f6 f13 : Int} : (fsX9 a f5 f6 f13)[4]? = some (.ref (a + 8)) := rfl
theorem fsX9_g5 {a : Nat} {f5 f6 f13 : Int} : (fsX9 a f5 f6 f13)[5]? = some (vI f5) := rfl
theorem fsX9_s5 {a : Nat} {f5 f6 f13 : Int} {z : Int} : (fsX9 a f5 f6 f13).set 5 (vI z) = fsX9 a z f6 f13 := rfl
theorem fsX9_k5 {a : Nat} {f5 f6 f13 : Int} : 5 < (fsX9 a f5 f6 f13).length := (Nat.le_of_ble_eq_true rfl : (5 : Nat) < 14)
theorem fsX9_g6 {a : Nat} {f5 f6 f13 : Int} : (fsX9 a f5 f6 f13)[6]? = some (vI f6) := rfl
theorem fsX9_s6 {a : Nat} {f5 f6 f13 : Int} {z : Int} : (fsX9 a f5 f6 f13).set 6 (vI z) = fsX9 a f5 z f13 := rfl
theorem fsX9_k6 {a : Nat} {f5 f6 f13 : Int} : 6 < (fsX9 a f5 f6 f13).length := (Nat.le_of_ble_eq_true rfl : (6 : Nat) < 14)
theorem fsX9_g7 {a : Nat} {f5 f6 f13 : Int} : (fsX9 a f5 f6 f13)[7]? = some (.ref (a + 9)) := rfl
theorem fsX9_g8 {a : Nat} {f5 f6 f13 : Int} : (fsX9 a f5 f6 f13)[8]? = some (.ref (a + 10)) := rfl
theorem fsX9_g9 {a : Nat} {f5 f6 f13 : Int} : (fsX9 a f5 f6 f13)[9]? = some (.ref (a + 11)) := rfl
theorem fsX9_g10 {a : Nat} {f5 f6 f13 : Int} : (fsX9 a f5 f6 f13)[10]? = some (.ref (a + 15)) := rfl
theorem fsX9_g11 {a : Nat} {f5 f6 f13 : Int} : (fsX9 a f5 f6 f13)[11]? = some (.ref (a + 16)) := rfl
theorem fsX9_g12 {a : Nat} {f5 f6 f13 : Int} : (fsX9 a f5 f6 f13)[12]? = some (.ref (a + 17)) := rfl
theorem fsX9_g13 {a : Nat} {f5 f6 f13 : Int} : (fsX9 a f5 f6 f13)[13]? = some (vI f13) := rfl
theorem fsX9_s13 {a : Nat} {f5 f6 f13 : Int} {z : Int} : (fsX9 a f5 f6 f13).set 13 (vI z) = fsX9 a f5 f6 z := rfl
theorem fsX9_k13 {a : Nat} {f5 f6 f13 : Int} : 13 < (fsX9 a f5 f6 f13).length := (Nat.le_of_ble_eq_true rfl : (13 : Nat) < 14)
def fsX11 (a : Nat) (f0 f1 f2 f3 f17 f18 f19 f20 f21 f22 f23 f30 f47 f48 f51 f54 f55 f58 f61 f62 f63 f68 f70 : Int) : List Value := [vI f0, vI f1, vI f2, vI f3, .ref (a + 1), .ref (a + 2), .ref (a + 3), .ref (a + 4), .ref (a + 5), .ref (a + 6), .ref (a + 7), .ref (a + 8), .ref (a + 9), .ref (a + 10), .ref (a + 11), .ref (a + 12), .ref (a + 13), vI f17, vI f18, vI f19, vI f20, vI f21, vI f22, vI f23, .ref (a + 14), .ref (a + 15), .ref (a + 16), .ref (a + 17), .ref (a + 18), .ref (a + 19), vI f30, .ref (a + 20), .ref (a + 21), .ref (a + 22), .ref (a + 23), .ref (a + 24), .ref (a + 25), .ref (a + 26), .ref (a + 27), .ref (a + 28), .ref (a + 29), .ref (a + 30), .ref (a + 31), .ref (a + 32), .ref (a + 33), .ref (a + 34), .ref (a + 35), vI f47, vI f48, .ref (a + 36), .ref (a + 37), vI f51, .ref (a + 38), .ref (a + 39), vI f54, vI f55, .ref (a + 40), .ref (a + 41), vI f58, .ref (a + 42), .ref (a + 43), vI f61, vI f62, vI f63, .ref (a + 44), .ref (a + 45), .ref (a + 46), .ref (a + 47), vI f68, .ref (a + 48), vI f70]
theorem fsX11_g0 {a : Nat} {f0 f1 f2 f3 f17 f18 f19 f20 f21 f22 f23 f30 f47 f48 f51 f54 f55 f58 f61 f62 f63 f68 f70 : Int} : (fsX11 a f0 f1 f2 f3 f17 f18 f19 f20 f21 f22 f23 f30 f47 f48 f51 f54 f55 f58 f61 f62 f63 f68 f70)[0]? = some (vI f0) := rfl
theorem fsX11_s0 {a : Nat} {f0 f1 f2 f3 f17 f18 f19 f20 f21 f22 f23 f30 f47 f48 f51 f54 f55 f58 f61 f62 f63 f68 f70 : Int} {z : Int} : (fsX11 a f0 f1 f2 f3 f17 f18 f19 f20 f21 f22 f23 f30 f47 f48 f51 f54 f55 f58 f61 f62 f63 f68 f70).set 0 (vI z) = fsX11 a z f1 f2 f3 f17 f18 f19 f20 f21 f22 f23 f30 f47 f48 f51 f54 f55 f58 f61 f62 f63 f68 f70 := rfl
theorem fsX11_k0 {a : Nat} {f0 f1 f2 f3 f17 f18 f19 f20 f21 f22 f23 f30 f47 f48 f51 f54 f55 f58 f61 f62 f63 f68 f70 : Int} : 0 < (fsX11 a f0 f1 f2 f3 f17 f18 f19 f20 f21 f22 f23 f30 f47 f48 f51 f54 f55 f58 f61 f62 f63 f68 f70).length := (Nat.le_of_ble_eq_true rfl : (0 : Nat) < 71)
theorem fsX11_g1 {a : Nat} {f0 f1 f2 f3 f17 f18 f19 f20 f21 f22 f23 f30 f47 f48 f51 f54 f55 f58 f61 f62 f63 f68 f70 : Int} : (fsX11 a f0 f1 f2 f3 f17 f18 f19 f20 f21 f22 f23 f30 f47 f48 f51 f54 f55 f58 f61 f62 f63 f68 f70)[1]? = some (vI f1) := rfl
theorem fsX11_s1 {a : Nat} {f0 f1 f2 f3 f17 f18 f19 f20 f21 f22 f23 f30 f47 f48 f51 f54 f55 f58 f61 f62 f63 f68 f70 : Int} {z : Int} : (fsX11 a f0 f1 f2 f3 f17 f18 f19 f20 f21 f22 f23 f30 f47 f48 f51 f54 f55 f58 f61 f62 f63 f68 f70).set 1 (vI z) = fsX11 a f0 z f2 f3 f17 f18 f19 f20 f21 f22 f23 f30 f47 f48 f51 f54 f55 f58 f61 f62 f63 f68 f70 := rfl
theorem fsX11_k1 {a : Nat} {f0 f1 f2 f3 f17 f18 f19 f20 f21 f22 f23 f30 f47 f48 f51 f54 f55 f58 f61 f62 f63 f68 f70 : Int} : 1 < (fsX11 a f0 f1 f2 f3 f17 f18 f19 f20 f21 f22 f23 f30 f47 f48 f51 f54 f55 f58 f61 f62 f63 f68 f70).length := (Nat.le_of_ble_eq_true rfl : (1 : Nat) < 71)
theorem fsX11_g2 {a : Nat} {f0 f1 f2 f3 f17 f18 f19 f20 f21 f22 f23 f30 f47 f48 f51 f54 f55 f58 f61 f62 f63 f68 f70 : Int} : (fsX11 a f0 f1 f2 f3 f17 f18 f19 f20 f21 f22 f23 f30 f47 f48 f51 f54 f55 f58 f61 f62 f63 f68 f70)[2]? = some (vI f2) := rfl
theorem fsX11_s2 {a : Nat} {f0 f1 f2 f3 f17 f18 f19 f20 f21 f22 f23 f30 f47 f48 f51 f54 f55 f58 f61 f62 f63 f68 f70 : Int} {z : Int} : (fsX11 a f0 f1 f2 f3 f17 f18 f19 f20 f21 f22 f23 f30 f47 f48 f51 f54 f55 f58 f61 f62 f63 f68 f70).set 2 (vI z) = fsX11 a f0 f1 z f3 f17 f18 f19 f20 f21 f22 f23 f30 f47 f48 f51 f54 f55 f58 f61 f62 f63 f68 f70 := rfl
theorem fsX11_k2 {a : Nat} {f0 f1 f2 f3 f17 f18 f19 f20 f21 f22 f23 f30 f47 f48 f51 f54 f55 f58 f61 f62 f63 f68 f70 : Int} : 2 < (fsX11 a f0 f1 f2 f3 f17 f18 f19 f20 f21 f22 f23 f30 f47 f48 f51 f54 f55 f58 f61 f62 f63 f68 f70).length := (Nat.le_of_ble_eq_true rfl : (2 : Nat) < 71)
theorem fsX11_g3 {a : Nat} {f0 f1 f2 f3 f17 f18 f19 f20 f21 f22 f23 f30 f47 f48 f51 f54 f55 f58 f61 f62 f63 f68 f70 : Int} : (fsX11 a f0 f1 f2 f3 f17 f18 f19 f20 f21 f22 f23 f30 f47 f48 f51 f54 f55 f58 f61 f62 f63 f68 f70)[3]? = some (vI f3) := rfl
theorem fsX11_s3 {a : Nat} {f0 f1 f2 f3 f17 f18 f19 f20 f21 f22 f23 f30 f47 f48 f51 f54 f55 f58 f61 f62 f63 f68 f70 : Int} {z : Int} : (fsX11 a f0 f1 f2 f3 f17 f18 f19 f20 f21 f22 f23 f30 f47 f48 f51 f54 f55 f58 f61 f62 f63 f68 f70).set 3 (vI z) = fsX11 a f0 f1 f2 z f17 f18 f19 f20 f21 f22 f23 f30 f47 f48 f51 f54 f55 f58 f61 f62 f63 f68 f70 := rfl
theorem fsX11_k3 {a : Nat} {f0 f1 f2 f3 f17 f18 f19 f20 f21 f22 f23 f30 f47 f48 f51 f54 f55 f58 f61 f62 f63 f68 f70 : Int} : 3 < (fsX11 a f0 f1 f2 f3 f17 f18 f19 f20 f21 f22 f23 f30 f47 f48 f51 f54 f55 f58 f61 f62 f63 f68 f70).length := (Nat.le_of_ble_eq_true rfl : (3 : Nat) < 71)
theorem fsX11_g4 {a : Nat} {f0 f1 f2 f3 f17 f18 f19 f20 f21 f22 f23 f30 f47 f48 f51 f54 f55 f58 f61 f62 f63 f68 f70 : Int} : (fsX11 a f0 f1 f2 f3 f17 f18 f19 f20 f21 f22 f23 f30 f47 f48 f51 f54 f55 f58 f61 f62 f63 f68 f70)[4]? = some (.ref (a + 1)) := rfl
theorem fsX11_g5 {a : Nat} {f0 f1 f2 f3 f17 f18 f19 f20 f21 f22 f23 f30 f47 f48 f51 f54 f55 f58 f61 f62 f63 f68 f70 : Int} : (fsX11 a f0 f1 f2 f3 f17 f18 f19 f20 f21 f22 f23 f30 f47 f48 f51 f54 f55 f58 f61 f62 f63 f68 f70)[5]? = some (.ref (a + 2)) := rfl
theorem fsX11_g6 {a : Nat} {f0 f1 f2 f3 f17 f18 f19 f20 f21 f22 f23 f30 f47 f48 f51 f54 f55 f58 f61 f62 f63 f68 f70 : Int} : (fsX11 a f0 f1 f2 f3 f17 f18 f19 f20 f21 f22 f23 f30 f47 f48 f51 f54 f55 f58 f61 f62 f63 f68 f70)[6]? = some (.ref (a + 3)) := rfl
theorem fsX11_g7 {a : Nat} {f0 f1 f2 f3 f17 f18 f19 f20 f21 f22 f23 f30 f47 f48 f51 f54 f55 f58 f61 f62 f63 f68 f70 : Int} : (fsX11 a f0 f1 f2 f3 f17 f18 f19 f20 f21 f22 f23 f30 f47 f48 f51 f54 f55 f58 f61 f62 f63 f68 f70)[7]? = some (.ref (a + 4)) := rfl
theorem fsX11_g8 {a : Nat} {f0 f1 f2 f3 f17 f18 f19 f20 f21 f22 f23 f30 f47 f48 f51 f54 f55 f58 f61 f62 f63 f68 f70 : Int} : (fsX11 a f0 f1 f2 f3 f17 f18 f19 f20 f21 f22 f23 f30 f47 f48 f51 f54 f55 f58 f61 f62 f63 f68 f70)[8]? = some (.ref (a + 5)) := rfl
theorem fsX11_g9 {a : Nat} {f0 f1 f2 f3 f17 f18 f19 f20 f21 f22 f23 f30 f47 f48 f51 f54 f55 f58 f61 f62 f63 f68 f70 : Int} : (fsX11 a f0 f1 f2 f3 f17 f18 f19 f20 f21 f22 f23 f30 f47 f48 f51 f54 f55 f58 f61 f62 f63 f68 f70)[9]? = some (.ref (a + 6)) := rfl
theorem fsX11_g10 {a : Nat} {f0 f1 f2 f3 f17 f18 f19 f20 f21 f22 f23 f30 f47 f48 f51 f54 f55 f58 f61 f62 f63 f68 f70 : Int} : (fsX11 a f0 f1 f2 f3 f17 f18 f19 f20 f21 f22 f23 f30 f47 f48 f51 f54 f55 f58 f61 f62 f63 f68 f70)[10]? = some (.ref (a + 7)) := rfl
theorem fsX11_g11 {a : Nat} {f0 f1 f2 f3 f17 f18 f19 f20 f21 f22 f23 f30 f47 f48 f51 f54 f55 f58 f61 f62 f63 f68 f70 : Int} : (fsX11 a f0 f1 f2 f3 f17 f18 f19 f20 f21 f22 f23 f30 f47 f48 f51 f54 f55 f58 f61 f62 f63 f68 f70)[11]? = some (.ref (a + 8)) := rfl
theorem fsX11_g12 {a : Nat} {f0 f1 f2 f3 f17 f18 f19 f20 f21 f22 f23 f30 f47 f48 f51 f54 f55 f58 f61 f62 f63 f68 f70 : Int} : (fsX11 a f0 f1 f2 f3 f17 f18 f19 f20 f21 f22 f23 f30 f47 f48 f51 f54 f55 f58 f61 f62 f63 f68 f70)[12]? = some (.ref (a + 9)) := rfl
theorem fsX11_g13 {a : Nat} {f0 f1 f2 f3 f17 f18 f19 f20 f21 f22 f23 f30 f47 f48 f51 f54 f55 f58 f61 f62 f63 f68 f70 : Int} : (fsX11 a f0 f1 f2 f3 f17 f18 f19 f20 f21 f22 f23 f30 f47 f48 f51 f54 f55 f58 f61 f62 f63 f68 f70)[13]? = some (.ref (a + 10)) := rfl
theorem fsX11_g14 {a : Nat} {f0 f1 f2 f3 f17 f18 f19 f20 f21 f22 f23 f30 f47 f48 f51 f54 f55 f58 f61 f62 f63 f68 f70 : Int} : (fsX11 a f0 f1 f2 f3 f17 f18 f19 f20 f21 f22 f23 f30 f47 f48 f51 f54 f55 f58 f61 f62 f63 f68 f70)[14]? = some (.ref (a + 11)) := rfl
theorem fsX11_g15 {a : Nat} {f0 f1 f2 f3 f17 f18 f19 f20 f21 f22 f23 f30 f47 f48 f51 f54 f55 f58 f61 f62 f63 f68 f70 : Int} : (fsX11 a f0 f1 f2 f3 f17 f18 f19 f20 f21 f22 f23 f30 f47 f48 f51 f54 f55 f58 f61 f62 f63 f68 f70)[15]? = some (.ref (a + 12)) := rfl
theorem fsX11_g16 {a : Nat} {f0 f1 f2 f3 f17 f18 f19 f20 f21 f22 f23 f30 f47 f48 f51 f54 f55 f58 f61 f62 f63 f68 f70 : Int} : (fsX11 a f0 f1 f2 f3 f17 f18 f19 f20 f21 f22 f23 f30 f47 f48 f51 f54 f55 f58 f61 f62 f63 f68 f70)[16]? = some (.ref (a + 13)) := rfl
theorem fsX11_g17 {a : Nat} {f0 f1 f2 f3 f17 f18 f19 f20 f21 f22 f23 f30 f47 f48 f51 f54 f55 f58 f61 f62 f63 f68 f70 : Int} : (fsX11 a f0 f1 f2 f3 f17 f18 f19 f20 f21 f22 f23 f30 f47 f48 f51 f54 f55 f58 f61 f62 f63 f68 f70)[17]? = some (vI f17) := rfl
theorem fsX11_s17 {a : Nat} {f0 f1 f2 f3 f17 f18 f19 f20 f21 f22 f23 f30 f47 f48 f51 f54 f55 f58 f61 f62 f63 f68 f70 : Int} {z : Int} : (fsX11 a f0 f1 f2 f3 f17 f18 f19 f20 f21 f22 f23 f30 f47 f48 f51 f54 f55 f58 f61 f62 f63 f68 f70).set 17 (vI z) = fsX11 a f0 f1 f2 f3 z f18 f19 f20 f21 f22 f23 f30 f47 f48 f51 f54 f55 f58 f61 f62 f63 f68 f70 := rfl
theorem fsX11_k17 {a : Nat} {f0 f1 f2 f3 f17 f18 f19 f20 f21 f22 f23 f30 f47 f48 f51 f54 f55 f58 f61 f62 f63 f68 f70 : Int} : 17 < (fsX11 a f0 f1 f2 f3 f17 f18 f19 f20 f21 f22 f23 f30 f47 f48 f51 f54 f55 f58 f61 f62 f63 f68 f70).length := (Nat.le_of_ble_eq_true rfl : (17 : Nat) < 71)
theorem fsX11_g18 {a : Nat} {f0 f1 f2 f3 f17 f18 f19 f20 f21 f22 f23 f30 f47 f48 f51 f54 f55 f58 f61 f62 f63 f68 f70 : Int} : (fsX11 a f0 f1 f2 f3 f17 f18 f19 f20 f21 f22 f23 f30 f47 f48 f51 f54 f55 f58 f61 f62 f63 f68 f70)[18]? = some (vI f18) := rfl
theorem fsX11_s18 {a : Nat} {f0 f1 f2 f3 f17 f18 f19 f20 f21 f22 f23 f30 f47 f48 f51 f54 f55 f58 f61 f62 f63 f68 f70 : Int} {z : Int} : (fsX11 a f0 f1 f2 f3 f17 f18 f19 f20 f21 f22 f23 f30 f47 f48 f51 f54 f55 f58 f61 f62 f63 f68 f70).set 18 (vI z) = fsX11 a f0 f1 f2 f3 f17 z f19 f20 f21 f22 f23 f30 f47 f48 f51 f54 f55 f58 f61 f62 f63 f68 f70 := rfl
theorem fsX11_k18 {a : Nat} {f0 f1 f2 f3 f17 f18 f19 f20 f21 f22 f23 f30 f47 f48 f51 f54 f55 f58 f61 f62 f63 f68 f70 : Int} : 18 < (fsX11 a f0 f1 f2 f3 f17 f18 f19 f20 f21 f22 f23 f30 f47 f48 f51 f54 f55 f58 f61 f62 f63 f68 f70).length := (Nat.le_of_ble_eq_true rfl : (18 : Nat) < 71)
theorem fsX11_g19 {a : Nat} {f0 f1 f2 f3 f17 f18 f19 f20 f21 f22 f23 f30 f47 f48 f51 f54 f55 f58 f61 f62 f63 f68 f70 : Int} : (fsX11 a f0 f1 f2 f3 f17 f18 f19 f20 f21 f22 f23 f30 f47 f48 f51 f54 f55 f58 f61 f62 f63 f68 f70)[19]? = some (vI f19) := rfl
theorem fsX11_s19 {a : Nat} {f0 f1 f2 f3 f17 f18 f19 f20 f21 f22 f23 f30 f47 f48 f51 f54 f55 f58 f61 f62 f63 f68 f70 : Int} {z : Int} : (fsX11 a f0 f1 f2 f3 f17 f18 f19 f20 f21 f22 f23 f30 f47 f48 f51 f54 f55 f58 f61 f62 f63 f68 f70).set 19 (vI z) = fsX11 a f0 f1 f2 f3 f17 f18 z f20 f21 f22 f23 f30 f47 f48 f51 f54 f55 f58 f61 f62 f63 f68 f70 := rfl
theorem fsX11_k19 {a : Nat} {f0 f1 f2 f3 f17 f18 f19 f20 f21 f22 f23 f30 f47 f48 f51 f54 f55 f58 f61 f62 f63 f68 f70 : Int} : 19 < (fsX11 a f0 f1 f2 f3 f17 f18 f19 f20 f21 f22 f23 f30 f47 f48 f51 f54 f55 f58 f61 f62 f63 f68 f70).length := (Nat.le_of_ble_eq_true rfl : (19 : Nat) < 71)
theorem fsX11_g20 {a : Nat} {f0 f1 f2 f3 f17 f18 f19 f20 f21 f22 f23 f30 f47 f48 f51 f54 f55 f58 f61 f62 f63 f68 f70 : Int} : (fsX11 a f0 f1 f2 f3 f17 f18 f19 f20 f21 f22 f23 f30 f47 f48 f51 f54 f55 f58 f61 f62 f63 f68 f70)[20]? = some (vI f20) := rfl
theorem fsX11_s20 {a : Nat} {f0 f1 f2 f3 f17 f18 f19 f20 f21 f22 f23 f30 f47 f48 f51 f54 f55 f58 f61 f62 f63 f68 f70 : Int} {z : Int} : (fsX11 a f0 f1 f2 f3 f17 f18 f19 f20 f21 f22 f23 f30 f47 f48 f51 f54 f55 f58 f61 f62 f63 f68 f70).set 20 (vI z) = fsX11 a f0 f1 f2 f3 f17 f18 f19 z f21 f22 f23 f30 f47 f48 f51 f54 f55 f58 f61 f62 f63 f68 f70 := rfl
theorem fsX11_k20 {a : Nat} {f0 f1 f2 f3 f17 f18 f19 f20 f21 f22 f23 f30 f47 f48 f51 f54 f55 f58 f61 f62 f63 f68 f70 : Int} : 20 < (fsX11 a f0 f1 f2 f3 f17 f18 f19 f20 f21 f22 f23 f30 f47 f48 f51 f54 f55 f58 f61 f62 f63 f68 f70).length := (Nat.le_of_ble_eq_true rfl : (20 : Nat) < 71)
theorem fsX11_g21 {a : Nat} {f0 f1 f2 f3 f17 f18 f19 f20 f21 f22 f23 f30 f47 f48 f51 f54 f55 f58 f61 f62 f63 f68 f70 : Int} : (fsX11 a f0 f1 f2 f3 f17 f18 f19 f20 f21 f22 f23 f30 f47 f48 f51 f54 f55 f58 f61 f62 f63 f68 f70)[21]? = some (vI f21) := rfl
theorem fsX11_s21 {a : Nat} {f0 f1 f2 f3 f17 f18 f19 f20 f21 f22 f23 f30 f47 f48 f51 f54 f55 f58 f61 f62 f63 f68 f70 : Int} {z : Int} : (fsX11 a f0 f1 f2 f3 f17 f18 f19 f20 f21 f22 f23 f30 f47 f48 f51 f54 f55 f58 f61 f62 f63 f68 f70).set 21 (vI z) = fsX11 a f0 f1 f2 f3 f17 f18 f19 f20 z f22 f23 f30 f47 f48 f51 f54 f55 f58 f61 f62 f63 f68 f70 := rfl
theorem fsX11_k21 {a : Nat} {f0 f1 f2 f3 f17 f18 f19 f20 f21 f22 f23 f30 f47 f48 f51 f54 f55 f58 f61 f62 f63 f68 f70 : Int} : 21 < (fsX11 a f0 f1 f2 f3 f17 f18 f19 f20 f21 f22 f23 f30 f47 f48 f51 f54 f55 f58 f61 f62 f63 f68 f70).length := (Nat.le_of_ble_eq_true rfl : (21 : Nat) < 71)
theorem fsX11_g22 {a : Nat} {f0 f1 f2 f3 f17 f18 f19 f20 f21 f22 f23 f30 f47 f48 f51 f54 f55 f58 f61 f62 f63 f68 f70 : Int} : (fsX11 a f0 f1 f2 f3 f17 f18 f19 f20 f21 f22 f23 f30 f47 f48 f51 f54 f55 f58 f61 f62 f63 f68 f70)[22]? = some (vI f22) := rfl
theorem fsX11_s22 {a : Nat} {f0 f1 f2 f3 f17 f18 f19 f20 f21 f22 f23 f30 f47 f48 f51 f54 f55 f58 f61 f62 f63 f68 f70 : Int} {z : Int} : (fsX11 a f0 f1 f2 f3 f17 f18 f19 f20 f21 f22 f23 f30 f47 f48 f51 f54 f55 f58 f61 f62 f63 f68 f70).set 22 (vI z) = fsX11 a f0 f1 f2 f3 f17 f18 f19 f20 f21 z f23 f30 f47 f48 f51 f54 f55 f58 f61 f62 f63 f68 f70 := rfl
theorem fsX11_k22 {a : Nat} {f0 f1 f2 f3 f17 f18 f19 f20 f21 f22 f23 f30 f47 f48 f51 f54 f55 f58 f61 f62 f63 f68 f70 : Int} : 22 < (fsX11 a f0 f1 f2 f3 f17 f18 f19 f20 f21 f22 f23 f30 f47 f48 f51 f54 f55 f58 f61 f62 f63 f68 f70).length := (Nat.le_of_ble_eq_true rfl : (22 : Nat) < 71)
theorem fsX11_g23 {a : Nat} {f0 f1 f2 f3 f17 f18 f19 f20 f21 f22 f23 f30 f47 f48 f51 f54 f55 f58 f61 f62 f63 f68 f70 : Int} : (fsX11 a f0 f1 f2 f3 f17 f18 f19 f20 f21 f22 f23 f30 f47 f48 f51 f54 f55 f58 f61 f62 f63 f68 f70)[23]? = some (vI f23) := rfl
theorem fsX11_s23 {a : Nat} {f0 f1 f2 f3 f17 f18 f19 f20 f21 f22 f23 f30 f47 f48 f51 f54 f55 f58 f61 f62 f63 f68 f70 : Int} {z : Int} : (fsX11 a f0 f1 f2 f3 f17 f18 f19 f20 f21 f22 f23 f30 f47 f48 f51 f54 f55 f58 f61 f62 f63 f68 f70).set 23 (vI z) = fsX11 a f0 f1 f2 f3 f17 f18 f19 f20 f21 f22 z f30 f47 f48 f51 f54 f55 f58 f61 f62 f63 f68 f70 := rfl
theorem fsX11_k23 {a : Nat} {f0 f1 f2 f3 f17 f18 f19 f20 f21 f22 f23 f30 f47 f48 f51 f54 f55 f58 f61 f62 f63 f68 f70 : Int} : 23 < (fsX11 a f0 f1 f2 f3 f17 f18 f19 f20 f21 f22 f23 f30 f47 f48 f51 f54 f55 f58 f61 f62 f63 f68 f70).length := (Nat.le_of_ble_eq_true rfl : (23 : Nat) < 71)
theorem fsX11_g24 {a : Nat} {f0 f1 f2 f3 f17 f18 f19 f20 f21 f22 f23 f30 f47 f48 f51 f54 f55 f58 f61 f62 f63 f68 f70 : Int} : (fsX11 a f0 f1 f2 f3 f17 f18 f19 f20 f21 f22 f23 f30 f47 f48 f51 f54 f55 f58 f61 f62 f63 f68 f70)[24]? = some (.ref (a + 14)) := rfl
theorem fsX11_g25 {a : Nat} {f0 f1 f2 f3 f17 f18 f19 f20 f21 f22 f23 f30 f47 f48 f51 f54 f55 f58 f61 f62 f63 f68 f70 : Int} : (fsX11 a f0 f1 f2 f3 f17 f18 f19 f20 f21 f22 f23 f30 f47 f48 f51 f54 f55 f58 f61 f62 f63 f68 f70)[25]? = some (.ref (a + 15)) := rfl
theorem fsX11_g26 {a : Nat} {f0 f1 f2 f3 f17 f18 f19 f20 f21 f22 f23 f30 f47 f48 f51 f54 f55 f58 f61 f62 f63 f68 f70 : Int} : (fsX11 a f0 f1 f2 f3 f17 f18 f19 f20 f21 f22 f23 f30 f47 f48 f51 f54 f55 f58 f61 f62 f63 f68 f70)[26]? = some (.ref (a + 16)) := rfl
theorem fsX11_g27 {a : Nat} {f0 f1 f2 f3 f17 f18 f19 f20 f21 f22 f23 f30 f47 f48 f51 f54 f55 f58 f61 f62 f63 f68 f70 : Int} : (fsX11 a f0 f1 f2 f3 f17 f18 f19 f20 f21 f22 f23 f30 f47 f48 f51 f54 f55 f58 f61 f62 f63 f68 f70)[27]? = some (.ref (a + 17)) := rfl
theorem fsX11_g28 {a : Nat} {f0 f1 f2 f3 f17 f18 f19 f20 f21 f22 f23 f30 f47 f48 f51 f54 f55 f58 f61 f62 f63 f68 f70 : Int} : (fsX11 a f0 f1 f2 f3 f17 f18 f19 f20 f21 f22 f23 f30 f47 f48 f51 f54 f55 f58 f61 f62 f63 f68 f70)[28]? = some (.ref (a + 18)) := rfl
theorem fsX11_g29 {a : Nat} {f0 f1 f2 f3 f17 f18 f19 f20 f21 f22 f23 f30 f47 f48 f51 f54 f55 f58 f61 f62 f63 f68 f70 : Int} : (fsX11 a f0 f1 f2 f3 f17 f18 f19 f20 f21 f22 f23 f30 f47 f48 f51 f54 f55 f58 f61 f62 f63 f68 f70)[29]? = some (.ref (a + 19)) := rfl
theorem fsX11_g30 {a : Nat} {f0 f1 f2 f3 f17 f18 f19 f20 f21 f22 f23 f30 f47 f48 f51 f54 f55 f58 f61 f62 f63 f68 f70 : Int} : (fsX11 a f0 f1 f2 f3 f17 f18 f19 f20 f21 f22 f23 f30 f47 f48 f51 f54 f55 f58 f61 f62 f63 f68 f70)[30]? = some (vI f30) := rfl
theorem fsX11_s30 {a : Nat} {f0 f1 f2 f3 f17 f18 f19 f20 f21 f22 f23 f30 f47 f48 f51 f54 f55 f58 f61 f62 f63 f68 f70 : Int} {z : Int} : (fsX11 a f0 f1 f2 f3 f17 f18 f19 f20 f21 f22 f23 f30 f47 f48 f51 f54 f55 f58 f61 f62 f63 f68 f70).set 30 (vI z) = fsX11 a f0 f1 f2 f3 f17 f18 f19 f20 f21 f22 f23 z f47 f48 f51 f54 f55 f58 f61 f62 f63 f68 f70 := rfl
theorem fsX11_k30 {a : Nat} {f0 f1 f2 f3 f17 f18 f19 f20 f21 f22 f23 f30 f47 f48 f51 f54 f55 f58 f61 f62 f63 f68 f70 : Int} : 30 < (fsX11 a f0 f1 f2 f3 f17 f18 f19 f20 f21 f22 f23 f30 f47 f48 f51 f54 f55 f58 f61 f62 f63 f68 f70).length := (Nat.le_of_ble_eq_true rfl : (30 : Nat) < 71)
theorem fsX11_g31 {a : Nat} {f0 f1 f2 f3 f17 f18 f19 f20 f21 f22 f23 f30 f47 f48 f51 f54 f55 f58 f61 f62 f63 f68 f70 : Int} : (fsX11 a f0 f1 f2 f3 f17 f18 f19 f20 f21 f22 f23 f30 f47 f48 f51 f54 f55 f58 f61 f62 f63 f68 f70)[31]? = some (.ref (a + 20)) := rfl
theorem fsX11_g32 {a : Nat} {f0 f1 f2 f3 f17 f18 f19 f20 f21 f22 f23 f30 f47 f48 f51 f54 f55 f58 f61 f62 f63 f68 f70 : Int} : (fsX11 a f0 f1 f2 f3 f17 f18 f19 f20 f21 f22 f23 f30 f47 f48 f51 f54 f55 f58 f61 f62 f63 f68 f70)[32]? = some (.ref (a + 21)) := rfl
theorem fsX11_g33 {a : Nat} {f0 f1 f2 f3 f17 f18 f19 f20 f21 f22 f23 f30 f47 f48 f51 f54 f55 f58 f61 f62 f63 f68 f70 : Int} : (fsX11 a f0 f1 f2 f3 f17 f18 f19 f20 f21 f22 f23 f30 f47 f48 f51 f54 f55 f58 f61 f62 f63 f68 f70)[33]? = some (.ref (a + 22)) := rfl
theorem fsX11_g34 {a : Nat} {f0 f1 f2 f3 f17 f18 f19 f20 f21 f22 f23 f30 f47 f48 f51 f54 f55 f58 f61 f62 f63 f68 f70 : Int} : (fsX11 a f0 f1 f2 f3 f17 f18 f19 f20 f21 f22 f23 f30 f47 f48 f51 f54 f55 f58 f61 f62 f63 f68 f70)[34]? = some (.ref (a + 23)) := rfl
theorem fsX11_g35 {a : Nat} {f0 f1 f2 f3 f17 f18 f19 f20 f21 f22 f23 f30 f47 f48 f51 f54 f55 f58 f61 f62 f63 f68 f70 : Int} : (fsX11 a f0 f1 f2 f3 f17 f18 f19 f20 f21 f22 f23 f30 f47 f48 f51 f54 f55 f58 f61 f62 f63 f68 f70)[35]? = some (.ref (a + 24)) := rfl
theorem fsX11_g36 {a : Nat} {f0 f1 f2 f3 f17 f18 f19 f20 f21 f22 f23 f30 f47 f48 f51 f54 f55 f58 f61 f62 f63 f68 f70 : Int} : (fsX11 a f0 f1 f2 f3 f17 f18 f19 f20 f21 f22 f23 f30 f47 f48 f51 f54 f55 f58 f61 f62 f63 f68 f70)[36]? = some (.ref (a + 25)) := rfl
theorem fsX11_g37 {a : Nat} {f0 f1 f2 f3 f17 f18 f19 f20 f21 f22 f23 f30 f47 f48 f51 f54 f55 f58 f61 f62 f63 f68 f70 : Int} : (fsX11 a f0 f1 f2 f3 f17 f18 f19 f20 f21 f22 f23 f30 f47 f48 f51 f54 f55 f58 f61 f62 f63 f68 f70)[37]? = some (.ref (a + 26)) := rfl
theorem fsX11_g38 {a : Nat} {f0 f1 f2 f3 f17 f18 f19 f20 f21 f22 f23 f30 f47 f48 f51 f54 f55 f58 f61 f62 f63 f68 f70 : Int} : (fsX11 a f0 f1 f2 f3 f17 f18 f19 f20 f21 f22 f23 f30 f47 f48 f51 f54 f55 f58 f61 f62 f63 f68 f70)[38]? = some (.ref (a + 27)) := rfl
theorem fsX11_g39 {a : Nat} {f0 f1 f2 f3 f17 f18 f19 f20 f21 f22 f23 f30 f47 f48 f51 f54 f55 f58 f61 f62 f63 f68 f70 : Int} : (fsX11 a f0 f1 f2 f3 f17 f18 f19 f20 f21 f22 f23 f30 f47 f48 f51 f54 f55 f58 f61 f62 f63 f68 f70)[39]? = some (.ref (a + 28)) := rfl
theorem fsX11_g40 {a : Nat} {f0 f1 f2 f3 f17 f18 f19 f20 f21 f22 f23 f30 f47 f48 f51 f54 f55 f58 f61 f62 f63 f68 f70 : Int} : (fsX11 a f0 f1 f2 f3 f17 f18 f19 f20 f21 f22 f23 f30 f47 f48 f51 f54 f55 f58 f61 f62 f63 f68 f70)[40]? = some (.ref (a + 29)) := rfl
theorem fsX11_g41 {a : Nat} {f0 f1 f2 f3 f17 f18 f19 f20 f21 f22 f23 f30 f47 f48 f51 f54 f55 f58 f61 f62 f63 f68 f70 : Int} : (fsX11 a f0 f1 f2 f3 f17 f18 f19 f20 f21 f22 f23 f30 f47 f48 f51 f54 f55 f58 f61 f62 f63 f68 f70)[41]? = some (.ref (a + 30)) := rfl
theorem fsX11_g42 {a : Nat} {f0 f1 f2 f3 f17 f18 f19 f20 f21 f22 f23 f30 f47 f48 f51 f54 f55 f58 f61 f62 f63 f68 f70 : Int} : (fsX11 a f0 f1 f2 f3 f17 f18 f19 f20 f21 f22 f23 f30 f47 f48 f51 f54 f55 f58 f61 f62 f63 f68 f70)[42]? = some (.ref (a + 31)) := rfl
theorem fsX11_g43 {a : Nat} {f0 f1 f2 f3 f17 f18 f19 f20 f21 f22 f23 f30 f47 f48 f51 f54 f55 f58 f61 f62 f63 f68 f70 : Int} : (fsX11 a f0 f1 f2 f3 f17 f18 f19 f20 f21 f22 f23 f30 f47 f48 f51 f54 f55 f58 f61 f62 f63 f68 f70)[43]? = some (.ref (a + 32)) := rfl
theorem fsX11_g44 {a : Nat} {f0 f1 f2 f3 f17 f18 f19 f20 f21 f22 f23 f30 f47 f48 f51 f54 f55 f58 f61 f62 f63 f68 f70 : Int} : (fsX11 a f0 f1 f2 f3 f17 f18 f19 f20 f21 f22 f23 f30 f47 f48 f51 f54 f55 f58 f61 f62 f63 f68 f70)[44]? = some (.ref (a + 33)) := rfl
theorem fsX11_g45 {a : Nat} {f0 f1 f2 f3 f17 f18 f19 f20 f21 f22 f23 f30 f47 f48 f51 f54 f55 f58 f61 f62 f63 f68 f70 : Int} : (fsX11 a f0 f1 f2 f3 f17 f18 f19 f20 f21 f22 f23 f30 f47 f48 f51 f54 f55 f58 f61 f62 f63 f68 f70)[45]? = some (.ref (a + 34)) := rfl
theorem fsX11_g46 {a : Nat} {f0 f1 f2 f3 f17 f18 f19 f20 f21 f22 f23 f30 f47 f48 f51 f54 f55 f58 f61 f62 f63 f68 f70 : Int} : (fsX11 a f0 f1 f2 f3 f17 f18 f19 f20 f21 f22 f23 f30 f47 f48 f51 f54 f55 f58 f61 f62 f63 f68 f70)[46]? = some (.ref (a + 35)) := rfl
theorem fsX11_g47 {a : Nat} {f0 f1 f2 f3 f17 f18 f19 f20 f21 f22 f23 f30 f47 f48 f51 f54 f55 f58 f61 f62 f63 f68 f70 : Int} : (fsX11 a f0 f1 f2 f3 f17 f18 f19 f20 f21 f22 f23 f30 f47 f48 f51 f54 f55 f58 f61 f62 f63 f68 f70)[47]? = some (vI f47) := rfl
theorem fsX11_s47 {a : Nat} {f0 f1 f2 f3 f17 f18 f19 f20 f21 f22 f23 f30 f47 f48 f51 f54 f55 f58 f61 f62 f63 f68 f70 : Int} {z : Int} : (fsX11 a f0 f1 f2 f3 f17 f18 f19 f20 f21 f22 f23 f30 f47 f48 f51 f54 f55 f58 f61 f62 f63 f68 f70).set 47 (vI z) = fsX11 a f0 f1 f2 f3 f17 f18 f19 f20 f21 f22 f23 f30 z f48 f51 f54 f55 f58 f61 f62 f63 f68 f70 := rfl
theorem fsX11_k47 {a : Nat} {f0 f1 f2 f3 f17 f18 f19 f20 f21 f22 f23 f30 f47 f48 f51 f54 f55 f58 f61 f62 f63 f68 f70 : Int} : 47 < (fsX11 a f0 f1 f2 f3 f17 f18 f19 f20 f21 f22 f23 f30 f47 f48 f51 f54 f55 f58 f61 f62 f63 f68 f70).length := (Nat.le_of_ble_eq_true rfl : (47 : Nat) < 71)
theorem fsX11_g48 {a : Nat} {f0 f1 f2 f3 f17 f18 f19 f20 f21 f22 f23 f30 f47 f48 f51 f54 f55 f58 f61 f62 f63 f68 f70 : Int} : (fsX11 a f0 f1 f2 f3 f17 f18 f19 f20 f21 f22 f23 f30 f47 f48 f51 f54 f55 f58 f61 f62 f63 f68 f70)[48]? = some (vI f48) := rfl
theorem fsX11_s48 {a : Nat} {f0 f1 f2 f3 f17 f18 f19 f20 f21 f22 f23 f30 f47 f48 f51 f54 f55 f58 f61 f62 f63 f68 f70 : Int} {z : Int} : (fsX11 a f0 f1 f2 f3 f17 f18 f19 f20 f21 f22 f23 f30 f47 f48 f51 f54 f55 f58 f61 f62 f63 f68 f70).set 48 (vI z) = fsX11 a f0 f1 f2 f3 f17 f18 f19 f20 f21 f22 f23 f30 f47 z f51 f54 f55 f58 f61 f62 f63 f68 f70 := rfl
theorem fsX11_k48 {a : Nat} {f0 f1 f2 f3 f17 f18 f19 f20 f21 f22 f23 f30 f47 f48 f51 f54 f55 f58 f61 f62 f63 f68 f70 : Int} : 48 < (fsX11 a f0 f1 f2 f3 f17 f18 f19 f20 f21 f22 f23 f30 f47 f48 f51 f54 f55 f58 f61 f62 f63 f68 f70).length := (Nat.le_of_ble_eq_true rfl : (48 : Nat) < 71)
theorem fsX11_g49 {a : Nat} {f0 f1 f2 f3 f17 f18 f19 f20 f21 f22 f23 f30 f47 f48 f51 f54 f55 f58 f61 f62 f63 f68 f70 : Int} : (fsX11 a f0 f1 f2 f3 f17 f18 f19 f20 f21 f22 f23 f30 f47 f48 f51 f54 f55 f58 f61 f62 f63 f68 f70)[49]? = some (.ref (a + 36)) := rfl
theorem fsX11_g50 {a : Nat} {f0 f1 f2 f3 f17 f18 f19 f20 f21 f22 f23 f30 f47 f48 f51 f54 f55 f58 f61 f62 f63 f68 f70 : Int} : (fsX11 a f0 f1 f2 f3 f17 f18 f19 f20 f21 f22 f23 f30 f47 f48 f51 f54 f55 f58 f61 f62 f63 f68 f70)[50]? = some (.ref (a + 37)) := rfl
theorem fsX11_g51 {a : Nat} {f0 f1 f2 f3 f17 f18 f19 f20 f21 f22 f23 f30 f47 f48 f51 f54 f55 f58 f61 f62 f63 f68 f70 : Int} : (fsX11 a f0 f1 f2 f3 f17 f18 f19 f20 f21 f22 f23 f30 f47 f48 f51 f54 f55 f58 f61 f62 f63 f68 f70)[51]? = some (vI f51) := rfl
theorem fsX11_s51 {a : Nat} {f0 f1 f2 f3 f17 f18 f19 f20 f21 f22 f23 f30 f47 f48 f51 f54 f55 f58 f61 f62 f63 f68 f70 : Int} {z : Int} : (fsX11 a f0 f1 f2 f3 f17 f18 f19 f20 f21 f22 f23 f30 f47 f48 f51 f54 f55 f58 f61 f62 f63 f68 f70).set 51 (vI z) = fsX11 a f0 f1 f2 f3 f17 f18 f19 f20 f21 f22 f23 f30 f47 f48 z f54 f55 f58 f61 f62 f63 f68 f70 := rfl
theorem fsX11_k51 {a : Nat} {f0 f1 f2 f3 f17 f18 f19 f20 f21 f22 f23 f30 f47 f48 f51 f54 f55 f58 f61 f62 f63 f68 f70 : Int} : 51 < (fsX11 a f0 f1 f2 f3 f17 f18 f19 f20 f21 f22 f23 f30 f47 f48 f51 f54 f55 f58 f61 f62 f63 f68 f70).length := (Nat.le_of_ble_eq_true rfl : (51 : Nat) < 71)
theorem fsX11_g52 {a : Nat} {f0 f1 f2 f3 f17 f18 f19 f20 f21 f22 f23 f30 f47 f48 f51 f54 f55 f58 f61 f62 f63 f68 f70 : Int} : (fsX11 a f0 f1 f2 f3 f17 f18 f19 f20 f21 f22 f23 f30 f47 f48 f51 f54 f55 f58 f61 f62 f63 f68 f70)[52]? = some (.ref (a + 38)) := rfl
theorem fsX11_g53 {a : Nat} {f0 f1 f2 f3 f17 f18 f19 f20 f21 f22 f23 f30 f47 f48 f51 f54 f55 f58 f61 f62 f63 f68 f70 : Int} : (fsX11 a f0 f1 f2 f3 f17 f18 f19 f20 f21 f22 f23 f30 f47 f48 f51 f54 f55 f58 f61 f62 f63 f68 f70)[53]? = some (.ref (a + 39)) := rfl
theorem fsX11_g54 {a : Nat} {f0 f1 f2 f3 f17 f18 f19 f20 f21 f22 f23 f30 f47 f48 f51 f54 f55 f58 f61 f62 f63 f68 f70 : Int} : (fsX11 a f0 f1 f2 f3 f17 f18 f19 f20 f21 f22 f23 f30 f47 f48 f51 f54 f55 f58 f61 f62 f63 f68 f70)[54]? = some (vI f54) := rfl
theorem fsX11_s54 {a : Nat} {f0 f1 f2 f3 f17 f18 f19 f20 f21 f22 f23 f30 f47 f48 f51 f54 f55 f58 f61 f62 f63 f68 f70 : Int} {z : Int} : (fsX11 a f0 f1 f2 f3 f17 f18 f19 f20 f21 f22 f23 f30 f47 f48 f51 f54 f55 f58 f61 f62 f63 f68 f70).set 54 (vI z) = fsX11 a f0 f1 f2 f3 f17 f18 f19 f20 f21 f22 f23 f30 f47 f48 f51 z f55 f58 f61 f62 f63 f68 f70 := rfl
theorem fsX11_k54 {a : Nat} {f0 f1 f2 f3 f17 f18 f19 f20 f21 f22 f23 f30 f47 f48 f51 f54 f55 f58 f61 f62 f63 f68 f70 : Int} : 54 < (fsX11 a f0 f1 f2 f3 f17 f18 f19 f20 f21 f22 f23 f30 f47 f48 f51 f54 f55 f58 f61 f62 f63 f68 f70).length := (Nat.le_of_ble_eq_true rfl : (54 : Nat) < 71)
theorem fsX11_g55 {a : Nat} {f0 f1 f2 f3 f17 f18 f19 f20 f21 f22 f23 f30 f47 f48 f51 f54 f55 f58 f61 f62 f63 f68 f70 : Int} : (fsX11 a f0 f1 f2 f3 f17 f18 f19 f20 f21 f22 f23 f30 f47 f48 f51 f54 f55 f58 f61 f62 f63 f68 f70)[55]? = some (vI f55) := rfl
theorem fsX11_s55 {a : Nat} {f0 f1 f2 f3 f17 f18 f19 f20 f21 f22 f23 f30 f47 f48 f51 f54 f55 f58 f61 f62 f63 f68 f70 : Int} {z : Int} : (fsX11 a f0 f1 f2 f3 f17 f18 f19 f20 f21 f22 f23 f30 f47 f48 f51 f54 f55 f58 f61 f62 f63 f68 f70).set 55 (vI z) = fsX11 a f0 f1 f2 f3 f17 f18 f19 f20 f21 f22 f23 f30 f47 f48 f51 f54 z f58 f61 f62 f63 f68 f70 := rfl
theorem fsX11_k55 {a : Nat} {f0 f1 f2 f3 f17 f18 f19 f20 f21 f22 f23 f30 f47 f48 f51 f54 f55 f58 f61 f62 f63 f68 f70 : Int} : 55 < (fsX11 a f0 f1 f2 f3 f17 f18 f19 f20 f21 f22 f23 f30 f47 f48 f51 f54 f55 f58 f61 f62 f63 f68 f70).length := (Nat.le_of_ble_eq_true rfl : (55 : Nat) < 71)
theorem fsX11_g56 {a : Nat} {f0 f1 f2 f3 f17 f18 f19 f20 f21 f22 f23 f30 f47 f48 f51 f54 f55 f58 f61 f62 f63 f68 f70 : Int} : (fsX11 a f0 f1 f2 f3 f17 f18 f19 f20 f21 f22 f23 f30 f47 f48 f51 f54 f55 f58 f61 f62 f63 f68 f70)[56]? = some (.ref (a + 40)) := rfl
theorem fsX11_g57 {a : Nat} {f0 f1 f2 f3 f17 f18 f19 f20 f21 f22 f23 f30 f47 f48 f51 f54 f55 f58 f61 f62 f63 f68 f70 : Int} : (fsX11 a f0 f1 f2 f3 f17 f18 f19 f20 f21 f22 f23 f30 f47 f48 f51 f54 f55 f58 f61 f62 f63 f68 f70)[57]? = some (.ref (a + 41)) := rfl
theorem fsX11_g58 {a : Nat} {f0 f1 f2 f3 f17 f18 f19 f20 f21 f22 f23 f30 f47 f48 f51 f54 f55 f58 f61 f62 f63 f68 f70 : Int} : (fsX11 a f0 f1 f2 f3 f17 f18 f19 f20 f21 f22 f23 f30 f47 f48 f51 f54 f55 f58 f61 f62 f63 f68 f70)[58]? = some (vI f58) := rfl
theorem fsX11_s58 {a : Nat} {f0 f1 f2 f3 f17 f18 f19 f20 f21 f22 f23 f30 f47 f48 f51 f54 f55 f58 f61 f62 f63 f68 f70 : Int} {z : Int} : (fsX11 a f0 f1 f2 f3 f17 f18 f19 f20 f21 f22 f23 f30 f47 f48 f51 f54 f55 f58 f61 f62 f63 f68 f70).set 58 (vI z) = fsX11 a f0 f1 f2 f3 f17 f18 f19 f20 f21 f22 f23 f30 f47 f48 f51 f54 f55 z f61 f62 f63 f68 f70 := rfl
theorem fsX11_k58 {a : Nat} {f0 f1 f2 f3 f17 f18 f19 f20 f21 f22 f23 f30 f47 f48 f51 f54 f55 f58 f61 f62 f63 f68 f70 : Int} : 58 < (fsX11 a f0 f1 f2 f3 f17 f18 f19 f20 f21 f22 f23 f30 f47 f48 f51 f54 f55 f58 f61 f62 f63 f68 f70).length := (Nat.le_of_ble_eq_true rfl : (58 : Nat) < 71)
theorem fsX11_g59 {a : Nat} {f0 f1 f2 f3 f17 f18 f19 f20 f21 f22 f23 f30 f47 f48 f51 f54 f55 f58 f61 f62 f63 f68 f70 : Int} : (fsX11 a f0 f1 f2 f3 f17 f18 f19 f20 f21 f22 f23 f30 f47 f48 f51 f54 f55 f58 f61 f62 f63 f68 f70)[59]? = some (.ref (a + 42)) := rfl
theorem fsX11_g60 {a : Nat} {f0 f1 f2 f3 f17 f18 f19 f20 f21 f22 f23 f30 f47 f48 f51 f54 f55 f58 f61 f62 f63 f68 f70 : Int} : (fsX11 a f0 f1 f2 f3 f17 f18 f19 f20 f21 f22 f23 f30 f47 f48 f51 f54 f55 f58 f61 f62 f63 f68 f70)[60]? = some (.ref (a + 43)) := rfl
theorem fsX11_g61 {a : Nat} {f0 f1 f2 f3 f17 f18 f19 f20 f21 f22 f23 f30 f47 f48 f51 f54 f55 f58 f61 f62 f63 f68 f70 : Int} : (fsX11 a f0 f1 f2 f3 f17 f18 f19 f20 f21 f22 f23 f30 f47 f48 f51 f54 f55 f58 f61 f62 f63 f68 f70)[61]? = some (vI f61) := rfl
theorem fsX11_s61 {a : Nat} {f0 f1 f2 f3 f17 f18 f19 f20 f21 f22 f23 f30 f47 f48 f51 f54 f55 f58 f61 f62 f63 f68 f70 : Int} {z : Int} : (fsX11 a f0 f1 f2 f3 f17 f18 f19 f20 f21 f22 f23 f30 f47 f48 f51 f54 f55 f58 f61 f62 f63 f68 f70).set 61 (vI z) = fsX11 a f0 f1 f2 f3 f17 f18 f19 f20 f21 f22 f23 f30 f47 f48 f51 f54 f55 f58 z f62 f63 f68 f70 := rfl
theorem fsX11_k61 {a : Nat} {f0 f1 f2 f3 f17 f18 f19 f20 f21 f22 f23 f30 f47 f48 f51 f54 f55 f58 f61 f62 f63 f68 f70 : Int} : 61 < (fsX11 a f0 f1 f2 f3 f17 f18 f19 f20 f21 f22 f23 f30 f47 f48 f51 f54 f55 f58 f61 f62 f63 f68 f70).length := (Nat.le_of_ble_eq_true rfl : (61 : Nat) < 71)
theorem fsX11_g62 {a : Nat} {f0 f1 f2 f3 f17 f18 f19 f20 f21 f22 f23 f30 f47 f48 f51 f54 f55 f58 f61 f62 f63 f68 f70 : Int} : (fsX11 a f0 f1 f2 f3 f17 f18 f19 f20 f21 f22 f23 f30 f47 f48 f51 f54 f55 f58 f61 f62 f63 f68 f70)[62]? = some (vI f62) := rfl
theorem fsX11_s62 {a : Nat} {f0 f1 f2 f3 f17 f18 f19 f20 f21 f22 f23 f30 f47 f48 f51 f54 f55 f58 f61 f62 f63 f68 f70 : Int} {z : Int} : (fsX11 a f0 f1 f2 f3 f17 f18 f19 f20 f21 f22 f23 f30 f47 f48 f51 f54 f55 f58 f61 f62 f63 f68 f70).set 62 (vI z) = fsX11 a f0 f1 f2 f3 f17 f18 f19 f20 f21 f22 f23 f30 f47 f48 f51 f54 f55 f58 f61 z f63 f68 f70 := rfl
theorem fsX11_k62 {a : Nat} {f0 f1 f2 f3 f17 f18 f19 f20 f21 f22 f23 f30 f47 f48 f51 f54 f55 f58 f61 f62 f63 f68 f70 : Int} : 62 < (fsX11 a f0 f1 f2 f3 f17 f18 f19 f20 f21 f22 f23 f30 f47 f48 f51 f54 f55 f58 f61 f62 f63 f68 f70).length := (Nat.le_of_ble_eq_true rfl : (62 : Nat) < 71)
theorem fsX11_g63 {a : Nat} {f0 f1 f2 f3 f17 f18 f19 f20 f21 f22 f23 f30 f47 f48 f51 f54 f55 f58 f61 f62 f63 f68 f70 : Int} : (fsX11 a f0 f1 f2 f3 f17 f18 f19 f20 f21 f22 f23 f30 f47 f48 f51 f54 f55 f58 f61 f62 f63 f68 f70)[63]? = some (vI f63) := rfl
theorem fsX11_s63 {a : Nat} {f0 f1 f2 f3 f17 f18 f19 f20 f21 f22 f23 f30 f47 f48 f51 f54 f55 f58 f61 f62 f63 f68 f70 : Int} {z : Int} : (fsX11 a f0 f1 f2 f3 f17 f18 f19 f20 f21 f22 f23 f30 f47 f48 f51 f54 f55 f58 f61 f62 f63 f68 f70).set 63 (vI z) = fsX11 a f0 f1 f2 f3 f17 f18 f19 f20 f21 f22 f23 f30 f47 f48 f51 f54 f55 f58 f61 f62 z f68 f70 := rfl
theorem fsX11_k63 {a : Nat} {f0 f1 f2 f3 f17 f18 f19 f20 f21 f22 f23 f30 f47 f48 f51 f54 f55 f58 f61 f62 f63 f68 f70 : Int} : 63 < (fsX11 a f0 f1 f2 f3 f17 f18 f19 f20 f21 f22 f23 f30 f47 f48 f51 f54 f55 f58 f61 f62 f63 f68 f70).length := (Nat.le_of_ble_eq_true rfl : (63 : Nat) < 71)
theorem fsX11_g64 {a : Nat} {f0 f1 f2 f3 f17 f18 f19 f20 f21 f22 f23 f30 f47 f48 f51 f54 f55 f58 f61 f62 f63 f68 f70 : Int} : (fsX11 a f0 f1 f2 f3 f17 f18 f19 f20 f21 f22 f23 f30 f47 f48 f51 f54 f55 f58 f61 f62 f63 f68 f70)[64]? = some (.ref (a + 44)) := rfl
theorem fsX11_g65 {a : Nat} {f0 f1 f2 f3 f17 f18 f19 f20 f21 f22 f23 f30 f47 f48 f51 f54 f55 f58 f61 f62 f63 f68 f70 : Int} : (fsX11 a f0 f1 f2 f3 f17 f18 f19 f20 f21 f22 f23 f30 f47 f48 f51 f54 f55 f58 f61 f62 f63 f68 f70)[65]? = some (.ref (a + 45)) := rfl
theorem fsX11_g66 {a : Nat} {f0 f1 f2 f3 f17 f18 f19 f20 f21 f22 f23 f30 f47 f48 f51 f54 f55 f58 f61 f62 f63 f68 f70 : Int} : (fsX11 a f0 f1 f2 f3 f17 f18 f19 f20 f21 f22 f23 f30 f47 f48 f51 f54 f55 f58 f61 f62 f63 f68 f70)[66]? = some (.ref (a + 46)) := rfl
theorem fsX11_g67 {a : Nat} {f0 f1 f2 f3 f17 f18 f19 f20 f21 f22 f23 f30 f47 f48 f51 f54 f55 f58 f61 f62 f63 f68 f70 : Int} : (fsX11 a f0 f1 f2 f3 f17 f18 f19 f20 f21 f22 f23 f30 f47 f48 f51 f54 f55 f58 f61 f62 f63 f68 f70)[67]? = some (.ref (a + 47)) := rfl
theorem fsX11_g68 {a : Nat} {f0 f1 f2 f3 f17 f18 f19 f20 f21 f22 f23 f30 f47 f48 f51 f54 f55 f58 f61 f62 f63 f68 f70 : Int} : (fsX11 a f0 f1 f2 f3 f17 f18 f19 f20 f21 f22 f23 f30 f47 f48 f51 f54 f55 f58 f61 f62 f63 f68 f70)[68]? = some (vI f68) := rfl
theorem fsX11_s68 {a : Nat} {f0 f1 f2 f3 f17 f18 f19 f20 f21 f22 f23 f30 f47 f48 f51 f54 f55 f58 f61 f62 f63 f68 f70 : Int} {z : Int} : (fsX11 a f0 f1 f2 f3 f17 f18 f19 f20 f21 f22 f23 f30 f47 f48 f51 f54 f55 f58 f61 f62 f63 f68 f70).set 68 (vI z) = fsX11 a f0 f1 f2 f3 f17 f18 f19 f20 f21 f22 f23 f30 f47 f48 f51 f54 f55 f58 f61 f62 f63 z f70 := rfl
theorem fsX11_k68 {a : Nat} {f0 f1 f2 f3 f17 f18 f19 f20 f21 f22 f23 f30 f47 f48 f51 f54 f55 f58 f61 f62 f63 f68 f70 : Int} : 68 < (fsX11 a f0 f1 f2 f3 f17 f18 f19 f20 f21 f22 f23 f30 f47 f48 f51 f54 f55 f58 f61 f62 f63 f68 f70).length := (Nat.le_of_ble_eq_true rfl : (68 : Nat) < 71)
theorem fsX11_g69 {a : Nat} {f0 f1 f2 f3 f17 f18 f19 f20 f21 f22 f23 f30 f47 f48 f51 f54 f55 f58 f61 f62 f63 f68 f70 : Int} : (fsX11 a f0 f1 f2 f3 f17 f18 f19 f20 f21 f22 f23 f30 f47 f48 f51 f54 f55 f58 f61 f62 f63 f68 f70)[69]? = some (.ref (a + 48)) := rfl
theorem fsX11_g70 {a : Nat} {f0 f1 f2 f3 f17 f18 f19 f20 f21 f22 f23 f30 f47 f48 f51 f54 f55 f58 f61 f62 f63 f68 f70 : Int} : (fsX11 a f0 f1 f2 f3 f17 f18 f19 f20 f21 f22 f23 f30 f47 f48 f51 f54 f55 f58 f61 f62 f63 f68 f70)[70]? = some (vI f70) := rfl
theorem fsX11_s70 {a : Nat} {f0 f1 f2 f3 f17 f18 f19 f20 f21 f22 f23 f30 f47 f48 f51 f54 f55 f58 f61 f62 f63 f68 f70 : Int} {z : Int} : (fsX11 a f0 f1 f2 f3 f17 f18 f19 f20 f21 f22 f23 f30 f47 f48 f51 f54 f55 f58 f61 f62 f63 f68 f70).set 70 (vI z) = fsX11 a f0 f1 f2 f3 f17 f18 f19 f20 f21 f22 f23 f30 f47 f48 f51 f54 f55 f58 f61 f62 f63 f68 z := rfl
theorem fsX11_k70 {a : Nat} {f0 f1 f2 f3 f17 f18 f19 f20 f21 f22 f23 f30 f47 f48 f51 f54 f55 f58 f61 f62 f63 f68 f70 : Int} : 70 < (fsX11 a f0 f1 f2 f3 f17 f18 f19 f20 f21 f22 f23 f30 f47 f48 f51 f54 f55 f58 f61 f62 f63 f68 f70).length := (Nat.le_of_ble_eq_true rfl : (70 : Nat) < 71)
theorem sp_m9999 : (Int16.ofInt (-9999)).toInt32 = Int32.ofInt (-9999) := by decide +kernel
theorem sp_m1000 : (Int16.ofInt (-1000)).toInt32 = Int32.ofInt (-1000) := by decide +kernel
theorem bp_m100 : (Int8.ofInt (-100)).toInt32 = Int32.ofInt (-100) := by decide +kernel
theorem sp_m100 : (Int16.ofInt (-100)).toInt32 = Int32.ofInt (-100) := by decide +kernel
theorem bp_m99 : (Int8.ofInt (-99)).toInt32 = Int32.ofInt (-99) := by decide +kernel
theorem sp_m99 : (Int16.ofInt (-99)).toInt32 = Int32.ofInt (-99) := by decide +kernel
theorem bp_m9 : (Int8.ofInt (-9)).toInt32 = Int32.ofInt (-9) := by decide +kernel
theorem sp_m9 : (Int16.ofInt (-9)).toInt32 = Int32.ofInt (-9) := by decide +kernel
theorem bp_m2 : (Int8.ofInt (-2)).toInt32 = Int32.ofInt (-2) := by decide +kernel
theorem sp_m2 : (Int16.ofInt (-2)).toInt32 = Int32.ofInt (-2) := by decide +kernel
theorem bp_6 : (Int8.ofInt (6)).toInt32 = Int32.ofInt (6) := by decide +kernel
theorem sp_6 : (Int16.ofInt (6)).toInt32 = Int32.ofInt (6) := by decide +kernel
theorem bp_7 : (Int8.ofInt (7)).toInt32 = Int32.ofInt (7) := by decide +kernel
theorem sp_7 : (Int16.ofInt (7)).toInt32 = Int32.ofInt (7) := by decide +kernel
theorem bp_8 : (Int8.ofInt (8)).toInt32 = Int32.ofInt (8) := by decide +kernel
theorem sp_8 : (Int16.ofInt (8)).toInt32 = Int32.ofInt (8) := by decide +kernel
theorem bp_9 : (Int8.ofInt (9)).toInt32 = Int32.ofInt (9) := by decide +kernel
theorem sp_9 : (Int16.ofInt (9)).toInt32 = Int32.ofInt (9) := by decide +kernel
theorem bp_10 : (Int8.ofInt (10)).toInt32 = Int32.ofInt (10) := by decide +kernel
theorem sp_10 : (Int16.ofInt (10)).toInt32 = Int32.ofInt (10) := by decide +kernel
theorem bp_15 : (Int8.ofInt (15)).toInt32 = Int32.ofInt (15) := by decide +kernel
theorem sp_15 : (Int16.ofInt (15)).toInt32 = Int32.ofInt (15) := by decide +kernel
theorem bp_16 : (Int8.ofInt (16)).toInt32 = Int32.ofInt (16) := by decide +kernel
theorem sp_16 : (Int16.ofInt (16)).toInt32 = Int32.ofInt (16) := by decide +kernel
theorem bp_20 : (Int8.ofInt (20)).toInt32 = Int32.ofInt (20) := by decide +kernel
theorem sp_20 : (Int16.ofInt (20)).toInt32 = Int32.ofInt (20) := by decide +kernel
theorem bp_21 : (Int8.ofInt (21)).toInt32 = Int32.ofInt (21) := by decide +kernel
theorem sp_21 : (Int16.ofInt (21)).toInt32 = Int32.ofInt (21) := by decide +kernel
theorem bp_24 : (Int8.ofInt (24)).toInt32 = Int32.ofInt (24) := by decide +kernel
theorem sp_24 : (Int16.ofInt (24)).toInt32 = Int32.ofInt (24) := by decide +kernel
theorem bp_28 : (Int8.ofInt (28)).toInt32 = Int32.ofInt (28) := by decide +kernel
theorem sp_28 : (Int16.ofInt (28)).toInt32 = Int32.ofInt (28) := by decide +kernel
theorem bp_30 : (Int8.ofInt (30)).toInt32 = Int32.ofInt (30) := by decide +kernel
theorem sp_30 : (Int16.ofInt (30)).toInt32 = Int32.ofInt (30) := by decide +kernel
theorem bp_32 : (Int8.ofInt (32)).toInt32 = Int32.ofInt (32) := by decide +kernel
theorem sp_32 : (Int16.ofInt (32)).toInt32 = Int32.ofInt (32) := by decide +kernel
theorem bp_40 : (Int8.ofInt (40)).toInt32 = Int32.ofInt (40) := by decide +kernel
theorem sp_40 : (Int16.ofInt (40)).toInt32 = Int32.ofInt (40) := by decide +kernel
theorem bp_41 : (Int8.ofInt (41)).toInt32 = Int32.ofInt (41) := by decide +kernel
theorem sp_41 : (Int16.ofInt (41)).toInt32 = Int32.ofInt (41) := by decide +kernel
theorem bp_45 : (Int8.ofInt (45)).toInt32 = Int32.ofInt (45) := by decide +kernel
theorem sp_45 : (Int16.ofInt (45)).toInt32 = Int32.ofInt (45) := by decide +kernel
theorem bp_48 : (Int8.ofInt (48)).toInt32 = Int32.ofInt (48) := by decide +kernel
theorem sp_48 : (Int16.ofInt (48)).toInt32 = Int32.ofInt (48) := by decide +kernel
theorem bp_49 : (Int8.ofInt (49)).toInt32 = Int32.ofInt (49) := by decide +kernel
theorem sp_49 : (Int16.ofInt (49)).toInt32 = Int32.ofInt (49) := by decide +kernel
theorem bp_50 : (Int8.ofInt (50)).toInt32 = Int32.ofInt (50) := by decide +kernel
theorem sp_50 : (Int16.ofInt (50)).toInt32 = Int32.ofInt (50) := by decide +kernel
theorem bp_51 : (Int8.ofInt (51)).toInt32 = Int32.ofInt (51) := by decide +kernel
theorem sp_51 : (Int16.ofInt (51)).toInt32 = Int32.ofInt (51) := by decide +kernel
theorem bp_57 : (Int8.ofInt (57)).toInt32 = Int32.ofInt (57) := by decide +kernel
theorem sp_57 : (Int16.ofInt (57)).toInt32 = Int32.ofInt (57) := by decide +kernel
theorem bp_59 : (Int8.ofInt (59)).toInt32 = Int32.ofInt (59) := by decide +kernel
theorem sp_59 : (Int16.ofInt (59)).toInt32 = Int32.ofInt (59) := by decide +kernel
theorem bp_60 : (Int8.ofInt (60)).toInt32 = Int32.ofInt (60) := by decide +kernel
theorem sp_60 : (Int16.ofInt (60)).toInt32 = Int32.ofInt (60) := by decide +kernel
theorem bp_63 : (Int8.ofInt (63)).toInt32 = Int32.ofInt (63) := by decide +kernel
theorem sp_63 : (Int16.ofInt (63)).toInt32 = Int32.ofInt (63) := by decide +kernel
theorem bp_97 : (Int8.ofInt (97)).toInt32 = Int32.ofInt (97) := by decide +kernel
theorem sp_97 : (Int16.ofInt (97)).toInt32 = Int32.ofInt (97) := by decide +kernel
theorem bp_98 : (Int8.ofInt (98)).toInt32 = Int32.ofInt (98) := by decide +kernel
theorem sp_98 : (Int16.ofInt (98)).toInt32 = Int32.ofInt (98) := by decide +kernel
theorem bp_99 : (Int8.ofInt (99)).toInt32 = Int32.ofInt (99) := by decide +kernel
theorem sp_99 : (Int16.ofInt (99)).toInt32 = Int32.ofInt (99) := by decide +kernel
theorem bp_100 : (Int8.ofInt (100)).toInt32 = Int32.ofInt (100) := by decide +kernel
theorem sp_100 : (Int16.ofInt (100)).toInt32 = Int32.ofInt (100) := by decide +kernel
theorem bp_120 : (Int8.ofInt (120)).toInt32 = Int32.ofInt (120) := by decide +kernel
theorem sp_120 : (Int16.ofInt (120)).toInt32 = Int32.ofInt (120) := by decide +kernel
theorem bp_122 : (Int8.ofInt (122)).toInt32 = Int32.ofInt (122) := by decide +kernel
theorem sp_122 : (Int16.ofInt (122)).toInt32 = Int32.ofInt (122) := by decide +kernel
theorem sp_144 : (Int16.ofInt (144)).toInt32 = Int32.ofInt (144) := by decide +kernel
theorem sp_199 : (Int16.ofInt (199)).toInt32 = Int32.ofInt (199) := by decide +kernel
theorem sp_200 : (Int16.ofInt (200)).toInt32 = Int32.ofInt (200) := by decide +kernel
theorem sp_255 : (Int16.ofInt (255)).toInt32 = Int32.ofInt (255) := by decide +kernel
theorem sp_256 : (Int16.ofInt (256)).toInt32 = Int32.ofInt (256) := by decide +kernel
theorem sp_294 : (Int16.ofInt (294)).toInt32 = Int32.ofInt (294) := by decide +kernel
theorem sp_300 : (Int16.ofInt (300)).toInt32 = Int32.ofInt (300) := by decide +kernel
theorem sp_360 : (Int16.ofInt (360)).toInt32 = Int32.ofInt (360) := by decide +kernel
theorem sp_400 : (Int16.ofInt (400)).toInt32 = Int32.ofInt (400) := by decide +kernel
theorem sp_512 : (Int16.ofInt (512)).toInt32 = Int32.ofInt (512) := by decide +kernel
theorem sp_800 : (Int16.ofInt (800)).toInt32 = Int32.ofInt (800) := by decide +kernel
theorem sp_999 : (Int16.ofInt (999)).toInt32 = Int32.ofInt (999) := by decide +kernel
theorem sp_1000 : (Int16.ofInt (1000)).toInt32 = Int32.ofInt (1000) := by decide +kernel
theorem sp_1536 : (Int16.ofInt (1536)).toInt32 = Int32.ofInt (1536) := by decide +kernel
theorem sp_4900 : (Int16.ofInt (4900)).toInt32 = Int32.ofInt (4900) := by decide +kernel
theorem sp_5000 : (Int16.ofInt (5000)).toInt32 = Int32.ofInt (5000) := by decide +kernel
theorem sp_9999 : (Int16.ofInt (9999)).toInt32 = Int32.ofInt (9999) := by decide +kernel

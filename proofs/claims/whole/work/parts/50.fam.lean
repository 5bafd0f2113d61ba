/-! ===== a family of rows: N objects of class Row, each with its three arrays, one behind another from rb on ===== -/
abbrev RowT : Type := (Nat → Int) × (Nat → Int) × (Nat → Int) × Int × Int × Int × Int × Int × Int × Int
def okRow (x : RowT) : Prop := okA x.1 ∧ okA x.2.1 ∧ okA x.2.2.1 ∧ inI x.2.2.2.1 ∧ inI x.2.2.2.2.1 ∧ inI x.2.2.2.2.2.1 ∧ inJ x.2.2.2.2.2.2.1 ∧ inI x.2.2.2.2.2.2.2.1 ∧ inI x.2.2.2.2.2.2.2.2.1 ∧ inI x.2.2.2.2.2.2.2.2.2
def okR (R : Nat → RowT) : Prop := ∀ i, okRow (R i)
theorem okR_up {R : Nat → RowT} {s : Nat} {x : RowT} (h : okR R) (hx : okRow x) : okR (up R s x) := fun j => by
  unfold up; split
  · exact hx
  · exact h j
def ra (rb s : Nat) : List Nat := [rb + 4 * s, rb + 4 * s + 1, rb + 4 * s + 2, rb + 4 * s + 3]
def rc (E : EE) (a : Nat) (x : RowT) : List va_E := [.inr (6, fsX6 a x.2.2.2.1 x.2.2.2.2.1 x.2.2.2.2.2.1 x.2.2.2.2.2.2.1 x.2.2.2.2.2.2.2.1 x.2.2.2.2.2.2.2.2.1 x.2.2.2.2.2.2.2.2.2), IA E 100 x.1, IA E 30 x.2.1, IA E 30 x.2.2.1]
def fam (E : EE) (rb N : Nat) (R : Nat → RowT) (h : AH) : AH := fun q => if rb ≤ q ∧ q < rb + 4 * N then (rc E (rb + 4 * ((q - rb) / 4)) (R ((q - rb) / 4))).getD ((q - rb) % 4) (.inr (0, [])) else h q
def RK (E : EE) (N rb : Nat) (k : Nat → Nat) : va_E := RA E N (fun i => some (rb + 4 * k i))
/-- the family lies among ours, apart from the tracked cells -/
def FO (b0 n : Nat) (as : List Nat) (rb N : Nat) : Prop := b0 ≤ rb ∧ rb + 4 * N ≤ b0 + n ∧ ∀ (i a : Nat), as[i]? = some a → a < rb ∨ rb + 4 * N ≤ a
def FF (E : EE) (h : AH) (rb N : Nat) (R : Nat → RowT) : Prop := ∀ q, rb ≤ q → q < rb + 4 * N → h q = fam E rb N R h q
theorem FF_id {E : EE} {h : AH} {rb N : Nat} {R : Nat → RowT} (hf : FF E h rb N R) : fam E rb N R h = h := by
  funext q
  by_cases hq : rb ≤ q ∧ q < rb + 4 * N
  · exact (hf q hq.1 hq.2).symm
  · exact if_neg hq
theorem ov_out {h : AH} {q : Nat} : ∀ {as : List Nat} {es : List va_E}, (∀ (i a : Nat), as[i]? = some a → a ≠ q) → ov as es h q = h q
  | [], _, _ => rfl
  | _ :: _, [], _ => rfl
  | x :: as, y :: es, hn => by
    show (if q = x then y else ov as es h q) = h q
    rw [if_neg (fun z => hn 0 x rfl z.symm)]
    exact ov_out (fun i a ha => hn (i + 1) a (by simpa using ha))
/-- two heaps over which the same cells lie -/
theorem ov_congr {h1 h2 : AH} {q : Nat} (hq : h1 q = h2 q) : ∀ {as : List Nat} {es : List va_E}, ov as es h1 q = ov as es h2 q
  | [], _ => hq
  | _ :: _, [] => hq
  | x :: as, y :: es => by
    show (if q = x then y else ov as es h1 q) = if q = x then y else ov as es h2 q
    rw [ov_congr hq (as := as) (es := es)]
theorem ov_in {h1 h2 : AH} {q : Nat} : ∀ {as : List Nat} {es : List va_E}, as.length = es.length → (∃ i : Nat, as[i]? = some q) → ov as es h1 q = ov as es h2 q
  | [], _, _, ⟨i, hi⟩ => by simp at hi
  | _ :: _, [], hl, _ => by cases hl
  | x :: as, y :: es, hl, ⟨i, hi⟩ => by
    show (if q = x then y else ov as es h1 q) = if q = x then y else ov as es h2 q
    by_cases hq : q = x
    · rw [if_pos hq, if_pos hq]
    · rw [if_neg hq, if_neg hq]
      cases i with
      | zero => simp at hi; exact absurd hi.symm hq
      | succ i => exact ov_in (Nat.succ.inj hl) ⟨i, by simpa using hi⟩
theorem FF_ov {E : EE} {b0 n rb N : Nat} {R : Nat → RowT} {as : List Nat} {es : List va_E} {h : AH} (fo : FO b0 n as rb N) : FF E (ov as es (fam E rb N R h)) rb N R := by
  intro q h1 h2
  have hn : ∀ (i a : Nat), as[i]? = some a → a ≠ q := fun i a ha z => by have := fo.2.2 i a ha; omega
  rw [ov_out hn]
  show (if _ then _ else _) = if _ then _ else _
  rw [if_pos ⟨h1, h2⟩, if_pos ⟨h1, h2⟩]
theorem fam_ov {E : EE} {b0 n rb N : Nat} {R R' : Nat → RowT} {as : List Nat} {es : List va_E} {h : AH} (fo : FO b0 n as rb N) : fam E rb N R' (ov as es (fam E rb N R h)) = ov as es (fam E rb N R' h) := by
  funext q
  by_cases hq : rb ≤ q ∧ q < rb + 4 * N
  · have hn : ∀ (i a : Nat), as[i]? = some a → a ≠ q := fun i a ha z => by have := fo.2.2 i a ha; omega
    rw [ov_out hn]
    show (if _ then _ else _) = if _ then _ else _
    rw [if_pos hq, if_pos hq]
  · show (if _ then _ else _) = _
    rw [if_neg hq]
    refine ov_congr ?_
    show (if _ then _ else _) = if _ then _ else _
    rw [if_neg hq, if_neg hq]
theorem FO_call {b0 n rb N : Nat} {as as' : List Nat} (ps : List Nat) (fo : FO b0 n as rb N) (hp : ps.map (fun i => as[i]?) = as'.map some) : FO b0 n as' rb N :=
  ⟨fo.1, fo.2.1, fun i a hi => by obtain ⟨p, -, h2⟩ := pick_get hp hi; exact fo.2.2 p a h2⟩
theorem ra_at {rb s i : Nat} (hi : i < 4) : (ra rb s)[i]? = some (rb + 4 * s + i) := by
  match i, hi with
  | 0, _ => rfl
  | 1, _ => rfl
  | 2, _ => rfl
  | 3, _ => rfl
theorem ra_inv {rb s i a : Nat} (h : (ra rb s)[i]? = some a) : i < 4 ∧ a = rb + 4 * s + i := by
  have hl : i < 4 := (List.getElem?_eq_some_iff.mp h).1
  rw [ra_at hl] at h
  exact ⟨hl, (Option.some.inj h).symm⟩
theorem ov_app {h : AH} : ∀ {a1 a2 : List Nat} {e1 e2 : List va_E}, a1.length = e1.length → ov (a1 ++ a2) (e1 ++ e2) h = ov a1 e1 (ov a2 e2 h)
  | [], _, [], _, _ => rfl
  | [], _, _ :: _, _, hl => by cases hl
  | _ :: _, _, [], _, hl => by cases hl
  | x :: a1, a2, y :: e1, e2, hl => by
    funext q
    show (if q = x then y else ov (a1 ++ a2) (e1 ++ e2) h q) = if q = x then y else ov a1 e1 (ov a2 e2 h) q
    rw [ov_app (Nat.succ.inj hl)]
theorem fam_put {E : EE} {rb N s : Nat} {R : Nat → RowT} {x : RowT} {h : AH} (hs : s < N) : ov (ra rb s) (rc E (rb + 4 * s) x) (fam E rb N R h) = fam E rb N (up R s x) h := by
  funext q
  by_cases hq : rb + 4 * s ≤ q ∧ q < rb + 4 * s + 4
  · have hi : (q - rb) / 4 = s := by omega
    have hm : q = rb + 4 * s + (q - rb) % 4 := by omega
    have hR : fam E rb N (up R s x) h q = (rc E (rb + 4 * s) x).getD ((q - rb) % 4) (.inr (0, [])) := by
      show (if _ then _ else _) = _
      rw [if_pos ⟨by omega, by omega⟩, hi]
      simp [up]
    have h4 : (q - rb) % 4 < 4 := Nat.mod_lt _ (by decide)
    rw [hR]
    generalize (q - rb) % 4 = j at hm h4
    have hg := ov_get (h := fam E rb N R h) (as := ra rb s) (es := rc E (rb + 4 * s) x) (a := q) (e := (rc E (rb + 4 * s) x).getD j (.inr (0, []))) j
      (nodup_of fun i k a h1 h2 => by have := ra_inv h1; have := ra_inv h2; omega) (by rw [ra_at h4, hm]) (by
        match j, h4 with
        | 0, _ => rfl
        | 1, _ => rfl
        | 2, _ => rfl
        | 3, _ => rfl)
    exact hg
  · rw [ov_out (fun i a ha z => by have := ra_inv ha; omega)]
    show (if _ then _ else _) = if _ then _ else _
    by_cases hr : rb ≤ q ∧ q < rb + 4 * N
    · rw [if_pos hr, if_pos hr]
      have hne : (q - rb) / 4 ≠ s := by omega
      simp [up, hne]
    · rw [if_neg hr, if_neg hr]
theorem up_self {α : Type} (f : Nat → α) (k : Nat) : up f k (f k) = f := by
  funext j
  unfold up
  split
  · rename_i h; rw [h]
  · rfl
theorem AO_fam {b0 n rb N s : Nat} {as : List Nat} (ao : AO b0 n as) (fo : FO b0 n as rb N) (hs : s < N) : AO b0 n (as ++ ra rb s) := by
  refine ⟨nodup_of fun i j a hi hj => ?_, fun i a hi => ?_⟩
  · rw [List.getElem?_append] at hi hj
    split at hi <;> split at hj
    · exact nodup_get ao.1 hi hj
    · have := fo.2.2 i a hi; have := ra_inv hj; omega
    · have := fo.2.2 j a hj; have := ra_inv hi; omega
    · have := ra_inv hi; have := ra_inv hj; omega
  · rw [List.getElem?_append] at hi
    split at hi
    · exact ao.2 i a hi
    · have := ra_inv hi; have := fo.1; have := fo.2.1; omega
theorem AO_fam2 {b0 n rb N s s2 : Nat} {as : List Nat} (ao : AO b0 n as) (fo : FO b0 n as rb N) (hs : s < N) (hs2 : s2 < N) (hne : s ≠ s2) : AO b0 n (as ++ (ra rb s ++ ra rb s2)) := by
  refine ⟨nodup_of fun i j a hi hj => ?_, fun i a hi => ?_⟩
  · rw [List.getElem?_append] at hi hj
    split at hi <;> split at hj
    · exact nodup_get ao.1 hi hj
    · have := fo.2.2 i a hi
      rw [List.getElem?_append] at hj
      split at hj <;> (have := ra_inv hj; omega)
    · have := fo.2.2 j a hj
      rw [List.getElem?_append] at hi
      split at hi <;> (have := ra_inv hi; omega)
    · rw [List.getElem?_append] at hi hj
      split at hi <;> split at hj <;> (have := ra_inv hi; have := ra_inv hj; simp only [ra, List.length_cons, List.length_nil] at *; omega)
  · rw [List.getElem?_append] at hi
    split at hi
    · exact ao.2 i a hi
    · rw [List.getElem?_append] at hi
      split at hi <;> (have := ra_inv hi; have := fo.1; have := fo.2.1; omega)
theorem ovF_callN {E : EE} {b0 n rb N : Nat} {R R' : Nat → RowT} {h : AH} {as as' : List Nat} {es esn es' : List va_E} (ps : List Nat) (bs : List Bool) (fo : FO b0 n as rb N) (hn : as.Nodup) (hlen : as.length = es.length) (hlen2 : es.length = esn.length) (hp : ps.map (fun i => as[i]?) = as'.map some) (hq : ps.map (fun i => esn[i]?) = es'.map some) (ho : sel bs es = sel bs esn) (hc : (List.range as.length).all (fun i => ps.contains i || bs.getD i false) = true) (hd : ps.Nodup) :
    ov as' es' (fam E rb N R' (ov as es (fam E rb N R h))) = ov as esn (fam E rb N R' h) := by
  rw [fam_ov fo]
  exact ov_callN ps bs hn hlen hlen2 hp hq ho hc hd
section GF
variable {l : Launch} {E : EE} {b0 : Nat} {M : MB} {X : State → Prop} {Z : ZT} {c1 c2 n pc pc' rb N s s2 o : Nat} {h : AH} {L : LL} {st : List Value} {R : Nat → RowT} {as : List Nat} {es es' : List va_E} {x y : RowT} {z : Int} {ρ : Type} {r : ρ} {B : Option ρ}
theorem g_famO (s : Nat) (hs : s < N) (hl : as.length = es.length) (k : G l E b0 M X Z c1 c2 n (ov (as ++ ra rb s) (es ++ rc E (rb + 4 * s) (R s)) (fam E rb N R h)) pc L st) : G l E b0 M X Z c1 c2 n (ov as es (fam E rb N R h)) pc L st := by
  rw [ov_app hl, fam_put hs, up_self] at k
  exact k
theorem g_famC (hs : s < N) (hl : as.length = es.length) (k : G l E b0 M X Z c1 c2 n (ov as es (fam E rb N (up R s x) h)) pc L st) : G l E b0 M X Z c1 c2 n (ov (as ++ ra rb s) (es ++ rc E (rb + 4 * s) x) (fam E rb N R h)) pc L st := by
  rw [ov_app hl, fam_put hs]
  exact k
theorem g_famC0 (hs : s < N) (hl : as.length = es.length) (k : G l E b0 M X Z c1 c2 n (ov as es (fam E rb N R h)) pc L st) : G l E b0 M X Z c1 c2 n (ov (as ++ ra rb s) (es ++ rc E (rb + 4 * s) (R s)) (fam E rb N R h)) pc L st := by
  rw [ov_app hl, fam_put hs, up_self]
  exact k
theorem g_famO2 (s s2 : Nat) (hs : s < N) (hs2 : s2 < N) (hl : as.length = es.length) (k : G l E b0 M X Z c1 c2 n (ov (as ++ (ra rb s ++ ra rb s2)) (es ++ (rc E (rb + 4 * s) (R s) ++ rc E (rb + 4 * s2) (R s2))) (fam E rb N R h)) pc L st) : G l E b0 M X Z c1 c2 n (ov as es (fam E rb N R h)) pc L st := by
  rw [ov_app hl, ov_app rfl, fam_put hs2, up_self, fam_put hs, up_self] at k
  exact k
theorem g_famC2 (hs : s < N) (hs2 : s2 < N) (hl : as.length = es.length) (k : G l E b0 M X Z c1 c2 n (ov as es (fam E rb N (up R s x) h)) pc L st) : G l E b0 M X Z c1 c2 n (ov (as ++ (ra rb s ++ ra rb s2)) (es ++ (rc E (rb + 4 * s) x ++ rc E (rb + 4 * s2) (R s2))) (fam E rb N R h)) pc L st := by
  rw [ov_app hl, ov_app rfl, fam_put hs2, up_self, fam_put hs]
  exact k
theorem g_famC20 (hs : s < N) (hs2 : s2 < N) (hl : as.length = es.length) (k : G l E b0 M X Z c1 c2 n (ov as es (fam E rb N R h)) pc L st) : G l E b0 M X Z c1 c2 n (ov (as ++ (ra rb s ++ ra rb s2)) (es ++ (rc E (rb + 4 * s) (R s) ++ rc E (rb + 4 * s2) (R s2))) (fam E rb N R h)) pc L st := by
  rw [ov_app hl, ov_app rfl, fam_put hs2, up_self, fam_put hs, up_self]
  exact k
theorem g_aldF (i : Nat) {N' : Nat} {k : Nat → Nat} (ao : AO b0 n as) (ha : as[i]? = some o) (he : es[i]? = some (RK E N' rb k)) (hN : N' ≤ 2147483648) (hd : DC M.2.1 pc .aaload 1 pc') (hs : chk (inB z N') B = some r)
    (kk : inB z N' → B = some r → G l E b0 M X Z c1 c2 n (ov as es h) pc' L (.ref (rb + 4 * k (Int.toNat z)) :: st)) : G l E b0 M X Z c1 c2 n (ov as es h) pc L (vI z :: .ref o :: st) := g_aald i ao ha he hN hd hs (fun _ => rfl) kk
theorem va_up_some (rb : Nat) (k : Nat → Nat) (j v : Nat) : va_up (fun i => some (rb + 4 * k i)) j (some (rb + 4 * v)) = fun i => some (rb + 4 * (up k j v) i) := by
  funext i
  unfold va_up up
  split <;> rfl
theorem g_astF (i : Nat) {N' : Nat} {k : Nat → Nat} {v : Nat} (ao : AO b0 n as) (fo : FO b0 n as rb N) (hv : v < N) (ha : as[i]? = some o) (he : es[i]? = some (RK E N' rb k)) (hes : es.set i (RK E N' rb (up k (Int.toNat z) v)) = es') (hN : N' ≤ 2147483648) (hd : DC M.2.1 pc .aastore 1 pc') (hs : chk (inB z N') B = some r)
    (kk : inB z N' → B = some r → G l E b0 M X Z c1 c2 n (ov as es' (fam E rb N R h)) pc' L st) : G l E b0 M X Z c1 c2 n (ov as es (fam E rb N R h)) pc L (.ref (rb + 4 * v) :: vI z :: .ref o :: st) := by
  intro p e s m args below meth c C hX hb H locs ls hR hS hl
  obtain ⟨hd, rfl⟩ := hd
  obtain ⟨hx, hs⟩ := chk_elim hs
  have hb2 := ao.2 i o ha
  have hat := hR.2 o hb2.1 hb2.2
  rw [ov_get i ao.1 ha he] at hat
  obtain ⟨hin, hcl⟩ := inB_in hx hN
  -- the row that is stored
  have hro : FF E (ov as es (fam E rb N R h)) rb N R := FF_ov fo
  have hvb : b0 ≤ rb + 4 * v ∧ rb + 4 * v < b0 + n := by have := fo.1; have := fo.2.1; omega
  have hrow := hR.2 (rb + 4 * v) hvb.1 hvb.2
  have hcell : ov as es (fam E rb N R h) (rb + 4 * v) = .inr (6, fsX6 (rb + 4 * v) (R v).2.2.2.1 (R v).2.2.2.2.1 (R v).2.2.2.2.2.1 (R v).2.2.2.2.2.2.1 (R v).2.2.2.2.2.2.2.1 (R v).2.2.2.2.2.2.2.2.1 (R v).2.2.2.2.2.2.2.2.2) := by
    rw [hro _ (by omega) (by omega)]
    show (if _ then _ else _) = _
    rw [if_pos ⟨by omega, by omega⟩, show (rb + 4 * v - rb) / 4 = v by omega, show (rb + 4 * v - rb) % 4 = 0 by omega]
    rfl
  rw [hcell] at hrow
  have hne : o ≠ rb + 4 * v := fun z => by have := fo.2.2 i o ha; omega
  have hP : va_P E.1 vwCl [(o, RK E N' rb k), (rb + 4 * v, .inr (6, fsX6 (rb + 4 * v) (R v).2.2.2.1 (R v).2.2.2.2.1 (R v).2.2.2.2.2.1 (R v).2.2.2.2.2.2.1 (R v).2.2.2.2.2.2.2.1 (R v).2.2.2.2.2.2.2.2.1 (R v).2.2.2.2.2.2.2.2.2))] H := fun k q hq => by
    match k, hq with
    | 0, hq => cases hq; exact hat
    | 1, hq => cases hq; exact hrow
    | k + 2, hq => simp at hq
  have hc : vwCl[6]? = some (RX6, TX6, 10) := rfl
  obtain ⟨r', hr', cellV, g1, g2, g3, -⟩ := hrow
  have hK := C.2.2.2.2.2.2.2.1.1
  have hcls := (hK.1 6 _ hc).2
  obtain ⟨kA, comp, k1, k2, k3, -⟩ := (hK.2 4 _ rfl).2
  have hcomp : comp = E.1.1 6 := Option.some.inj (k3.symm.trans hcls.1)
  subst hcomp
  obtain ⟨kC, hkC, -⟩ := hcls.2
  have h0 : ¬ Int32.ofInt z < 0 := fun q => hin (Or.inl q)
  have hlt : (Int32.ofInt z).toNatClampNeg < N' := Nat.not_le.mp fun q => hin (Or.inr q)
  refine W.aast C.1 C.2.1 hat (fun q h => by cases h) (fun h => by cases h) k1 k2 rfl hkC ⟨h0, by show _ < (arrV _ _ _).slots.size; rw [arrV_size]; exact hlt⟩ g1 (fun q h => by rw [g3] at h; cases h) (by rw [g2]; exact hkC) (by rw [g2]; exact va_assign hcls) rfl rfl hd fun H1 e1 e2 e3 => ?_
  refine kk hx hs p e s m args below meth c C hX hb H1 _ ls ?_ (hS.put e2 e3 hb2.1) hl
  rw [ov_set i ao.1 ha he hes]
  refine RH_upd hR e2 e3 ?_
  show H1[o]? = some (vp_cell _ _)
  rw [e1]
  show some ((arrV _ N' (fun j => va_rf (some (rb + 4 * k j)))).setSlot _ _) = some (arrV _ N' (fun j => va_rf (some (rb + 4 * up k (Int.toNat z) v j))))
  rw [arrV_store, hcl]
  congr 2
  funext q
  by_cases hq : q = Int.toNat z
  · subst hq
    simp [updV, up, va_rf]
  · simp [updV, up, hq]
end GF

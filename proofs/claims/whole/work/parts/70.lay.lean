/-! ===== cells laid one behind another from a on ===== -/
def lay (a : Nat) (es : List va_E) (h : AH) : AH := fun q => if a ≤ q ∧ q < a + es.length then es.getD (q - a) (.inr (0, [])) else h q
theorem lay_at {a i : Nat} {es : List va_E} {h : AH} {e : va_E} (he : es[i]? = some e) : lay a es h (a + i) = e := by
  have hl : i < es.length := (List.getElem?_eq_some_iff.mp he).1
  show (if _ then _ else _) = e
  rw [if_pos ⟨by omega, by omega⟩, show a + i - a = i by omega, List.getD_eq_getElem?_getD, he]
  rfl
theorem lay_out {a q : Nat} {es : List va_E} {h : AH} (hq : q < a ∨ a + es.length ≤ q) : lay a es h q = h q := if_neg (by omega)
theorem lay_in {a q : Nat} {es : List va_E} {h : AH} (h1 : a ≤ q) (h2 : q < a + es.length) : lay a es h q = es.getD (q - a) (.inr (0, [])) := if_pos ⟨h1, h2⟩
theorem lay_one {a : Nat} {e : va_E} {h : AH} (hb : h a = e) : lay a [e] h = h := by
  funext q
  by_cases hq : q = a
  · subst hq
    rw [lay_in (Nat.le_refl _) (by simp), hb]
    simp
  · rw [lay_out]
    simp only [List.length_cons, List.length_nil]
    omega
theorem lay_push {a b : Nat} {es : List va_E} {e : va_E} {h : AH} (hn : a + es.length = b) : pu (lay a es h) b e = lay a (es ++ [e]) h := by
  funext q
  show (if q = b then e else lay a es h q) = _
  by_cases hq : q = b
  · subst hq
    rw [if_pos rfl, ← hn, lay_at (i := es.length)]
    simp
  · rw [if_neg hq]
    by_cases hr : a ≤ q ∧ q < a + es.length
    · rw [lay_in hr.1 hr.2, lay_in hr.1 (by simp only [List.length_append, List.length_cons, List.length_nil]; omega), List.getD_eq_getElem?_getD, List.getD_eq_getElem?_getD, List.getElem?_append_left (by omega)]
    · rw [lay_out (by omega), lay_out (by simp only [List.length_append, List.length_cons, List.length_nil]; omega)]
theorem lay_over {a b : Nat} {es bl : List va_E} {x : va_E} {h : AH} (hn : a + es.length = b) (hb : 1 ≤ bl.length) : lay b bl (lay a (es ++ [x]) h) = lay a (es ++ bl) h := by
  subst hn
  funext q
  by_cases h1 : a + es.length ≤ q ∧ q < a + es.length + bl.length
  · rw [lay_in h1.1 h1.2, lay_in (by omega) (by simp only [List.length_append]; omega), List.getD_eq_getElem?_getD, List.getD_eq_getElem?_getD, List.getElem?_append_right (by omega)]
    rw [show q - (a + es.length) = q - a - es.length by omega]
  · rw [lay_out (by omega)]
    by_cases h2 : a ≤ q ∧ q < a + es.length
    · rw [lay_in h2.1 (by simp only [List.length_append, List.length_cons, List.length_nil]; omega), lay_in h2.1 (by simp only [List.length_append]; omega), List.getD_eq_getElem?_getD, List.getD_eq_getElem?_getD, List.getElem?_append_left (by omega), List.getElem?_append_left (by omega)]
    · rw [lay_out (by simp only [List.length_append, List.length_cons, List.length_nil]; omega), lay_out (by simp only [List.length_append]; omega)]
theorem lay_set {a i : Nat} {es : List va_E} {e' : va_E} {h : AH} (hi : i < es.length) : (fun q => if q = a + i then e' else lay a es h q) = lay a (es.set i e') h := by
  funext q
  by_cases hq : q = a + i
  · subst hq
    rw [if_pos rfl, lay_at]
    rw [List.getElem?_set_self hi]
  · rw [if_neg hq]
    by_cases hr : a ≤ q ∧ q < a + es.length
    · rw [lay_in hr.1 hr.2, lay_in hr.1 (by rw [List.length_set]; exact hr.2), List.getD_eq_getElem?_getD, List.getD_eq_getElem?_getD, List.getElem?_set_ne (by omega)]
    · rw [lay_out (by omega), lay_out (by rw [List.length_set]; omega)]
theorem ov_one {a : Nat} {e : va_E} {h : AH} : ov [a] [e] h = fun q => if q = a then e else h q := rfl
section GC
variable {l : Launch} {E : EE} {b0 : Nat} {M : MB} {X : State → Prop} {Z : ZT} {c1 c2 n pc pc' a o : Nat} {h : AH} {L : LL} {st : List Value} {z x : Int} {es es' : List va_E} {e : va_E} {ρ : Type} {r : ρ} {B : Option ρ}
theorem c_new {idx ci N : Nat} {fs : List Value} (hn : NW M.2.2.2.2.2 idx ci N fs) (hd : DC M.2.1 pc (.new idx) 3 pc') (hf : c1 + 1 ≤ M.2.2.2.2.1.cells ∧ c2 + N ≤ M.2.2.2.2.1.slots) (m : Nat) (hm : es.length = m) (hl : a + m = b0 + n)
    (kk : G l E b0 M X Z (c1 + 1) (c2 + N) (n + 1) (lay a (es ++ [.inr (ci, fs)]) h) pc' L (.ref (a + m) :: st)) : G l E b0 M X Z c1 c2 n (lay a es h) pc L st := by
  refine g_new hn hd hf ?_
  rw [lay_push (by rw [hm]; exact hl), ← hl]
  exact kk
theorem c_newI {N : Nat} (hz : z = (N : Int)) (hN : N ≤ 1000000) (hw : Cond.arrayClass .int ∈ GW) (hd : DC M.2.1 pc (.newarray .int) 2 pc') (hf : c1 + 1 ≤ M.2.2.2.2.1.cells ∧ c2 + N ≤ M.2.2.2.2.1.slots) (m : Nat) (hm : es.length = m) (hl : a + m = b0 + n)
    (kk : G l E b0 M X Z (c1 + 1) (c2 + N) (n + 1) (lay a (es ++ [IA E N (fun _ => 0)]) h) pc' L (.ref (a + m) :: st)) : G l E b0 M X Z c1 c2 n (lay a es h) pc L (vI z :: st) := by
  subst hz
  refine g_newI hN hw hd hf ?_
  rw [lay_push (by rw [hm]; exact hl), ← hl]
  exact kk
theorem c_newJ {N : Nat} (hz : z = (N : Int)) (hN : N ≤ 1000000) (hw : Cond.arrayClass .long ∈ GW) (hd : DC M.2.1 pc (.newarray .long) 2 pc') (hf : c1 + 1 ≤ M.2.2.2.2.1.cells ∧ c2 + N ≤ M.2.2.2.2.1.slots) (m : Nat) (hm : es.length = m) (hl : a + m = b0 + n)
    (kk : G l E b0 M X Z (c1 + 1) (c2 + N) (n + 1) (lay a (es ++ [JA E N (fun _ => 0)]) h) pc' L (.ref (a + m) :: st)) : G l E b0 M X Z c1 c2 n (lay a es h) pc L (vI z :: st) := by
  subst hz
  refine g_newJ hN hw hd hf ?_
  rw [lay_push (by rw [hm]; exact hl), ← hl]
  exact kk
theorem c_newZ {N : Nat} (hz : z = (N : Int)) (hN : N ≤ 1000000) (hw : Cond.arrayClass .boolean ∈ GW) (hd : DC M.2.1 pc (.newarray .boolean) 2 pc') (hf : c1 + 1 ≤ M.2.2.2.2.1.cells ∧ c2 + N ≤ M.2.2.2.2.1.slots) (m : Nat) (hm : es.length = m) (hl : a + m = b0 + n)
    (kk : G l E b0 M X Z (c1 + 1) (c2 + N) (n + 1) (lay a (es ++ [ZA E N (fun _ => 0)]) h) pc' L (.ref (a + m) :: st)) : G l E b0 M X Z c1 c2 n (lay a es h) pc L (vI z :: st) := by
  subst hz
  refine g_newZ hN hw hd hf ?_
  rw [lay_push (by rw [hm]; exact hl), ← hl]
  exact kk
theorem c_newY {N : Nat} (hz : z = (N : Int)) (hN : N ≤ 1000000) (hw : Cond.arrayClass .byte ∈ GW) (hd : DC M.2.1 pc (.newarray .byte) 2 pc') (hf : c1 + 1 ≤ M.2.2.2.2.1.cells ∧ c2 + N ≤ M.2.2.2.2.1.slots) (m : Nat) (hm : es.length = m) (hl : a + m = b0 + n)
    (kk : G l E b0 M X Z (c1 + 1) (c2 + N) (n + 1) (lay a (es ++ [YA E N (fun _ => 0)]) h) pc' L (.ref (a + m) :: st)) : G l E b0 M X Z c1 c2 n (lay a es h) pc L (vI z :: st) := by
  subst hz
  refine g_newY hN hw hd hf ?_
  rw [lay_push (by rw [hm]; exact hl), ← hl]
  exact kk
theorem c_put (i k : Nat) {idx ci : Nat} {fs fs' : List Value} {v : Value} {fin : Bool} {ty : FieldType} (hb : b0 ≤ a + i ∧ a + i < b0 + n) (he : es[i]? = some (.inr (ci, fs))) (hk : k < fs.length) (hs : fs.set k v = fs') (hes : es.set i (.inr (ci, fs')) = es') (hf : FW M.2.2.2.2.2 idx ci k fin ty) (hin : fin = true → M.1.name = "<init>") (hv : narrow ty v = v ∧ fits ty v = true) (hd : DC M.2.1 pc (.putfield idx) 3 pc')
    (kk : G l E b0 M X Z c1 c2 n (lay a es' h) pc' L st) : G l E b0 M X Z c1 c2 n (lay a es h) pc L (v :: .ref (a + i) :: st) := by
  have hi : i < es.length := (List.getElem?_eq_some_iff.mp he).1
  have ao : AO b0 n [a + i] := ⟨by simp, fun j q hq => by
    cases j with
    | zero => cases hq; exact hb
    | succ j => simp at hq⟩
  have h1 : ov [a + i] [.inr (ci, fs)] (lay a es h) = lay a es h := FA_id fun j q e hq hqe => by
    cases j with
    | zero => cases hq; cases hqe; exact lay_at he
    | succ j => simp at hq
  rw [← h1]
  refine g_put 0 k (es' := [.inr (ci, fs')]) ao rfl rfl hk hs rfl hf hin hv hd ?_
  rw [ov_one, lay_set hi, hes]
  exact kk
theorem c_get (i k : Nat) {idx ci : Nat} {fs : List Value} {v : Value} (hb : b0 ≤ a + i ∧ a + i < b0 + n) (he : es[i]? = some (.inr (ci, fs))) (hv : fs[k]? = some v) (hf : FL M.2.2.2.2.2 idx ci k) (hd : DC M.2.1 pc (.getfield idx) 3 pc')
    (kk : G l E b0 M X Z c1 c2 n (lay a es h) pc' L (v :: st)) : G l E b0 M X Z c1 c2 n (lay a es h) pc L (.ref (a + i) :: st) := by
  have ao : AO b0 n [a + i] := ⟨by simp, fun j q hq => by
    cases j with
    | zero => cases hq; exact hb
    | succ j => simp at hq⟩
  have h1 : ov [a + i] [.inr (ci, fs)] (lay a es h) = lay a es h := FA_id fun j q e hq hqe => by
    cases j with
    | zero => cases hq; cases hqe; exact lay_at he
    | succ j => simp at hq
  rw [← h1]
  refine g_get 0 k ao rfl rfl hv hf hd ?_
  rw [h1]
  exact kk
theorem c_iast (i : Nat) {N : Nat} {f : Nat → Int} (hb : b0 ≤ a + i ∧ a + i < b0 + n) (he : es[i]? = some (IA E N f)) (hes : es.set i (IA E N (up f x.toNat z)) = es') (hN : N ≤ 2147483648) (hd : DC M.2.1 pc .iastore 1 pc') (hx : inB x N)
    (kk : G l E b0 M X Z c1 c2 n (lay a es' h) pc' L st) : G l E b0 M X Z c1 c2 n (lay a es h) pc L (vI z :: vI x :: .ref (a + i) :: st) := by
  have hi : i < es.length := (List.getElem?_eq_some_iff.mp he).1
  have ao : AO b0 n [a + i] := ⟨by simp, fun j q hq => by
    cases j with
    | zero => cases hq; exact hb
    | succ j => simp at hq⟩
  have h1 : ov [a + i] [IA E N f] (lay a es h) = lay a es h := FA_id fun j q e hq hqe => by
    cases j with
    | zero => cases hq; cases hqe; exact lay_at he
    | succ j => simp at hq
  rw [← h1]
  refine g_iast 0 (es' := [IA E N (up f x.toNat z)]) ao rfl rfl rfl hN hd (r := ()) (B := some ()) (chk_pos hx) (fun _ _ => ?_)
  rw [ov_one, lay_set hi, hes]
  exact kk
theorem c_call {Y : MB} {idx k k1 k2 n1 m : Nat} {bl : List va_E} {rest : List Value} {y : va_E} (As : List Value) (cv : CI M.2.2.2.2.2 idx Y k) (ro : RO M.2.2.2.2.1 Y k1 k2) (hm : es.length = m) (hb : 1 ≤ bl.length) (ct : Ct l E b0 Y k1 k2 (.ref (a + m) :: As) (lay a (es ++ [y]) h) n none (lay (a + m) bl (lay a (es ++ [y]) h)) n1 True) (hd : DC M.2.1 pc (.invokespecial idx) 3 pc')
    (hA : As.length = k) (hst : st = As.reverse ++ .ref (a + m) :: rest) (hw : (rest.map fun v => v.category).sum ≤ 8) (hf : c1 + k1 ≤ M.2.2.2.2.1.cells ∧ c2 + k2 ≤ M.2.2.2.2.1.slots)
    (kk : G l E b0 M X Z (c1 + k1) (c2 + k2) n1 (lay a (es ++ bl) h) pc' L rest) : G l E b0 M X Z c1 c2 n (lay a (es ++ [y]) h) pc L st := by
  rw [lay_over (by rw [hm]) hb] at ct
  exact g_callI As cv ro ct hd hA hst hw hf (fun _ => kk)
theorem g_newR {N idx : Nat} (hN : N ≤ 1000000) (hw : Cond.classLink M.2.2.2.2.2 idx "SlidingFlaws$Row" ∈ GW) (hd : DC M.2.1 pc (.anewarray idx) 3 pc') (hf : c1 + 1 ≤ M.2.2.2.2.1.cells ∧ c2 + N ≤ M.2.2.2.2.1.slots)
    (kk : G l E b0 M X Z (c1 + 1) (c2 + N) (n + 1) (pu h (b0 + n) (RA E N (fun _ => none))) pc' L (.ref (b0 + n) :: st)) : G l E b0 M X Z c1 c2 n h pc L (vI (N : Int) :: st) := by
  intro p e s m args below meth c C hX hb H locs ls hR hS hl
  obtain ⟨hd, rfl⟩ := hd
  have hts := C.2.2.2.2.2.1
  have hi : inI (N : Int) := ⟨by omega, by omega⟩
  have hc : (Int32.ofInt (N : Int)).toNatClampNeg = N := by rw [ofI_clamp hi]; rfl
  have hby : N * 4 ≤ 536870912 := Nat.le_trans (Nat.mul_le_mul hN (Nat.le_refl 4)) (Nat.le_of_ble_eq_true rfl)
  have hK := C.2.2.2.2.2.2.2.1.1
  refine W.anew C.1 C.2.1 C.2.2.2.2.1 (hts _ hw) (va_AO.use C.2.2.2.2.2.2.2.1.2.2.1) rfl hd rfl (n := Int32.ofInt (N : Int)) (by rw [← ofI_0, ofI_lt hi inI_0]; omega) (by rw [hc]; exact hby) hf.1 (by rw [hc]; exact hf.2) fun cA kA comp f1 f2 f3 f4 => ?_
  have hcA : cA = E.2.1 4 := by
    obtain ⟨kA', comp', q1, q2, q3, q4⟩ := (hK.2 4 _ rfl).2
    first
      | exact Option.some.inj (f1.symm.trans q4)
      | exact Option.some.inj (f4.symm.trans q4)
  subst hcA
  rw [hc]
  generalize hH1 : H.push ({ cls := E.2.1 4, slots := Array.replicate N .null, vm := .none } : Cell) = H1
  have z1 : H1.size = H.size + 1 := by rw [← hH1, Array.size_push]
  have e1 : H1[H.size]? = some (arrV (E.2.1 4) N (fun _ => .null)) := by rw [← hH1, Array.getElem?_push_size, ← arrV_new]
  have o1 : ∀ q : Nat, q < H.size → H1[q]? = H[q]? := fun q hq => by rw [← hH1, Array.getElem?_push, if_neg (Nat.ne_of_lt hq)]
  have e2 : va_at E.1 vwCl (b0 + n, RA E N (fun _ => none)) H1 := by
    show H1[b0 + n]? = some _
    rw [← hR.1]
    exact e1
  have kk := kk p e s m args below meth c C hX hb H1 locs ls (RH_push hR z1 o1 e2) (VS_push hS z1 o1) hl
  rw [← hR.1] at kk
  exact kk
/-- a row is stored into an array of rows -/
theorem g_astO {N' v : Nat} {fs : List Value} {f : Nat → Option Nat} (ho : b0 ≤ o ∧ o < b0 + n) (hoo : h o = RA E N' f) (hv : b0 ≤ v ∧ v < b0 + n) (hvo : h v = .inr (6, fs)) (hN : N' ≤ 2147483648) (hd : DC M.2.1 pc .aastore 1 pc') (hx : inB z N')
    (kk : G l E b0 M X Z c1 c2 n (fun q => if q = o then RA E N' (va_up f z.toNat (some v)) else h q) pc' L st) : G l E b0 M X Z c1 c2 n h pc L (.ref v :: vI z :: .ref o :: st) := by
  intro p e s m args below meth c C hX hb H locs ls hR hS hl
  obtain ⟨hd, rfl⟩ := hd
  have hat := hR.2 o ho.1 ho.2
  rw [hoo] at hat
  obtain ⟨hin, hcl⟩ := inB_in hx hN
  have hrow := hR.2 v hv.1 hv.2
  rw [hvo] at hrow
  have hc : vwCl[6]? = some (RX6, TX6, 10) := rfl
  obtain ⟨r', hr', cellV, g1, g2, g3, -⟩ := hrow
  have hK := C.2.2.2.2.2.2.2.1.1
  have hcls := (hK.1 6 _ hc).2
  obtain ⟨kA, comp, k1, k2, k3, -⟩ := (hK.2 4 _ rfl).2
  have hcomp : comp = E.1.1 6 := Option.some.inj (k3.symm.trans hcls.1)
  subst hcomp
  obtain ⟨kC, hkC, -⟩ := hcls.2
  have h0 : ¬ Int32.ofInt z < 0 := fun q => hin (Or.inl q)
  have hlt : (Int32.ofInt z).toNatClampNeg < N' := Nat.not_le.mp fun q => hin (Or.inr q)
  refine W.aast C.1 C.2.1 hat (fun q h => by cases h) (fun h => by cases h) k1 k2 rfl hkC ⟨h0, by show _ < (arrV _ _ _).slots.size; rw [arrV_size]; exact hlt⟩ g1 (fun q h => by rw [g3] at h; cases h) (by rw [g2]; exact hkC) (by rw [g2]; exact va_assign hcls) rfl rfl hd fun H1 e1 e2 e3 => ?_
  refine kk p e s m args below meth c C hX hb H1 _ ls ?_ (hS.put e2 e3 ho.1) hl
  refine RH_upd hR e2 e3 ?_
  show H1[o]? = some (vp_cell _ _)
  rw [e1]
  show some ((arrV _ N' (fun j => va_rf (f j))).setSlot _ _) = some (arrV _ N' (fun j => va_rf (va_up f z.toNat (some v) j)))
  rw [arrV_store, hcl]
  congr 2
  funext q
  by_cases hq : q = Int.toNat z
  · subst hq
    simp [updV, va_up, va_rf]
  · simp [updV, va_up, hq]
theorem c_newR {N idx : Nat} (hz : z = (N : Int)) (hN : N ≤ 1000000) (hw : Cond.classLink M.2.2.2.2.2 idx "SlidingFlaws$Row" ∈ GW) (hd : DC M.2.1 pc (.anewarray idx) 3 pc') (hf : c1 + 1 ≤ M.2.2.2.2.1.cells ∧ c2 + N ≤ M.2.2.2.2.1.slots) (m : Nat) (hm : es.length = m) (hl : a + m = b0 + n)
    (kk : G l E b0 M X Z (c1 + 1) (c2 + N) (n + 1) (lay a (es ++ [RA E N (fun _ => none)]) h) pc' L (.ref (a + m) :: st)) : G l E b0 M X Z c1 c2 n (lay a es h) pc L (vI z :: st) := by
  subst hz
  refine g_newR hN hw hd hf ?_
  rw [lay_push (by rw [hm]; exact hl), ← hl]
  exact kk
theorem c_ast (i j : Nat) {N' : Nat} {fs : List Value} {f : Nat → Option Nat} (hi : b0 ≤ a + i ∧ a + i < b0 + n) (he : es[i]? = some (RA E N' f)) (hj : b0 ≤ a + j ∧ a + j < b0 + n) (hej : es[j]? = some (.inr (6, fs))) (hes : es.set i (RA E N' (va_up f z.toNat (some (a + j)))) = es') (hN : N' ≤ 2147483648) (hd : DC M.2.1 pc .aastore 1 pc') (hx : inB z N')
    (kk : G l E b0 M X Z c1 c2 n (lay a es' h) pc' L st) : G l E b0 M X Z c1 c2 n (lay a es h) pc L (.ref (a + j) :: vI z :: .ref (a + i) :: st) := by
  have hlt : i < es.length := (List.getElem?_eq_some_iff.mp he).1
  refine g_astO hi (lay_at he) hj (lay_at hej) hN hd hx ?_
  rw [lay_set hlt, hes]
  exact kk
end GC

section GN
variable {l : Launch} {E : EE} {b0 : Nat} {M : MB} {X : State → Prop} {Z : ZT} {c1 c2 n n' pc pc' : Nat} {h h0 h' : AH} {L : LL} {st : List Value} {a x z : Int} {ρ : Type} {r : ρ} {B : Option ρ} {as : List Nat} {es es' : List va_E} {o : Nat}
/-- one more cell, at the end -/
def pu (h : AH) (a : Nat) (e : va_E) : AH := fun q => if q = a then e else h q
theorem RH_push {H H1 : Heap} {e' : va_E} (hR : RH E b0 n h H) (z : H1.size = H.size + 1) (oq : ∀ q : Nat, q < H.size → H1[q]? = H[q]?) (he : va_at E.1 vwCl (b0 + n, e') H1) : RH E b0 (n + 1) (pu h (b0 + n) e') H1 := by
  refine ⟨by rw [z, hR.1]; rfl, fun q h1 h2 => ?_⟩
  by_cases hq : q = b0 + n
  · subst hq
    show va_at E.1 vwCl (_, if _ then _ else _) H1
    rw [if_pos rfl]
    exact he
  · show va_at E.1 vwCl (_, if _ then _ else _) H1
    rw [if_neg hq]
    exact (hR.2 q h1 (by omega)).kept (oq q (by rw [hR.1]; show q < b0 + n; omega))
theorem VS_push {A : Nat → Prop} {H0 H H1 : Heap} {locs : List Loc} (hS : va_S A H0 H locs) (z : H1.size = H.size + 1) (oq : ∀ q : Nat, q < H.size → H1[q]? = H[q]?) : va_S A H0 H1 locs :=
  ⟨Nat.le_trans hS.1 (by omega), fun x h1 h2 => (oq x (Nat.lt_of_lt_of_le h1 hS.1)).trans (hS.2.1 x h1 h2), hS.2.2⟩
/-- new: words of the class -/
def NW (own : String) (idx ci N : Nat) (fs : List Value) : Prop := ∃ (C : String) (T : u_T) (ty : Nat → FieldType), vwCl[ci]? = some (C, T, N) ∧ Cond.classLink own idx C ∈ GW ∧ Cond.instantiable C N ∈ GW ∧ Cond.initialized C ∈ GW ∧ (∀ k, k < N → parseFieldDescriptor (T k).2.2.1 = some (ty k)) ∧ ∀ j, j < N → defaultValue (ty j) = vp_V fs j
theorem g_new {idx ci N : Nat} {fs : List Value} (hn : NW M.2.2.2.2.2 idx ci N fs) (hd : DC M.2.1 pc (.new idx) 3 pc') (hf : c1 + 1 ≤ M.2.2.2.2.1.cells ∧ c2 + N ≤ M.2.2.2.2.1.slots)
    (kk : G l E b0 M X Z (c1 + 1) (c2 + N) (n + 1) (pu h (b0 + n) (.inr (ci, fs))) pc' L (.ref (b0 + n) :: st)) : G l E b0 M X Z c1 c2 n h pc L st := by
  intro p e s m args below meth c C hX hb H locs ls hR hS hl
  obtain ⟨hd, rfl⟩ := hd
  obtain ⟨Cn, T, ty, f1, f2, f3, f4, f5, f6⟩ := hn
  have hts := C.2.2.2.2.2.1
  have hKn := C.2.2.2.2.2.2.2.1.1.1 ci _ f1
  refine W.newcK C.1 C.2.1 C.2.2.2.2.1 (hts _ f2) (hts _ f3) (hts _ f4) rfl hd hf.1 hf.2 hKn.2.1 hR.1 fun H1 kC hkC e1 z1 o1 => ?_
  refine kk p e s m args below meth c C hX hb H1 locs ls (RH_push hR (by rw [z1, hR.1]) (fun q hq => o1 q (by rw [hR.1] at hq; exact hq)) ⟨_, f1, (u_born ty hts (tk_all f1).1 hKn hkC e1 f5).to f6⟩) (VS_push hS (by rw [z1, hR.1]) (fun q hq => o1 q (by rw [hR.1] at hq; exact hq))) hl
theorem arr_same {s : State} {ty : FieldType} {i : Nat} (hK : va_K E.1 vwCl (TY E) s) (ht : (TY E)[i]? = some (E.2.1 i, ty)) {cA : ClassId} (hno : ∀ C, ty ≠ .object C) (hc : s.vm.findClass ("[" ++ ty.toString) = some cA) : cA = E.2.1 i := by
  have h := (hK.2 i _ ht).2
  unfold va_RA at h
  cases ty with
  | object C => exact absurd rfl (hno C)
  | _ => exact Option.some.inj (hc.symm.trans h)

theorem g_newI {N : Nat} (hN : N ≤ 1000000) (hw : Cond.arrayClass .int ∈ GW) (hd : DC M.2.1 pc (.newarray .int) 2 pc') (hf : c1 + 1 ≤ M.2.2.2.2.1.cells ∧ c2 + N ≤ M.2.2.2.2.1.slots)
    (kk : G l E b0 M X Z (c1 + 1) (c2 + N) (n + 1) (pu h (b0 + n) (IA E N (fun _ => 0))) pc' L (.ref (b0 + n) :: st)) : G l E b0 M X Z c1 c2 n h pc L (vI (N : Int) :: st) := by
  intro p e s m args below meth c C hX hb H locs ls hR hS hl
  obtain ⟨hd, rfl⟩ := hd
  have hts := C.2.2.2.2.2.1
  have hi : inI (N : Int) := ⟨by omega, by omega⟩
  have hc : (Int32.ofInt (N : Int)).toNatClampNeg = N := by rw [ofI_clamp hi]; rfl
  have h8 : componentBytes .int ≤ 8 := by decide
  have hby : N * componentBytes .int ≤ 536870912 := Nat.le_trans (Nat.mul_le_mul hN h8) (Nat.le_of_ble_eq_true rfl)
  refine va_newaK (atype := .int) C.1 C.2.1 (hts _ hw) rfl hd rfl (n := Int32.ofInt (N : Int)) (by rw [← ofI_0, ofI_lt hi inI_0]; omega) hc hby hf.1 hf.2 hR.1 fun H1 cA e1 z1 o1 hAr hNm => ?_
  have hcA : cA = E.2.1 0 := arr_same (ty := .int) C.2.2.2.2.2.2.2.1.1 rfl (fun C h => by cases h) hNm
  subst hcA
  exact kk p e s m args below meth c C hX hb H1 locs ls (RH_push hR (by rw [z1, hR.1]) (fun q hq => o1 q (by rw [hR.1] at hq; exact hq)) e1) (VS_push hS (by rw [z1, hR.1]) (fun q hq => o1 q (by rw [hR.1] at hq; exact hq))) hl
theorem g_newJ {N : Nat} (hN : N ≤ 1000000) (hw : Cond.arrayClass .long ∈ GW) (hd : DC M.2.1 pc (.newarray .long) 2 pc') (hf : c1 + 1 ≤ M.2.2.2.2.1.cells ∧ c2 + N ≤ M.2.2.2.2.1.slots)
    (kk : G l E b0 M X Z (c1 + 1) (c2 + N) (n + 1) (pu h (b0 + n) (JA E N (fun _ => 0))) pc' L (.ref (b0 + n) :: st)) : G l E b0 M X Z c1 c2 n h pc L (vI (N : Int) :: st) := by
  intro p e s m args below meth c C hX hb H locs ls hR hS hl
  obtain ⟨hd, rfl⟩ := hd
  have hts := C.2.2.2.2.2.1
  have hi : inI (N : Int) := ⟨by omega, by omega⟩
  have hc : (Int32.ofInt (N : Int)).toNatClampNeg = N := by rw [ofI_clamp hi]; rfl
  have h8 : componentBytes .long ≤ 8 := by decide
  have hby : N * componentBytes .long ≤ 536870912 := Nat.le_trans (Nat.mul_le_mul hN h8) (Nat.le_of_ble_eq_true rfl)
  refine va_newaK (atype := .long) C.1 C.2.1 (hts _ hw) rfl hd rfl (n := Int32.ofInt (N : Int)) (by rw [← ofI_0, ofI_lt hi inI_0]; omega) hc hby hf.1 hf.2 hR.1 fun H1 cA e1 z1 o1 hAr hNm => ?_
  have hcA : cA = E.2.1 1 := arr_same (ty := .long) C.2.2.2.2.2.2.2.1.1 rfl (fun C h => by cases h) hNm
  subst hcA
  exact kk p e s m args below meth c C hX hb H1 locs ls (RH_push hR (by rw [z1, hR.1]) (fun q hq => o1 q (by rw [hR.1] at hq; exact hq)) e1) (VS_push hS (by rw [z1, hR.1]) (fun q hq => o1 q (by rw [hR.1] at hq; exact hq))) hl
theorem g_newZ {N : Nat} (hN : N ≤ 1000000) (hw : Cond.arrayClass .boolean ∈ GW) (hd : DC M.2.1 pc (.newarray .boolean) 2 pc') (hf : c1 + 1 ≤ M.2.2.2.2.1.cells ∧ c2 + N ≤ M.2.2.2.2.1.slots)
    (kk : G l E b0 M X Z (c1 + 1) (c2 + N) (n + 1) (pu h (b0 + n) (ZA E N (fun _ => 0))) pc' L (.ref (b0 + n) :: st)) : G l E b0 M X Z c1 c2 n h pc L (vI (N : Int) :: st) := by
  intro p e s m args below meth c C hX hb H locs ls hR hS hl
  obtain ⟨hd, rfl⟩ := hd
  have hts := C.2.2.2.2.2.1
  have hi : inI (N : Int) := ⟨by omega, by omega⟩
  have hc : (Int32.ofInt (N : Int)).toNatClampNeg = N := by rw [ofI_clamp hi]; rfl
  have h8 : componentBytes .boolean ≤ 8 := by decide
  have hby : N * componentBytes .boolean ≤ 536870912 := Nat.le_trans (Nat.mul_le_mul hN h8) (Nat.le_of_ble_eq_true rfl)
  refine va_newaK (atype := .boolean) C.1 C.2.1 (hts _ hw) rfl hd rfl (n := Int32.ofInt (N : Int)) (by rw [← ofI_0, ofI_lt hi inI_0]; omega) hc hby hf.1 hf.2 hR.1 fun H1 cA e1 z1 o1 hAr hNm => ?_
  have hcA : cA = E.2.1 2 := arr_same (ty := .boolean) C.2.2.2.2.2.2.2.1.1 rfl (fun C h => by cases h) hNm
  subst hcA
  exact kk p e s m args below meth c C hX hb H1 locs ls (RH_push hR (by rw [z1, hR.1]) (fun q hq => o1 q (by rw [hR.1] at hq; exact hq)) e1) (VS_push hS (by rw [z1, hR.1]) (fun q hq => o1 q (by rw [hR.1] at hq; exact hq))) hl
theorem g_newY {N : Nat} (hN : N ≤ 1000000) (hw : Cond.arrayClass .byte ∈ GW) (hd : DC M.2.1 pc (.newarray .byte) 2 pc') (hf : c1 + 1 ≤ M.2.2.2.2.1.cells ∧ c2 + N ≤ M.2.2.2.2.1.slots)
    (kk : G l E b0 M X Z (c1 + 1) (c2 + N) (n + 1) (pu h (b0 + n) (YA E N (fun _ => 0))) pc' L (.ref (b0 + n) :: st)) : G l E b0 M X Z c1 c2 n h pc L (vI (N : Int) :: st) := by
  intro p e s m args below meth c C hX hb H locs ls hR hS hl
  obtain ⟨hd, rfl⟩ := hd
  have hts := C.2.2.2.2.2.1
  have hi : inI (N : Int) := ⟨by omega, by omega⟩
  have hc : (Int32.ofInt (N : Int)).toNatClampNeg = N := by rw [ofI_clamp hi]; rfl
  have h8 : componentBytes .byte ≤ 8 := by decide
  have hby : N * componentBytes .byte ≤ 536870912 := Nat.le_trans (Nat.mul_le_mul hN h8) (Nat.le_of_ble_eq_true rfl)
  refine va_newaK (atype := .byte) C.1 C.2.1 (hts _ hw) rfl hd rfl (n := Int32.ofInt (N : Int)) (by rw [← ofI_0, ofI_lt hi inI_0]; omega) hc hby hf.1 hf.2 hR.1 fun H1 cA e1 z1 o1 hAr hNm => ?_
  have hcA : cA = E.2.1 3 := arr_same (ty := .byte) C.2.2.2.2.2.2.2.1.1 rfl (fun C h => by cases h) hNm
  subst hcA
  exact kk p e s m args below meth c C hX hb H1 locs ls (RH_push hR (by rw [z1, hR.1]) (fun q hq => o1 q (by rw [hR.1] at hq; exact hq)) e1) (VS_push hS (by rw [z1, hR.1]) (fun q hq => o1 q (by rw [hR.1] at hq; exact hq))) hl
theorem g_objInit {idx : Nat} (hw : Cond.methodLink M.2.2.2.2.2 idx Lib.objectInit ∈ GW ∧ Cond.instanceMethod Lib.objectInit ∈ GW ∧ Cond.code Lib.objectInit ⟨#[0xb1]⟩ 1 none ∈ GW) (hd : DC M.2.1 pc (.invokespecial idx) 3 pc') (hf : 1 ≤ M.2.2.2.2.1.frames) (hlo : (st.map fun v => v.category).sum + 12 ≤ M.2.2.2.2.1.locals)
    (kk : G l E b0 M X Z c1 c2 n h pc' L st) : G l E b0 M X Z c1 c2 n h pc L (.ref o :: st) := by
  intro p e s m args below meth c C hX hb H locs ls hR hS hl
  obtain ⟨hd, rfl⟩ := hd
  have hts := C.2.2.2.2.2.1
  exact W.objInit C.1 C.2.1 C.2.2.2.2.1 (hts _ hw.1) (hts _ hw.2.1) (hts _ hw.2.2) rfl (hl.1.trans C.2.2.1.symm) rfl hd hf (by show 2 * 0 + _ + 12 ≤ _; omega) (kk p e s m args below meth c C hX hb H locs ls hR hS hl)
/-- Math -/
theorem g_max {idx : Nat} (hw : Cond.methodLink M.2.2.2.2.2 idx Lib.Math.max.name ∈ GW ∧ Cond.static Lib.Math.max.name ∈ GW ∧ Cond.initialized "java/lang/Math" ∈ GW ∧ Cond.code Lib.Math.max.name Lib.Math.max.code 2 (some .int) ∈ GW) (hd : DC M.2.1 pc (.invokestatic idx) 3 pc') (hf : 1 ≤ M.2.2.2.2.1.frames ∧ c1 ≤ M.2.2.2.2.1.cells ∧ c2 ≤ M.2.2.2.2.1.slots) (hlo : (st.map fun v => v.category).sum + 13 ≤ M.2.2.2.2.1.locals) (ha : inI a) (hx : inI x)
    (kk : G l E b0 M X Z c1 c2 n h pc' L (vI (if a < x then x else a) :: st)) : G l E b0 M X Z c1 c2 n h pc L (vI x :: vI a :: st) := by
  intro p e s m args below meth c C hX hb H locs ls hR hS hl
  obtain ⟨hd, rfl⟩ := hd
  have hts := C.2.2.2.2.2.1
  have kk := kk p e s m args below meth c C hX hb H locs ls hR hS hl
  refine va_mmax C.1 C.2.1 (C.2.2.1.trans hl.1.symm) C.2.2.2.2.1 (hts _ hw.1) (hts _ hw.2.1) (hts _ hw.2.2.1) (hts _ hw.2.2.2) hf.1 hlo hf.2.1 hf.2.2 hd ?_
  rw [show (Value.int (if Int32.ofInt a < Int32.ofInt x then Int32.ofInt x else Int32.ofInt a)) = vI (if a < x then x else a) by simp only [ofI_lt ha hx]; split <;> rfl]
  exact kk
theorem g_min {idx : Nat} (hw : Cond.methodLink M.2.2.2.2.2 idx Lib.Math.min.name ∈ GW ∧ Cond.static Lib.Math.min.name ∈ GW ∧ Cond.initialized "java/lang/Math" ∈ GW ∧ Cond.code Lib.Math.min.name Lib.Math.min.code 2 (some .int) ∈ GW) (hd : DC M.2.1 pc (.invokestatic idx) 3 pc') (hf : 1 ≤ M.2.2.2.2.1.frames ∧ c1 ≤ M.2.2.2.2.1.cells ∧ c2 ≤ M.2.2.2.2.1.slots) (hlo : (st.map fun v => v.category).sum + 13 ≤ M.2.2.2.2.1.locals) (ha : inI a) (hx : inI x)
    (kk : G l E b0 M X Z c1 c2 n h pc' L (vI (if x < a then x else a) :: st)) : G l E b0 M X Z c1 c2 n h pc L (vI x :: vI a :: st) := by
  intro p e s m args below meth c C hX hb H locs ls hR hS hl
  obtain ⟨hd, rfl⟩ := hd
  have hts := C.2.2.2.2.2.1
  have kk := kk p e s m args below meth c C hX hb H locs ls hR hS hl
  refine va_mmin C.1 C.2.1 (C.2.2.1.trans hl.1.symm) C.2.2.2.2.1 (hts _ hw.1) (hts _ hw.2.1) (hts _ hw.2.2.1) (hts _ hw.2.2.2) hf.1 hlo hf.2.1 hf.2.2 hd ?_
  rw [show (Value.int (if Int32.ofInt x < Int32.ofInt a then Int32.ofInt x else Int32.ofInt a)) = vI (if x < a then x else a) by simp only [ofI_lt hx ha]; split <;> rfl]
  exact kk
theorem g_abs {idx : Nat} (hw : Cond.methodLink M.2.2.2.2.2 idx Lib.Math.abs.name ∈ GW ∧ Cond.static Lib.Math.abs.name ∈ GW ∧ Cond.initialized "java/lang/Math" ∈ GW ∧ Cond.code Lib.Math.abs.name Lib.Math.abs.code 1 (some .int) ∈ GW) (hd : DC M.2.1 pc (.invokestatic idx) 3 pc') (hf : 1 ≤ M.2.2.2.2.1.frames ∧ c1 ≤ M.2.2.2.2.1.cells ∧ c2 ≤ M.2.2.2.2.1.slots) (hlo : (st.map fun v => v.category).sum + 13 ≤ M.2.2.2.2.1.locals) (ha : inI a)
    (kk : G l E b0 M X Z c1 c2 n h pc' L (vI (if 0 ≤ a then a else 0 - a) :: st)) : G l E b0 M X Z c1 c2 n h pc L (vI a :: st) := by
  intro p e s m args below meth c C hX hb H locs ls hR hS hl
  obtain ⟨hd, rfl⟩ := hd
  have hts := C.2.2.2.2.2.1
  have kk := kk p e s m args below meth c C hX hb H locs ls hR hS hl
  refine va_mabs C.1 C.2.1 (C.2.2.1.trans hl.1.symm) C.2.2.2.2.1 (hts _ hw.1) (hts _ hw.2.1) (hts _ hw.2.2.1) (hts _ hw.2.2.2) hf.1 hlo hf.2.1 hf.2.2 hd ?_
  rw [show (Value.int (if 0 ≤ Int32.ofInt a then Int32.ofInt a else 0 - Int32.ofInt a)) = vI (if 0 ≤ a then a else 0 - a) by
    rw [← ofI_0]
    simp only [ofI_le inI_0 ha]
    split
    · rfl
    · rw [vI_sub]]
  exact kk
end GN

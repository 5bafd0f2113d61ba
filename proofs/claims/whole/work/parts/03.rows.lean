/-! ===== numbers ===== -/
theorem ofI_toInt {a : Int} (h : inI a) : (Int32.ofInt a).toInt = a := Int32.toInt_ofInt_of_le (by have := h.1; omega) (by have := h.2; omega)
theorem ofJ_toInt {a : Int} (h : inJ a) : (Int64.ofInt a).toInt = a := Int64.toInt_ofInt_of_le (by have := h.1; omega) (by have := h.2; omega)
theorem ofI_lt {a b : Int} (ha : inI a) (hb : inI b) : Int32.ofInt a < Int32.ofInt b ↔ a < b := by rw [Int32.lt_iff_toInt_lt, ofI_toInt ha, ofI_toInt hb]
theorem ofI_le {a b : Int} (ha : inI a) (hb : inI b) : Int32.ofInt a ≤ Int32.ofInt b ↔ a ≤ b := by rw [Int32.le_iff_toInt_le, ofI_toInt ha, ofI_toInt hb]
theorem ofI_eq {a b : Int} (ha : inI a) (hb : inI b) : Int32.ofInt a = Int32.ofInt b ↔ a = b := by rw [← Int32.toInt_inj, ofI_toInt ha, ofI_toInt hb]
theorem ofJ_lt {a b : Int} (ha : inJ a) (hb : inJ b) : Int64.ofInt a < Int64.ofInt b ↔ a < b := by rw [Int64.lt_iff_toInt_lt, ofJ_toInt ha, ofJ_toInt hb]
theorem ofJ_le {a b : Int} (ha : inJ a) (hb : inJ b) : Int64.ofInt a ≤ Int64.ofInt b ↔ a ≤ b := by rw [Int64.le_iff_toInt_le, ofJ_toInt ha, ofJ_toInt hb]
theorem ofJ_eq {a b : Int} (ha : inJ a) (hb : inJ b) : Int64.ofInt a = Int64.ofInt b ↔ a = b := by rw [← Int64.toInt_inj, ofJ_toInt ha, ofJ_toInt hb]
theorem ofI_0 : Int32.ofInt 0 = 0 := rfl
theorem inI_0 : inI 0 := ⟨by decide, by decide⟩
theorem ofI_clamp {a : Int} (h : inI a) : (Int32.ofInt a).toNatClampNeg = a.toNat := by
  rw [Int32.toNatClampNeg_ofInt_of_le (by have := h.1; omega) (by have := h.2; omega)]
theorem inI_of32 (x : Int32) : inI x.toInt := ⟨by have := x.le_toInt; omega, by have := x.toInt_lt; omega⟩
theorem inJ_of64 (x : Int64) : inJ x.toInt := ⟨by have := x.le_toInt; omega, by have := x.toInt_lt; omega⟩
theorem inB_in {x : Int} {n : Nat} (h : inB x n) (hn : n ≤ 2147483648) : vp_in (Int32.ofInt x) n ∧ (Int32.ofInt x).toNatClampNeg = x.toNat := by
  have hi : inI x := ⟨by have := h.1; omega, by have := h.2; omega⟩
  have hc := ofI_clamp hi
  refine ⟨?_, hc⟩
  rintro (h1 | h1)
  · rw [← ofI_0, ofI_lt hi inI_0] at h1
    exact absurd h.1 (by omega)
  · rw [hc] at h1
    have := h.1
    have := h.2
    omega

theorem vI_add (a b : Int) : vI (a + b) = .int (Int32.ofInt a + Int32.ofInt b) := congrArg Value.int (Int32.ofInt_add a b)
theorem vJ_add (a b : Int) : vJ (a + b) = .long (Int64.ofInt a + Int64.ofInt b) := congrArg Value.long (Int64.ofInt_add a b)
theorem vI_sub (a b : Int) : vI (a - b) = .int (Int32.ofInt a - Int32.ofInt b) := congrArg Value.int (Int32.ofInt_sub a b)
theorem vJ_sub (a b : Int) : vJ (a - b) = .long (Int64.ofInt a - Int64.ofInt b) := congrArg Value.long (Int64.ofInt_sub a b)
theorem vI_mul (a b : Int) : vI (a * b) = .int (Int32.ofInt a * Int32.ofInt b) := congrArg Value.int (Int32.ofInt_mul a b)
theorem vJ_mul (a b : Int) : vJ (a * b) = .long (Int64.ofInt a * Int64.ofInt b) := congrArg Value.long (Int64.ofInt_mul a b)
theorem vI_neg (a : Int) : vI (-a) = .int (-Int32.ofInt a) := congrArg Value.int (Int32.ofInt_neg a)
theorem vJ_neg (a : Int) : vJ (-a) = .long (-Int64.ofInt a) := congrArg Value.long (Int64.ofInt_neg a)
theorem vI_of (x : Int32) : vI x.toInt = .int x := congrArg Value.int (Int32.ofInt_toInt x)
theorem vJ_of (x : Int64) : vJ x.toInt = .long x := congrArg Value.long (Int64.ofInt_toInt x)
def bAnd (a b : Int) : Int := (Int32.ofInt a &&& Int32.ofInt b).toInt
theorem bAnd_I (a b : Int) : inI (bAnd a b) := inI_of32 _
def bOr (a b : Int) : Int := (Int32.ofInt a ||| Int32.ofInt b).toInt
theorem bOr_I (a b : Int) : inI (bOr a b) := inI_of32 _
def bXor (a b : Int) : Int := (Int32.ofInt a ^^^ Int32.ofInt b).toInt
theorem bXor_I (a b : Int) : inI (bXor a b) := inI_of32 _
def bShl (a b : Int) : Int := (Int32.ofInt a <<< (Int32.ofInt b &&& 31)).toInt
theorem bShl_I (a b : Int) : inI (bShl a b) := inI_of32 _
def bShr (a b : Int) : Int := (Int32.ofInt a >>> (Int32.ofInt b &&& 31)).toInt
theorem bShr_I (a b : Int) : inI (bShr a b) := inI_of32 _
def bUshr (a b : Int) : Int := (((Int32.ofInt a).toUInt32 >>> ((Int32.ofInt b).toUInt32 &&& Int32.toUInt32 31)).toInt32).toInt
theorem bUshr_I (a b : Int) : inI (bUshr a b) := inI_of32 _
def bByte (a : Int) : Int := ((Int32.ofInt a).toInt8.toInt32).toInt
theorem bByte_I (a : Int) : inI (bByte a) := inI_of32 _
def jAnd (a b : Int) : Int := (Int64.ofInt a &&& Int64.ofInt b).toInt
theorem jAnd_J (a b : Int) : inJ (jAnd a b) := inJ_of64 _
def jOr (a b : Int) : Int := (Int64.ofInt a ||| Int64.ofInt b).toInt
theorem jOr_J (a b : Int) : inJ (jOr a b) := inJ_of64 _
def jXor (a b : Int) : Int := (Int64.ofInt a ^^^ Int64.ofInt b).toInt
theorem jXor_J (a b : Int) : inJ (jXor a b) := inJ_of64 _
def jShl (a b : Int) : Int := (Int64.ofInt a <<< ((Int32.ofInt b).toInt64 &&& 63)).toInt
theorem jShl_J (a b : Int) : inJ (jShl a b) := inJ_of64 _
def jShr (a b : Int) : Int := (Int64.ofInt a >>> ((Int32.ofInt b).toInt64 &&& 63)).toInt
theorem jShr_J (a b : Int) : inJ (jShr a b) := inJ_of64 _
def jUshr (a b : Int) : Int := (((Int64.ofInt a).toUInt64 >>> ((Int32.ofInt b).toInt64.toUInt64 &&& Int64.toUInt64 63)).toInt64).toInt
theorem jUshr_J (a b : Int) : inJ (jUshr a b) := inJ_of64 _
theorem vI_tdiv {a b : Int} (ha : inI a) (hb : inI b) : vI (a.tdiv b) = .int (Int32.ofInt a / Int32.ofInt b) := by
  refine congrArg Value.int ?_
  rw [← Int32.toInt_inj, Int32.toInt_div, ofI_toInt ha, ofI_toInt hb, Int32.toInt_ofInt]
theorem vJ_tdiv {a b : Int} (ha : inJ a) (hb : inJ b) : vJ (a.tdiv b) = .long (Int64.ofInt a / Int64.ofInt b) := by
  refine congrArg Value.long ?_
  rw [← Int64.toInt_inj, Int64.toInt_div, ofJ_toInt ha, ofJ_toInt hb, Int64.toInt_ofInt]
theorem tmod_eq (a b : Int) : a.tmod b = a - a.tdiv b * b := by
  have := Int.tmod_add_mul_tdiv a b
  rw [Int.mul_comm b] at this
  omega
theorem vI_tmod {a b : Int} (ha : inI a) (hb : inI b) : vI (a.tmod b) = .int (Int32.ofInt a - Int32.ofInt a / Int32.ofInt b * Int32.ofInt b) := by
  have h := vI_tdiv ha hb
  unfold vI at h ⊢
  rw [tmod_eq, Int32.ofInt_sub, Int32.ofInt_mul, Value.int.inj h]
theorem vJ_tmod {a b : Int} (ha : inJ a) (hb : inJ b) : vJ (a.tmod b) = .long (Int64.ofInt a - Int64.ofInt a / Int64.ofInt b * Int64.ofInt b) := by
  have h := vJ_tdiv ha hb
  unfold vJ at h ⊢
  rw [tmod_eq, Int64.ofInt_sub, Int64.ofInt_mul, Value.long.inj h]
theorem ofI_i2l {a : Int} (h : inI a) : (Int32.ofInt a).toInt64 = Int64.ofInt a := by
  rw [← Int64.toInt_inj, Int32.toInt_toInt64, ofI_toInt h, ofJ_toInt (inI_J h)]
section GR
variable {l : Launch} {E : EE} {b0 : Nat} {M : MB} {X : State → Prop} {Z : ZT} {c1 c2 n pc pc' tgt : Nat} {h : AH} {L L' : LL} {st : List Value} {a b : Int} {ρ : Type} {r : ρ} {A B : Option ρ}
/-- the cells and slots counted so far may be rounded up -/
theorem g_widen {k1 k2 : Nat} (h1 : c1 ≤ k1) (h2 : c2 ≤ k2) (k : G l E b0 M X Z k1 k2 n h pc L st) : G l E b0 M X Z c1 c2 n h pc L st :=
  fun p e s m args below meth c C hX hb H locs ls hR hS hl => W.widen h1 h2 (k p e s m args below meth c C hX hb H locs ls hR hS hl)
/-- fewer locals -/
theorem g_drop (L' : LL) (hs : ∀ q ∈ lc 0 L', q ∈ lc 0 L) (k : G l E b0 M X Z c1 c2 n h pc L' st) : G l E b0 M X Z c1 c2 n h pc L st :=
  fun p e s m args below meth c C hX hb H locs ls hR hS hl => k p e s m args below meth c C hX hb H locs ls hR hS (hl.sub hs)

theorem g_iconst (hd : DC M.2.1 pc (.iconst a) 1 pc') (k : G l E b0 M X Z c1 c2 n h pc' L (vI a :: st)) : G l E b0 M X Z c1 c2 n h pc L (st) := by
  intro p e s m args below meth c C hX hb H locs ls hR hS hl
  obtain ⟨hd, rfl⟩ := hd
  have k := k p e s m args below meth c C hX hb H locs ls hR hS hl
  exact lv_iconst C.1 C.2.1 hd rfl k
theorem g_bipush (hd : DC M.2.1 pc (.bipush a) 2 pc') (hv : (Int8.ofInt a).toInt32 = Int32.ofInt a) (k : G l E b0 M X Z c1 c2 n h pc' L (vI a :: st)) : G l E b0 M X Z c1 c2 n h pc L (st) := by
  intro p e s m args below meth c C hX hb H locs ls hR hS hl
  obtain ⟨hd, rfl⟩ := hd
  have k := k p e s m args below meth c C hX hb H locs ls hR hS hl
  exact lv_bipush C.1 C.2.1 hd hv k
theorem g_sipush (hd : DC M.2.1 pc (.sipush a) 3 pc') (hv : (Int16.ofInt a).toInt32 = Int32.ofInt a) (k : G l E b0 M X Z c1 c2 n h pc' L (vI a :: st)) : G l E b0 M X Z c1 c2 n h pc L (st) := by
  intro p e s m args below meth c C hX hb H locs ls hR hS hl
  obtain ⟨hd, rfl⟩ := hd
  have k := k p e s m args below meth c C hX hb H locs ls hR hS hl
  exact lv_sipush C.1 C.2.1 hd hv k
theorem g_lconst {j : Fin 2} (hd : DC M.2.1 pc (.lconst j) 1 pc') (hv : Int64.ofNat (j : Nat) = Int64.ofInt a) (k : G l E b0 M X Z c1 c2 n h pc' L (vJ a :: st)) : G l E b0 M X Z c1 c2 n h pc L (st) := by
  intro p e s m args below meth c C hX hb H locs ls hR hS hl
  obtain ⟨hd, rfl⟩ := hd
  have k := k p e s m args below meth c C hX hb H locs ls hR hS hl
  exact lv_lconst C.1 C.2.1 hd hv k
theorem g_ldc {idx : Nat} (hd : DC M.2.1 pc (.ldc idx) 2 pc') (hw : Cond.constant M.2.2.2.2.2 idx (Int32.ofInt a) ∈ GW) (k : G l E b0 M X Z c1 c2 n h pc' L (vI a :: st)) : G l E b0 M X Z c1 c2 n h pc L (st) := by
  intro p e s m args below meth c C hX hb H locs ls hR hS hl
  obtain ⟨hd, rfl⟩ := hd
  have k := k p e s m args below meth c C hX hb H locs ls hR hS hl
  exact lv_ldc C.1 C.2.1 C.2.2.2.2.1 (C.2.2.2.2.2.1 _ hw) hd k
theorem g_ldcw {idx : Nat} (hd : DC M.2.1 pc (.ldc_w idx) 3 pc') (hw : Cond.constant M.2.2.2.2.2 idx (Int32.ofInt a) ∈ GW) (k : G l E b0 M X Z c1 c2 n h pc' L (vI a :: st)) : G l E b0 M X Z c1 c2 n h pc L (st) := by
  intro p e s m args below meth c C hX hb H locs ls hR hS hl
  obtain ⟨hd, rfl⟩ := hd
  have k := k p e s m args below meth c C hX hb H locs ls hR hS hl
  exact lv_ldcw C.1 C.2.1 C.2.2.2.2.1 (C.2.2.2.2.2.1 _ hw) hd k
theorem g_ldc2 {idx : Nat} (hd : DC M.2.1 pc (.ldc2_w idx) 3 pc') (hw : Cond.constantLong M.2.2.2.2.2 idx (Int64.ofInt a) ∈ GW) (k : G l E b0 M X Z c1 c2 n h pc' L (vJ a :: st)) : G l E b0 M X Z c1 c2 n h pc L (st) := by
  intro p e s m args below meth c C hX hb H locs ls hR hS hl
  obtain ⟨hd, rfl⟩ := hd
  have k := k p e s m args below meth c C hX hb H locs ls hR hS hl
  exact lv_ldc2 C.1 C.2.1 C.2.2.2.2.1 (C.2.2.2.2.2.1 _ hw) hd k
theorem g_null (hd : DC M.2.1 pc .aconst_null 1 pc') (k : G l E b0 M X Z c1 c2 n h pc' L (.null :: st)) : G l E b0 M X Z c1 c2 n h pc L (st) := by
  intro p e s m args below meth c C hX hb H locs ls hR hS hl
  obtain ⟨hd, rfl⟩ := hd
  have k := k p e s m args below meth c C hX hb H locs ls hR hS hl
  exact lv_null C.1 C.2.1 hd k
theorem g_iload {i : Nat} (hd : DC M.2.1 pc (.iload i) 2 pc') (hv : L[i]? = some (some (vI a))) (k : G l E b0 M X Z c1 c2 n h pc' L (vI a :: st)) : G l E b0 M X Z c1 c2 n h pc L (st) := by
  intro p e s m args below meth c C hX hb H locs ls hR hS hl
  obtain ⟨hd, rfl⟩ := hd
  have k := k p e s m args below meth c C hX hb H locs ls hR hS hl
  exact lv_iload C.1 C.2.1 hd (lc_get hl hv) k
theorem g_iload_n {i : Fin 4} (hd : DC M.2.1 pc (.iload_n i) 1 pc') (hv : L[(i : Nat)]? = some (some (vI a))) (k : G l E b0 M X Z c1 c2 n h pc' L (vI a :: st)) : G l E b0 M X Z c1 c2 n h pc L (st) := by
  intro p e s m args below meth c C hX hb H locs ls hR hS hl
  obtain ⟨hd, rfl⟩ := hd
  have k := k p e s m args below meth c C hX hb H locs ls hR hS hl
  exact lv_iload_n C.1 C.2.1 hd rfl (lc_get hl hv) k
theorem g_lload {i : Nat} (hd : DC M.2.1 pc (.lload i) 2 pc') (hv : L[i]? = some (some (vJ a))) (k : G l E b0 M X Z c1 c2 n h pc' L (vJ a :: st)) : G l E b0 M X Z c1 c2 n h pc L (st) := by
  intro p e s m args below meth c C hX hb H locs ls hR hS hl
  obtain ⟨hd, rfl⟩ := hd
  have k := k p e s m args below meth c C hX hb H locs ls hR hS hl
  exact lv_lload C.1 C.2.1 hd (lc_get hl hv) k
theorem g_lload_n {i : Fin 4} (hd : DC M.2.1 pc (.lload_n i) 1 pc') (hv : L[(i : Nat)]? = some (some (vJ a))) (k : G l E b0 M X Z c1 c2 n h pc' L (vJ a :: st)) : G l E b0 M X Z c1 c2 n h pc L (st) := by
  intro p e s m args below meth c C hX hb H locs ls hR hS hl
  obtain ⟨hd, rfl⟩ := hd
  have k := k p e s m args below meth c C hX hb H locs ls hR hS hl
  exact lv_lload_n C.1 C.2.1 hd rfl (lc_get hl hv) k
theorem g_aload {i : Nat} {o : Nat} (hd : DC M.2.1 pc (.aload i) 2 pc') (hv : L[i]? = some (some (.ref o))) (k : G l E b0 M X Z c1 c2 n h pc' L (.ref o :: st)) : G l E b0 M X Z c1 c2 n h pc L (st) := by
  intro p e s m args below meth c C hX hb H locs ls hR hS hl
  obtain ⟨hd, rfl⟩ := hd
  have k := k p e s m args below meth c C hX hb H locs ls hR hS hl
  exact lv_aload C.1 C.2.1 hd (lc_get hl hv) k
theorem g_aload_n {i : Fin 4} {o : Nat} (hd : DC M.2.1 pc (.aload_n i) 1 pc') (hv : L[(i : Nat)]? = some (some (.ref o))) (k : G l E b0 M X Z c1 c2 n h pc' L (.ref o :: st)) : G l E b0 M X Z c1 c2 n h pc L (st) := by
  intro p e s m args below meth c C hX hb H locs ls hR hS hl
  obtain ⟨hd, rfl⟩ := hd
  have k := k p e s m args below meth c C hX hb H locs ls hR hS hl
  exact lv_aload_n C.1 C.2.1 hd rfl (lc_get hl hv) k
theorem g_istore {i : Nat} (hd : DC M.2.1 pc (.istore i) 2 pc') (hs : st1 L i (vI a) = L') (hn : (nl2 L i && decide (i < M.2.2.1)) = true) (k : G l E b0 M X Z c1 c2 n h pc' L' st) : G l E b0 M X Z c1 c2 n h pc L (vI a :: st) := by
  intro p e s m args below meth c C hX hb H locs ls hR hS hl
  obtain ⟨hd, rfl⟩ := hd
  subst hs
  rw [Bool.and_eq_true, decide_eq_true_eq] at hn
  exact lv_istore C.1 C.2.1 hd hl hn.2 rfl (fun ls' hl' => k p e s m args below meth c C hX hb H locs ls' hR hS (hl'.sub (st1_sub hn.1)))
theorem g_istore_n {i : Fin 4} (hd : DC M.2.1 pc (.istore_n i) 1 pc') (hs : st1 L (i : Nat) (vI a) = L') (hn : (nl2 L (i : Nat) && decide ((i : Nat) < M.2.2.1)) = true) (k : G l E b0 M X Z c1 c2 n h pc' L' st) : G l E b0 M X Z c1 c2 n h pc L (vI a :: st) := by
  intro p e s m args below meth c C hX hb H locs ls hR hS hl
  obtain ⟨hd, rfl⟩ := hd
  subst hs
  rw [Bool.and_eq_true, decide_eq_true_eq] at hn
  exact lv_istore_n C.1 C.2.1 hd rfl hl hn.2 rfl (fun ls' hl' => k p e s m args below meth c C hX hb H locs ls' hR hS (hl'.sub (st1_sub hn.1)))
theorem g_lstore {i : Nat} (hd : DC M.2.1 pc (.lstore i) 2 pc') (hs : st2 L i (vJ a) = L') (hn : (nl2 L i && decide (i + 1 < M.2.2.1)) = true) (k : G l E b0 M X Z c1 c2 n h pc' L' st) : G l E b0 M X Z c1 c2 n h pc L (vJ a :: st) := by
  intro p e s m args below meth c C hX hb H locs ls hR hS hl
  obtain ⟨hd, rfl⟩ := hd
  subst hs
  rw [Bool.and_eq_true, decide_eq_true_eq] at hn
  exact lv_lstore C.1 C.2.1 hd hl hn.2 rfl (fun ls' hl' => k p e s m args below meth c C hX hb H locs ls' hR hS (hl'.sub (st2_sub hn.1)))
theorem g_lstore_n {i : Fin 4} (hd : DC M.2.1 pc (.lstore_n i) 1 pc') (hs : st2 L (i : Nat) (vJ a) = L') (hn : (nl2 L (i : Nat) && decide ((i : Nat) + 1 < M.2.2.1)) = true) (k : G l E b0 M X Z c1 c2 n h pc' L' st) : G l E b0 M X Z c1 c2 n h pc L (vJ a :: st) := by
  intro p e s m args below meth c C hX hb H locs ls hR hS hl
  obtain ⟨hd, rfl⟩ := hd
  subst hs
  rw [Bool.and_eq_true, decide_eq_true_eq] at hn
  exact lv_lstore_n C.1 C.2.1 hd rfl hl hn.2 rfl (fun ls' hl' => k p e s m args below meth c C hX hb H locs ls' hR hS (hl'.sub (st2_sub hn.1)))
theorem g_astore {i : Nat} {o : Nat} (hd : DC M.2.1 pc (.astore i) 2 pc') (hs : st1 L i (.ref o) = L') (hn : (nl2 L i && decide (i < M.2.2.1)) = true) (k : G l E b0 M X Z c1 c2 n h pc' L' st) : G l E b0 M X Z c1 c2 n h pc L (.ref o :: st) := by
  intro p e s m args below meth c C hX hb H locs ls hR hS hl
  obtain ⟨hd, rfl⟩ := hd
  subst hs
  rw [Bool.and_eq_true, decide_eq_true_eq] at hn
  exact lv_astore C.1 C.2.1 hd hl hn.2 rfl (fun ls' hl' => k p e s m args below meth c C hX hb H locs ls' hR hS (hl'.sub (st1_sub hn.1)))
theorem g_astore_n {i : Fin 4} {o : Nat} (hd : DC M.2.1 pc (.astore_n i) 1 pc') (hs : st1 L (i : Nat) (.ref o) = L') (hn : (nl2 L (i : Nat) && decide ((i : Nat) < M.2.2.1)) = true) (k : G l E b0 M X Z c1 c2 n h pc' L' st) : G l E b0 M X Z c1 c2 n h pc L (.ref o :: st) := by
  intro p e s m args below meth c C hX hb H locs ls hR hS hl
  obtain ⟨hd, rfl⟩ := hd
  subst hs
  rw [Bool.and_eq_true, decide_eq_true_eq] at hn
  exact lv_astore_n C.1 C.2.1 hd rfl hl hn.2 rfl (fun ls' hl' => k p e s m args below meth c C hX hb H locs ls' hR hS (hl'.sub (st1_sub hn.1)))
theorem lc_idx {L : LL} {k : Nat} {v : Value} (hv : L[k]? = some (some v)) : ∃ j : Nat, (lc 0 L)[j]? = some (k, v) := by
  have h1 := lc_mem (i := 0) hv
  rw [Nat.zero_add] at h1
  obtain ⟨j, hj⟩ := List.getElem?_of_mem h1
  exact ⟨j, hj⟩
theorem g_iinc {i : Nat} (hd : DC M.2.1 pc (.iinc i b) 3 pc') (hv : L[i]? = some (some (vI a))) (hs : st1 L i (vI (a + b)) = L') (hn : (nl2 L i && decide (i < M.2.2.1)) = true) (k : G l E b0 M X Z c1 c2 n h pc' L' st) : G l E b0 M X Z c1 c2 n h pc L st := by
  intro p e s m args below meth c C hX hb H locs ls hR hS hl
  obtain ⟨hd, rfl⟩ := hd
  subst hs
  rw [Bool.and_eq_true, decide_eq_true_eq] at hn
  obtain ⟨j, hj⟩ := lc_idx hv
  exact lv_iinc C.1 C.2.1 hd hl hj (v := Int32.ofInt (a + b)) (Int32.ofInt_add a b).symm hn.2 rfl (fun ls' hl' => k p e s m args below meth c C hX hb H locs ls' hR hS (hl'.sub (st1_sub hn.1)))
theorem g_dup {v : Value} (hd : DC M.2.1 pc .dup 1 pc') (hv : v.category = 1) (k : G l E b0 M X Z c1 c2 n h pc' L (v :: v :: st)) : G l E b0 M X Z c1 c2 n h pc L (v :: st) := by
  intro p e s m args below meth c C hX hb H locs ls hR hS hl
  obtain ⟨hd, rfl⟩ := hd
  have k := k p e s m args below meth c C hX hb H locs ls hR hS hl
  exact lv_dup C.1 C.2.1 hd hv k
theorem g_dup2 {v w : Value} (hd : DC M.2.1 pc .dup2 1 pc') (hv : v.category = 1) (hw : w.category = 1) (k : G l E b0 M X Z c1 c2 n h pc' L (v :: w :: v :: w :: st)) : G l E b0 M X Z c1 c2 n h pc L (v :: w :: st) := by
  intro p e s m args below meth c C hX hb H locs ls hR hS hl
  obtain ⟨hd, rfl⟩ := hd
  have k := k p e s m args below meth c C hX hb H locs ls hR hS hl
  exact lv_dup2_11 C.1 C.2.1 hd hv hw k
theorem g_pop {v : Value} (hd : DC M.2.1 pc .pop 1 pc') (hv : v.category = 1) (k : G l E b0 M X Z c1 c2 n h pc' L (st)) : G l E b0 M X Z c1 c2 n h pc L (v :: st) := by
  intro p e s m args below meth c C hX hb H locs ls hR hS hl
  obtain ⟨hd, rfl⟩ := hd
  have k := k p e s m args below meth c C hX hb H locs ls hR hS hl
  exact lv_pop C.1 C.2.1 hd hv k
theorem g_iadd (hd : DC M.2.1 pc .iadd 1 pc') (k : G l E b0 M X Z c1 c2 n h pc' L (vI (a + b) :: st)) : G l E b0 M X Z c1 c2 n h pc L (vI b :: vI a :: st) := by
  intro p e s m args below meth c C hX hb H locs ls hR hS hl
  obtain ⟨hd, rfl⟩ := hd
  have k := k p e s m args below meth c C hX hb H locs ls hR hS hl
  rw [vI_add a b] at k
  exact lv_iadd C.1 C.2.1 hd k
theorem g_ladd (hd : DC M.2.1 pc .ladd 1 pc') (k : G l E b0 M X Z c1 c2 n h pc' L (vJ (a + b) :: st)) : G l E b0 M X Z c1 c2 n h pc L (vJ b :: vJ a :: st) := by
  intro p e s m args below meth c C hX hb H locs ls hR hS hl
  obtain ⟨hd, rfl⟩ := hd
  have k := k p e s m args below meth c C hX hb H locs ls hR hS hl
  rw [vJ_add a b] at k
  exact lv_ladd C.1 C.2.1 hd k
theorem g_isub (hd : DC M.2.1 pc .isub 1 pc') (k : G l E b0 M X Z c1 c2 n h pc' L (vI (a - b) :: st)) : G l E b0 M X Z c1 c2 n h pc L (vI b :: vI a :: st) := by
  intro p e s m args below meth c C hX hb H locs ls hR hS hl
  obtain ⟨hd, rfl⟩ := hd
  have k := k p e s m args below meth c C hX hb H locs ls hR hS hl
  rw [vI_sub a b] at k
  exact lv_isub C.1 C.2.1 hd k
theorem g_lsub (hd : DC M.2.1 pc .lsub 1 pc') (k : G l E b0 M X Z c1 c2 n h pc' L (vJ (a - b) :: st)) : G l E b0 M X Z c1 c2 n h pc L (vJ b :: vJ a :: st) := by
  intro p e s m args below meth c C hX hb H locs ls hR hS hl
  obtain ⟨hd, rfl⟩ := hd
  have k := k p e s m args below meth c C hX hb H locs ls hR hS hl
  rw [vJ_sub a b] at k
  exact lv_lsub C.1 C.2.1 hd k
theorem g_imul (hd : DC M.2.1 pc .imul 1 pc') (k : G l E b0 M X Z c1 c2 n h pc' L (vI (a * b) :: st)) : G l E b0 M X Z c1 c2 n h pc L (vI b :: vI a :: st) := by
  intro p e s m args below meth c C hX hb H locs ls hR hS hl
  obtain ⟨hd, rfl⟩ := hd
  have k := k p e s m args below meth c C hX hb H locs ls hR hS hl
  rw [vI_mul a b] at k
  exact lv_imul C.1 C.2.1 hd k
theorem g_lmul (hd : DC M.2.1 pc .lmul 1 pc') (k : G l E b0 M X Z c1 c2 n h pc' L (vJ (a * b) :: st)) : G l E b0 M X Z c1 c2 n h pc L (vJ b :: vJ a :: st) := by
  intro p e s m args below meth c C hX hb H locs ls hR hS hl
  obtain ⟨hd, rfl⟩ := hd
  have k := k p e s m args below meth c C hX hb H locs ls hR hS hl
  rw [vJ_mul a b] at k
  exact lv_lmul C.1 C.2.1 hd k
theorem g_ineg (hd : DC M.2.1 pc .ineg 1 pc') (k : G l E b0 M X Z c1 c2 n h pc' L (vI (-a) :: st)) : G l E b0 M X Z c1 c2 n h pc L (vI a :: st) := by
  intro p e s m args below meth c C hX hb H locs ls hR hS hl
  obtain ⟨hd, rfl⟩ := hd
  have k := k p e s m args below meth c C hX hb H locs ls hR hS hl
  rw [vI_neg a] at k
  exact lv_ineg C.1 C.2.1 hd k
theorem g_lneg (hd : DC M.2.1 pc .lneg 1 pc') (k : G l E b0 M X Z c1 c2 n h pc' L (vJ (-a) :: st)) : G l E b0 M X Z c1 c2 n h pc L (vJ a :: st) := by
  intro p e s m args below meth c C hX hb H locs ls hR hS hl
  obtain ⟨hd, rfl⟩ := hd
  have k := k p e s m args below meth c C hX hb H locs ls hR hS hl
  rw [vJ_neg a] at k
  exact lv_lneg C.1 C.2.1 hd k
theorem g_iand (hd : DC M.2.1 pc .iand 1 pc') (k : G l E b0 M X Z c1 c2 n h pc' L (vI (bAnd a b) :: st)) : G l E b0 M X Z c1 c2 n h pc L (vI b :: vI a :: st) := by
  intro p e s m args below meth c C hX hb H locs ls hR hS hl
  obtain ⟨hd, rfl⟩ := hd
  have k := k p e s m args below meth c C hX hb H locs ls hR hS hl
  rw [show vI (bAnd a b) = _ from vI_of _] at k
  exact lv_iand C.1 C.2.1 hd k
theorem g_ior (hd : DC M.2.1 pc .ior 1 pc') (k : G l E b0 M X Z c1 c2 n h pc' L (vI (bOr a b) :: st)) : G l E b0 M X Z c1 c2 n h pc L (vI b :: vI a :: st) := by
  intro p e s m args below meth c C hX hb H locs ls hR hS hl
  obtain ⟨hd, rfl⟩ := hd
  have k := k p e s m args below meth c C hX hb H locs ls hR hS hl
  rw [show vI (bOr a b) = _ from vI_of _] at k
  exact lv_ior C.1 C.2.1 hd k
theorem g_ixor (hd : DC M.2.1 pc .ixor 1 pc') (k : G l E b0 M X Z c1 c2 n h pc' L (vI (bXor a b) :: st)) : G l E b0 M X Z c1 c2 n h pc L (vI b :: vI a :: st) := by
  intro p e s m args below meth c C hX hb H locs ls hR hS hl
  obtain ⟨hd, rfl⟩ := hd
  have k := k p e s m args below meth c C hX hb H locs ls hR hS hl
  rw [show vI (bXor a b) = _ from vI_of _] at k
  exact lv_ixor C.1 C.2.1 hd k
theorem g_ishl (hd : DC M.2.1 pc .ishl 1 pc') (k : G l E b0 M X Z c1 c2 n h pc' L (vI (bShl a b) :: st)) : G l E b0 M X Z c1 c2 n h pc L (vI b :: vI a :: st) := by
  intro p e s m args below meth c C hX hb H locs ls hR hS hl
  obtain ⟨hd, rfl⟩ := hd
  have k := k p e s m args below meth c C hX hb H locs ls hR hS hl
  rw [show vI (bShl a b) = _ from vI_of _] at k
  exact lv_ishl C.1 C.2.1 hd k
theorem g_ishr (hd : DC M.2.1 pc .ishr 1 pc') (k : G l E b0 M X Z c1 c2 n h pc' L (vI (bShr a b) :: st)) : G l E b0 M X Z c1 c2 n h pc L (vI b :: vI a :: st) := by
  intro p e s m args below meth c C hX hb H locs ls hR hS hl
  obtain ⟨hd, rfl⟩ := hd
  have k := k p e s m args below meth c C hX hb H locs ls hR hS hl
  rw [show vI (bShr a b) = _ from vI_of _] at k
  exact lv_ishr C.1 C.2.1 hd k
theorem g_iushr (hd : DC M.2.1 pc .iushr 1 pc') (k : G l E b0 M X Z c1 c2 n h pc' L (vI (bUshr a b) :: st)) : G l E b0 M X Z c1 c2 n h pc L (vI b :: vI a :: st) := by
  intro p e s m args below meth c C hX hb H locs ls hR hS hl
  obtain ⟨hd, rfl⟩ := hd
  have k := k p e s m args below meth c C hX hb H locs ls hR hS hl
  rw [show vI (bUshr a b) = _ from vI_of _] at k
  exact lv_iushr C.1 C.2.1 hd rfl k
theorem g_i2b (hd : DC M.2.1 pc .i2b 1 pc') (k : G l E b0 M X Z c1 c2 n h pc' L (vI (bByte a) :: st)) : G l E b0 M X Z c1 c2 n h pc L (vI a :: st) := by
  intro p e s m args below meth c C hX hb H locs ls hR hS hl
  obtain ⟨hd, rfl⟩ := hd
  have k := k p e s m args below meth c C hX hb H locs ls hR hS hl
  rw [show vI (bByte a) = _ from vI_of _] at k
  exact lv_i2b C.1 C.2.1 hd rfl k
theorem g_land (hd : DC M.2.1 pc .land 1 pc') (k : G l E b0 M X Z c1 c2 n h pc' L (vJ (jAnd a b) :: st)) : G l E b0 M X Z c1 c2 n h pc L (vJ b :: vJ a :: st) := by
  intro p e s m args below meth c C hX hb H locs ls hR hS hl
  obtain ⟨hd, rfl⟩ := hd
  have k := k p e s m args below meth c C hX hb H locs ls hR hS hl
  rw [show vJ (jAnd a b) = _ from vJ_of _] at k
  exact lv_land C.1 C.2.1 hd k
theorem g_lor (hd : DC M.2.1 pc .lor 1 pc') (k : G l E b0 M X Z c1 c2 n h pc' L (vJ (jOr a b) :: st)) : G l E b0 M X Z c1 c2 n h pc L (vJ b :: vJ a :: st) := by
  intro p e s m args below meth c C hX hb H locs ls hR hS hl
  obtain ⟨hd, rfl⟩ := hd
  have k := k p e s m args below meth c C hX hb H locs ls hR hS hl
  rw [show vJ (jOr a b) = _ from vJ_of _] at k
  exact lv_lor C.1 C.2.1 hd k
theorem g_lxor (hd : DC M.2.1 pc .lxor 1 pc') (k : G l E b0 M X Z c1 c2 n h pc' L (vJ (jXor a b) :: st)) : G l E b0 M X Z c1 c2 n h pc L (vJ b :: vJ a :: st) := by
  intro p e s m args below meth c C hX hb H locs ls hR hS hl
  obtain ⟨hd, rfl⟩ := hd
  have k := k p e s m args below meth c C hX hb H locs ls hR hS hl
  rw [show vJ (jXor a b) = _ from vJ_of _] at k
  exact lv_lxor C.1 C.2.1 hd k
theorem g_lshl (hd : DC M.2.1 pc .lshl 1 pc') (k : G l E b0 M X Z c1 c2 n h pc' L (vJ (jShl a b) :: st)) : G l E b0 M X Z c1 c2 n h pc L (vI b :: vJ a :: st) := by
  intro p e s m args below meth c C hX hb H locs ls hR hS hl
  obtain ⟨hd, rfl⟩ := hd
  have k := k p e s m args below meth c C hX hb H locs ls hR hS hl
  rw [show vJ (jShl a b) = _ from vJ_of _] at k
  exact lv_lshl C.1 C.2.1 hd rfl k
theorem g_lshr (hd : DC M.2.1 pc .lshr 1 pc') (k : G l E b0 M X Z c1 c2 n h pc' L (vJ (jShr a b) :: st)) : G l E b0 M X Z c1 c2 n h pc L (vI b :: vJ a :: st) := by
  intro p e s m args below meth c C hX hb H locs ls hR hS hl
  obtain ⟨hd, rfl⟩ := hd
  have k := k p e s m args below meth c C hX hb H locs ls hR hS hl
  rw [show vJ (jShr a b) = _ from vJ_of _] at k
  exact lv_lshr C.1 C.2.1 hd rfl k
theorem g_lushr (hd : DC M.2.1 pc .lushr 1 pc') (k : G l E b0 M X Z c1 c2 n h pc' L (vJ (jUshr a b) :: st)) : G l E b0 M X Z c1 c2 n h pc L (vI b :: vJ a :: st) := by
  intro p e s m args below meth c C hX hb H locs ls hR hS hl
  obtain ⟨hd, rfl⟩ := hd
  have k := k p e s m args below meth c C hX hb H locs ls hR hS hl
  rw [show vJ (jUshr a b) = _ from vJ_of _] at k
  exact lv_lushr C.1 C.2.1 hd rfl k
theorem g_l2i (hd : DC M.2.1 pc .l2i 1 pc') (k : G l E b0 M X Z c1 c2 n h pc' L (vI a :: st)) : G l E b0 M X Z c1 c2 n h pc L (vJ a :: st) := by
  intro p e s m args below meth c C hX hb H locs ls hR hS hl
  obtain ⟨hd, rfl⟩ := hd
  have k := k p e s m args below meth c C hX hb H locs ls hR hS hl
  exact lv_l2i C.1 C.2.1 hd Int64.toInt32_ofInt k
theorem g_i2l (hd : DC M.2.1 pc .i2l 1 pc') (ha : inI a) (k : G l E b0 M X Z c1 c2 n h pc' L (vJ a :: st)) : G l E b0 M X Z c1 c2 n h pc L (vI a :: st) := by
  intro p e s m args below meth c C hX hb H locs ls hR hS hl
  obtain ⟨hd, rfl⟩ := hd
  have k := k p e s m args below meth c C hX hb H locs ls hR hS hl
  exact lv_i2l C.1 C.2.1 hd (ofI_i2l ha) k
theorem g_idiv (hd : DC M.2.1 pc .idiv 1 pc') (ha : inI a) (hb2 : inI b) (hs : chk (b ≠ 0) A = some r) (k : A = some r → G l E b0 M X Z c1 c2 n h pc' L (vI (a.tdiv b) :: st)) : G l E b0 M X Z c1 c2 n h pc L (vI b :: vI a :: st) := by
  intro p e s m args below meth c C hX hb H locs ls hR hS hl
  obtain ⟨hd, rfl⟩ := hd
  obtain ⟨h0, hs⟩ := chk_elim hs
  have k := k hs p e s m args below meth c C hX hb H locs ls hR hS hl
  rw [vI_tdiv ha hb2] at k
  exact lv_idiv C.1 C.2.1 hd (fun q => h0 ((ofI_eq hb2 (by decide)).mp (q.trans (show (0 : Int32) = Int32.ofInt 0 from rfl)))) k
theorem g_irem (hd : DC M.2.1 pc .irem 1 pc') (ha : inI a) (hb2 : inI b) (hs : chk (b ≠ 0) A = some r) (k : A = some r → G l E b0 M X Z c1 c2 n h pc' L (vI (a.tmod b) :: st)) : G l E b0 M X Z c1 c2 n h pc L (vI b :: vI a :: st) := by
  intro p e s m args below meth c C hX hb H locs ls hR hS hl
  obtain ⟨hd, rfl⟩ := hd
  obtain ⟨h0, hs⟩ := chk_elim hs
  have k := k hs p e s m args below meth c C hX hb H locs ls hR hS hl
  rw [vI_tmod ha hb2] at k
  exact lv_irem C.1 C.2.1 hd (fun q => h0 ((ofI_eq hb2 (by decide)).mp (q.trans (show (0 : Int32) = Int32.ofInt 0 from rfl)))) k
theorem g_ldiv (hd : DC M.2.1 pc .ldiv 1 pc') (ha : inJ a) (hb2 : inJ b) (hs : chk (b ≠ 0) A = some r) (k : A = some r → G l E b0 M X Z c1 c2 n h pc' L (vJ (a.tdiv b) :: st)) : G l E b0 M X Z c1 c2 n h pc L (vJ b :: vJ a :: st) := by
  intro p e s m args below meth c C hX hb H locs ls hR hS hl
  obtain ⟨hd, rfl⟩ := hd
  obtain ⟨h0, hs⟩ := chk_elim hs
  have k := k hs p e s m args below meth c C hX hb H locs ls hR hS hl
  rw [vJ_tdiv ha hb2] at k
  exact lv_ldiv C.1 C.2.1 hd (fun q => h0 ((ofJ_eq hb2 (by decide)).mp (q.trans (show (0 : Int64) = Int64.ofInt 0 from rfl)))) k
theorem g_lrem (hd : DC M.2.1 pc .lrem 1 pc') (ha : inJ a) (hb2 : inJ b) (hs : chk (b ≠ 0) A = some r) (k : A = some r → G l E b0 M X Z c1 c2 n h pc' L (vJ (a.tmod b) :: st)) : G l E b0 M X Z c1 c2 n h pc L (vJ b :: vJ a :: st) := by
  intro p e s m args below meth c C hX hb H locs ls hR hS hl
  obtain ⟨hd, rfl⟩ := hd
  obtain ⟨h0, hs⟩ := chk_elim hs
  have k := k hs p e s m args below meth c C hX hb H locs ls hR hS hl
  rw [vJ_tmod ha hb2] at k
  exact lv_lrem C.1 C.2.1 hd (fun q => h0 ((ofJ_eq hb2 (by decide)).mp (q.trans (show (0 : Int64) = Int64.ofInt 0 from rfl)))) k
theorem g_icmp_eq {off : Int} (hd : DB M.2.1 pc (.if_icmp .eq off) off 3 pc' tgt) (ha : inI a) (hb2 : inI b) (hs : (if a = b then A else B) = some r) (kt : a = b → A = some r → G l E b0 M X Z c1 c2 n h tgt L st) (kf : ¬ a = b → B = some r → G l E b0 M X Z c1 c2 n h pc' L st) : G l E b0 M X Z c1 c2 n h pc L (vI b :: vI a :: st) := by
  intro p e s m args below meth c C hX hb H locs ls hR hS hl
  obtain ⟨hd, rfl, ht⟩ := hd
  by_cases hc : a = b
  · rw [if_pos hc] at hs
    exact lv_icmp_eq C.1 C.2.1 hd ht (fun _ => kt hc hs p e s m args below meth c C hX hb H locs ls hR hS hl) (fun q => absurd ((ofI_eq ha hb2).mpr hc) q)
  · rw [if_neg hc] at hs
    exact lv_icmp_eq C.1 C.2.1 hd ht (fun q => absurd ((ofI_eq ha hb2).mp q) hc) (fun _ => kf hc hs p e s m args below meth c C hX hb H locs ls hR hS hl)
theorem g_if_eq {off : Int} (hd : DB M.2.1 pc (.ifCond .eq off) off 3 pc' tgt) (ha : inI a) (hs : (if a = 0 then A else B) = some r) (kt : a = 0 → A = some r → G l E b0 M X Z c1 c2 n h tgt L st) (kf : ¬ a = 0 → B = some r → G l E b0 M X Z c1 c2 n h pc' L st) : G l E b0 M X Z c1 c2 n h pc L (vI a :: st) := by
  intro p e s m args below meth c C hX hb H locs ls hR hS hl
  obtain ⟨hd, rfl, ht⟩ := hd
  by_cases hc : a = 0
  · rw [if_pos hc] at hs
    exact lv_if_eq C.1 C.2.1 hd ht (fun _ => kt hc hs p e s m args below meth c C hX hb H locs ls hR hS hl) (fun q => absurd ((ofI_eq ha inI_0).mpr hc) q)
  · rw [if_neg hc] at hs
    exact lv_if_eq C.1 C.2.1 hd ht (fun q => absurd ((ofI_eq ha inI_0).mp q) hc) (fun _ => kf hc hs p e s m args below meth c C hX hb H locs ls hR hS hl)
theorem g_icmp_ne {off : Int} (hd : DB M.2.1 pc (.if_icmp .ne off) off 3 pc' tgt) (ha : inI a) (hb2 : inI b) (hs : (if a = b then A else B) = some r) (kf : a = b → A = some r → G l E b0 M X Z c1 c2 n h pc' L st) (kt : ¬ a = b → B = some r → G l E b0 M X Z c1 c2 n h tgt L st) : G l E b0 M X Z c1 c2 n h pc L (vI b :: vI a :: st) := by
  intro p e s m args below meth c C hX hb H locs ls hR hS hl
  obtain ⟨hd, rfl, ht⟩ := hd
  by_cases hc : a = b
  · rw [if_pos hc] at hs
    exact lv_icmp_ne C.1 C.2.1 hd ht (fun q => absurd ((ofI_eq ha hb2).mpr hc) q) (fun _ => kf hc hs p e s m args below meth c C hX hb H locs ls hR hS hl)
  · rw [if_neg hc] at hs
    exact lv_icmp_ne C.1 C.2.1 hd ht (fun _ => kt hc hs p e s m args below meth c C hX hb H locs ls hR hS hl) (fun q => absurd ((ofI_eq ha hb2).mp q) hc)
theorem g_if_ne {off : Int} (hd : DB M.2.1 pc (.ifCond .ne off) off 3 pc' tgt) (ha : inI a) (hs : (if a = 0 then A else B) = some r) (kf : a = 0 → A = some r → G l E b0 M X Z c1 c2 n h pc' L st) (kt : ¬ a = 0 → B = some r → G l E b0 M X Z c1 c2 n h tgt L st) : G l E b0 M X Z c1 c2 n h pc L (vI a :: st) := by
  intro p e s m args below meth c C hX hb H locs ls hR hS hl
  obtain ⟨hd, rfl, ht⟩ := hd
  by_cases hc : a = 0
  · rw [if_pos hc] at hs
    exact lv_if_ne C.1 C.2.1 hd ht (fun q => absurd ((ofI_eq ha inI_0).mpr hc) q) (fun _ => kf hc hs p e s m args below meth c C hX hb H locs ls hR hS hl)
  · rw [if_neg hc] at hs
    exact lv_if_ne C.1 C.2.1 hd ht (fun _ => kt hc hs p e s m args below meth c C hX hb H locs ls hR hS hl) (fun q => absurd ((ofI_eq ha inI_0).mp q) hc)
theorem g_icmp_lt {off : Int} (hd : DB M.2.1 pc (.if_icmp .lt off) off 3 pc' tgt) (ha : inI a) (hb2 : inI b) (hs : (if a < b then A else B) = some r) (kt : a < b → A = some r → G l E b0 M X Z c1 c2 n h tgt L st) (kf : ¬ a < b → B = some r → G l E b0 M X Z c1 c2 n h pc' L st) : G l E b0 M X Z c1 c2 n h pc L (vI b :: vI a :: st) := by
  intro p e s m args below meth c C hX hb H locs ls hR hS hl
  obtain ⟨hd, rfl, ht⟩ := hd
  by_cases hc : a < b
  · rw [if_pos hc] at hs
    exact lv_icmp_lt C.1 C.2.1 hd ht (fun _ => kt hc hs p e s m args below meth c C hX hb H locs ls hR hS hl) (fun q => absurd ((ofI_lt ha hb2).mpr hc) q)
  · rw [if_neg hc] at hs
    exact lv_icmp_lt C.1 C.2.1 hd ht (fun q => absurd ((ofI_lt ha hb2).mp q) hc) (fun _ => kf hc hs p e s m args below meth c C hX hb H locs ls hR hS hl)
theorem g_if_lt {off : Int} (hd : DB M.2.1 pc (.ifCond .lt off) off 3 pc' tgt) (ha : inI a) (hs : (if a < 0 then A else B) = some r) (kt : a < 0 → A = some r → G l E b0 M X Z c1 c2 n h tgt L st) (kf : ¬ a < 0 → B = some r → G l E b0 M X Z c1 c2 n h pc' L st) : G l E b0 M X Z c1 c2 n h pc L (vI a :: st) := by
  intro p e s m args below meth c C hX hb H locs ls hR hS hl
  obtain ⟨hd, rfl, ht⟩ := hd
  by_cases hc : a < 0
  · rw [if_pos hc] at hs
    exact lv_if_lt C.1 C.2.1 hd ht (fun _ => kt hc hs p e s m args below meth c C hX hb H locs ls hR hS hl) (fun q => absurd ((ofI_lt ha inI_0).mpr hc) q)
  · rw [if_neg hc] at hs
    exact lv_if_lt C.1 C.2.1 hd ht (fun q => absurd ((ofI_lt ha inI_0).mp q) hc) (fun _ => kf hc hs p e s m args below meth c C hX hb H locs ls hR hS hl)
theorem g_icmp_ge {off : Int} (hd : DB M.2.1 pc (.if_icmp .ge off) off 3 pc' tgt) (ha : inI a) (hb2 : inI b) (hs : (if b ≤ a then A else B) = some r) (kt : b ≤ a → A = some r → G l E b0 M X Z c1 c2 n h tgt L st) (kf : ¬ b ≤ a → B = some r → G l E b0 M X Z c1 c2 n h pc' L st) : G l E b0 M X Z c1 c2 n h pc L (vI b :: vI a :: st) := by
  intro p e s m args below meth c C hX hb H locs ls hR hS hl
  obtain ⟨hd, rfl, ht⟩ := hd
  by_cases hc : b ≤ a
  · rw [if_pos hc] at hs
    exact lv_icmp_ge C.1 C.2.1 hd ht (fun _ => kt hc hs p e s m args below meth c C hX hb H locs ls hR hS hl) (fun q => absurd ((ofI_le hb2 ha).mpr hc) q)
  · rw [if_neg hc] at hs
    exact lv_icmp_ge C.1 C.2.1 hd ht (fun q => absurd ((ofI_le hb2 ha).mp q) hc) (fun _ => kf hc hs p e s m args below meth c C hX hb H locs ls hR hS hl)
theorem g_if_ge {off : Int} (hd : DB M.2.1 pc (.ifCond .ge off) off 3 pc' tgt) (ha : inI a) (hs : (if 0 ≤ a then A else B) = some r) (kt : 0 ≤ a → A = some r → G l E b0 M X Z c1 c2 n h tgt L st) (kf : ¬ 0 ≤ a → B = some r → G l E b0 M X Z c1 c2 n h pc' L st) : G l E b0 M X Z c1 c2 n h pc L (vI a :: st) := by
  intro p e s m args below meth c C hX hb H locs ls hR hS hl
  obtain ⟨hd, rfl, ht⟩ := hd
  by_cases hc : 0 ≤ a
  · rw [if_pos hc] at hs
    exact lv_if_ge C.1 C.2.1 hd ht (fun _ => kt hc hs p e s m args below meth c C hX hb H locs ls hR hS hl) (fun q => absurd ((ofI_le inI_0 ha).mpr hc) q)
  · rw [if_neg hc] at hs
    exact lv_if_ge C.1 C.2.1 hd ht (fun q => absurd ((ofI_le inI_0 ha).mp q) hc) (fun _ => kf hc hs p e s m args below meth c C hX hb H locs ls hR hS hl)
theorem g_icmp_gt {off : Int} (hd : DB M.2.1 pc (.if_icmp .gt off) off 3 pc' tgt) (ha : inI a) (hb2 : inI b) (hs : (if b < a then A else B) = some r) (kt : b < a → A = some r → G l E b0 M X Z c1 c2 n h tgt L st) (kf : ¬ b < a → B = some r → G l E b0 M X Z c1 c2 n h pc' L st) : G l E b0 M X Z c1 c2 n h pc L (vI b :: vI a :: st) := by
  intro p e s m args below meth c C hX hb H locs ls hR hS hl
  obtain ⟨hd, rfl, ht⟩ := hd
  by_cases hc : b < a
  · rw [if_pos hc] at hs
    exact lv_icmp_gt C.1 C.2.1 hd ht (fun _ => kt hc hs p e s m args below meth c C hX hb H locs ls hR hS hl) (fun q => absurd ((ofI_lt hb2 ha).mpr hc) q)
  · rw [if_neg hc] at hs
    exact lv_icmp_gt C.1 C.2.1 hd ht (fun q => absurd ((ofI_lt hb2 ha).mp q) hc) (fun _ => kf hc hs p e s m args below meth c C hX hb H locs ls hR hS hl)
theorem g_if_gt {off : Int} (hd : DB M.2.1 pc (.ifCond .gt off) off 3 pc' tgt) (ha : inI a) (hs : (if 0 < a then A else B) = some r) (kt : 0 < a → A = some r → G l E b0 M X Z c1 c2 n h tgt L st) (kf : ¬ 0 < a → B = some r → G l E b0 M X Z c1 c2 n h pc' L st) : G l E b0 M X Z c1 c2 n h pc L (vI a :: st) := by
  intro p e s m args below meth c C hX hb H locs ls hR hS hl
  obtain ⟨hd, rfl, ht⟩ := hd
  by_cases hc : 0 < a
  · rw [if_pos hc] at hs
    exact lv_if_gt C.1 C.2.1 hd ht (fun _ => kt hc hs p e s m args below meth c C hX hb H locs ls hR hS hl) (fun q => absurd ((ofI_lt inI_0 ha).mpr hc) q)
  · rw [if_neg hc] at hs
    exact lv_if_gt C.1 C.2.1 hd ht (fun q => absurd ((ofI_lt inI_0 ha).mp q) hc) (fun _ => kf hc hs p e s m args below meth c C hX hb H locs ls hR hS hl)
theorem g_icmp_le {off : Int} (hd : DB M.2.1 pc (.if_icmp .le off) off 3 pc' tgt) (ha : inI a) (hb2 : inI b) (hs : (if a ≤ b then A else B) = some r) (kt : a ≤ b → A = some r → G l E b0 M X Z c1 c2 n h tgt L st) (kf : ¬ a ≤ b → B = some r → G l E b0 M X Z c1 c2 n h pc' L st) : G l E b0 M X Z c1 c2 n h pc L (vI b :: vI a :: st) := by
  intro p e s m args below meth c C hX hb H locs ls hR hS hl
  obtain ⟨hd, rfl, ht⟩ := hd
  by_cases hc : a ≤ b
  · rw [if_pos hc] at hs
    exact lv_icmp_le C.1 C.2.1 hd ht (fun _ => kt hc hs p e s m args below meth c C hX hb H locs ls hR hS hl) (fun q => absurd ((ofI_le ha hb2).mpr hc) q)
  · rw [if_neg hc] at hs
    exact lv_icmp_le C.1 C.2.1 hd ht (fun q => absurd ((ofI_le ha hb2).mp q) hc) (fun _ => kf hc hs p e s m args below meth c C hX hb H locs ls hR hS hl)
theorem g_if_le {off : Int} (hd : DB M.2.1 pc (.ifCond .le off) off 3 pc' tgt) (ha : inI a) (hs : (if a ≤ 0 then A else B) = some r) (kt : a ≤ 0 → A = some r → G l E b0 M X Z c1 c2 n h tgt L st) (kf : ¬ a ≤ 0 → B = some r → G l E b0 M X Z c1 c2 n h pc' L st) : G l E b0 M X Z c1 c2 n h pc L (vI a :: st) := by
  intro p e s m args below meth c C hX hb H locs ls hR hS hl
  obtain ⟨hd, rfl, ht⟩ := hd
  by_cases hc : a ≤ 0
  · rw [if_pos hc] at hs
    exact lv_if_le C.1 C.2.1 hd ht (fun _ => kt hc hs p e s m args below meth c C hX hb H locs ls hR hS hl) (fun q => absurd ((ofI_le ha inI_0).mpr hc) q)
  · rw [if_neg hc] at hs
    exact lv_if_le C.1 C.2.1 hd ht (fun q => absurd ((ofI_le ha inI_0).mp q) hc) (fun _ => kf hc hs p e s m args below meth c C hX hb H locs ls hR hS hl)
theorem g_goto {off : Int} (hd : DB M.2.1 pc (.goto off) off 3 pc' tgt) (k : G l E b0 M X Z c1 c2 n h tgt L st) : G l E b0 M X Z c1 c2 n h pc L st := by
  intro p e s m args below meth c C hX hb H locs ls hR hS hl
  obtain ⟨hd, -, ht⟩ := hd
  exact lv_goto C.1 C.2.1 hd ht (k p e s m args below meth c C hX hb H locs ls hR hS hl)
theorem lg_cmp_I (x y : Int) (hx : inJ x) (hy : inJ y) : lg_cmp (Int64.ofInt x) (Int64.ofInt y) = Int32.ofInt (if y < x then 1 else if x = y then 0 else -1) := by
  unfold lg_cmp
  simp only [gt_iff_lt, ofJ_lt hy hx, ofJ_eq hx hy]
  split
  · rfl
  · split <;> rfl
theorem g_lcmp (hd : DC M.2.1 pc .lcmp 1 pc') (ha : inJ a) (hb2 : inJ b) (k : G l E b0 M X Z c1 c2 n h pc' L (vI (if b < a then 1 else if a = b then 0 else -1) :: st)) : G l E b0 M X Z c1 c2 n h pc L (vJ b :: vJ a :: st) := by
  intro p e s m args below meth c C hX hb H locs ls hR hS hl
  obtain ⟨hd, rfl⟩ := hd
  have k := k p e s m args below meth c C hX hb H locs ls hR hS hl
  refine W.lcmp C.1 C.2.1 hd ?_
  rw [lg_cmp_I a b ha hb2]
  exact k
theorem cmp3 (a b : Int) : ∃ z : Int, (if b < a then (1 : Int) else if a = b then 0 else -1) = z ∧ ((a < b ∧ z = -1) ∨ (a = b ∧ z = 0) ∨ (b < a ∧ z = 1)) := by
  rcases Int.lt_trichotomy a b with q | q | q
  · exact ⟨-1, by rw [if_neg (by omega), if_neg (by omega)], Or.inl ⟨q, rfl⟩⟩
  · exact ⟨0, by rw [if_neg (by omega), if_pos q], Or.inr (Or.inl ⟨q, rfl⟩)⟩
  · exact ⟨1, by rw [if_pos q], Or.inr (Or.inr ⟨q, rfl⟩)⟩
theorem g_lcmp_eq {pc1 : Nat} {off : Int} (hd1 : DC M.2.1 pc .lcmp 1 pc1) (hd : DB M.2.1 pc1 (.ifCond .eq off) off 3 pc' tgt) (ha : inJ a) (hb2 : inJ b) (hs : (if a = b then A else B) = some r) (kt : a = b → A = some r → G l E b0 M X Z c1 c2 n h tgt L st) (kf : ¬ a = b → B = some r → G l E b0 M X Z c1 c2 n h pc' L st) : G l E b0 M X Z c1 c2 n h pc L (vJ b :: vJ a :: st) := by
  refine g_lcmp hd1 ha hb2 ?_
  obtain ⟨z, hz, h3⟩ := cmp3 a b
  rw [hz]
  refine g_if_eq hd ⟨by omega, by omega⟩ (A := A) (B := B) ?_ (fun hc => kt (by omega)) (fun hc => kf (by omega))
  rw [← hs]
  by_cases q : a = b
  · rw [if_pos q, if_pos (by omega)]
  · rw [if_neg q, if_neg (by omega)]
theorem g_lcmp_ne {pc1 : Nat} {off : Int} (hd1 : DC M.2.1 pc .lcmp 1 pc1) (hd : DB M.2.1 pc1 (.ifCond .ne off) off 3 pc' tgt) (ha : inJ a) (hb2 : inJ b) (hs : (if a = b then A else B) = some r) (kf : a = b → A = some r → G l E b0 M X Z c1 c2 n h pc' L st) (kt : ¬ a = b → B = some r → G l E b0 M X Z c1 c2 n h tgt L st) : G l E b0 M X Z c1 c2 n h pc L (vJ b :: vJ a :: st) := by
  refine g_lcmp hd1 ha hb2 ?_
  obtain ⟨z, hz, h3⟩ := cmp3 a b
  rw [hz]
  refine g_if_ne hd ⟨by omega, by omega⟩ (A := A) (B := B) ?_ (fun hc => kf (by omega)) (fun hc => kt (by omega))
  rw [← hs]
  by_cases q : a = b
  · rw [if_pos q, if_pos (by omega)]
  · rw [if_neg q, if_neg (by omega)]
theorem g_lcmp_lt {pc1 : Nat} {off : Int} (hd1 : DC M.2.1 pc .lcmp 1 pc1) (hd : DB M.2.1 pc1 (.ifCond .lt off) off 3 pc' tgt) (ha : inJ a) (hb2 : inJ b) (hs : (if a < b then A else B) = some r) (kt : a < b → A = some r → G l E b0 M X Z c1 c2 n h tgt L st) (kf : ¬ a < b → B = some r → G l E b0 M X Z c1 c2 n h pc' L st) : G l E b0 M X Z c1 c2 n h pc L (vJ b :: vJ a :: st) := by
  refine g_lcmp hd1 ha hb2 ?_
  obtain ⟨z, hz, h3⟩ := cmp3 a b
  rw [hz]
  refine g_if_lt hd ⟨by omega, by omega⟩ (A := A) (B := B) ?_ (fun hc => kt (by omega)) (fun hc => kf (by omega))
  rw [← hs]
  by_cases q : a < b
  · rw [if_pos q, if_pos (by omega)]
  · rw [if_neg q, if_neg (by omega)]
theorem g_lcmp_ge {pc1 : Nat} {off : Int} (hd1 : DC M.2.1 pc .lcmp 1 pc1) (hd : DB M.2.1 pc1 (.ifCond .ge off) off 3 pc' tgt) (ha : inJ a) (hb2 : inJ b) (hs : (if b ≤ a then A else B) = some r) (kt : b ≤ a → A = some r → G l E b0 M X Z c1 c2 n h tgt L st) (kf : ¬ b ≤ a → B = some r → G l E b0 M X Z c1 c2 n h pc' L st) : G l E b0 M X Z c1 c2 n h pc L (vJ b :: vJ a :: st) := by
  refine g_lcmp hd1 ha hb2 ?_
  obtain ⟨z, hz, h3⟩ := cmp3 a b
  rw [hz]
  refine g_if_ge hd ⟨by omega, by omega⟩ (A := A) (B := B) ?_ (fun hc => kt (by omega)) (fun hc => kf (by omega))
  rw [← hs]
  by_cases q : b ≤ a
  · rw [if_pos q, if_pos (by omega)]
  · rw [if_neg q, if_neg (by omega)]
theorem g_lcmp_gt {pc1 : Nat} {off : Int} (hd1 : DC M.2.1 pc .lcmp 1 pc1) (hd : DB M.2.1 pc1 (.ifCond .gt off) off 3 pc' tgt) (ha : inJ a) (hb2 : inJ b) (hs : (if b < a then A else B) = some r) (kt : b < a → A = some r → G l E b0 M X Z c1 c2 n h tgt L st) (kf : ¬ b < a → B = some r → G l E b0 M X Z c1 c2 n h pc' L st) : G l E b0 M X Z c1 c2 n h pc L (vJ b :: vJ a :: st) := by
  refine g_lcmp hd1 ha hb2 ?_
  obtain ⟨z, hz, h3⟩ := cmp3 a b
  rw [hz]
  refine g_if_gt hd ⟨by omega, by omega⟩ (A := A) (B := B) ?_ (fun hc => kt (by omega)) (fun hc => kf (by omega))
  rw [← hs]
  by_cases q : b < a
  · rw [if_pos q, if_pos (by omega)]
  · rw [if_neg q, if_neg (by omega)]
theorem g_lcmp_le {pc1 : Nat} {off : Int} (hd1 : DC M.2.1 pc .lcmp 1 pc1) (hd : DB M.2.1 pc1 (.ifCond .le off) off 3 pc' tgt) (ha : inJ a) (hb2 : inJ b) (hs : (if a ≤ b then A else B) = some r) (kt : a ≤ b → A = some r → G l E b0 M X Z c1 c2 n h tgt L st) (kf : ¬ a ≤ b → B = some r → G l E b0 M X Z c1 c2 n h pc' L st) : G l E b0 M X Z c1 c2 n h pc L (vJ b :: vJ a :: st) := by
  refine g_lcmp hd1 ha hb2 ?_
  obtain ⟨z, hz, h3⟩ := cmp3 a b
  rw [hz]
  refine g_if_le hd ⟨by omega, by omega⟩ (A := A) (B := B) ?_ (fun hc => kt (by omega)) (fun hc => kf (by omega))
  rw [← hs]
  by_cases q : a ≤ b
  · rw [if_pos q, if_pos (by omega)]
  · rw [if_neg q, if_neg (by omega)]
theorem g_ifnull {x : Nat} {off : Int} (hd : DB M.2.1 pc (.ifnull off) off 3 pc' tgt) (k : G l E b0 M X Z c1 c2 n h pc' L st) : G l E b0 M X Z c1 c2 n h pc L (.ref x :: st) := by
  intro p e s m args below meth c C hX hb H locs ls hR hS hl
  obtain ⟨hd, rfl, ht⟩ := hd
  exact lv_ifnull C.1 C.2.1 hd (k p e s m args below meth c C hX hb H locs ls hR hS hl)
theorem g_ifnullN {off : Int} (hd : DB M.2.1 pc (.ifnull off) off 3 pc' tgt) (k : G l E b0 M X Z c1 c2 n h tgt L st) : G l E b0 M X Z c1 c2 n h pc L (.null :: st) := by
  intro p e s m args below meth c C hX hb H locs ls hR hS hl
  obtain ⟨hd, rfl, ht⟩ := hd
  exact lv_ifnullN C.1 C.2.1 hd ht (k p e s m args below meth c C hX hb H locs ls hR hS hl)
theorem g_tableIn {dflt lo hi off : Int} {offs : Array Int} {len : Nat} (hd : DC M.2.1 pc (.tableswitch dflt lo hi offs) len pc') (ha : inI a) (h1 : ¬ a < lo) (h2 : ¬ hi < a) (ho : offs[(a - lo).toNat]? = some off) (ht : (pc : Int) + off = (tgt : Int)) (k : G l E b0 M X Z c1 c2 n h tgt L st) : G l E b0 M X Z c1 c2 n h pc L (vI a :: st) := by
  intro p e s m args below meth c C hX hb H locs ls hR hS hl
  exact lv_tableIn C.1 C.2.1 hd.1 (by rw [ofI_toInt ha]; exact h1) (by rw [ofI_toInt ha]; exact h2) (by rw [ofI_toInt ha]; exact ho) ht (k p e s m args below meth c C hX hb H locs ls hR hS hl)
theorem g_tableOut {dflt lo hi : Int} {offs : Array Int} {len : Nat} (hd : DC M.2.1 pc (.tableswitch dflt lo hi offs) len pc') (ha : inI a) (h1 : a < lo ∨ hi < a) (ht : (pc : Int) + dflt = (tgt : Int)) (k : G l E b0 M X Z c1 c2 n h tgt L st) : G l E b0 M X Z c1 c2 n h pc L (vI a :: st) := by
  intro p e s m args below meth c C hX hb H locs ls hR hS hl
  exact lv_tableOut C.1 C.2.1 hd.1 (by rw [ofI_toInt ha]; exact h1) ht (k p e s m args below meth c C hX hb H locs ls hR hS hl)
theorem g_iret {P : Prop} (hr : M.2.2.2.1 = some .int) (hP : P) (hd : DC M.2.1 pc .ireturn 1 pc') : G l E b0 M X (ZM E b0 (some (vI a)) h n P c1 c2) c1 c2 n h pc L [vI a] := by
  intro p e s m args below meth c C hX hb H locs ls hR hS hl
  exact W.iret C.1 C.2.1 (C.2.2.2.1.trans hr) (fun t ht hW => ⟨rfl, by rw [ht]; exact hR, hS.F ht, hP⟩) hS.2.2 hd.1 C.2.2.2.2.2.2.1
theorem g_lret {P : Prop} (hr : M.2.2.2.1 = some .long) (hP : P) (hd : DC M.2.1 pc .lreturn 1 pc') : G l E b0 M X (ZM E b0 (some (vJ a)) h n P c1 c2) c1 c2 n h pc L [vJ a] := by
  intro p e s m args below meth c C hX hb H locs ls hR hS hl
  exact W.lret C.1 C.2.1 (C.2.2.2.1.trans hr) (fun t ht hW => ⟨rfl, by rw [ht]; exact hR, hS.F ht, hP⟩) hS.2.2 hd.1 C.2.2.2.2.2.2.1
theorem g_vret {P : Prop} (hr : M.2.2.2.1 = none) (hP : P) (hd : DC M.2.1 pc .return_ 1 pc') : G l E b0 M X (ZM E b0 none h n P c1 c2) c1 c2 n h pc L [] := by
  intro p e s m args below meth c C hX hb H locs ls hR hS hl
  exact W.vret C.1 C.2.1 (C.2.2.2.1.trans hr) (fun t ht hW => ⟨rfl, by rw [ht]; exact hR, hS.F ht, hP⟩) hS.2.2 hd.1 C.2.2.2.2.2.2.1
theorem g_zret {P : Prop} (hr : M.2.2.2.1 = some .boolean) (hz : inZ a) (hP : P) (hd : DC M.2.1 pc .ireturn 1 pc') : G l E b0 M X (ZM E b0 (some (vI a)) h n P c1 c2) c1 c2 n h pc L [vI a] := by
  intro p e s m args below meth c C hX hb H locs ls hR hS hl
  exact W.zret C.1 C.2.1 (C.2.2.2.1.trans hr) (by rcases hz with rfl | rfl <;> rfl) (fun t ht hW => ⟨rfl, by rw [ht]; exact hR, hS.F ht, hP⟩) hS.2.2 hd.1 C.2.2.2.2.2.2.1
theorem g_aret {P : Prop} {v : Value} {ty : FieldType} (hr : M.2.2.2.1 = some ty) (hrt : (∃ n, ty = .object n) ∨ ∃ t, ty = .array t) (hv : v = .null ∨ ∃ a, v = .ref a) (hP : P) (hd : DC M.2.1 pc .areturn 1 pc') : G l E b0 M X (ZM E b0 (some v) h n P c1 c2) c1 c2 n h pc L [v] := by
  intro p e s m args below meth c C hX hb H locs ls hR hS hl
  exact W.aret C.1 C.2.1 (C.2.2.2.1.trans hr) hrt hv (fun t ht hW => ⟨rfl, by rw [ht]; exact hR, hS.F ht, hP⟩) hS.2.2 hd.1 C.2.2.2.2.2.2.1
end GR

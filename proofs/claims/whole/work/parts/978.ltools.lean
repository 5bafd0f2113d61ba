
/-! ===== LAW: long answers, truth values and longs as arguments ===== -/
def bz (z : Int) : Int := if z = 0 then 0 else 1
theorem bz_ok (z : Int) : inZ (bz z) := by unfold bz inZ; split <;> omega
theorem g_boolA {l : Launch} {E : EE} {b0 n c1 c2 : Nat} {h : AH} {M : MB} {X : State → Prop} {Z : ZT} {L : LL} {st : List Value} {p p1 p2 p3 p4 : Nat} {o1 o2 z : Int} (d1 : DB M.2.1 p (.ifCond .eq o1) o1 3 p1 p3) (d2 : DC M.2.1 p1 (.iconst 1) 1 p2) (d3 : DB M.2.1 p2 (.goto o2) o2 3 p3 p4) (d4 : DC M.2.1 p3 (.iconst 0) 1 p4) (hz : inI z) (k : G l E b0 M X Z c1 c2 n h p4 L (vI (bz z) :: st)) : G l E b0 M X Z c1 c2 n h p L (vI z :: st) := by
  by_cases c : z = 0
  · rw [show bz z = 0 from if_pos c] at k
    exact g_if_eqT d1 hz c (g_iconst d4 k)
  · rw [show bz z = 1 from if_neg c] at k
    exact g_if_eqF d1 hz c (g_iconst d2 (g_goto d3 k))
theorem g_lcmp_eqT {l : Launch} {E : EE} {b0 n c1 c2 : Nat} {h : AH} {M : MB} {X : State → Prop} {Z : ZT} {L : LL} {st : List Value} {pc pc1 pc' tgt : Nat} {off a b : Int} (hd1 : DC M.2.1 pc .lcmp 1 pc1) (hd : DB M.2.1 pc1 (.ifCond .eq off) off 3 pc' tgt) (ha : inJ a) (hb2 : inJ b) (hc : a = b) (k : G l E b0 M X Z c1 c2 n h tgt L st) : G l E b0 M X Z c1 c2 n h pc L (vJ b :: vJ a :: st) := g_lcmp_eq hd1 hd ha hb2 (r := ()) (A := some ()) (B := some ()) (by split <;> rfl) (fun _ _ => k) (fun q => absurd hc q)
theorem RAc_le {B C now last : Int} {K : Nat → Nat} {R : Nat → RowT} {undos redos : Int} {uR uS rR rS row sums : Nat → Int} (h : RAc B now last K R undos redos uR uS rR rS row sums) (hc : B ≤ C) : RAc C now last K R undos redos uR uS rR rS row sums := by
  obtain ⟨u, r, e1, e2, e3, e4, e5, k1, k2, k3, k4, k5, k6, k7⟩ := h
  exact ⟨u, r, e1, e2, e3, e4, e5, k1, k2, k3, fun i hi => ⟨(k4 i hi).1, rW_le (k4 i hi).2 hc⟩, k5, rW_le k6 hc, fun i hi => ⟨(k7 i hi).1, rW_le (k7 i hi).2 hc⟩⟩
theorem RMk_new {fl s g w o lo ca B f2 : Int} {mk mk2 row S k2 k3 : Nat → Int} (h : RMk fl s g w o lo ca mk mk2) (hw : rW B row S) (e1 : f2 = cnt row 100) (e2 : k2 = row) (e3 : k3 = row) : RMk f2 s g w o lo ca k2 k3 := by
  obtain ⟨-, -, -, -, -, h6⟩ := h
  rw [e1, e2, e3]
  exact ⟨rfl, hw.1, hw.2.1, hw.2.2.1, rfl, h6⟩
theorem RTp_eq {many taped : Int} {bytes tape : Nat → Int} (h : RTp many taped bytes tape) : many = taped := by
  obtain ⟨n, h1, h2, -, -⟩ := h
  exact h1.trans h2.symm
theorem RAc_eq {B now last : Int} {K : Nat → Nat} {R : Nat → RowT} {undos redos : Int} {uR uS rR rS row sums : Nat → Int} (h : RAc B now last K R undos redos uR uS rR rS row sums) : now = undos := by
  obtain ⟨u, r, e1, e2, e3, -⟩ := h
  exact e3.trans e1.symm
theorem RGn_eq {B many own cross pm sm systems own2 cross2 : Int} {px py pz sx sy sz ways grain gS : Nat → Int} {K : Nat → Nat} {R : Nat → RowT} (h : RGn B many own cross pm px py pz sm sx sy sz K R systems own2 cross2 ways grain gS) : many = systems := by
  obtain ⟨n, h1, h2, -⟩ := h
  exact h1.trans h2.symm
theorem RSi_eq {sm em sights : Int} {sE sS sE2 sS2 : Nat → Int} (h : RSi sm em sE sS sights sE2 sS2) : sm = sights := by
  obtain ⟨n, h1, h2, -⟩ := h
  exact h1.trans h2.symm
theorem RWy_eq {many m : Int} {xs ys zs way : Nat → Int} {o : Nat} (h : RWy many xs ys zs m way o) : many = m := by
  obtain ⟨n, h1, h2, -⟩ := h
  exact h1.trans h2.symm
theorem k_L_72 : Cond.constantLong RL 72 (Int64.ofInt 4294967295) ∈ GW := GW_of 2105 (by decide +kernel) (by decide +kernel)
theorem Rel.sb {N N' : Nat → Int} {F F' : Nat → Nat → Int} {K : Nat → Nat → Nat} {R : Nat → Nat → RowT} {B : Int} (h : Rel B N F K R N' F') : -B ≤ (F' 30) 0 ∧ (F' 30) 0 ≤ B := by
  obtain ⟨-, -, -, -, h5⟩ := h.rw
  unfold sB at h5
  first | exact h5.1 | omega

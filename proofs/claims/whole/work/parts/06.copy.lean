section GN
variable {l : Launch} {E : EE} {b0 : Nat} {M : MB} {X : State → Prop} {Z : ZT} {c1 c2 n n' pc pc' : Nat} {h h0 h' : AH} {L : LL} {st : List Value} {a x z : Int} {ρ : Type} {r : ρ} {B : Option ρ} {as : List Nat} {es es' : List va_E} {o : Nat}
/-- arraycopy of ints, whole rows or parts of them -/
def cpy (f g : Nat → Int) (sp dp k : Int) : Nat → Int := fun j => if dp ≤ (j : Int) ∧ (j : Int) < dp + k then f (sp.toNat + (j - dp.toNat)) else g j
theorem okA_cpy {f g : Nat → Int} {sp dp k : Int} (hf : okA f) (hg : okA g) : okA (cpy f g sp dp k) := fun j => by
  unfold cpy; split
  · exact hf _
  · exact hg _
theorem g_copy (i j : Nat) {idx o2 N N2 : Nat} {f g : Nat → Int} {sp dp k : Int} (hw : Cond.methodLink M.2.2.2.2.2 idx arraycopyName ∈ GW ∧ Cond.native arraycopyName ∈ GW ∧ Cond.static arraycopyName ∈ GW ∧ Cond.initialized "java/lang/System" ∈ GW)
    (ao : AO b0 n as) (ha : as[i]? = some o) (he : es[i]? = some (IA E N f)) (ha2 : as[j]? = some o2) (he2 : es[j]? = some (IA E N2 g)) (hes : es.set j (IA E N2 (cpy f g sp dp k)) = es') (hN : N ≤ 2147483647) (hN2 : N2 ≤ 2147483647) (hd : DC M.2.1 pc (.invokestatic idx) 3 pc')
    (hs : chk (0 ≤ sp ∧ 0 ≤ dp ∧ 0 ≤ k ∧ sp + k ≤ (N : Int) ∧ dp + k ≤ (N2 : Int)) B = some r) (hf : 1 ≤ M.2.2.2.2.1.frames) (hlo : (st.map fun v => v.category).sum + (nativeFrameWords "java/lang/System" "arraycopy" 5 + 11) ≤ M.2.2.2.2.1.locals)
    (kk : (0 ≤ sp ∧ 0 ≤ dp ∧ 0 ≤ k ∧ sp + k ≤ (N : Int) ∧ dp + k ≤ (N2 : Int)) → B = some r → G l E b0 M X Z c1 c2 n (ov as es' h0) pc' L st) : G l E b0 M X Z c1 c2 n (ov as es h0) pc L (vI k :: vI dp :: .ref o2 :: vI sp :: .ref o :: st) := by
  intro p e s m args below meth c C hX hb H locs ls hR hS hl
  obtain ⟨hd, rfl⟩ := hd
  obtain ⟨hx, hs⟩ := chk_elim hs
  obtain ⟨q1, q2, q3, q4, q5⟩ := id hx
  have hts := C.2.2.2.2.2.1
  have hbo := ao.2 i o ha
  have hbo2 := ao.2 j o2 ha2
  have hc0 := hR.2 o hbo.1 hbo.2
  rw [ov_get i ao.1 ha he] at hc0
  have hc1 := hR.2 o2 hbo2.1 hbo2.2
  rw [ov_get j ao.1 ha2 he2] at hc1
  have hc0 : H[o]? = some (vp_cell (E.2.1 0) (N, .inl (fun j => Int32.ofInt (f j)))) := hc0
  have hc1 : H[o2]? = some (vp_cell (E.2.1 0) (N2, .inl (fun j => Int32.ofInt (g j)))) := hc1
  have isp : inI sp := ⟨by omega, by omega⟩
  have idp : inI dp := ⟨by omega, by omega⟩
  have ik : inI k := ⟨by omega, by omega⟩
  have nn : ∀ z : Int, inI z → 0 ≤ z → ¬ Int32.ofInt z < 0 := fun z hz h0 => by rw [← ofI_0, ofI_lt hz inI_0]; omega
  obtain ⟨-, k0, hk0, cm0, hkk0⟩ := (C.2.2.2.2.2.2.2.1.1.2 0 _ rfl).1 N (fun j => .int (Int32.ofInt (f j)))
  obtain ⟨-, k1, hk1, cm1, hkk1⟩ := (C.2.2.2.2.2.2.2.1.1.2 0 _ rfl).1 N2 (fun j => .int (Int32.ofInt (g j)))
  intro T hT X1
  obtain ⟨vm', X', step⟩ := X1.arraycopy C.1 C.2.2.2.2.1 (hts _ hw.1) (hts _ hw.2.1) (hts _ hw.2.2.1) (hts _ hw.2.2.2) (src := o) (dst := o2) (cs := vp_cell (E.2.1 0) (N, .inl (fun j => Int32.ofInt (f j)))) (cd := vp_cell (E.2.1 0) (N2, .inl (fun j => Int32.ofInt (g j)))) (srcPos := Int32.ofInt sp) (destPos := Int32.ofInt dp) (n := Int32.ofInt k) (by rw [hT]; exact hc0) (by rw [hT]; exact hc1)
    (fun _ h => by cases h) (fun _ h => by cases h) (fun h => by cases h) (fun h => by cases h) hk0 hk1 hkk0 hkk1 (by simp [refKind]) (nn sp isp q1) (nn dp idp q2) (nn k ik q3)
    (by rw [ofI_toInt isp, ofI_toInt ik]; show ¬ _ > ((arrV _ N (fun j => .int (Int32.ofInt (f j)))).slots.size : Int); rw [arrV_size]; omega)
    (by rw [ofI_toInt idp, ofI_toInt ik]; show ¬ _ > ((arrV _ N2 (fun j => .int (Int32.ofInt (g j)))).slots.size : Int); rw [arrV_size]; omega)
    (fun vm₁ _ i2 hi => by
      have e : (vp_cell (E.2.1 0) (N, .inl (fun j => Int32.ofInt (f j)))).slots.getD ((Int32.ofInt sp).toNatClampNeg + i2) .null = .int (Int32.ofInt (f ((Int32.ofInt sp).toNatClampNeg + i2))) := by
        show (arrV _ N (fun j => .int (Int32.ofInt (f j)))).slots.getD _ _ = _
        rw [Array.getD_eq_getD_getElem?, arrV_read _ _ (by rw [ofI_clamp ik] at hi; rw [ofI_clamp isp]; omega)]
        rfl
      refine ⟨?_, ?_⟩
      · rw [e]
        rfl
      · rw [e]
        exact trivial)
    (g := F0 m pc ls (vI k :: vI dp :: .ref o2 :: vI sp :: .ref o :: st)) rfl (hl.1.trans C.2.2.1.symm) (rest := st) rfl (by rw [C.2.1]; exact hd) hf (by show 2 * 0 + _ + _ ≤ _; rw [Nat.mul_zero, Nat.zero_add]; exact hlo)
  have e1 : copied (vp_cell (E.2.1 0) (N, .inl (fun j => Int32.ofInt (f j)))) (vp_cell (E.2.1 0) (N2, .inl (fun j => Int32.ofInt (g j)))) (Int32.ofInt sp) (Int32.ofInt dp) (Int32.ofInt k) = vp_cell (E.2.1 0) (N2, .inl (fun j => Int32.ofInt (cpy f g sp dp k j))) := by
    refine (va_copied (fun z => .int z) (E.2.1 0) (E.2.1 0) (fun j => Int32.ofInt (f j)) (fun j => Int32.ofInt (g j)) (by rw [ofI_clamp isp, ofI_clamp ik]; omega)).trans ?_
    rw [vp_cell_i]
    congr 1
    funext q
    rw [ofI_clamp isp, ofI_clamp ik, ofI_clamp idp]
    unfold va_cpy cpy
    by_cases hq : dp ≤ (q : Int) ∧ (q : Int) < dp + k
    · rw [if_pos hq, if_pos (by omega)]
    · rw [if_neg hq, if_neg (by omega)]
  rw [e1] at X' step
  have hlt : o2 < H.size := (Array.getElem?_eq_some_iff.mp hc1).1
  have hheap : ((T.setVm vm').setCell o2 (vp_cell (E.2.1 0) (N2, .inl (fun j => Int32.ofInt (cpy f g sp dp k j))))).heap = H.setIfInBounds o2 (vp_cell (E.2.1 0) (N2, .inl (fun j => Int32.ofInt (cpy f g sp dp k j)))) := by rw [← hT]; rfl
  have oq : ∀ q : Nat, q ≠ o2 → (H.setIfInBounds o2 (vp_cell (E.2.1 0) (N2, .inl (fun j => Int32.ofInt (cpy f g sp dp k j)))))[q]? = H[q]? := fun q hq => by simp [Array.getElem?_setIfInBounds, Ne.symm hq]
  have hR2 : RH E b0 n (ov as es' h0) (H.setIfInBounds o2 (vp_cell (E.2.1 0) (N2, .inl (fun j => Int32.ofInt (cpy f g sp dp k j))))) := by
    rw [ov_set j ao.1 ha2 he2 hes]
    refine RH_upd hR (by simp) oq ?_
    show (H.setIfInBounds o2 _)[o2]? = some _
    rw [show cpy f g sp dp k = cpy f g sp dp k from rfl]
    simp [Array.getElem?_setIfInBounds, hlt]
  obtain ⟨t, a1, b1⟩ := kk hx hs p e s m args below meth c C hX hb _ _ ls hR2 ⟨by simp; exact hS.1, fun q g1 g2 => by
      rw [oq q (fun e => g2 (by rw [e]; exact hbo2.1))]
      exact hS.2.1 q g1 g2, fun q hq => by
      rcases List.mem_append.mp hq with h | h
      · exact hS.2.2 q h
      · obtain ⟨z, -, hz⟩ := List.mem_map.mp h
        rw [← hz]
        exact hbo2.1⟩ hl _ hheap X'
  exact ⟨t, step t a1, b1⟩
end GN

/-! ===== the law's own rows: the script, the end ===== -/
def ML : MB := (yL_law, cL_law, 4, ret, room_1, RL)
def XS (b b0 L : Nat) (xs : Nat → Int32) (s : State) : Prop := va_X b L xs s s.heap ∧ b0 = s.heap.size ∧ b < b0
def ZL (b : Nat) : ZT := fun below args s t => args = #[Value.ref b] → lw_Z below #[Value.ref b] s t
section LW
variable {l : Launch} {E : EE} {b0 : Nat} {M : MB} {Z : ZT} {c1 c2 n pc pc' b N : Nat} {h : AH} {L : LL} {st : List Value} {z : Int} {xs : Nat → Int32}
theorem g_sld (hN : N ≤ 2147483648) (hd : DC M.2.1 pc .iaload 1 pc') (hx : inB z N) (kk : G l E b0 M (XS b b0 N xs) Z c1 c2 n h pc' L (vI (xs z.toNat).toInt :: st)) : G l E b0 M (XS b b0 N xs) Z c1 c2 n h pc L (vI z :: .ref b :: st) := by
  intro p e s m args below meth c C hX hb H locs ls hR hS hl
  obtain ⟨hd, rfl⟩ := hd
  have kk := kk p e s m args below meth c C hX hb H locs ls hR hS hl
  obtain ⟨hin, hcl⟩ := inB_in hx hN
  refine va_sld C.1 C.2.1 hX.1 (Nat.lt_of_lt_of_le hX.2.2 hb) (fun q => Nat.not_le.mpr hX.2.2 q) hS hin hd ?_
  rw [hcl]
  rw [show vI (xs z.toNat).toInt = Value.int (xs z.toNat) from congrArg Value.int (Int32.ofInt_toInt _)] at kk
  exact kk
theorem g_slen (hd : DC M.2.1 pc .arraylength 1 pc') (kk : G l E b0 M (XS b b0 N xs) Z c1 c2 n h pc' L (vI (N : Int) :: st)) : G l E b0 M (XS b b0 N xs) Z c1 c2 n h pc L (.ref b :: st) := by
  intro p e s m args below meth c C hX hb H locs ls hR hS hl
  obtain ⟨hd, rfl⟩ := hd
  have kk := kk p e s m args below meth c C hX hb H locs ls hR hS hl
  refine va_slen C.1 C.2.1 hX.1 (Nat.lt_of_lt_of_le hX.2.2 hb) (fun q => Nat.not_le.mpr hX.2.2 q) hS hd ?_
  rw [show Value.int (Int32.ofNat N) = vI (N : Int) from congrArg Value.int Int32.ofInt_eq_ofNat.symm]
  exact kk
theorem g_lawret (hf : c1 ≤ 600000 ∧ c2 ≤ 7302250) (hdg : decode code pc = .ok (.ireturn, 1)) : G l E b0 ML (XS b b0 N xs) (ZL b) c1 c2 n h pc L [vI 1] := by
  intro p e s m args below meth c C hX hb H locs ls hR hS hl
  by_cases ha : args = #[Value.ref b]
  · subst ha
    refine va_forget (fun q hq => by have := hS.2.2 q hq; have := hX.2.1; omega) ?_
    refine W.widen hf.1 hf.2 ?_
    have hw := lw_ret (m := m) (s := s) (b := b) (below := below) (e := e) (l := l) (pc := pc) (H := H) (ls := ls) C.1 C.2.1 C.2.2.2.1 C.2.2.2.2.2.2.1 hdg
    intro T hT X
    obtain ⟨t, a1, hq⟩ := hw T hT X
    exact ⟨t, a1, fun _ => hq⟩
  · intro T hT X
    exact ⟨_, Steps.refl _, fun q => absurd q ha⟩
end LW

/-- one class known -/
theorem kn_of {s : State} {A : Array Value} {C : String} {T : u_T} {N n : Nat} (hts : ∀ w ∈ lw_tbl, w.before A s = true) (tk : TK C T N) (i : Nat) (hi : lw_tbl[i]? = some (.instantiable C n)) : ∃ q : ClassId × (Nat → Nat), u_Kn s C T N q.1 q.2 := by
  obtain ⟨c, f, h⟩ := u_known (n := n) (fun w hw => hts w (List.mem_filter.mp hw).1) tk.1 (hts _ (List.mem_of_getElem? hi))
  exact ⟨(c, f), h⟩
theorem kc_of {s : State} {A : Array Value} (hts : ∀ w ∈ lw_tbl, w.before A s = true) : ∃ D : va_G, ∀ (c : Nat) (q : vw_C), vwCl[c]? = some q → u_Kn s q.1 q.2.1 q.2.2 (D.1 c) (D.2 c) := by
  have h : ∀ c : Nat, ∃ d : ClassId × (Nat → Nat), ∀ q : vw_C, vwCl[c]? = some q → u_Kn s q.1 q.2.1 q.2.2 d.1 d.2 := by
    intro c
    match c with
    | 0 => obtain ⟨d, h⟩ := kn_of hts tkX0 291 (n := 3) (by decide +kernel); exact ⟨d, fun q hq => by cases hq; exact h⟩
    | 1 => obtain ⟨d, h⟩ := kn_of hts tkX1 463 (n := 7) (by decide +kernel); exact ⟨d, fun q hq => by cases hq; exact h⟩
    | 2 => obtain ⟨d, h⟩ := kn_of hts tkX2 413 (n := 12) (by decide +kernel); exact ⟨d, fun q hq => by cases hq; exact h⟩
    | 3 => obtain ⟨d, h⟩ := kn_of hts tkX3 318 (n := 14) (by decide +kernel); exact ⟨d, fun q hq => by cases hq; exact h⟩
    | 4 => obtain ⟨d, h⟩ := kn_of hts tkX4 214 (n := 6) (by decide +kernel); exact ⟨d, fun q hq => by cases hq; exact h⟩
    | 5 => obtain ⟨d, h⟩ := kn_of hts tkX5 112 (n := 5) (by decide +kernel); exact ⟨d, fun q hq => by cases hq; exact h⟩
    | 6 => obtain ⟨d, h⟩ := kn_of hts tkX6 241 (n := 10) (by decide +kernel); exact ⟨d, fun q hq => by cases hq; exact h⟩
    | 7 => obtain ⟨d, h⟩ := kn_of hts tkX7 311 (n := 12) (by decide +kernel); exact ⟨d, fun q hq => by cases hq; exact h⟩
    | 8 => obtain ⟨d, h⟩ := kn_of hts tkX8 141 (n := 4) (by decide +kernel); exact ⟨d, fun q hq => by cases hq; exact h⟩
    | 9 => obtain ⟨d, h⟩ := kn_of hts tkX9 135 (n := 14) (by decide +kernel); exact ⟨d, fun q hq => by cases hq; exact h⟩
    | 10 => obtain ⟨d, h⟩ := kn_of hts tkX10 104 (n := 10) (by decide +kernel); exact ⟨d, fun q hq => by cases hq; exact h⟩
    | 11 => obtain ⟨d, h⟩ := kn_of hts tkX11 1438 (n := 71) (by decide +kernel); exact ⟨d, fun q hq => by cases hq; exact h⟩
    | c + 12 => exact ⟨(0, fun _ => 0), fun q hq => by simp at hq⟩
  obtain ⟨f, hf⟩ := Classical.axiomOfChoice h
  exact ⟨(fun c => (f c).1, fun c => (f c).2), fun c q hq => hf c q hq⟩
theorem ar_of {s : State} {A : Array Value} {ty : FieldType} (h : (Cond.arrayClass ty).before A s = true) : ∃ c : ClassId, ArrOfT s c ty ∧ s.vm.findClass ("[" ++ ty.toString) = some c := by
  obtain ⟨c, k, comp, h1, h2, h3⟩ := Cond.arrayClass_spec h
  exact ⟨c, fun n z => ⟨fun q h => (by cases h), k, h2, comp, h3⟩, h1⟩
theorem rr_of {s : State} {A : Array Value} {C : String} (h : (Cond.arrayOver (.object C)).before A s = true) : ∃ c : ClassId, ArrOfT s c (.object C) ∧ va_RA s c (.object C) := by
  obtain ⟨comp, c, k, h1, -, h2, h3, h4⟩ := Cond.arrayOver_spec h
  exact ⟨c, fun n z => ⟨fun q h => (by cases h), k, h2, comp, h3⟩, k, comp, h2, h3, h1, h4⟩
theorem va_eqRR {args : Array Value} {s : State} {t u : Term} {a b : Nat} (h : (Cond.eq t u).before args s = true) (ht : t.eval args s none [] s = some (.ref a)) (hu : u.eval args s none [] s = some (.ref b)) : u.eval args s none [] s = some (.ref a) := by
  have e : a = b := by simpa [Cond.before, Cond.holds, Cond.value, ht, hu] using h
  rw [hu, e]
theorem ex_ev {args : Array Value} {s : State} {t : Term} (h : (Cond.exactly t "java/lang/String").before args s = true) : ∃ a : Nat, t.eval args s none [] s = some (.ref a) := by
  obtain ⟨a, c, cA, kA, q1, -⟩ := Cond.exactly_spec (args := args) (first := s) (o := none) (s := s) (idx := []) (t := t) (cls := "java/lang/String") h
  exact ⟨a, q1⟩
def sIx : List Nat := [80, 86, 88, 90, 92, 94, 96]
def mIx : List Nat := [178, 180, 182, 184, 185, 187, 189]
theorem lt7 {P : Nat → Prop} (h : P 0 ∧ P 1 ∧ P 2 ∧ P 3 ∧ P 4 ∧ P 5 ∧ P 6) : ∀ i : Nat, i < 7 → P i := by
  intro i hi
  obtain ⟨h0, h1, h2, h3, h4, h5, h6⟩ := h
  match i, hi with
  | 0, _ => exact h0
  | 1, _ => exact h1
  | 2, _ => exact h2
  | 3, _ => exact h3
  | 4, _ => exact h4
  | 5, _ => exact h5
  | 6, _ => exact h6
  | i + 7, hi => omega
theorem sx_of {s : State} {b b0 : Nat} (hb0 : b0 = s.heap.size) (hts : ∀ w ∈ lw_tbl, w.before #[Value.ref b] s = true) (hgv : (Jvm.Cond.and given_1 narrow_1).before #[Value.ref b] s = true) : ∃ adK adV : Nat → Nat, vk_S 7 sLens sByts adK adV (fun q => b0 ≤ q) s s.heap ∧ (∀ q ∈ SR, vk_R q.1 q.2.1 q.2.2.1 (adK q.2.2.2) s) ∧ va_Z "java/lang/String" "COMPACT_STRINGS" "Z" (.int 1) (fun q => b0 ≤ q) s s.heap ∧ va_Zq "jdk/internal/util/Preconditions" "SIOOBE_FORMATTER" "Ljava/util/function/BiFunction;" (fun q => b0 ≤ q) s s.heap := by
  have hs := flat_of_before _ hgv
  have hA : ∀ a : Nat, a < s.heap.size → ¬ b0 ≤ a := fun a ha => by omega
  have hel : ∀ i : Nat, i < 7 → ∀ j : Nat, j < sLens.getD i 0 → (Cond.eq (.elem (.field (Term.string "SlidingFlaws$Reader" (sIx.getD i 0)) "java/lang/String" "value" "[B") (.int (Int32.ofNat j))) (.int ((sByts.getD i []).getD j 0))).before #[Value.ref b] s = true := by
    refine lt7 ⟨?_, ?_, ?_, ?_, ?_, ?_, ?_⟩
    · intro j hj
      match j, hj with
      | 0, _ => exact hs _ (by decide +kernel)
      | 1, _ => exact hs _ (by decide +kernel)
      | 2, _ => exact hs _ (by decide +kernel)
      | 3, _ => exact hs _ (by decide +kernel)
      | j + 4, hj => exact absurd (show j + 4 < 4 from hj) (by omega)
    · intro j hj
      match j, hj with
      | 0, _ => exact hs _ (by decide +kernel)
      | 1, _ => exact hs _ (by decide +kernel)
      | 2, _ => exact hs _ (by decide +kernel)
      | 3, _ => exact hs _ (by decide +kernel)
      | 4, _ => exact hs _ (by decide +kernel)
      | j + 5, hj => exact absurd (show j + 5 < 5 from hj) (by omega)
    · intro j hj
      match j, hj with
      | 0, _ => exact hs _ (by decide +kernel)
      | 1, _ => exact hs _ (by decide +kernel)
      | 2, _ => exact hs _ (by decide +kernel)
      | j + 3, hj => exact absurd (show j + 3 < 3 from hj) (by omega)
    · intro j hj
      match j, hj with
      | 0, _ => exact hs _ (by decide +kernel)
      | 1, _ => exact hs _ (by decide +kernel)
      | 2, _ => exact hs _ (by decide +kernel)
      | 3, _ => exact hs _ (by decide +kernel)
      | j + 4, hj => exact absurd (show j + 4 < 4 from hj) (by omega)
    · intro j hj
      match j, hj with
      | 0, _ => exact hs _ (by decide +kernel)
      | 1, _ => exact hs _ (by decide +kernel)
      | 2, _ => exact hs _ (by decide +kernel)
      | 3, _ => exact hs _ (by decide +kernel)
      | 4, _ => exact hs _ (by decide +kernel)
      | j + 5, hj => exact absurd (show j + 5 < 5 from hj) (by omega)
    · intro j hj
      match j, hj with
      | 0, _ => exact hs _ (by decide +kernel)
      | 1, _ => exact hs _ (by decide +kernel)
      | 2, _ => exact hs _ (by decide +kernel)
      | 3, _ => exact hs _ (by decide +kernel)
      | 4, _ => exact hs _ (by decide +kernel)
      | 5, _ => exact hs _ (by decide +kernel)
      | j + 6, hj => exact absurd (show j + 6 < 6 from hj) (by omega)
    · intro j hj
      match j, hj with
      | 0, _ => exact hs _ (by decide +kernel)
      | 1, _ => exact hs _ (by decide +kernel)
      | 2, _ => exact hs _ (by decide +kernel)
      | 3, _ => exact hs _ (by decide +kernel)
      | j + 4, hj => exact absurd (show j + 4 < 4 from hj) (by omega)
  have hne : ∀ i : Nat, i < 7 → ∀ j : Nat, j < 7 → i ≠ j → (Cond.not (Cond.eq (Term.string "SlidingFlaws$Reader" (sIx.getD i 0)) (Term.string "SlidingFlaws$Reader" (sIx.getD j 0)))).before #[Value.ref b] s = true ∨ (Cond.not (Cond.eq (Term.string "SlidingFlaws$Reader" (sIx.getD j 0)) (Term.string "SlidingFlaws$Reader" (sIx.getD i 0)))).before #[Value.ref b] s = true := by
    refine lt7 ⟨?_, ?_, ?_, ?_, ?_, ?_, ?_⟩
    · intro j hj hij
      match j, hj, hij with
      | 0, _, h => exact absurd rfl h
      | 1, _, _ => exact Or.inl (hs _ (by decide +kernel))
      | 2, _, _ => exact Or.inl (hs _ (by decide +kernel))
      | 3, _, _ => exact Or.inl (hs _ (by decide +kernel))
      | 4, _, _ => exact Or.inl (hs _ (by decide +kernel))
      | 5, _, _ => exact Or.inl (hs _ (by decide +kernel))
      | 6, _, _ => exact Or.inl (hs _ (by decide +kernel))
      | j + 7, hj, _ => exact absurd hj (by omega)
    · intro j hj hij
      match j, hj, hij with
      | 0, _, _ => exact Or.inr (hs _ (by decide +kernel))
      | 1, _, h => exact absurd rfl h
      | 2, _, _ => exact Or.inl (hs _ (by decide +kernel))
      | 3, _, _ => exact Or.inl (hs _ (by decide +kernel))
      | 4, _, _ => exact Or.inl (hs _ (by decide +kernel))
      | 5, _, _ => exact Or.inl (hs _ (by decide +kernel))
      | 6, _, _ => exact Or.inl (hs _ (by decide +kernel))
      | j + 7, hj, _ => exact absurd hj (by omega)
    · intro j hj hij
      match j, hj, hij with
      | 0, _, _ => exact Or.inr (hs _ (by decide +kernel))
      | 1, _, _ => exact Or.inr (hs _ (by decide +kernel))
      | 2, _, h => exact absurd rfl h
      | 3, _, _ => exact Or.inl (hs _ (by decide +kernel))
      | 4, _, _ => exact Or.inl (hs _ (by decide +kernel))
      | 5, _, _ => exact Or.inl (hs _ (by decide +kernel))
      | 6, _, _ => exact Or.inl (hs _ (by decide +kernel))
      | j + 7, hj, _ => exact absurd hj (by omega)
    · intro j hj hij
      match j, hj, hij with
      | 0, _, _ => exact Or.inr (hs _ (by decide +kernel))
      | 1, _, _ => exact Or.inr (hs _ (by decide +kernel))
      | 2, _, _ => exact Or.inr (hs _ (by decide +kernel))
      | 3, _, h => exact absurd rfl h
      | 4, _, _ => exact Or.inl (hs _ (by decide +kernel))
      | 5, _, _ => exact Or.inl (hs _ (by decide +kernel))
      | 6, _, _ => exact Or.inl (hs _ (by decide +kernel))
      | j + 7, hj, _ => exact absurd hj (by omega)
    · intro j hj hij
      match j, hj, hij with
      | 0, _, _ => exact Or.inr (hs _ (by decide +kernel))
      | 1, _, _ => exact Or.inr (hs _ (by decide +kernel))
      | 2, _, _ => exact Or.inr (hs _ (by decide +kernel))
      | 3, _, _ => exact Or.inr (hs _ (by decide +kernel))
      | 4, _, h => exact absurd rfl h
      | 5, _, _ => exact Or.inl (hs _ (by decide +kernel))
      | 6, _, _ => exact Or.inl (hs _ (by decide +kernel))
      | j + 7, hj, _ => exact absurd hj (by omega)
    · intro j hj hij
      match j, hj, hij with
      | 0, _, _ => exact Or.inr (hs _ (by decide +kernel))
      | 1, _, _ => exact Or.inr (hs _ (by decide +kernel))
      | 2, _, _ => exact Or.inr (hs _ (by decide +kernel))
      | 3, _, _ => exact Or.inr (hs _ (by decide +kernel))
      | 4, _, _ => exact Or.inr (hs _ (by decide +kernel))
      | 5, _, h => exact absurd rfl h
      | 6, _, _ => exact Or.inl (hs _ (by decide +kernel))
      | j + 7, hj, _ => exact absurd hj (by omega)
    · intro j hj hij
      match j, hj, hij with
      | 0, _, _ => exact Or.inr (hs _ (by decide +kernel))
      | 1, _, _ => exact Or.inr (hs _ (by decide +kernel))
      | 2, _, _ => exact Or.inr (hs _ (by decide +kernel))
      | 3, _, _ => exact Or.inr (hs _ (by decide +kernel))
      | 4, _, _ => exact Or.inr (hs _ (by decide +kernel))
      | 5, _, _ => exact Or.inr (hs _ (by decide +kernel))
      | 6, _, h => exact absurd rfl h
      | j + 7, hj, _ => exact absurd hj (by omega)
  obtain ⟨adK, adV, h1, h2⟩ := vk_Sof (args := #[Value.ref b]) (s := s) (N := 7) (tm := fun i => Term.string "SlidingFlaws$Reader" (sIx.getD i 0)) (len := sLens) (byt := sByts) (A := fun q => b0 ≤ q) (by decide)
    (lt7 ⟨hs _ (by decide +kernel), hs _ (by decide +kernel), hs _ (by decide +kernel), hs _ (by decide +kernel), hs _ (by decide +kernel), hs _ (by decide +kernel), hs _ (by decide +kernel)⟩)
    (lt7 ⟨hs _ (by decide +kernel), hs _ (by decide +kernel), hs _ (by decide +kernel), hs _ (by decide +kernel), hs _ (by decide +kernel), hs _ (by decide +kernel), hs _ (by decide +kernel)⟩)
    (lt7 ⟨hs _ (by decide +kernel), hs _ (by decide +kernel), hs _ (by decide +kernel), hs _ (by decide +kernel), hs _ (by decide +kernel), hs _ (by decide +kernel), hs _ (by decide +kernel)⟩)
    (lt7 ⟨hs _ (by decide +kernel), hs _ (by decide +kernel), hs _ (by decide +kernel), hs _ (by decide +kernel), hs _ (by decide +kernel), hs _ (by decide +kernel), hs _ (by decide +kernel)⟩)
    hel (fun i j hi hj hij => hne i hi j hj hij) hA
  · refine ⟨adK, adV, h1, ?_, va_Zof (hts _ (List.mem_of_getElem? (i := 625) (by decide +kernel))) (hts _ (List.mem_of_getElem? (i := 98) (by decide +kernel))) (va_eqt (hs _ (by decide +kernel))) hA, va_Zqof (hts _ (List.mem_of_getElem? (i := 641) (by decide +kernel))) (hts _ (List.mem_of_getElem? (i := 100) (by decide +kernel))) (hs _ (by decide +kernel)) hA⟩
    have hr : ∀ i : Nat, i < 7 → (Term.string "SlidingFlaws$Reader" (sIx.getD i 0)).eval #[Value.ref b] s none [] s = some (.ref (adK i)) := h2
    have hm : ∀ i : Nat, i < 7 → (Term.string "SlidingFlawsModel" (mIx.getD i 0)).eval #[Value.ref b] s none [] s = some (.ref (adK i)) := by
      intro i hi
      have hx : ∀ i : Nat, i < 7 → (Cond.exactly (Term.string "SlidingFlawsModel" (mIx.getD i 0)) "java/lang/String").before #[Value.ref b] s = true := lt7 ⟨hs _ (by decide +kernel), hs _ (by decide +kernel), hs _ (by decide +kernel), hs _ (by decide +kernel), hs _ (by decide +kernel), hs _ (by decide +kernel), hs _ (by decide +kernel)⟩
      have he : ∀ i : Nat, i < 7 → (Cond.eq (Term.string "SlidingFlaws$Reader" (sIx.getD i 0)) (Term.string "SlidingFlawsModel" (mIx.getD i 0))).before #[Value.ref b] s = true := lt7 ⟨hs _ (by decide +kernel), hs _ (by decide +kernel), hs _ (by decide +kernel), hs _ (by decide +kernel), hs _ (by decide +kernel), hs _ (by decide +kernel), hs _ (by decide +kernel)⟩
      obtain ⟨a, ha⟩ := ex_ev (hx i hi)
      exact va_eqRR (he i hi) (hr i hi) ha
    intro q hq
    simp only [SR, List.mem_cons, List.not_mem_nil, or_false] at hq
    rcases hq with rfl | rfl | rfl | rfl | rfl | rfl | rfl | rfl | rfl | rfl | rfl | rfl | rfl | rfl
    · exact vk_R.of (hts _ (List.mem_of_getElem? (i := 611) (by decide +kernel))) (hr 0 (by decide))
    · exact vk_R.of (hts _ (List.mem_of_getElem? (i := 664) (by decide +kernel))) (hr 1 (by decide))
    · exact vk_R.of (hts _ (List.mem_of_getElem? (i := 665) (by decide +kernel))) (hr 2 (by decide))
    · exact vk_R.of (hts _ (List.mem_of_getElem? (i := 666) (by decide +kernel))) (hr 3 (by decide))
    · exact vk_R.of (hts _ (List.mem_of_getElem? (i := 667) (by decide +kernel))) (hr 4 (by decide))
    · exact vk_R.of (hts _ (List.mem_of_getElem? (i := 668) (by decide +kernel))) (hr 5 (by decide))
    · exact vk_R.of (hts _ (List.mem_of_getElem? (i := 669) (by decide +kernel))) (hr 6 (by decide))
    · exact vk_R.of (hts _ (List.mem_of_getElem? (i := 1687) (by decide +kernel))) (hm 0 (by decide))
    · exact vk_R.of (hts _ (List.mem_of_getElem? (i := 1688) (by decide +kernel))) (hm 1 (by decide))
    · exact vk_R.of (hts _ (List.mem_of_getElem? (i := 1689) (by decide +kernel))) (hm 2 (by decide))
    · exact vk_R.of (hts _ (List.mem_of_getElem? (i := 1690) (by decide +kernel))) (hm 3 (by decide))
    · exact vk_R.of (hts _ (List.mem_of_getElem? (i := 1691) (by decide +kernel))) (hm 4 (by decide))
    · exact vk_R.of (hts _ (List.mem_of_getElem? (i := 1692) (by decide +kernel))) (hm 5 (by decide))
    · exact vk_R.of (hts _ (List.mem_of_getElem? (i := 1693) (by decide +kernel))) (hm 6 (by decide))
theorem nf_at : ∀ i : Fin 46, lw_tbl[([153, 154, 155, 156, 171, 174, 176, 224, 226, 250, 251, 253, 254, 255, 257, 259, 261, 262, 264, 265, 267, 268, 301, 324, 330, 333, 335, 337, 338, 340, 344, 429, 435, 473, 474, 475, 476, 478, 479, 480, 481, 483, 484, 486, 487, 491] : List Nat).getD i 0]? = (NF[(i : Nat)]?).map (fun q => Cond.fieldLinkNest q.1 q.2.1 q.2.2.1 q.2.2.2.1 q.2.2.2.2 "SlidingFlaws") := by decide +kernel
theorem nm_at : ∀ i : Fin 19, lw_tbl[([113, 136, 215, 242, 298, 319, 374, 421, 464, 471, 562, 709, 724, 822, 949, 1004, 1090, 1164, 1269] : List Nat).getD i 0]? = (NM[(i : Nat)]?).map (fun q => Cond.methodLinkNest q.1 q.2.1 q.2.2 "SlidingFlaws") := by decide +kernel
theorem nf_in (q : String × Nat × String × String × String) (hq : q ∈ NF) : Cond.fieldLinkNest q.1 q.2.1 q.2.2.1 q.2.2.2.1 q.2.2.2.2 "SlidingFlaws" ∈ lw_tbl := by
  obtain ⟨i, hi⟩ := List.getElem?_of_mem hq
  have hl : i < 46 := (List.getElem?_eq_some_iff.mp hi).1
  have h := nf_at ⟨i, hl⟩
  rw [show NF[((⟨i, hl⟩ : Fin 46) : Nat)]? = some q from hi] at h
  exact List.mem_of_getElem? h
theorem nm_in (q : String × Nat × MethodName) (hq : q ∈ NM) : Cond.methodLinkNest q.1 q.2.1 q.2.2 "SlidingFlaws" ∈ lw_tbl := by
  obtain ⟨i, hi⟩ := List.getElem?_of_mem hq
  have hl : i < 19 := (List.getElem?_eq_some_iff.mp hi).1
  have h := nm_at ⟨i, hl⟩
  rw [show NM[((⟨i, hl⟩ : Fin 19) : Nat)]? = some q from hi] at h
  exact List.mem_of_getElem? h
theorem kx_of {s : State} {b b0 : Nat} (hb0 : b0 = s.heap.size) (hts : ∀ w ∈ lw_tbl, w.before #[Value.ref b] s = true) (hgv : (Jvm.Cond.and given_1 narrow_1).before #[Value.ref b] s = true) : ∃ E : EE, KX E b0 s := by
  obtain ⟨D, hD⟩ := kc_of hts
  obtain ⟨c0, a0, r0⟩ := ar_of (hts (Cond.arrayClass .int) (List.mem_of_getElem? (i := 133) (by decide +kernel)))
  obtain ⟨c1, a1, r1⟩ := ar_of (hts (Cond.arrayClass .long) (List.mem_of_getElem? (i := 461) (by decide +kernel)))
  obtain ⟨c2, a2, r2⟩ := ar_of (hts (Cond.arrayClass .boolean) (List.mem_of_getElem? (i := 166) (by decide +kernel)))
  obtain ⟨c3, a3, r3⟩ := ar_of (hts (Cond.arrayClass .byte) (List.mem_of_getElem? (i := 759) (by decide +kernel)))
  have ho := hts (Cond.arrayOver (.object "SlidingFlaws$Row")) (List.mem_of_getElem? (i := 297) (by decide +kernel))
  obtain ⟨c4, a4, r4⟩ := rr_of ho
  obtain ⟨adK, adV, h1, h2, h3, h4⟩ := sx_of hb0 hts hgv
  refine ⟨(D, (fun k => match k with | 0 => c0 | 1 => c1 | 2 => c2 | 3 => c3 | _ => c4), adK, adV), ⟨hD, ?_⟩, ⟨?_, ?_⟩, va_AO.of ho, h1, h2, h3, h4⟩
  · intro k q hk
    match k, hk with
    | 0, hk => cases hk; exact ⟨a0, r0⟩
    | 1, hk => cases hk; exact ⟨a1, r1⟩
    | 2, hk => cases hk; exact ⟨a2, r2⟩
    | 3, hk => cases hk; exact ⟨a3, r3⟩
    | 4, hk => cases hk; exact ⟨a4, r4⟩
    | k + 5, hk => simp [TY] at hk
  · exact fun q hq => va_Nw.of rfl (hts _ (nf_in q hq))
  · exact fun q hq => va_Nw.of rfl (hts _ (nm_in q hq))


/-! ===== LAW: facts of a heap behind a call ===== -/
/-- a heap that holds these cells holds, behind a call that wrote some of them, the new ones -/
theorem FA_step {h : AH} {as as' : List Nat} {es esn es' : List va_E} (ps : List Nat) (bs : List Bool) (hn : as.Nodup) (hlen : as.length = es.length) (hlen2 : es.length = esn.length) (hp : ps.map (fun i => as[i]?) = as'.map some) (hq : ps.map (fun i => esn[i]?) = es'.map some) (ho : sel bs es = sel bs esn) (hc : (List.range as.length).all (fun i => ps.contains i || bs.getD i false) = true) (hd : ps.Nodup) (hf : FA h as es) : FA (ov as' es' h) as esn := by
  intro i a e hi he
  have hn' : as'.Nodup := nodup_of fun i j a hi hj => by
    obtain ⟨p, h1, h2⟩ := pick_get hp hi
    obtain ⟨q, h3, h4⟩ := pick_get hp hj
    have := nodup_get hn h2 h4
    subst this
    exact nodup_get hd h1 h3
  have hl' : as'.length = es'.length := by
    have h1 := congrArg List.length hp
    have h2 := congrArg List.length hq
    simp only [List.length_map] at h1 h2
    omega
  by_cases h1 : ∃ j : Nat, as'[j]? = some a
  · obtain ⟨j, hj⟩ := h1
    obtain ⟨p, hpj, hap⟩ := pick_get hp hj
    have hpi : p = i := nodup_get hn hap hi
    subst hpi
    have hjl : j < es'.length := by rw [← hl']; exact (List.getElem?_eq_some_iff.mp hj).1
    have hje : es'[j]? = some es'[j] := List.getElem?_eq_getElem hjl
    have hpe : esn[p]? = some es'[j] := by
      have h3 : (es'.map some)[j]? = some (some es'[j]) := by rw [List.getElem?_map, hje]; rfl
      rw [← hq, List.getElem?_map, hpj] at h3
      exact Option.some.inj h3
    rw [ov_get j hn' hj hje]
    rw [hpe] at he
    exact Option.some.inj he
  · have h2 : ∀ (j a' : Nat), as'[j]? = some a' → a' ≠ a := fun j a' ha z => h1 ⟨j, by rw [← z]; exact ha⟩
    rw [ov_miss h2]
    have hil : i < as.length := (List.getElem?_eq_some_iff.mp hi).1
    have hbi : bs[i]? = some true := by
      have h3 := List.all_eq_true.mp hc i (List.mem_range.mpr hil)
      rw [Bool.or_eq_true] at h3
      rcases h3 with h3 | h3
      · have h4 : i ∈ ps := List.contains_iff_mem.mp h3
        obtain ⟨j, hj⟩ := List.getElem?_of_mem h4
        have h5 : (ps.map (fun i => as[i]?))[j]? = some (some a) := by rw [List.getElem?_map, hj]; exact congrArg some hi
        rw [hp, List.getElem?_map] at h5
        cases h6 : as'[j]? with
        | none => rw [h6] at h5; exact absurd h5 (by simp)
        | some b =>
          rw [h6] at h5
          have h7 : b = a := Option.some.inj (Option.some.inj h5)
          exact absurd ⟨j, by rw [h6, h7]⟩ h1
      · rw [List.getD_eq_getElem?_getD] at h3
        cases h6 : bs[i]? with
        | none => rw [h6] at h3; exact absurd h3 (by simp)
        | some b =>
          rw [h6] at h3
          cases b
          · exact absurd h3 (by simp)
          · rfl
    have := sel_eq (hlen2) ho i hbi
    rw [he] at this
    exact hf i a e hi this
/-- the cells that a call wants are among those that are held -/
theorem FA_sub {h : AH} {as as' : List Nat} {es es' : List va_E} (ps : List Nat) (hp : ps.map (fun i => as[i]?) = as'.map some) (hq : ps.map (fun i => es[i]?) = es'.map some) (hf : FA h as es) : FA h as' es' := by
  intro i a e hi he
  obtain ⟨p, h1, h2⟩ := pick_get hp hi
  have h3 : (es'.map some)[i]? = some (some e) := by rw [List.getElem?_map, he]; rfl
  rw [← hq, List.getElem?_map, h1] at h3
  exact hf p a e h2 (Option.some.inj h3)
/-- cells apart from a family stay behind a write of the family -/
theorem FA_fam {E : EE} {b0 n rb N : Nat} {R : Nat → RowT} {h : AH} {as : List Nat} {es : List va_E} (fo : FO b0 n as rb N) (hf : FA h as es) : FA (fam E rb N R h) as es := by
  intro i a e hi he
  have := fo.2.2 i a hi
  unfold fam
  rw [if_neg (by omega)]
  exact hf i a e hi he
/-- a family stays behind writes of other cells -/
theorem FF_miss {E : EE} {b0 n rb N : Nat} {R : Nat → RowT} {h : AH} {as : List Nat} {es : List va_E} (fo : FO b0 n as rb N) (hF : FF E h rb N R) : FF E (ov as es h) rb N R := by
  intro q h1 h2
  have hm : ∀ (i a : Nat), as[i]? = some a → a ≠ q := fun i a ha hh => by
    have := fo.2.2 i a ha
    omega
  rw [ov_miss hm, hF q h1 h2]
  unfold fam
  rw [if_pos ⟨h1, h2⟩, if_pos ⟨h1, h2⟩]
/-- a family stays behind a write of another family -/
theorem FF_other {E : EE} {rb N rb' N' : Nat} {R R' : Nat → RowT} {h : AH} (ha : rb + 4 * N ≤ rb' ∨ rb' + 4 * N' ≤ rb) (hF : FF E h rb N R) : FF E (fam E rb' N' R' h) rb N R := by
  intro q h1 h2
  have e : fam E rb' N' R' h q = h q := if_neg (by omega)
  rw [e, hF q h1 h2]
  unfold fam
  rw [if_pos ⟨h1, h2⟩, if_pos ⟨h1, h2⟩]

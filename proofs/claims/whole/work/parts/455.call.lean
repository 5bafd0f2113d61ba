def sel {α : Type} : List Bool → List α → List α
  | true :: bs, x :: l => x :: sel bs l
  | false :: bs, _ :: l => sel bs l
  | _, _ => []
theorem sel_eq {α : Type} : ∀ {bs : List Bool} {l l' : List α}, l.length = l'.length → sel bs l = sel bs l' → ∀ i : Nat, bs[i]? = some true → l[i]? = l'[i]?
  | [], _, _, _, _, i, hi => by simp at hi
  | _ :: _, [], [], _, _, i, _ => by simp
  | _ :: _, [], _ :: _, hl, _, _, _ => by cases hl
  | _ :: _, _ :: _, [], hl, _, _, _ => by cases hl
  | true :: bs, x :: l, y :: l', hl, hs, i, hi => by
    cases i with
    | zero => exact congrArg some (List.cons.inj hs).1
    | succ i => exact sel_eq (bs := bs) (l := l) (l' := l') (Nat.succ.inj hl) (List.cons.inj hs).2 i (by simpa using hi)
  | false :: bs, x :: l, y :: l', hl, hs, i, hi => by
    cases i with
    | zero => simp at hi
    | succ i => exact sel_eq (bs := bs) (l := l) (l' := l') (Nat.succ.inj hl) hs i (by simpa using hi)
theorem ov_miss {h : AH} {q : Nat} : ∀ {as : List Nat} {es : List va_E}, (∀ (i a : Nat), as[i]? = some a → a ≠ q) → ov as es h q = h q
  | [], _, _ => rfl
  | _ :: _, [], _ => rfl
  | x :: as, y :: es, hn => by
    show (if q = x then y else ov as es h q) = h q
    rw [if_neg (fun z => hn 0 x rfl z.symm)]
    exact ov_miss (fun i a ha => hn (i + 1) a (by simpa using ha))
theorem ov_callN {h : AH} {as as' : List Nat} {es esn es' : List va_E} (ps : List Nat) (bs : List Bool) (hn : as.Nodup) (hlen : as.length = es.length) (hlen2 : es.length = esn.length) (hp : ps.map (fun i => as[i]?) = as'.map some) (hq : ps.map (fun i => esn[i]?) = es'.map some) (ho : sel bs es = sel bs esn) (hc : (List.range as.length).all (fun i => ps.contains i || bs.getD i false) = true) (hd : ps.Nodup) : ov as' es' (ov as es h) = ov as esn h := by
  funext q
  have hl' : as'.length = es'.length := by
    have h1 := congrArg List.length hp
    have h2 := congrArg List.length hq
    simp only [List.length_map] at h1 h2
    omega
  by_cases h1 : ∃ j : Nat, as'[j]? = some q
  · obtain ⟨j, hj⟩ := h1
    obtain ⟨p, hpj, hap⟩ := pick_get hp hj
    have hjl : j < es'.length := by rw [← hl']; exact (List.getElem?_eq_some_iff.mp hj).1
    have hje : es'[j]? = some es'[j] := List.getElem?_eq_getElem hjl
    have hpe : esn[p]? = some es'[j] := by
      have h3 : (es'.map some)[j]? = some (some es'[j]) := by rw [List.getElem?_map, hje]; rfl
      rw [← hq, List.getElem?_map, hpj] at h3
      exact Option.some.inj h3
    have hn' : as'.Nodup := nodup_of fun i j a hi hj => by
      obtain ⟨p, h1, h2⟩ := pick_get hp hi
      obtain ⟨q, h3, h4⟩ := pick_get hp hj
      have := nodup_get hn h2 h4
      subst this
      exact nodup_get hd h1 h3
    rw [ov_get j hn' hj hje, ov_get p hn hap hpe]
  · have h1 : ∀ (i a : Nat), as'[i]? = some a → a ≠ q := fun i a ha z => h1 ⟨i, by rw [← z]; exact ha⟩
    rw [ov_miss h1]
    by_cases h2 : ∃ i : Nat, as[i]? = some q
    · obtain ⟨i, hi⟩ := h2
      have hil : i < as.length := (List.getElem?_eq_some_iff.mp hi).1
      have hbi : bs[i]? = some true := by
        have h3 := List.all_eq_true.mp hc i (List.mem_range.mpr hil)
        rw [Bool.or_eq_true] at h3
        rcases h3 with h3 | h3
        · have h4 : i ∈ ps := List.contains_iff_mem.mp h3
          obtain ⟨j, hj⟩ := List.getElem?_of_mem h4
          have h5 : (ps.map (fun i => as[i]?))[j]? = some (some q) := by rw [List.getElem?_map, hj]; exact congrArg some hi
          rw [hp, List.getElem?_map] at h5
          cases h6 : as'[j]? with
          | none => rw [h6] at h5; cases h5
          | some a =>
            rw [h6] at h5
            have h7 : a = q := Option.some.inj (Option.some.inj h5)
            exact absurd h7 (h1 j a h6)
        · rw [List.getD_eq_getElem?_getD] at h3
          cases h6 : bs[i]? with
          | none => rw [h6] at h3; cases h3
          | some b => rw [h6] at h3; exact congrArg some h3
      have he := sel_eq hlen2 ho i hbi
      have hie : es[i]? = some es[i] := List.getElem?_eq_getElem (by rw [← hlen]; exact hil)
      rw [ov_get i hn hi hie, ov_get i hn hi (by rw [← he]; exact hie)]
    · have h2 : ∀ (i a : Nat), as[i]? = some a → a ≠ q := fun i a ha z => h2 ⟨i, by rw [← z]; exact ha⟩
      rw [ov_miss h2, ov_miss h2]

/-! ===== the heap: cells that a method tracks, over any other heap ===== -/
def ov : List Nat → List va_E → AH → AH
  | a :: as, e :: es, h => fun q => if q = a then e else ov as es h q
  | _, _, h => h
theorem ov_get {h : AH} {a : Nat} {e : va_E} : ∀ {as : List Nat} {es : List va_E} (i : Nat), as.Nodup → as[i]? = some a → es[i]? = some e → ov as es h a = e
  | [], _, i, _, ha, _ => by simp at ha
  | _ :: _, [], i, _, _, he => by simp at he
  | x :: as, y :: es, 0, _, ha, he => by
    simp at ha he
    subst ha; subst he
    exact if_pos rfl
  | x :: as, y :: es, i + 1, hn, ha, he => by
    have ha' : as[i]? = some a := by simpa using ha
    have he' : es[i]? = some e := by simpa using he
    have hx : a ≠ x := fun q => (List.nodup_cons.mp hn).1 (q ▸ List.mem_of_getElem? ha')
    show (if a = x then y else ov as es h a) = e
    rw [if_neg hx]
    exact ov_get i (List.nodup_cons.mp hn).2 ha' he'
theorem ov_set {h : AH} {a : Nat} {e e' : va_E} : ∀ {as : List Nat} {es es' : List va_E} (i : Nat), as.Nodup → as[i]? = some a → es[i]? = some e → es.set i e' = es' → ov as es' h = fun q => if q = a then e' else ov as es h q
  | [], _, _, i, _, ha, _, _ => by simp at ha
  | _ :: _, [], _, i, _, _, he, _ => by simp at he
  | x :: as, y :: es, es', 0, _, ha, he, hs => by
    simp at ha he
    subst ha
    subst hs
    funext q
    show (if q = x then e' else ov as es h q) = if q = x then e' else if q = x then y else ov as es h q
    by_cases hq : q = x
    · rw [if_pos hq, if_pos hq]
    · rw [if_neg hq, if_neg hq, if_neg hq]
  | x :: as, y :: es, es', i + 1, hn, ha, he, hs => by
    have ha' : as[i]? = some a := by simpa using ha
    have he' : es[i]? = some e := by simpa using he
    have hx : a ≠ x := fun q => (List.nodup_cons.mp hn).1 (q ▸ List.mem_of_getElem? ha')
    subst hs
    funext q
    have ih := congrFun (ov_set (h := h) i (List.nodup_cons.mp hn).2 ha' he' (rfl : es.set i e' = es.set i e')) q
    show (if q = x then y else ov as (es.set i e') h q) = if q = a then e' else if q = x then y else ov as es h q
    by_cases hq : q = x
    · rw [if_pos hq, if_neg (fun z => hx (z.symm.trans hq)), if_pos hq]
    · rw [if_neg hq, if_neg hq]
      exact ih
/-- the cells that a method tracks are apart, and among ours -/
def AO (b0 n : Nat) (as : List Nat) : Prop := as.Nodup ∧ ∀ (i : Nat) (a : Nat), as[i]? = some a → b0 ≤ a ∧ a < b0 + n
/-- a heap holds these cells -/
def FA (h : AH) (as : List Nat) (es : List va_E) : Prop := ∀ (i a : Nat) (e : va_E), as[i]? = some a → es[i]? = some e → h a = e
theorem FA_id {h : AH} : ∀ {as : List Nat} {es : List va_E}, FA h as es → ov as es h = h
  | [], _, _ => rfl
  | _ :: _, [], _ => rfl
  | x :: as, y :: es, hf => by
    funext q
    have h1 := hf 0 x y rfl rfl
    have h2 := FA_id (as := as) (es := es) (fun i a e ha he => hf (i + 1) a e (by simpa using ha) (by simpa using he))
    show (if q = x then y else ov as es h q) = h q
    by_cases hq : q = x
    · rw [if_pos hq, hq, h1]
    · rw [if_neg hq, h2]
theorem FA_ov {h : AH} {as : List Nat} {es : List va_E} (hn : as.Nodup) : FA (ov as es h) as es := fun i a e ha he => ov_get i hn ha he
theorem RH_upd {E : EE} {b0 n a : Nat} {h : AH} {H H1 : Heap} {e' : va_E} (hR : RH E b0 n h H) (z : H1.size = H.size) (oq : ∀ q : Nat, q ≠ a → H1[q]? = H[q]?) (he : va_at E.1 vwCl (a, e') H1) : RH E b0 n (fun q => if q = a then e' else h q) H1 := by
  refine ⟨z.trans hR.1, fun q h1 h2 => ?_⟩
  by_cases hq : q = a
  · subst hq
    simp only [if_pos]
    exact he
  · simp only [if_neg hq]
    exact (hR.2 q h1 h2).kept (oq q hq)
/-! ===== fields ===== -/
def FLK (own : String) (idx : Nat) (C nm d : String) : Prop := Cond.fieldLink own idx C nm d ∈ GW ∨ (own, idx, C, nm, d) ∈ NF
def FL (own : String) (idx ci k : Nat) : Prop := ∃ (C : String) (T : u_T) (N : Nat), vwCl[ci]? = some (C, T, N) ∧ k < N ∧ (T k).1 = C ∧ FLK own idx C (T k).2.1 (T k).2.2.1
def FW (own : String) (idx ci k : Nat) (fin : Bool) (ty : FieldType) : Prop := ∃ (C : String) (T : u_T) (N : Nat), vwCl[ci]? = some (C, T, N) ∧ k < N ∧ (T k).1 = C ∧ (T k).2.2.2 = fin ∧ parseFieldDescriptor (T k).2.2.1 = some ty ∧ FLK own idx C (T k).2.1 (T k).2.2.1 ∧ (fin = true → C = own ∧ Cond.fieldLink own idx C (T k).2.1 (T k).2.2.1 ∈ GW)
def TK (C : String) (T : u_T) (N : Nat) : Prop := (∀ w ∈ u_ws C T N, w ∈ GW) ∧ ∃ ty : Nat → FieldType, (∀ k, k < N → parseFieldDescriptor (T k).2.2.1 = some (ty k)) ∧ ∀ a, a < N → ∀ b, b < N → a ≠ b → (T a).2.1 ≠ (T b).2.1
theorem TK_of {C : String} {T : u_T} {N : Nat} (ps : List Nat) (h : ∀ k, k < N → lw_tbl[ps.getD k 0]? = some (u_lay C T k)) (hg : ∀ k, k < N → goodWord (u_lay C T k) = true) (ty : Nat → FieldType) (h2 : ∀ k, k < N → parseFieldDescriptor (T k).2.2.1 = some (ty k)) (h3 : ∀ a, a < N → ∀ b, b < N → a ≠ b → (T a).2.1 ≠ (T b).2.1) : TK C T N := by
  refine ⟨fun w hw => ?_, ty, h2, h3⟩
  obtain ⟨k, hk, rfl⟩ := List.mem_map.mp hw
  have hk := List.mem_range.mp hk
  exact GW_of _ (h k hk) (hg k hk)

set_option maxRecDepth 100000 in
theorem tkX0 : TK RX0 TX0 3 := TK_of [303, 305, 307] (by decide +kernel) (by decide +kernel) tyX0 tyX0_ok nmX0
set_option maxRecDepth 100000 in
theorem tkX1 : TK RX1 TX1 7 := TK_of [492, 494, 496, 498, 500, 502, 504] (by decide +kernel) (by decide +kernel) tyX1 tyX1_ok nmX1
set_option maxRecDepth 100000 in
theorem tkX2 : TK RX2 TX2 12 := TK_of [436, 438, 440, 442, 444, 446, 448, 450, 452, 454, 456, 458] (by decide +kernel) (by decide +kernel) tyX2 tyX2_ok nmX2
set_option maxRecDepth 100000 in
theorem tkX3 : TK RX3 TX3 14 := TK_of [345, 347, 349, 351, 353, 355, 357, 359, 361, 363, 365, 367, 369, 371] (by decide +kernel) (by decide +kernel) tyX3 tyX3_ok nmX3
set_option maxRecDepth 100000 in
theorem tkX4 : TK RX4 TX4 6 := TK_of [227, 229, 231, 233, 235, 237] (by decide +kernel) (by decide +kernel) tyX4 tyX4_ok nmX4
set_option maxRecDepth 100000 in
theorem tkX5 : TK RX5 TX5 5 := TK_of [122, 124, 126, 128, 130] (by decide +kernel) (by decide +kernel) tyX5 tyX5_ok nmX5
set_option maxRecDepth 100000 in
theorem tkX6 : TK RX6 TX6 10 := TK_of [269, 271, 273, 275, 277, 279, 281, 283, 285, 287] (by decide +kernel) (by decide +kernel) tyX6 tyX6_ok nmX6
set_option maxRecDepth 100000 in
theorem tkX7 : TK RX7 TX7 12 := TK_of [387, 389, 391, 393, 395, 397, 399, 401, 403, 405, 407, 409] (by decide +kernel) (by decide +kernel) tyX7 tyX7_ok nmX7
set_option maxRecDepth 100000 in
theorem tkX8 : TK RX8 TX8 4 := TK_of [157, 159, 161, 163] (by decide +kernel) (by decide +kernel) tyX8 tyX8_ok nmX8
set_option maxRecDepth 100000 in
theorem tkX9 : TK RX9 TX9 14 := TK_of [184, 186, 188, 190, 192, 194, 196, 198, 200, 202, 204, 206, 208, 210] (by decide +kernel) (by decide +kernel) tyX9 tyX9_ok nmX9
set_option maxRecDepth 100000 in
theorem tkX10 : TK RX10 TX10 10 := TK_of [517, 519, 521, 523, 525, 527, 529, 531, 533, 535] (by decide +kernel) (by decide +kernel) tyX10 tyX10_ok nmX10
set_option maxRecDepth 100000 in
theorem tkX11 : TK RX11 TX11 71 := TK_of [1513, 1515, 1517, 1519, 1521, 1523, 1525, 1527, 1529, 1531, 1533, 1535, 1537, 1539, 1541, 1543, 1545, 1547, 1549, 1551, 1553, 1555, 1557, 1559, 1561, 1563, 1565, 1567, 1569, 1571, 1573, 1575, 1577, 1579, 1581, 1583, 1585, 1587, 1589, 1591, 1593, 1595, 1597, 1599, 1601, 1603, 1605, 1607, 1609, 1611, 1613, 1615, 1617, 1619, 1621, 1623, 1625, 1627, 1629, 1631, 1633, 1635, 1637, 1639, 1641, 1643, 1645, 1647, 1649, 1651, 1653] (by decide +kernel) (by decide +kernel) tyX11 tyX11_ok nmX11
theorem tk_all {ci : Nat} {q : vw_C} (h : vwCl[ci]? = some q) : TK q.1 q.2.1 q.2.2 := by
  match ci, h with
  | 0, h => cases h; exact tkX0
  | 1, h => cases h; exact tkX1
  | 2, h => cases h; exact tkX2
  | 3, h => cases h; exact tkX3
  | 4, h => cases h; exact tkX4
  | 5, h => cases h; exact tkX5
  | 6, h => cases h; exact tkX6
  | 7, h => cases h; exact tkX7
  | 8, h => cases h; exact tkX8
  | 9, h => cases h; exact tkX9
  | 10, h => cases h; exact tkX10
  | 11, h => cases h; exact tkX11
  | k + 12, h => simp [vwCl] at h
section GH
variable {l : Launch} {E : EE} {b0 : Nat} {M : MB} {X : State → Prop} {Z : ZT} {c1 c2 n n' pc pc' : Nat} {h h0 h' : AH} {L : LL} {st : List Value} {a x z : Int} {ρ : Type} {r : ρ} {B : Option ρ} {as : List Nat} {es es' : List va_E} {o : Nat}
theorem g_get (i k : Nat) {idx ci : Nat} {fs : List Value} {v : Value} (ao : AO b0 n as) (ha : as[i]? = some o) (he : es[i]? = some (.inr (ci, fs))) (hv : fs[k]? = some v) (hf : FL M.2.2.2.2.2 idx ci k) (hd : DC M.2.1 pc (.getfield idx) 3 pc')
    (kk : G l E b0 M X Z c1 c2 n (ov as es h0) pc' L (v :: st)) : G l E b0 M X Z c1 c2 n (ov as es h0) pc L (.ref o :: st) := by
  intro p e s m args below meth c C hX hb H locs ls hR hS hl
  obtain ⟨hd, rfl⟩ := hd
  obtain ⟨Cn, T, N, f1, f2, f3, f4⟩ := hf
  have hb2 := ao.2 i o ha
  have hat := hR.2 o hb2.1 hb2.2
  rw [ov_get i ao.1 ha he] at hat
  have hP : va_P E.1 vwCl [(o, .inr (ci, fs))] H := fun k q hq => by
    cases k with
    | zero => cases hq; exact hat
    | succ k => simp at hq
  have kk := kk p e s m args below meth c C hX hb H locs ls hR hS hl
  have hsame : ∀ x, s.fieldFound? (T k).1 (T k).2.1 (T k).2.2.1 = some x → s.fieldFound? Cn (T k).2.1 (T k).2.2.1 = some x := fun x hx => by rw [f3] at hx; exact hx
  rcases f4 with f4 | f4
  · exact va_get C.1 C.2.1 C.2.2.2.2.2.1 (tk_all f1).1 C.2.2.2.2.1 C.2.2.2.2.2.2.2.1.1 hP 0 rfl f1 k f2 (C.2.2.2.2.2.1 _ f4) hsame hv hd kk
  · exact va_getN C.1 C.2.1 C.2.2.2.2.2.1 (tk_all f1).1 C.2.2.2.2.1 C.2.2.2.2.2.2.2.1.1 hP 0 rfl f1 k f2 (va_Nw.use rfl (C.2.2.2.2.2.2.2.1.2.1.1 _ f4)) hsame hv hd kk
theorem g_put (i k : Nat) {idx ci : Nat} {fs fs' : List Value} {v : Value} {fin : Bool} {ty : FieldType} (ao : AO b0 n as) (ha : as[i]? = some o) (he : es[i]? = some (.inr (ci, fs))) (hk : k < fs.length) (hs : fs.set k v = fs') (hes : es.set i (.inr (ci, fs')) = es') (hf : FW M.2.2.2.2.2 idx ci k fin ty) (hin : fin = true → M.1.name = "<init>") (hv : narrow ty v = v ∧ fits ty v = true) (hd : DC M.2.1 pc (.putfield idx) 3 pc')
    (kk : G l E b0 M X Z c1 c2 n (ov as es' h0) pc' L st) : G l E b0 M X Z c1 c2 n (ov as es h0) pc L (v :: .ref o :: st) := by
  intro p e s m args below meth c C hX hb H locs ls hR hS hl
  obtain ⟨hd, rfl⟩ := hd
  obtain ⟨Cn, T, N, f1, f2, f3, f4, f5, f6, f7⟩ := hf
  have hb2 := ao.2 i o ha
  have hat := hR.2 o hb2.1 hb2.2
  rw [ov_get i ao.1 ha he] at hat
  obtain ⟨win, ty0, hty, hnm⟩ := tk_all f1
  have hts := C.2.2.2.2.2.1
  have hown := C.2.2.2.2.1
  have hK := C.2.2.2.2.2.2.2.1.1
  have hap := va_apart (own := M.2.2.2.2.2) hts win ty0 hty hnm hK f1
  obtain ⟨rr, g1, cell, q1, q2, q3, q4⟩ := hat
  have hr : rr = (Cn, T, N) := Option.some.inj (g1.symm.trans f1)
  subst hr
  obtain ⟨hSS, hfc, kC, hkC, hkind⟩ := hK.1 ci _ f1
  obtain ⟨cf, kf, fi, f, hi, hsl⟩ := hSS k f2
  have hst := (u_facts hfc hkC (u_lays hts win f2) hi).1
  have hsame : s.fieldFound? Cn (T k).2.1 (T k).2.2.1 = some (cf, kf, fi, f) := by rw [← hi, f3]
  have hlay := hts _ (win _ (u_in_lay f2))
  unfold u_lay at hlay
  subst hs
  have fin' : ∀ H1 : Heap, H1[o]? = some (cell.setSlot f.slot v) → H1.size = H.size → (∀ q : Nat, q ≠ o → H1[q]? = H[q]?) → W p l e M.2.2.2.2.1 s m args below meth c H1 (locs ++ [⟨o, f.slot⟩]) c1 c2 (Z below args s) (F0 m (pc + 3) ls st) := by
    intro H1 e1 e2 e3
    rw [hsl] at e1 ⊢
    refine kk p e s m args below meth c C hX hb H1 _ ls ?_ (hS.put e2 e3 hb2.1) hl
    rw [ov_set i ao.1 ha he hes]
    exact RH_upd hR e2 e3 ⟨_, f1, t_OB.to (V := updV (vp_V fs) k v) ⟨_, e1, q2, q3, t_set q4 hap f2 v⟩ (fun j _ => vp_updV_set hk v j)⟩
  cases fin with
  | false =>
    rw [if_neg (by rw [f4]; decide)] at hlay
    have h6 := u_store hfc hkC hkind hlay hi f5 hv.1 hv.2
    rcases f6 with f6 | f6
    · exact W.putK C.1 C.2.1 (f := f) ⟨hown, hts _ f6, ⟨_, _, _, hsame⟩, hst⟩ (by rw [q2]; exact h6) q1 q3 (by rw [hsl]; exact k2_hasslot (q4 k f2)) rfl rfl hd fin'
    · exact va_WputK C.1 C.2.1 (f := f) hown (va_Nw.use rfl (C.2.2.2.2.2.2.2.1.2.1.1 _ f6)) hsame hst (by rw [q2]; exact h6) q1 q3 (by rw [hsl]; exact k2_hasslot (q4 k f2)) rfl rfl hd fin'
  | true =>
    obtain ⟨f8, f9⟩ := f7 rfl
    rw [if_pos f4] at hlay
    have hcf : m.cls = cf := by
      obtain ⟨_, _, c', _, _, _, -, -, hf', -, -, -, hown2, -⟩ := Cond.laysFinal_spec hlay
      have e1 : c' = cf := by have := hi.symm.trans hf'; simp at this; exact this.1.symm
      rw [f3, f8] at hown2
      rw [← e1]; exact Option.some.inj (hown.symm.trans hown2)
    have h6 := u_fits hfc hkC hkind (Or.inr hlay) hi f5 hv.1 hv.2
    exact W.putFinK C.1 C.2.1 hown (hts _ f9) hsame hst hcf (C.2.2.2.2.2.2.2.2.trans (hin rfl)) (by rw [q2]; exact h6) q1 q3 (by rw [hsl]; exact k2_hasslot (q4 k f2)) rfl rfl hd fin'

theorem g_iald (i : Nat) {N : Nat} {f : Nat → Int} (ao : AO b0 n as) (ha : as[i]? = some o) (he : es[i]? = some (IA E N f)) (hN : N ≤ 2147483648) (hd : DC M.2.1 pc .iaload 1 pc') (hs : chk (inB x N) B = some r)
    (kk : inB x N → B = some r → G l E b0 M X Z c1 c2 n (ov as es h0) pc' L (vI (f x.toNat) :: st)) : G l E b0 M X Z c1 c2 n (ov as es h0) pc L (vI x :: .ref o :: st) := by
  intro p e s m args below meth c C hX hb H locs ls hR hS hl
  obtain ⟨hd, rfl⟩ := hd
  obtain ⟨hx, hs⟩ := chk_elim hs
  have hb2 := ao.2 i o ha
  have hat := hR.2 o hb2.1 hb2.2
  rw [ov_get i ao.1 ha he] at hat
  obtain ⟨hin, hcl⟩ := inB_in hx hN
  have hP : va_P E.1 vwCl [(o, IA E N f)] H := fun k q hq => by
    cases k with
    | zero => cases hq; exact hat
    | succ k => simp at hq
  have kk := kk hx hs p e s m args below meth c C hX hb H locs ls hR hS hl
  refine va_iald C.1 C.2.1 C.2.2.2.2.2.2.2.1.1 hP 0 0 rfl rfl hin hd ?_
  rw [hcl]
  exact kk
theorem g_lald (i : Nat) {N : Nat} {f : Nat → Int} (ao : AO b0 n as) (ha : as[i]? = some o) (he : es[i]? = some (JA E N f)) (hN : N ≤ 2147483648) (hd : DC M.2.1 pc .laload 1 pc') (hs : chk (inB x N) B = some r)
    (kk : inB x N → B = some r → G l E b0 M X Z c1 c2 n (ov as es h0) pc' L (vJ (f x.toNat) :: st)) : G l E b0 M X Z c1 c2 n (ov as es h0) pc L (vI x :: .ref o :: st) := by
  intro p e s m args below meth c C hX hb H locs ls hR hS hl
  obtain ⟨hd, rfl⟩ := hd
  obtain ⟨hx, hs⟩ := chk_elim hs
  have hb2 := ao.2 i o ha
  have hat := hR.2 o hb2.1 hb2.2
  rw [ov_get i ao.1 ha he] at hat
  obtain ⟨hin, hcl⟩ := inB_in hx hN
  have hP : va_P E.1 vwCl [(o, JA E N f)] H := fun k q hq => by
    cases k with
    | zero => cases hq; exact hat
    | succ k => simp at hq
  have kk := kk hx hs p e s m args below meth c C hX hb H locs ls hR hS hl
  refine va_lald C.1 C.2.1 C.2.2.2.2.2.2.2.1.1 hP 0 1 rfl rfl hin hd ?_
  rw [hcl]
  exact kk
theorem g_zald (i : Nat) {N : Nat} {f : Nat → Int} (ao : AO b0 n as) (ha : as[i]? = some o) (he : es[i]? = some (ZA E N f)) (hN : N ≤ 2147483648) (hd : DC M.2.1 pc .baload 1 pc') (hs : chk (inB x N) B = some r)
    (kk : inB x N → B = some r → G l E b0 M X Z c1 c2 n (ov as es h0) pc' L (vI (f x.toNat) :: st)) : G l E b0 M X Z c1 c2 n (ov as es h0) pc L (vI x :: .ref o :: st) := by
  intro p e s m args below meth c C hX hb H locs ls hR hS hl
  obtain ⟨hd, rfl⟩ := hd
  obtain ⟨hx, hs⟩ := chk_elim hs
  have hb2 := ao.2 i o ha
  have hat := hR.2 o hb2.1 hb2.2
  rw [ov_get i ao.1 ha he] at hat
  obtain ⟨hin, hcl⟩ := inB_in hx hN
  have hP : va_P E.1 vwCl [(o, ZA E N f)] H := fun k q hq => by
    cases k with
    | zero => cases hq; exact hat
    | succ k => simp at hq
  have kk := kk hx hs p e s m args below meth c C hX hb H locs ls hR hS hl
  refine va_zald C.1 C.2.1 C.2.2.2.2.2.2.2.1.1 hP 0 2 rfl rfl hin hd ?_
  rw [hcl]
  exact kk
theorem g_bald (i : Nat) {N : Nat} {f : Nat → Int} (ao : AO b0 n as) (ha : as[i]? = some o) (he : es[i]? = some (YA E N f)) (hN : N ≤ 2147483648) (hd : DC M.2.1 pc .baload 1 pc') (hs : chk (inB x N) B = some r)
    (kk : inB x N → B = some r → G l E b0 M X Z c1 c2 n (ov as es h0) pc' L (vI (f x.toNat) :: st)) : G l E b0 M X Z c1 c2 n (ov as es h0) pc L (vI x :: .ref o :: st) := by
  intro p e s m args below meth c C hX hb H locs ls hR hS hl
  obtain ⟨hd, rfl⟩ := hd
  obtain ⟨hx, hs⟩ := chk_elim hs
  have hb2 := ao.2 i o ha
  have hat := hR.2 o hb2.1 hb2.2
  rw [ov_get i ao.1 ha he] at hat
  obtain ⟨hin, hcl⟩ := inB_in hx hN
  have hP : va_P E.1 vwCl [(o, YA E N f)] H := fun k q hq => by
    cases k with
    | zero => cases hq; exact hat
    | succ k => simp at hq
  have kk := kk hx hs p e s m args below meth c C hX hb H locs ls hR hS hl
  refine va_bald C.1 C.2.1 C.2.2.2.2.2.2.2.1.1 hP 0 3 rfl rfl hin hd ?_
  rw [hcl]
  exact kk
theorem g_aald (i : Nat) {N : Nat} {f : Nat → Option Nat} {w : Nat} (ao : AO b0 n as) (ha : as[i]? = some o) (he : es[i]? = some (RA E N f)) (hN : N ≤ 2147483648) (hd : DC M.2.1 pc .aaload 1 pc') (hs : chk (inB x N) B = some r) (hw : inB x N → f x.toNat = some w)
    (kk : inB x N → B = some r → G l E b0 M X Z c1 c2 n (ov as es h0) pc' L (.ref w :: st)) : G l E b0 M X Z c1 c2 n (ov as es h0) pc L (vI x :: .ref o :: st) := by
  intro p e s m args below meth c C hX hb H locs ls hR hS hl
  obtain ⟨hd, rfl⟩ := hd
  obtain ⟨hx, hs⟩ := chk_elim hs
  have hb2 := ao.2 i o ha
  have hat := hR.2 o hb2.1 hb2.2
  rw [ov_get i ao.1 ha he] at hat
  obtain ⟨hin, hcl⟩ := inB_in hx hN
  have hP : va_P E.1 vwCl [(o, RA E N f)] H := fun k q hq => by
    cases k with
    | zero => cases hq; exact hat
    | succ k => simp at hq
  have kk := kk hx hs p e s m args below meth c C hX hb H locs ls hR hS hl
  refine va_aldq C.1 C.2.1 C.2.2.2.2.2.2.2.1.1 hP 0 4 rfl rfl hin hd ?_
  rw [hcl, hw hx]
  exact kk
theorem g_alen (i : Nat) {N : Nat} {f : Nat → Int} (ao : AO b0 n as) (ha : as[i]? = some o) (he : es[i]? = some (IA E N f) ∨ es[i]? = some (ZA E N f)) (hd : DC M.2.1 pc .arraylength 1 pc') (kk : G l E b0 M X Z c1 c2 n (ov as es h0) pc' L (vI (N : Int) :: st)) : G l E b0 M X Z c1 c2 n (ov as es h0) pc L (.ref o :: st) := by
  intro p e s m args below meth c C hX hb H locs ls hR hS hl
  obtain ⟨hd, rfl⟩ := hd
  have hb2 := ao.2 i o ha
  have hat := hR.2 o hb2.1 hb2.2
  have kk := kk p e s m args below meth c C hX hb H locs ls hR hS hl
  rcases he with he | he
  · rw [ov_get i ao.1 ha he] at hat
    have hP : va_P E.1 vwCl [(o, IA E N f)] H := fun k q hq => by
      cases k with
      | zero => cases hq; exact hat
      | succ k => simp at hq
    exact va_alen C.1 C.2.1 C.2.2.2.2.2.2.2.1.1 hP 0 0 rfl (ty := .int) rfl (show Int32.ofNat N = Int32.ofInt (N : Int) from Int32.ofInt_eq_ofNat.symm) hd kk
  · rw [ov_get i ao.1 ha he] at hat
    have hP : va_P E.1 vwCl [(o, ZA E N f)] H := fun k q hq => by
      cases k with
      | zero => cases hq; exact hat
      | succ k => simp at hq
    exact va_alen C.1 C.2.1 C.2.2.2.2.2.2.2.1.1 hP 0 2 rfl (ty := .boolean) rfl (show Int32.ofNat N = Int32.ofInt (N : Int) from Int32.ofInt_eq_ofNat.symm) hd kk

theorem g_alenR (i : Nat) {N : Nat} {f : Nat → Option Nat} (ao : AO b0 n as) (ha : as[i]? = some o) (he : es[i]? = some (RA E N f)) (hd : DC M.2.1 pc .arraylength 1 pc') (kk : G l E b0 M X Z c1 c2 n (ov as es h0) pc' L (vI (N : Int) :: st)) : G l E b0 M X Z c1 c2 n (ov as es h0) pc L (.ref o :: st) := by
  intro p e s m args below meth c C hX hb H locs ls hR hS hl
  obtain ⟨hd, rfl⟩ := hd
  have hb2 := ao.2 i o ha
  have hat := hR.2 o hb2.1 hb2.2
  have kk := kk p e s m args below meth c C hX hb H locs ls hR hS hl
  rw [ov_get i ao.1 ha he] at hat
  have hP : va_P E.1 vwCl [(o, RA E N f)] H := fun k q hq => by
    cases k with
    | zero => cases hq; exact hat
    | succ k => simp at hq
  exact va_alen C.1 C.2.1 C.2.2.2.2.2.2.2.1.1 hP 0 4 rfl (ty := .object "SlidingFlaws$Row") rfl (show Int32.ofNat N = Int32.ofInt (N : Int) from Int32.ofInt_eq_ofNat.symm) hd kk
theorem arr_up {cA : ClassId} {N : Nat} (mk : Int → Value) (f : Nat → Int) (k : Nat) (v : Int) : (arrV cA N (fun j => mk (f j))).setSlot k (mk v) = arrV cA N (fun j => mk (up f k v j)) := by
  rw [arrV_store]
  congr 1
  funext q
  by_cases hq : q = k
  · subst hq
    simp [updV, up]
  · simp [updV, up, hq]
theorem nar_Z {z : Int} (h : inZ z) : narrow .boolean (.int (Int32.ofInt z)) = .int (Int32.ofInt z) := by rcases h with rfl | rfl <;> rfl
theorem nar_Y {z : Int} (h : inY z) : narrow .byte (.int (Int32.ofInt z)) = .int (Int32.ofInt z) := by
  show Value.int (Int32.ofInt z).toInt8.toInt32 = _
  refine congrArg Value.int ?_
  rw [← Int32.toInt_inj]
  have h2 := h.1
  have h3 := h.2
  rw [Int8.toInt_toInt32, Int32.toInt_toInt8, ofI_toInt (inY_I h), Int.bmod_eq_of_le (by omega) (by omega)]
theorem g_iast (i : Nat) {N : Nat} {f : Nat → Int} (ao : AO b0 n as) (ha : as[i]? = some o) (he : es[i]? = some (IA E N f)) (hes : es.set i (IA E N (up f x.toNat z)) = es') (hN : N ≤ 2147483648) (hd : DC M.2.1 pc .iastore 1 pc') (hs : chk (inB x N) B = some r)
    (kk : inB x N → B = some r → G l E b0 M X Z c1 c2 n (ov as es' h0) pc' L st) : G l E b0 M X Z c1 c2 n (ov as es h0) pc L (vI z :: vI x :: .ref o :: st) := by
  intro p e s m args below meth c C hX hb H locs ls hR hS hl
  obtain ⟨hd, rfl⟩ := hd
  obtain ⟨hx, hs⟩ := chk_elim hs
  have hb2 := ao.2 i o ha
  have hat := hR.2 o hb2.1 hb2.2
  rw [ov_get i ao.1 ha he] at hat
  obtain ⟨hin, hcl⟩ := inB_in hx hN
  have hA := (C.2.2.2.2.2.2.2.1.1.2 0 _ rfl).1 N (fun j => (fun w : Int => Value.int (Int32.ofInt w)) (f j))
  refine W.iast C.1 C.2.1 hat hA (fun q => by cases q) (by show ¬ (_ ∨ (arrV _ _ _).slots.size ≤ _); rw [arrV_size]; exact hin) rfl rfl hd fun H1 e1 e2 e3 => ?_
  refine kk hx hs p e s m args below meth c C hX hb H1 _ ls ?_ (hS.put e2 e3 hb2.1) hl
  rw [ov_set i ao.1 ha he hes]
  refine RH_upd hR e2 e3 ?_
  show H1[o]? = some (vp_cell _ _)
  rw [e1, hcl]
  exact congrArg some (arr_up (fun w : Int => Value.int (Int32.ofInt w)) f x.toNat z)
theorem g_last (i : Nat) {N : Nat} {f : Nat → Int} (ao : AO b0 n as) (ha : as[i]? = some o) (he : es[i]? = some (JA E N f)) (hes : es.set i (JA E N (up f x.toNat z)) = es') (hN : N ≤ 2147483648) (hd : DC M.2.1 pc .lastore 1 pc') (hs : chk (inB x N) B = some r)
    (kk : inB x N → B = some r → G l E b0 M X Z c1 c2 n (ov as es' h0) pc' L st) : G l E b0 M X Z c1 c2 n (ov as es h0) pc L (vJ z :: vI x :: .ref o :: st) := by
  intro p e s m args below meth c C hX hb H locs ls hR hS hl
  obtain ⟨hd, rfl⟩ := hd
  obtain ⟨hx, hs⟩ := chk_elim hs
  have hb2 := ao.2 i o ha
  have hat := hR.2 o hb2.1 hb2.2
  rw [ov_get i ao.1 ha he] at hat
  obtain ⟨hin, hcl⟩ := inB_in hx hN
  have hA := (C.2.2.2.2.2.2.2.1.1.2 1 _ rfl).1 N (fun j => (fun w : Int => Value.long (Int64.ofInt w)) (f j))
  refine W.last C.1 C.2.1 hat hA (fun q => by cases q) (by show ¬ (_ ∨ (arrV _ _ _).slots.size ≤ _); rw [arrV_size]; exact hin) rfl rfl hd fun H1 e1 e2 e3 => ?_
  refine kk hx hs p e s m args below meth c C hX hb H1 _ ls ?_ (hS.put e2 e3 hb2.1) hl
  rw [ov_set i ao.1 ha he hes]
  refine RH_upd hR e2 e3 ?_
  show H1[o]? = some (vp_cell _ _)
  rw [e1, hcl]
  exact congrArg some (arr_up (fun w : Int => Value.long (Int64.ofInt w)) f x.toNat z)
theorem g_zast (i : Nat) {N : Nat} {f : Nat → Int} (ao : AO b0 n as) (ha : as[i]? = some o) (he : es[i]? = some (ZA E N f)) (hes : es.set i (ZA E N (up f x.toNat z)) = es') (hN : N ≤ 2147483648) (hz : inZ z) (hd : DC M.2.1 pc .bastore 1 pc') (hs : chk (inB x N) B = some r)
    (kk : inB x N → B = some r → G l E b0 M X Z c1 c2 n (ov as es' h0) pc' L st) : G l E b0 M X Z c1 c2 n (ov as es h0) pc L (vI z :: vI x :: .ref o :: st) := by
  intro p e s m args below meth c C hX hb H locs ls hR hS hl
  obtain ⟨hd, rfl⟩ := hd
  obtain ⟨hx, hs⟩ := chk_elim hs
  have hb2 := ao.2 i o ha
  have hat := hR.2 o hb2.1 hb2.2
  rw [ov_get i ao.1 ha he] at hat
  obtain ⟨hin, hcl⟩ := inB_in hx hN
  have hA := (C.2.2.2.2.2.2.2.1.1.2 2 _ rfl).1 N (fun j => (fun w : Int => Value.int (Int32.ofInt w)) (f j))
  refine W.zast C.1 C.2.1 hat hA (fun q => by cases q) (by show ¬ (_ ∨ (arrV _ _ _).slots.size ≤ _); rw [arrV_size]; exact hin) rfl rfl hd fun H1 e1 e2 e3 => ?_
  refine kk hx hs p e s m args below meth c C hX hb H1 _ ls ?_ (hS.put e2 e3 hb2.1) hl
  rw [ov_set i ao.1 ha he hes]
  refine RH_upd hR e2 e3 ?_
  show H1[o]? = some (vp_cell _ _)
  rw [e1, hcl, nar_Z hz]
  exact congrArg some (arr_up (fun w : Int => Value.int (Int32.ofInt w)) f x.toNat z)
theorem g_bast (i : Nat) {N : Nat} {f : Nat → Int} (ao : AO b0 n as) (ha : as[i]? = some o) (he : es[i]? = some (YA E N f)) (hes : es.set i (YA E N (up f x.toNat z)) = es') (hN : N ≤ 2147483648) (hz : inY z) (hd : DC M.2.1 pc .bastore 1 pc') (hs : chk (inB x N) B = some r)
    (kk : inB x N → B = some r → G l E b0 M X Z c1 c2 n (ov as es' h0) pc' L st) : G l E b0 M X Z c1 c2 n (ov as es h0) pc L (vI z :: vI x :: .ref o :: st) := by
  intro p e s m args below meth c C hX hb H locs ls hR hS hl
  obtain ⟨hd, rfl⟩ := hd
  obtain ⟨hx, hs⟩ := chk_elim hs
  have hb2 := ao.2 i o ha
  have hat := hR.2 o hb2.1 hb2.2
  rw [ov_get i ao.1 ha he] at hat
  obtain ⟨hin, hcl⟩ := inB_in hx hN
  have hA := (C.2.2.2.2.2.2.2.1.1.2 3 _ rfl).1 N (fun j => (fun w : Int => Value.int (Int32.ofInt w)) (f j))
  refine W.bast C.1 C.2.1 hat hA (fun q => by cases q) (by show ¬ (_ ∨ (arrV _ _ _).slots.size ≤ _); rw [arrV_size]; exact hin) rfl rfl hd fun H1 e1 e2 e3 => ?_
  refine kk hx hs p e s m args below meth c C hX hb H1 _ ls ?_ (hS.put e2 e3 hb2.1) hl
  rw [ov_set i ao.1 ha he hes]
  refine RH_upd hR e2 e3 ?_
  show H1[o]? = some (vp_cell _ _)
  rw [e1, hcl, nar_Y hz]
  exact congrArg some (arr_up (fun w : Int => Value.int (Int32.ofInt w)) f x.toNat z)
/-! ===== calls ===== -/
def MK (own : String) (idx : Nat) (y : MethodName) : Prop := Cond.methodLink own idx y ∈ GW ∨ (own, idx, y) ∈ NM
def CB (Y : MB) (k : Nat) : Prop := Cond.code Y.1 Y.2.1 Y.2.2.1 Y.2.2.2.1 ∈ GW ∧ Cond.initialized Y.1.cls ∈ GW ∧ (Y.1.cls ≠ "java/lang/invoke/MethodHandle" ∧ Y.1.cls ≠ "java/lang/invoke/VarHandle" ∧ (parseMethodDescriptor Y.1.desc).map (fun d => d.parameters.length) = some k)
def CV (own : String) (idx : Nat) (Y : MB) (k : Nat) : Prop := CB Y k ∧ MK own idx Y.1 ∧ Cond.instanceMethod Y.1 ∈ GW ∧ Cond.selects Y.1.cls Y.1 Y.1 ∈ GW
def CS (own : String) (idx : Nat) (Y : MB) (k : Nat) : Prop := CB Y k ∧ MK own idx Y.1 ∧ Cond.static Y.1 ∈ GW
def CI (own : String) (idx : Nat) (Y : MB) (k : Nat) : Prop := CB Y k ∧ MK own idx Y.1 ∧ Cond.instanceMethod Y.1 ∈ GW ∧ Y.1.name = "<init>" ∧ Y.2.2.2.1 = none
def RO (R : Room) (Y : MB) (k1 k2 : Nat) : Prop := Y.2.2.2.2.1.cells = k1 ∧ Y.2.2.2.2.1.slots = k2 ∧ Y.2.2.2.2.1.frames + 1 ≤ R.frames ∧ 8 + (Y.2.2.1 + 11) + Y.2.2.2.2.1.locals ≤ R.locals
theorem pc_blind {E : EE} {b0 n : Nat} {h : AH} {As : List Value} : FrameBlind (va_Pc As (fun U => KX E b0 U ∧ RH E b0 n h U.heap)) := by
  intro a U g mk q
  obtain ⟨q0, q1, q2⟩ := q
  exact ⟨q0, KX.same (u := U) (U := U.calling g mk a) rfl rfl q1, q2⟩
theorem g_after {p : Program} {e : Env} {s : State} {m : MethodId} {args : Array Value} {below : List Frame} {meth : Method} {c : Code} {H : Heap} {locs : List Loc} {ls : Array Slot} {mc ms : Nat} {st0 rest : List Value} {av : Array Value} {v : Option Value} {P : Prop}
    (hr : va_Run p l e M.2.2.2.2.1 s m args below meth c H locs c1 c2 mc ms (F0 m pc ls st0) rest (QR E b0 v h' n' P av) (fun q => b0 ≤ q)) (C : CX E b0 M p s m args meth c) (hX : X s) (hb : b0 ≤ s.heap.size) (hS : va_S (fun q => b0 ≤ q) s.heap H locs) (hl : lv_has ls M.2.2.1 (lc 0 L))
    (k : P → G l E b0 M X Z (c1 + mc) (c2 + ms) n' h' (pc + 3) L (v.toList ++ rest)) : W p l e M.2.2.2.2.1 s m args below meth c H locs c1 c2 (Z below args s) (F0 m pc ls st0) := by
  intro T hT X1
  obtain ⟨v', st₀, t, T', L1, h0, X', hL, e1, e2, ⟨hv, hR, hF, hP⟩, stp⟩ := hr T hT X1
  cases hv
  obtain ⟨hz, hk⟩ := hF
  rw [h0] at hz hk
  obtain ⟨t2, a1, b1⟩ := k hP p e s m args below meth c C hX hb T'.heap (locs ++ L1) ls (by rw [e1]; exact hR)
    ⟨Nat.le_trans hS.1 (by rw [e1]; exact hz), fun q g1 g2 => by rw [e1, hk q (Nat.lt_of_lt_of_le g1 hS.1) g2]; exact hS.2.1 q g1 g2, fun q hq => by
      rcases List.mem_append.mp hq with h | h
      · exact hS.2.2 q h
      · exact hL q h⟩ hl T' rfl X'
  exact ⟨t2, stp t2 a1, b1⟩
theorem callB_g {E : EE} {b0 : Nat} {M : MB} {p : Program} {s : State} {m : MethodId} {args : Array Value} {meth : Method} {c : Code} (C : CX E b0 M p s m args meth c) {Y : MB} {idx k k1 k2 : Nat} (hc : CB Y k) (hl : Cond.methodLink M.2.2.2.2.2 idx Y.1 ∈ GW) (ro : RO M.2.2.2.2.1 Y k1 k2) :
    CallB M.2.2.2.2.1 s args M.2.2.2.2.2 idx Y.1 Y.2.1 Y.2.2.1 Y.2.2.2.1 (Cond.code Y.1 Y.2.1 Y.2.2.1 Y.2.2.2.1 :: GW) Y.2.2.2.2.1 k1 k2 k :=
  callB_of k C.2.2.2.2.2.1 (GW_code hc.1) rfl ro.1 ro.2.1 (C.2.2.2.2.2.1 _ hc.2.1) (C.2.2.2.2.2.1 _ hl) hc.2.2 ro.2.2
theorem callN_g {E : EE} {b0 : Nat} {M : MB} {p : Program} {s : State} {m : MethodId} {args : Array Value} {meth : Method} {c : Code} (C : CX E b0 M p s m args meth c) {Y : MB} {idx k k1 k2 : Nat} (hc : CB Y k) (hl : (M.2.2.2.2.2, idx, Y.1) ∈ NM) (ro : RO M.2.2.2.2.1 Y k1 k2) :
    va_CN M.2.2.2.2.1 s args M.2.2.2.2.2 idx Y.1 "SlidingFlaws" Y.2.1 Y.2.2.1 Y.2.2.2.1 (Cond.code Y.1 Y.2.1 Y.2.2.1 Y.2.2.2.1 :: GW) Y.2.2.2.2.1 k1 k2 k :=
  va_cnB k C.2.2.2.2.2.1 (GW_code hc.1) rfl ro.1 ro.2.1 (C.2.2.2.2.2.2.2.1.2.1.2 _ hl) (C.2.2.2.2.2.1 _ hc.2.1) hc.2.2 ro.2.2
theorem g_callV (As : List Value) {Y : MB} {idx k k1 k2 ci : Nat} {fs : List Value} {rest : List Value} {v : Option Value} {P : Prop} (cv : CV M.2.2.2.2.2 idx Y k) (ro : RO M.2.2.2.2.1 Y k1 k2) (ct : Ct l E b0 Y k1 k2 (.ref o :: As) h n v h' n' P) (hd : DC M.2.1 pc (.invokevirtual idx) 3 pc')
    (ho : b0 ≤ o ∧ o < b0 + n) (hob : h o = .inr (ci, fs)) (hcl : (vwCl[ci]?).map (fun q => q.1) = some Y.1.cls) (hA : As.length = k) (hst : st = As.reverse ++ .ref o :: rest) (hw : (rest.map fun v => v.category).sum ≤ 8) (hf : c1 + k1 ≤ M.2.2.2.2.1.cells ∧ c2 + k2 ≤ M.2.2.2.2.1.slots)
    (kk : P → G l E b0 M X Z (c1 + k1) (c2 + k2) n' h' pc' L (v.toList ++ rest)) : G l E b0 M X Z c1 c2 n h pc L st := by
  intro p e s m args below meth c C hX hb H locs ls hR hS hl
  obtain ⟨hd, rfl⟩ := hd
  obtain ⟨cb, mk, hin, hse⟩ := cv
  have S : CallFix p m c M.2.1 M.2.2.1 s args GW M.2.2.2.2.2 := ⟨C.1, C.2.1, C.2.2.1, C.2.2.2.2.1, C.2.2.2.2.2.1⟩
  have hat := hR.2 o ho.1 ho.2
  rw [hob] at hat
  obtain ⟨q', h1, cell, g1, g2, g3, -⟩ := hat
  have hq : q'.1 = Y.1.cls := by rw [h1] at hcl; exact Option.some.inj hcl
  have hp : PreV s H Y.1.cls o (va_Pc (.ref o :: As) (fun U => KX E b0 U ∧ RH E b0 n h U.heap)) As := ⟨pc_blind, ⟨cell, g1, by rw [g3]; rfl, by rw [g2, ← hq]; exact (C.2.2.2.2.2.2.2.1.1.1 ci q' h1).2.1⟩, fun U hU hW => ⟨rfl, C.2.2.2.2.2.2.2.1.go hW (by rw [hU]; exact hS.2.1), by rw [hU]; exact hR⟩⟩
  rcases mk with mk | mk
  · exact g_after (va_runV (As := As) (rest := rest) S ct ⟨callB_g C cb mk ro, C.2.2.2.2.2.1 _ hin, C.2.2.2.2.2.1 _ hse⟩ hp rfl hA hl.1 hst (lv_room hw) hd hf) C hX hb hS hl kk
  · exact g_after (va_runVN (As := As) (rest := rest) S ct ⟨callN_g C cb mk ro, C.2.2.2.2.2.1 _ hin, C.2.2.2.2.2.1 _ hse⟩ hp rfl hA hl.1 hst (lv_room hw) hd hf) C hX hb hS hl kk
theorem g_callS (As : List Value) {Y : MB} {idx k k1 k2 : Nat} {rest : List Value} {v : Option Value} {P : Prop} (cv : CS M.2.2.2.2.2 idx Y k) (ro : RO M.2.2.2.2.1 Y k1 k2) (ct : Ct l E b0 Y k1 k2 As h n v h' n' P) (hd : DC M.2.1 pc (.invokestatic idx) 3 pc')
    (hA : As.length = k) (hst : st = As.reverse ++ rest) (hw : (rest.map fun v => v.category).sum ≤ 8) (hf : c1 + k1 ≤ M.2.2.2.2.1.cells ∧ c2 + k2 ≤ M.2.2.2.2.1.slots)
    (kk : P → G l E b0 M X Z (c1 + k1) (c2 + k2) n' h' pc' L (v.toList ++ rest)) : G l E b0 M X Z c1 c2 n h pc L st := by
  intro p e s m args below meth c C hX hb H locs ls hR hS hl
  obtain ⟨hd, rfl⟩ := hd
  obtain ⟨cb, mk, hin⟩ := cv
  have S : CallFix p m c M.2.1 M.2.2.1 s args GW M.2.2.2.2.2 := ⟨C.1, C.2.1, C.2.2.1, C.2.2.2.2.1, C.2.2.2.2.2.1⟩
  have hp : PreS s H (va_Pc As (fun U => KX E b0 U ∧ RH E b0 n h U.heap)) As := ⟨pc_blind, fun U hU hW => ⟨rfl, C.2.2.2.2.2.2.2.1.go hW (by rw [hU]; exact hS.2.1), by rw [hU]; exact hR⟩⟩
  rcases mk with mk | mk
  · exact g_after (va_runS (As := As) (rest := rest) S ct ⟨callB_g C cb mk ro, C.2.2.2.2.2.1 _ hin⟩ hp rfl hA hl.1 hst (lv_room hw) hd hf) C hX hb hS hl kk
  · exact g_after (va_runSN (As := As) (rest := rest) S ct ⟨callN_g C cb mk ro, C.2.2.2.2.2.1 _ hin, trivial⟩ hp rfl hA hl.1 hst (lv_room hw) hd hf) C hX hb hS hl kk
theorem g_callI (As : List Value) {Y : MB} {idx k k1 k2 : Nat} {rest : List Value} {P : Prop} (cv : CI M.2.2.2.2.2 idx Y k) (ro : RO M.2.2.2.2.1 Y k1 k2) (ct : Ct l E b0 Y k1 k2 (.ref o :: As) h n none h' n' P) (hd : DC M.2.1 pc (.invokespecial idx) 3 pc')
    (hA : As.length = k) (hst : st = As.reverse ++ .ref o :: rest) (hw : (rest.map fun v => v.category).sum ≤ 8) (hf : c1 + k1 ≤ M.2.2.2.2.1.cells ∧ c2 + k2 ≤ M.2.2.2.2.1.slots)
    (kk : P → G l E b0 M X Z (c1 + k1) (c2 + k2) n' h' pc' L rest) : G l E b0 M X Z c1 c2 n h pc L st := by
  intro p e s m args below meth c C hX hb H locs ls hR hS hl
  obtain ⟨hd, rfl⟩ := hd
  obtain ⟨cb, mk, hin, hnm, hret⟩ := cv
  have S : CallFix p m c M.2.1 M.2.2.1 s args GW M.2.2.2.2.2 := ⟨C.1, C.2.1, C.2.2.1, C.2.2.2.2.1, C.2.2.2.2.2.1⟩
  have hp : PreS s H (va_Pc (.ref o :: As) (fun U => KX E b0 U ∧ RH E b0 n h U.heap)) (.ref o :: As) := ⟨pc_blind, fun U hU hW => ⟨rfl, C.2.2.2.2.2.2.2.1.go hW (by rw [hU]; exact hS.2.1), by rw [hU]; exact hR⟩⟩
  unfold Ct at ct
  rw [hret] at ct
  rcases mk with mk | mk
  · have cw := callB_g C cb mk ro
    rw [hret] at cw
    exact g_after (va_runI (As := As) (rest := rest) S ct ⟨cw, hnm, C.2.2.2.2.2.1 _ hin⟩ hp rfl hA hl.1 hst (lv_room hw) hd hf) C hX hb hS hl kk
  · have cw := callN_g C cb mk ro
    rw [hret] at cw
    exact g_after (va_runIN (As := As) (rest := rest) S ct ⟨cw, hnm, C.2.2.2.2.2.1 _ hin⟩ hp rfl hA hl.1 hst (lv_room hw) hd hf) C hX hb hS hl kk
end GH

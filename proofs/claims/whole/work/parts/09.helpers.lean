def M_X10_within : MB := (yX10_within, cX10_within, 3, (some .boolean), ({ frames := 1, cells := 0, slots := 0, locals := 40 } : Room), RX10)
def M_X10_isPart : MB := (yX10_isPart, cX10_isPart, 1, (some .boolean), ({ frames := 2, cells := 0, slots := 0, locals := 62 } : Room), RX10)
def M_X10_isPlace : MB := (yX10_isPlace, cX10_isPlace, 1, (some .boolean), ({ frames := 1, cells := 0, slots := 0, locals := 40 } : Room), RX10)
def M_X10_isSide : MB := (yX10_isSide, cX10_isSide, 1, (some .boolean), ({ frames := 1, cells := 0, slots := 0, locals := 40 } : Room), RX10)
def M_X10_isPull : MB := (yX10_isPull, cX10_isPull, 1, (some .boolean), ({ frames := 2, cells := 0, slots := 0, locals := 62 } : Room), RX10)
def M_X10_isForce : MB := (yX10_isForce, cX10_isForce, 1, (some .boolean), ({ frames := 2, cells := 0, slots := 0, locals := 62 } : Room), RX10)
def M_X10_isTicks : MB := (yX10_isTicks, cX10_isTicks, 1, (some .boolean), ({ frames := 2, cells := 0, slots := 0, locals := 62 } : Room), RX10)
def M_X10_isDistance : MB := (yX10_isDistance, cX10_isDistance, 1, (some .boolean), ({ frames := 1, cells := 0, slots := 0, locals := 40 } : Room), RX10)
def M_X10_isLength : MB := (yX10_isLength, cX10_isLength, 1, (some .boolean), ({ frames := 2, cells := 0, slots := 0, locals := 62 } : Room), RX10)
def M_X10_isSign : MB := (yX10_isSign, cX10_isSign, 1, (some .boolean), ({ frames := 1, cells := 0, slots := 0, locals := 40 } : Room), RX10)
theorem cb_X10_within : CB M_X10_within 3 := ⟨GW_of 564 (by decide +kernel) (by decide +kernel), GW_of 84 (by decide +kernel) (by decide +kernel), by decide +kernel, by decide +kernel, by decide +kernel⟩
theorem cs_X10_164 : CS RX10 164 M_X10_within 3 := ⟨cb_X10_within, Or.inl (GW_of 775 (by decide +kernel) (by decide +kernel)), GW_of 563 (by decide +kernel) (by decide +kernel)⟩
/-! ===== X10_within ===== -/
theorem e_X10_within_0 : DC cX10_within 0 (.iload_n 1) 1 1 := ⟨by decide +kernel, rfl⟩
theorem e_X10_within_1 : DC cX10_within 1 (.iload_n 0) 1 2 := ⟨by decide +kernel, rfl⟩
theorem e_X10_within_2 : DB cX10_within 2 (.if_icmp .gt 12) (12) 3 5 14 := ⟨by decide +kernel, rfl, rfl⟩
theorem e_X10_within_5 : DC cX10_within 5 (.iload_n 0) 1 6 := ⟨by decide +kernel, rfl⟩
theorem e_X10_within_6 : DC cX10_within 6 (.iload_n 2) 1 7 := ⟨by decide +kernel, rfl⟩
theorem e_X10_within_7 : DB cX10_within 7 (.if_icmp .gt 7) (7) 3 10 14 := ⟨by decide +kernel, rfl, rfl⟩
theorem e_X10_within_10 : DC cX10_within 10 (.iconst 1) 1 11 := ⟨by decide +kernel, rfl⟩
theorem e_X10_within_11 : DB cX10_within 11 (.goto 4) (4) 3 14 15 := ⟨by decide +kernel, rfl, rfl⟩
theorem e_X10_within_14 : DC cX10_within 14 (.iconst 0) 1 15 := ⟨by decide +kernel, rfl⟩
theorem e_X10_within_15 : DC cX10_within 15 (.ireturn) 1 16 := ⟨by decide +kernel, rfl⟩
noncomputable def m_X10_within_0 (v0 : Int) (v1 : Int) (v2 : Int) : Option (Int) :=
  if v0 < v1 then (some (0)) else (if v2 < v0 then (some (0)) else (some (1)))

set_option maxRecDepth 10000 in
theorem g_X10_within_0 {l : Launch} {E : EE} {b0 n : Nat} {h : AH} {v0 v1 v2 : Int} {r : Int} (ao : AO b0 n []) (ok_v0 : inI v0) (ok_v1 : inI v1) (ok_v2 : inI v2) (hs : m_X10_within_0 v0 v1 v2 = some r) : G l E b0 M_X10_within (fun _ => True) (ZM E b0 (some (vI r)) (ov [] [] h) n (inZ r) 0 0) 0 0 n (ov [] [] h) 0 [some (vI v0), some (vI v1), some (vI v2)] [] := by
  rw [m_X10_within_0] at hs
  refine g_iload_n e_X10_within_0 rfl ?_
  refine g_iload_n e_X10_within_1 rfl ?_
  refine g_icmp_gt e_X10_within_2 ok_v1 ok_v0 hs (fun c2 hs => ?_) (fun c2 hs => ?_)
  · refine g_iconst e_X10_within_14 ?_
    obtain rfl := Option.some.inj hs
    exact g_zret rfl (by decide : inZ 0) (by decide : inZ 0) e_X10_within_15
  · refine g_iload_n e_X10_within_5 rfl ?_
    refine g_iload_n e_X10_within_6 rfl ?_
    refine g_icmp_gt e_X10_within_7 ok_v0 ok_v2 hs (fun c7 hs => ?_) (fun c7 hs => ?_)
    · refine g_iconst e_X10_within_14 ?_
      obtain rfl := Option.some.inj hs
      exact g_zret rfl (by decide : inZ 0) (by decide : inZ 0) e_X10_within_15
    · refine g_iconst e_X10_within_10 ?_
      refine g_goto e_X10_within_11 ?_
      obtain rfl := Option.some.inj hs
      exact g_zret rfl (by decide : inZ 1) (by decide : inZ 1) e_X10_within_15

noncomputable def m_X10_within (v0 : Int) (v1 : Int) (v2 : Int) : Option (Int) := m_X10_within_0 v0 v1 v2

set_option maxRecDepth 10000 in
theorem ct_X10_within {l : Launch} {E : EE} {b0 n : Nat} {h : AH} {v0 v1 v2 : Int} (ao : AO b0 n []) (hf : FA h [] []) (ok_v0 : inI v0) (ok_v1 : inI v1) (ok_v2 : inI v2) {r : Int} (hm : m_X10_within v0 v1 v2 = some r) : Ct l E b0 M_X10_within 0 0 [vI v0, vI v1, vI v2] h n (some (vI r)) h n (inZ r) := by
  rw [m_X10_within] at hm
  have hg : G l E b0 M_X10_within (fun _ => True) (ZM E b0 (some (vI r)) (ov [] [] h) n (inZ r) 0 0) 0 0 n (ov [] [] h) 0 [some (vI v0), some (vI v1), some (vI v2)] [] := by
    have hs := hm
    exact g_X10_within_0 ao ok_v0 ok_v1 ok_v2 hs
  rw [FA_id hf] at hg
  exact Ct_of [some (vI v0), some (vI v1), some (vI v2)] ⟨by decide +kernel, rfl⟩ rfl (Nat.le_of_ble_eq_true rfl) hg

/-! ===== X10_isPart ===== -/
theorem e_X10_isPart_0 : DC cX10_isPart 0 (.iload_n 0) 1 1 := ⟨by decide +kernel, rfl⟩
theorem e_X10_isPart_1 : DC cX10_isPart 1 (.iconst 0) 1 2 := ⟨by decide +kernel, rfl⟩
theorem e_X10_isPart_2 : DC cX10_isPart 2 (.iconst 2) 1 3 := ⟨by decide +kernel, rfl⟩
theorem e_X10_isPart_3 : DC cX10_isPart 3 (.invokestatic 164) 3 6 := ⟨by decide +kernel, rfl⟩
theorem e_X10_isPart_6 : DC cX10_isPart 6 (.ireturn) 1 7 := ⟨by decide +kernel, rfl⟩
noncomputable def m_X10_isPart_0 (v0 : Int) : Option (Int) :=
  (m_X10_within v0 0 2).bind (fun y1 => some (y1))

set_option maxRecDepth 10000 in
theorem g_X10_isPart_0 {l : Launch} {E : EE} {b0 n : Nat} {h : AH} {v0 : Int} {r : Int} (ao : AO b0 n []) (ok_v0 : inI v0) (hs : m_X10_isPart_0 v0 = some r) : G l E b0 M_X10_isPart (fun _ => True) (ZM E b0 (some (vI r)) (ov [] [] h) n (inZ r) 0 0) 0 0 n (ov [] [] h) 0 [some (vI v0)] [] := by
  rw [m_X10_isPart_0] at hs
  refine g_iload_n e_X10_isPart_0 rfl ?_
  refine g_iconst e_X10_isPart_1 ?_
  refine g_iconst e_X10_isPart_2 ?_
  obtain ⟨y1, hy1, hs⟩ := bind_elim hs
  refine g_callSr [vI v0, vI 0, vI 2] cs_X10_164 ⟨rfl, rfl, Nat.le_of_ble_eq_true rfl, Nat.le_of_ble_eq_true rfl⟩ (ct_X10_within ⟨List.nodup_nil, fun i a h => by simp at h⟩ (fun i a e h => by simp at h) ok_v0 (by decide : inI 0) (by decide : inI 2) hy1) e_X10_isPart_3 rfl rfl (Nat.le_of_ble_eq_true rfl) ⟨Nat.le_refl _, Nat.le_refl _⟩ (fun Py1 => ?_)
  obtain rfl := Option.some.inj hs
  exact g_zret rfl Py1 Py1 e_X10_isPart_6

noncomputable def m_X10_isPart (v0 : Int) : Option (Int) := m_X10_isPart_0 v0

set_option maxRecDepth 10000 in
theorem ct_X10_isPart {l : Launch} {E : EE} {b0 n : Nat} {h : AH} {v0 : Int} (ao : AO b0 n []) (hf : FA h [] []) (ok_v0 : inI v0) {r : Int} (hm : m_X10_isPart v0 = some r) : Ct l E b0 M_X10_isPart 0 0 [vI v0] h n (some (vI r)) h n (inZ r) := by
  rw [m_X10_isPart] at hm
  have hg : G l E b0 M_X10_isPart (fun _ => True) (ZM E b0 (some (vI r)) (ov [] [] h) n (inZ r) 0 0) 0 0 n (ov [] [] h) 0 [some (vI v0)] [] := by
    have hs := hm
    exact g_X10_isPart_0 ao ok_v0 hs
  rw [FA_id hf] at hg
  exact Ct_of [some (vI v0)] ⟨by decide +kernel, rfl⟩ rfl (Nat.le_of_ble_eq_true rfl) hg

/-! ===== X10_isPlace ===== -/
theorem e_X10_isPlace_0 : DC cX10_isPlace 0 (.iconst 0) 1 1 := ⟨by decide +kernel, rfl⟩
theorem e_X10_isPlace_1 : DC cX10_isPlace 1 (.iload_n 0) 1 2 := ⟨by decide +kernel, rfl⟩
theorem e_X10_isPlace_2 : DB cX10_isPlace 2 (.if_icmp .gt 13) (13) 3 5 15 := ⟨by decide +kernel, rfl, rfl⟩
theorem e_X10_isPlace_5 : DC cX10_isPlace 5 (.iload_n 0) 1 6 := ⟨by decide +kernel, rfl⟩
theorem e_X10_isPlace_6 : DC cX10_isPlace 6 (.bipush 100) 2 8 := ⟨by decide +kernel, rfl⟩
theorem e_X10_isPlace_8 : DB cX10_isPlace 8 (.if_icmp .ge 7) (7) 3 11 15 := ⟨by decide +kernel, rfl, rfl⟩
theorem e_X10_isPlace_11 : DC cX10_isPlace 11 (.iconst 1) 1 12 := ⟨by decide +kernel, rfl⟩
theorem e_X10_isPlace_12 : DB cX10_isPlace 12 (.goto 4) (4) 3 15 16 := ⟨by decide +kernel, rfl, rfl⟩
theorem e_X10_isPlace_15 : DC cX10_isPlace 15 (.iconst 0) 1 16 := ⟨by decide +kernel, rfl⟩
theorem e_X10_isPlace_16 : DC cX10_isPlace 16 (.ireturn) 1 17 := ⟨by decide +kernel, rfl⟩
noncomputable def m_X10_isPlace_0 (v0 : Int) : Option (Int) :=
  if v0 < 0 then (some (0)) else (if 100 ≤ v0 then (some (0)) else (some (1)))

set_option maxRecDepth 10000 in
theorem g_X10_isPlace_0 {l : Launch} {E : EE} {b0 n : Nat} {h : AH} {v0 : Int} {r : Int} (ao : AO b0 n []) (ok_v0 : inI v0) (hs : m_X10_isPlace_0 v0 = some r) : G l E b0 M_X10_isPlace (fun _ => True) (ZM E b0 (some (vI r)) (ov [] [] h) n (inZ r) 0 0) 0 0 n (ov [] [] h) 0 [some (vI v0)] [] := by
  rw [m_X10_isPlace_0] at hs
  refine g_iconst e_X10_isPlace_0 ?_
  refine g_iload_n e_X10_isPlace_1 rfl ?_
  refine g_icmp_gt e_X10_isPlace_2 (by decide : inI 0) ok_v0 hs (fun c2 hs => ?_) (fun c2 hs => ?_)
  · refine g_iconst e_X10_isPlace_15 ?_
    obtain rfl := Option.some.inj hs
    exact g_zret rfl (by decide : inZ 0) (by decide : inZ 0) e_X10_isPlace_16
  · refine g_iload_n e_X10_isPlace_5 rfl ?_
    refine g_bipush e_X10_isPlace_6 bp_100 ?_
    refine g_icmp_ge e_X10_isPlace_8 ok_v0 (by decide : inI 100) hs (fun c8 hs => ?_) (fun c8 hs => ?_)
    · refine g_iconst e_X10_isPlace_15 ?_
      obtain rfl := Option.some.inj hs
      exact g_zret rfl (by decide : inZ 0) (by decide : inZ 0) e_X10_isPlace_16
    · refine g_iconst e_X10_isPlace_11 ?_
      refine g_goto e_X10_isPlace_12 ?_
      obtain rfl := Option.some.inj hs
      exact g_zret rfl (by decide : inZ 1) (by decide : inZ 1) e_X10_isPlace_16

noncomputable def m_X10_isPlace (v0 : Int) : Option (Int) := m_X10_isPlace_0 v0

set_option maxRecDepth 10000 in
theorem ct_X10_isPlace {l : Launch} {E : EE} {b0 n : Nat} {h : AH} {v0 : Int} (ao : AO b0 n []) (hf : FA h [] []) (ok_v0 : inI v0) {r : Int} (hm : m_X10_isPlace v0 = some r) : Ct l E b0 M_X10_isPlace 0 0 [vI v0] h n (some (vI r)) h n (inZ r) := by
  rw [m_X10_isPlace] at hm
  have hg : G l E b0 M_X10_isPlace (fun _ => True) (ZM E b0 (some (vI r)) (ov [] [] h) n (inZ r) 0 0) 0 0 n (ov [] [] h) 0 [some (vI v0)] [] := by
    have hs := hm
    exact g_X10_isPlace_0 ao ok_v0 hs
  rw [FA_id hf] at hg
  exact Ct_of [some (vI v0)] ⟨by decide +kernel, rfl⟩ rfl (Nat.le_of_ble_eq_true rfl) hg

/-! ===== X10_isSide ===== -/
theorem e_X10_isSide_0 : DC cX10_isSide 0 (.iload_n 0) 1 1 := ⟨by decide +kernel, rfl⟩
theorem e_X10_isSide_1 : DB cX10_isSide 1 (.ifCond .eq 8) (8) 3 4 9 := ⟨by decide +kernel, rfl, rfl⟩
theorem e_X10_isSide_4 : DC cX10_isSide 4 (.iload_n 0) 1 5 := ⟨by decide +kernel, rfl⟩
theorem e_X10_isSide_5 : DC cX10_isSide 5 (.iconst 1) 1 6 := ⟨by decide +kernel, rfl⟩
theorem e_X10_isSide_6 : DB cX10_isSide 6 (.if_icmp .ne 7) (7) 3 9 13 := ⟨by decide +kernel, rfl, rfl⟩
theorem e_X10_isSide_9 : DC cX10_isSide 9 (.iconst 1) 1 10 := ⟨by decide +kernel, rfl⟩
theorem e_X10_isSide_10 : DB cX10_isSide 10 (.goto 4) (4) 3 13 14 := ⟨by decide +kernel, rfl, rfl⟩
theorem e_X10_isSide_13 : DC cX10_isSide 13 (.iconst 0) 1 14 := ⟨by decide +kernel, rfl⟩
theorem e_X10_isSide_14 : DC cX10_isSide 14 (.ireturn) 1 15 := ⟨by decide +kernel, rfl⟩
noncomputable def m_X10_isSide_9 : Option (Int) :=
  some (1)

set_option maxRecDepth 10000 in
theorem g_X10_isSide_9 {l : Launch} {E : EE} {b0 n : Nat} {h : AH} {r : Int} (ao : AO b0 n []) (hs : m_X10_isSide_9 = some r) : G l E b0 M_X10_isSide (fun _ => True) (ZM E b0 (some (vI r)) (ov [] [] h) n (inZ r) 0 0) 0 0 n (ov [] [] h) 9 [none] [] := by
  rw [m_X10_isSide_9] at hs
  refine g_iconst e_X10_isSide_9 ?_
  refine g_goto e_X10_isSide_10 ?_
  obtain rfl := Option.some.inj hs
  exact g_zret rfl (by decide : inZ 1) (by decide : inZ 1) e_X10_isSide_14

noncomputable def m_X10_isSide_0 (v0 : Int) : Option (Int) :=
  if v0 = 0 then (m_X10_isSide_9) else (if v0 = 1 then (m_X10_isSide_9) else (some (0)))

set_option maxRecDepth 10000 in
theorem g_X10_isSide_0 {l : Launch} {E : EE} {b0 n : Nat} {h : AH} {v0 : Int} {r : Int} (ao : AO b0 n []) (ok_v0 : inI v0) (hs : m_X10_isSide_0 v0 = some r) : G l E b0 M_X10_isSide (fun _ => True) (ZM E b0 (some (vI r)) (ov [] [] h) n (inZ r) 0 0) 0 0 n (ov [] [] h) 0 [some (vI v0)] [] := by
  rw [m_X10_isSide_0] at hs
  refine g_iload_n e_X10_isSide_0 rfl ?_
  refine g_if_eq e_X10_isSide_1 ok_v0 hs (fun c1 hs => ?_) (fun c1 hs => ?_)
  · exact g_mask [false] (g_X10_isSide_9 ao  hs)
  · refine g_iload_n e_X10_isSide_4 rfl ?_
    refine g_iconst e_X10_isSide_5 ?_
    refine g_icmp_ne e_X10_isSide_6 ok_v0 (by decide : inI 1) hs (fun c6 hs => ?_) (fun c6 hs => ?_)
    · exact g_mask [false] (g_X10_isSide_9 ao  hs)
    · refine g_iconst e_X10_isSide_13 ?_
      obtain rfl := Option.some.inj hs
      exact g_zret rfl (by decide : inZ 0) (by decide : inZ 0) e_X10_isSide_14

noncomputable def m_X10_isSide (v0 : Int) : Option (Int) := m_X10_isSide_0 v0

set_option maxRecDepth 10000 in
theorem ct_X10_isSide {l : Launch} {E : EE} {b0 n : Nat} {h : AH} {v0 : Int} (ao : AO b0 n []) (hf : FA h [] []) (ok_v0 : inI v0) {r : Int} (hm : m_X10_isSide v0 = some r) : Ct l E b0 M_X10_isSide 0 0 [vI v0] h n (some (vI r)) h n (inZ r) := by
  rw [m_X10_isSide] at hm
  have hg : G l E b0 M_X10_isSide (fun _ => True) (ZM E b0 (some (vI r)) (ov [] [] h) n (inZ r) 0 0) 0 0 n (ov [] [] h) 0 [some (vI v0)] [] := by
    have hs := hm
    exact g_X10_isSide_0 ao ok_v0 hs
  rw [FA_id hf] at hg
  exact Ct_of [some (vI v0)] ⟨by decide +kernel, rfl⟩ rfl (Nat.le_of_ble_eq_true rfl) hg

/-! ===== X10_isPull ===== -/
theorem e_X10_isPull_0 : DC cX10_isPull 0 (.iload_n 0) 1 1 := ⟨by decide +kernel, rfl⟩
theorem e_X10_isPull_1 : DC cX10_isPull 1 (.sipush (-9999)) 3 4 := ⟨by decide +kernel, rfl⟩
theorem e_X10_isPull_4 : DC cX10_isPull 4 (.sipush 9999) 3 7 := ⟨by decide +kernel, rfl⟩
theorem e_X10_isPull_7 : DC cX10_isPull 7 (.invokestatic 164) 3 10 := ⟨by decide +kernel, rfl⟩
theorem e_X10_isPull_10 : DC cX10_isPull 10 (.ireturn) 1 11 := ⟨by decide +kernel, rfl⟩
noncomputable def m_X10_isPull_0 (v0 : Int) : Option (Int) :=
  (m_X10_within v0 (-9999) 9999).bind (fun y1 => some (y1))

set_option maxRecDepth 10000 in
theorem g_X10_isPull_0 {l : Launch} {E : EE} {b0 n : Nat} {h : AH} {v0 : Int} {r : Int} (ao : AO b0 n []) (ok_v0 : inI v0) (hs : m_X10_isPull_0 v0 = some r) : G l E b0 M_X10_isPull (fun _ => True) (ZM E b0 (some (vI r)) (ov [] [] h) n (inZ r) 0 0) 0 0 n (ov [] [] h) 0 [some (vI v0)] [] := by
  rw [m_X10_isPull_0] at hs
  refine g_iload_n e_X10_isPull_0 rfl ?_
  refine g_sipush e_X10_isPull_1 sp_m9999 ?_
  refine g_sipush e_X10_isPull_4 sp_9999 ?_
  obtain ⟨y1, hy1, hs⟩ := bind_elim hs
  refine g_callSr [vI v0, vI (-9999), vI 9999] cs_X10_164 ⟨rfl, rfl, Nat.le_of_ble_eq_true rfl, Nat.le_of_ble_eq_true rfl⟩ (ct_X10_within ⟨List.nodup_nil, fun i a h => by simp at h⟩ (fun i a e h => by simp at h) ok_v0 (by decide : inI (-9999)) (by decide : inI 9999) hy1) e_X10_isPull_7 rfl rfl (Nat.le_of_ble_eq_true rfl) ⟨Nat.le_refl _, Nat.le_refl _⟩ (fun Py1 => ?_)
  obtain rfl := Option.some.inj hs
  exact g_zret rfl Py1 Py1 e_X10_isPull_10

noncomputable def m_X10_isPull (v0 : Int) : Option (Int) := m_X10_isPull_0 v0

set_option maxRecDepth 10000 in
theorem ct_X10_isPull {l : Launch} {E : EE} {b0 n : Nat} {h : AH} {v0 : Int} (ao : AO b0 n []) (hf : FA h [] []) (ok_v0 : inI v0) {r : Int} (hm : m_X10_isPull v0 = some r) : Ct l E b0 M_X10_isPull 0 0 [vI v0] h n (some (vI r)) h n (inZ r) := by
  rw [m_X10_isPull] at hm
  have hg : G l E b0 M_X10_isPull (fun _ => True) (ZM E b0 (some (vI r)) (ov [] [] h) n (inZ r) 0 0) 0 0 n (ov [] [] h) 0 [some (vI v0)] [] := by
    have hs := hm
    exact g_X10_isPull_0 ao ok_v0 hs
  rw [FA_id hf] at hg
  exact Ct_of [some (vI v0)] ⟨by decide +kernel, rfl⟩ rfl (Nat.le_of_ble_eq_true rfl) hg

/-! ===== X10_isForce ===== -/
theorem e_X10_isForce_0 : DC cX10_isForce 0 (.iload_n 0) 1 1 := ⟨by decide +kernel, rfl⟩
theorem e_X10_isForce_1 : DC cX10_isForce 1 (.iconst 0) 1 2 := ⟨by decide +kernel, rfl⟩
theorem e_X10_isForce_2 : DC cX10_isForce 2 (.sipush 9999) 3 5 := ⟨by decide +kernel, rfl⟩
theorem e_X10_isForce_5 : DC cX10_isForce 5 (.invokestatic 164) 3 8 := ⟨by decide +kernel, rfl⟩
theorem e_X10_isForce_8 : DC cX10_isForce 8 (.ireturn) 1 9 := ⟨by decide +kernel, rfl⟩
noncomputable def m_X10_isForce_0 (v0 : Int) : Option (Int) :=
  (m_X10_within v0 0 9999).bind (fun y1 => some (y1))

set_option maxRecDepth 10000 in
theorem g_X10_isForce_0 {l : Launch} {E : EE} {b0 n : Nat} {h : AH} {v0 : Int} {r : Int} (ao : AO b0 n []) (ok_v0 : inI v0) (hs : m_X10_isForce_0 v0 = some r) : G l E b0 M_X10_isForce (fun _ => True) (ZM E b0 (some (vI r)) (ov [] [] h) n (inZ r) 0 0) 0 0 n (ov [] [] h) 0 [some (vI v0)] [] := by
  rw [m_X10_isForce_0] at hs
  refine g_iload_n e_X10_isForce_0 rfl ?_
  refine g_iconst e_X10_isForce_1 ?_
  refine g_sipush e_X10_isForce_2 sp_9999 ?_
  obtain ⟨y1, hy1, hs⟩ := bind_elim hs
  refine g_callSr [vI v0, vI 0, vI 9999] cs_X10_164 ⟨rfl, rfl, Nat.le_of_ble_eq_true rfl, Nat.le_of_ble_eq_true rfl⟩ (ct_X10_within ⟨List.nodup_nil, fun i a h => by simp at h⟩ (fun i a e h => by simp at h) ok_v0 (by decide : inI 0) (by decide : inI 9999) hy1) e_X10_isForce_5 rfl rfl (Nat.le_of_ble_eq_true rfl) ⟨Nat.le_refl _, Nat.le_refl _⟩ (fun Py1 => ?_)
  obtain rfl := Option.some.inj hs
  exact g_zret rfl Py1 Py1 e_X10_isForce_8

noncomputable def m_X10_isForce (v0 : Int) : Option (Int) := m_X10_isForce_0 v0

set_option maxRecDepth 10000 in
theorem ct_X10_isForce {l : Launch} {E : EE} {b0 n : Nat} {h : AH} {v0 : Int} (ao : AO b0 n []) (hf : FA h [] []) (ok_v0 : inI v0) {r : Int} (hm : m_X10_isForce v0 = some r) : Ct l E b0 M_X10_isForce 0 0 [vI v0] h n (some (vI r)) h n (inZ r) := by
  rw [m_X10_isForce] at hm
  have hg : G l E b0 M_X10_isForce (fun _ => True) (ZM E b0 (some (vI r)) (ov [] [] h) n (inZ r) 0 0) 0 0 n (ov [] [] h) 0 [some (vI v0)] [] := by
    have hs := hm
    exact g_X10_isForce_0 ao ok_v0 hs
  rw [FA_id hf] at hg
  exact Ct_of [some (vI v0)] ⟨by decide +kernel, rfl⟩ rfl (Nat.le_of_ble_eq_true rfl) hg

/-! ===== X10_isTicks ===== -/
theorem e_X10_isTicks_0 : DC cX10_isTicks 0 (.iload_n 0) 1 1 := ⟨by decide +kernel, rfl⟩
theorem e_X10_isTicks_1 : DC cX10_isTicks 1 (.iconst 0) 1 2 := ⟨by decide +kernel, rfl⟩
theorem e_X10_isTicks_2 : DC cX10_isTicks 2 (.sipush 200) 3 5 := ⟨by decide +kernel, rfl⟩
theorem e_X10_isTicks_5 : DC cX10_isTicks 5 (.invokestatic 164) 3 8 := ⟨by decide +kernel, rfl⟩
theorem e_X10_isTicks_8 : DC cX10_isTicks 8 (.ireturn) 1 9 := ⟨by decide +kernel, rfl⟩
noncomputable def m_X10_isTicks_0 (v0 : Int) : Option (Int) :=
  (m_X10_within v0 0 200).bind (fun y1 => some (y1))

set_option maxRecDepth 10000 in
theorem g_X10_isTicks_0 {l : Launch} {E : EE} {b0 n : Nat} {h : AH} {v0 : Int} {r : Int} (ao : AO b0 n []) (ok_v0 : inI v0) (hs : m_X10_isTicks_0 v0 = some r) : G l E b0 M_X10_isTicks (fun _ => True) (ZM E b0 (some (vI r)) (ov [] [] h) n (inZ r) 0 0) 0 0 n (ov [] [] h) 0 [some (vI v0)] [] := by
  rw [m_X10_isTicks_0] at hs
  refine g_iload_n e_X10_isTicks_0 rfl ?_
  refine g_iconst e_X10_isTicks_1 ?_
  refine g_sipush e_X10_isTicks_2 sp_200 ?_
  obtain ⟨y1, hy1, hs⟩ := bind_elim hs
  refine g_callSr [vI v0, vI 0, vI 200] cs_X10_164 ⟨rfl, rfl, Nat.le_of_ble_eq_true rfl, Nat.le_of_ble_eq_true rfl⟩ (ct_X10_within ⟨List.nodup_nil, fun i a h => by simp at h⟩ (fun i a e h => by simp at h) ok_v0 (by decide : inI 0) (by decide : inI 200) hy1) e_X10_isTicks_5 rfl rfl (Nat.le_of_ble_eq_true rfl) ⟨Nat.le_refl _, Nat.le_refl _⟩ (fun Py1 => ?_)
  obtain rfl := Option.some.inj hs
  exact g_zret rfl Py1 Py1 e_X10_isTicks_8

noncomputable def m_X10_isTicks (v0 : Int) : Option (Int) := m_X10_isTicks_0 v0

set_option maxRecDepth 10000 in
theorem ct_X10_isTicks {l : Launch} {E : EE} {b0 n : Nat} {h : AH} {v0 : Int} (ao : AO b0 n []) (hf : FA h [] []) (ok_v0 : inI v0) {r : Int} (hm : m_X10_isTicks v0 = some r) : Ct l E b0 M_X10_isTicks 0 0 [vI v0] h n (some (vI r)) h n (inZ r) := by
  rw [m_X10_isTicks] at hm
  have hg : G l E b0 M_X10_isTicks (fun _ => True) (ZM E b0 (some (vI r)) (ov [] [] h) n (inZ r) 0 0) 0 0 n (ov [] [] h) 0 [some (vI v0)] [] := by
    have hs := hm
    exact g_X10_isTicks_0 ao ok_v0 hs
  rw [FA_id hf] at hg
  exact Ct_of [some (vI v0)] ⟨by decide +kernel, rfl⟩ rfl (Nat.le_of_ble_eq_true rfl) hg

/-! ===== X10_isDistance ===== -/
theorem e_X10_isDistance_0 : DC cX10_isDistance 0 (.iconst 1) 1 1 := ⟨by decide +kernel, rfl⟩
theorem e_X10_isDistance_1 : DC cX10_isDistance 1 (.iload_n 0) 1 2 := ⟨by decide +kernel, rfl⟩
theorem e_X10_isDistance_2 : DB cX10_isDistance 2 (.if_icmp .gt 13) (13) 3 5 15 := ⟨by decide +kernel, rfl, rfl⟩
theorem e_X10_isDistance_5 : DC cX10_isDistance 5 (.iload_n 0) 1 6 := ⟨by decide +kernel, rfl⟩
theorem e_X10_isDistance_6 : DC cX10_isDistance 6 (.bipush 20) 2 8 := ⟨by decide +kernel, rfl⟩
theorem e_X10_isDistance_8 : DB cX10_isDistance 8 (.if_icmp .gt 7) (7) 3 11 15 := ⟨by decide +kernel, rfl, rfl⟩
theorem e_X10_isDistance_11 : DC cX10_isDistance 11 (.iconst 1) 1 12 := ⟨by decide +kernel, rfl⟩
theorem e_X10_isDistance_12 : DB cX10_isDistance 12 (.goto 4) (4) 3 15 16 := ⟨by decide +kernel, rfl, rfl⟩
theorem e_X10_isDistance_15 : DC cX10_isDistance 15 (.iconst 0) 1 16 := ⟨by decide +kernel, rfl⟩
theorem e_X10_isDistance_16 : DC cX10_isDistance 16 (.ireturn) 1 17 := ⟨by decide +kernel, rfl⟩
noncomputable def m_X10_isDistance_0 (v0 : Int) : Option (Int) :=
  if v0 < 1 then (some (0)) else (if 20 < v0 then (some (0)) else (some (1)))

set_option maxRecDepth 10000 in
theorem g_X10_isDistance_0 {l : Launch} {E : EE} {b0 n : Nat} {h : AH} {v0 : Int} {r : Int} (ao : AO b0 n []) (ok_v0 : inI v0) (hs : m_X10_isDistance_0 v0 = some r) : G l E b0 M_X10_isDistance (fun _ => True) (ZM E b0 (some (vI r)) (ov [] [] h) n (inZ r) 0 0) 0 0 n (ov [] [] h) 0 [some (vI v0)] [] := by
  rw [m_X10_isDistance_0] at hs
  refine g_iconst e_X10_isDistance_0 ?_
  refine g_iload_n e_X10_isDistance_1 rfl ?_
  refine g_icmp_gt e_X10_isDistance_2 (by decide : inI 1) ok_v0 hs (fun c2 hs => ?_) (fun c2 hs => ?_)
  · refine g_iconst e_X10_isDistance_15 ?_
    obtain rfl := Option.some.inj hs
    exact g_zret rfl (by decide : inZ 0) (by decide : inZ 0) e_X10_isDistance_16
  · refine g_iload_n e_X10_isDistance_5 rfl ?_
    refine g_bipush e_X10_isDistance_6 bp_20 ?_
    refine g_icmp_gt e_X10_isDistance_8 ok_v0 (by decide : inI 20) hs (fun c8 hs => ?_) (fun c8 hs => ?_)
    · refine g_iconst e_X10_isDistance_15 ?_
      obtain rfl := Option.some.inj hs
      exact g_zret rfl (by decide : inZ 0) (by decide : inZ 0) e_X10_isDistance_16
    · refine g_iconst e_X10_isDistance_11 ?_
      refine g_goto e_X10_isDistance_12 ?_
      obtain rfl := Option.some.inj hs
      exact g_zret rfl (by decide : inZ 1) (by decide : inZ 1) e_X10_isDistance_16

noncomputable def m_X10_isDistance (v0 : Int) : Option (Int) := m_X10_isDistance_0 v0

set_option maxRecDepth 10000 in
theorem ct_X10_isDistance {l : Launch} {E : EE} {b0 n : Nat} {h : AH} {v0 : Int} (ao : AO b0 n []) (hf : FA h [] []) (ok_v0 : inI v0) {r : Int} (hm : m_X10_isDistance v0 = some r) : Ct l E b0 M_X10_isDistance 0 0 [vI v0] h n (some (vI r)) h n (inZ r) := by
  rw [m_X10_isDistance] at hm
  have hg : G l E b0 M_X10_isDistance (fun _ => True) (ZM E b0 (some (vI r)) (ov [] [] h) n (inZ r) 0 0) 0 0 n (ov [] [] h) 0 [some (vI v0)] [] := by
    have hs := hm
    exact g_X10_isDistance_0 ao ok_v0 hs
  rw [FA_id hf] at hg
  exact Ct_of [some (vI v0)] ⟨by decide +kernel, rfl⟩ rfl (Nat.le_of_ble_eq_true rfl) hg

/-! ===== X10_isLength ===== -/
theorem e_X10_isLength_0 : DC cX10_isLength 0 (.iload_n 0) 1 1 := ⟨by decide +kernel, rfl⟩
theorem e_X10_isLength_1 : DC cX10_isLength 1 (.iconst 0) 1 2 := ⟨by decide +kernel, rfl⟩
theorem e_X10_isLength_2 : DC cX10_isLength 2 (.bipush 60) 2 4 := ⟨by decide +kernel, rfl⟩
theorem e_X10_isLength_4 : DC cX10_isLength 4 (.invokestatic 164) 3 7 := ⟨by decide +kernel, rfl⟩
theorem e_X10_isLength_7 : DC cX10_isLength 7 (.ireturn) 1 8 := ⟨by decide +kernel, rfl⟩
noncomputable def m_X10_isLength_0 (v0 : Int) : Option (Int) :=
  (m_X10_within v0 0 60).bind (fun y1 => some (y1))

set_option maxRecDepth 10000 in
theorem g_X10_isLength_0 {l : Launch} {E : EE} {b0 n : Nat} {h : AH} {v0 : Int} {r : Int} (ao : AO b0 n []) (ok_v0 : inI v0) (hs : m_X10_isLength_0 v0 = some r) : G l E b0 M_X10_isLength (fun _ => True) (ZM E b0 (some (vI r)) (ov [] [] h) n (inZ r) 0 0) 0 0 n (ov [] [] h) 0 [some (vI v0)] [] := by
  rw [m_X10_isLength_0] at hs
  refine g_iload_n e_X10_isLength_0 rfl ?_
  refine g_iconst e_X10_isLength_1 ?_
  refine g_bipush e_X10_isLength_2 bp_60 ?_
  obtain ⟨y1, hy1, hs⟩ := bind_elim hs
  refine g_callSr [vI v0, vI 0, vI 60] cs_X10_164 ⟨rfl, rfl, Nat.le_of_ble_eq_true rfl, Nat.le_of_ble_eq_true rfl⟩ (ct_X10_within ⟨List.nodup_nil, fun i a h => by simp at h⟩ (fun i a e h => by simp at h) ok_v0 (by decide : inI 0) (by decide : inI 60) hy1) e_X10_isLength_4 rfl rfl (Nat.le_of_ble_eq_true rfl) ⟨Nat.le_refl _, Nat.le_refl _⟩ (fun Py1 => ?_)
  obtain rfl := Option.some.inj hs
  exact g_zret rfl Py1 Py1 e_X10_isLength_7

noncomputable def m_X10_isLength (v0 : Int) : Option (Int) := m_X10_isLength_0 v0

set_option maxRecDepth 10000 in
theorem ct_X10_isLength {l : Launch} {E : EE} {b0 n : Nat} {h : AH} {v0 : Int} (ao : AO b0 n []) (hf : FA h [] []) (ok_v0 : inI v0) {r : Int} (hm : m_X10_isLength v0 = some r) : Ct l E b0 M_X10_isLength 0 0 [vI v0] h n (some (vI r)) h n (inZ r) := by
  rw [m_X10_isLength] at hm
  have hg : G l E b0 M_X10_isLength (fun _ => True) (ZM E b0 (some (vI r)) (ov [] [] h) n (inZ r) 0 0) 0 0 n (ov [] [] h) 0 [some (vI v0)] [] := by
    have hs := hm
    exact g_X10_isLength_0 ao ok_v0 hs
  rw [FA_id hf] at hg
  exact Ct_of [some (vI v0)] ⟨by decide +kernel, rfl⟩ rfl (Nat.le_of_ble_eq_true rfl) hg

/-! ===== X10_isSign ===== -/
theorem e_X10_isSign_0 : DC cX10_isSign 0 (.iload_n 0) 1 1 := ⟨by decide +kernel, rfl⟩
theorem e_X10_isSign_1 : DC cX10_isSign 1 (.iconst 1) 1 2 := ⟨by decide +kernel, rfl⟩
theorem e_X10_isSign_2 : DB cX10_isSign 2 (.if_icmp .eq 8) (8) 3 5 10 := ⟨by decide +kernel, rfl, rfl⟩
theorem e_X10_isSign_5 : DC cX10_isSign 5 (.iload_n 0) 1 6 := ⟨by decide +kernel, rfl⟩
theorem e_X10_isSign_6 : DC cX10_isSign 6 (.iconst (-1)) 1 7 := ⟨by decide +kernel, rfl⟩
theorem e_X10_isSign_7 : DB cX10_isSign 7 (.if_icmp .ne 7) (7) 3 10 14 := ⟨by decide +kernel, rfl, rfl⟩
theorem e_X10_isSign_10 : DC cX10_isSign 10 (.iconst 1) 1 11 := ⟨by decide +kernel, rfl⟩
theorem e_X10_isSign_11 : DB cX10_isSign 11 (.goto 4) (4) 3 14 15 := ⟨by decide +kernel, rfl, rfl⟩
theorem e_X10_isSign_14 : DC cX10_isSign 14 (.iconst 0) 1 15 := ⟨by decide +kernel, rfl⟩
theorem e_X10_isSign_15 : DC cX10_isSign 15 (.ireturn) 1 16 := ⟨by decide +kernel, rfl⟩
noncomputable def m_X10_isSign_10 : Option (Int) :=
  some (1)

set_option maxRecDepth 10000 in
theorem g_X10_isSign_10 {l : Launch} {E : EE} {b0 n : Nat} {h : AH} {r : Int} (ao : AO b0 n []) (hs : m_X10_isSign_10 = some r) : G l E b0 M_X10_isSign (fun _ => True) (ZM E b0 (some (vI r)) (ov [] [] h) n (inZ r) 0 0) 0 0 n (ov [] [] h) 10 [none] [] := by
  rw [m_X10_isSign_10] at hs
  refine g_iconst e_X10_isSign_10 ?_
  refine g_goto e_X10_isSign_11 ?_
  obtain rfl := Option.some.inj hs
  exact g_zret rfl (by decide : inZ 1) (by decide : inZ 1) e_X10_isSign_15

noncomputable def m_X10_isSign_0 (v0 : Int) : Option (Int) :=
  if v0 = 1 then (m_X10_isSign_10) else (if v0 = (-1) then (m_X10_isSign_10) else (some (0)))

set_option maxRecDepth 10000 in
theorem g_X10_isSign_0 {l : Launch} {E : EE} {b0 n : Nat} {h : AH} {v0 : Int} {r : Int} (ao : AO b0 n []) (ok_v0 : inI v0) (hs : m_X10_isSign_0 v0 = some r) : G l E b0 M_X10_isSign (fun _ => True) (ZM E b0 (some (vI r)) (ov [] [] h) n (inZ r) 0 0) 0 0 n (ov [] [] h) 0 [some (vI v0)] [] := by
  rw [m_X10_isSign_0] at hs
  refine g_iload_n e_X10_isSign_0 rfl ?_
  refine g_iconst e_X10_isSign_1 ?_
  refine g_icmp_eq e_X10_isSign_2 ok_v0 (by decide : inI 1) hs (fun c2 hs => ?_) (fun c2 hs => ?_)
  · exact g_mask [false] (g_X10_isSign_10 ao  hs)
  · refine g_iload_n e_X10_isSign_5 rfl ?_
    refine g_iconst e_X10_isSign_6 ?_
    refine g_icmp_ne e_X10_isSign_7 ok_v0 (by decide : inI (-1)) hs (fun c7 hs => ?_) (fun c7 hs => ?_)
    · exact g_mask [false] (g_X10_isSign_10 ao  hs)
    · refine g_iconst e_X10_isSign_14 ?_
      obtain rfl := Option.some.inj hs
      exact g_zret rfl (by decide : inZ 0) (by decide : inZ 0) e_X10_isSign_15

noncomputable def m_X10_isSign (v0 : Int) : Option (Int) := m_X10_isSign_0 v0

set_option maxRecDepth 10000 in
theorem ct_X10_isSign {l : Launch} {E : EE} {b0 n : Nat} {h : AH} {v0 : Int} (ao : AO b0 n []) (hf : FA h [] []) (ok_v0 : inI v0) {r : Int} (hm : m_X10_isSign v0 = some r) : Ct l E b0 M_X10_isSign 0 0 [vI v0] h n (some (vI r)) h n (inZ r) := by
  rw [m_X10_isSign] at hm
  have hg : G l E b0 M_X10_isSign (fun _ => True) (ZM E b0 (some (vI r)) (ov [] [] h) n (inZ r) 0 0) 0 0 n (ov [] [] h) 0 [some (vI v0)] [] := by
    have hs := hm
    exact g_X10_isSign_0 ao ok_v0 hs
  rw [FA_id hf] at hg
  exact Ct_of [some (vI v0)] ⟨by decide +kernel, rfl⟩ rfl (Nat.le_of_ble_eq_true rfl) hg


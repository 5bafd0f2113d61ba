def M_X10_waysOf : MB := (yX10_waysOf, cX10_waysOf, 2, (some (.object "SlidingFlaws$Ways")), ({ frames := 1, cells := 0, slots := 0, locals := 40 } : Room), RX10)
theorem fsX10_k8 {a c s : Nat} : 8 < (fsX10 a c s).length := (Nat.le_of_ble_eq_true rfl : (8 : Nat) < 10)
theorem fsX10_k9 {a c s : Nat} : 9 < (fsX10 a c s).length := (Nat.le_of_ble_eq_true rfl : (9 : Nat) < 10)
theorem fsX10_s8 {a c s x : Nat} : (fsX10 a c s).set 8 (.ref x) = fsX10 a x s := rfl
theorem fsX10_s9 {a c s x : Nat} : (fsX10 a c s).set 9 (.ref x) = fsX10 a c x := rfl
theorem cb_X10_waysOf : CB M_X10_waysOf 1 := ⟨GW_of 767 (by decide +kernel) (by decide +kernel), GW_of 84 (by decide +kernel) (by decide +kernel), by decide +kernel, by decide +kernel, by decide +kernel⟩
theorem cv_X10_90 : CV RX10 90 M_X10_waysOf 1 := ⟨cb_X10_waysOf, Or.inl (GW_of 764 (by decide +kernel) (by decide +kernel)), GW_of 766 (by decide +kernel) (by decide +kernel), GW_of 14 (by decide +kernel) (by decide +kernel)⟩
theorem e_X10_waysOf_0 : DC cX10_waysOf 0 (.iload_n 1) 1 1 := ⟨by decide +kernel, rfl⟩
theorem e_X10_waysOf_1 : DC cX10_waysOf 1 (.tableswitch 51 0 2 #[27, 35, 43]) 27 28 := ⟨by decide +kernel, rfl⟩
theorem e_X10_waysOf_28 : DC cX10_waysOf 28 (.aload_n 0) 1 29 := ⟨by decide +kernel, rfl⟩
theorem e_X10_waysOf_29 : DC cX10_waysOf 29 (.getfield 64) 3 32 := ⟨by decide +kernel, rfl⟩
theorem e_X10_waysOf_32 : DC cX10_waysOf 32 (.getfield 149) 3 35 := ⟨by decide +kernel, rfl⟩
theorem e_X10_waysOf_35 : DC cX10_waysOf 35 (.areturn) 1 36 := ⟨by decide +kernel, rfl⟩
theorem e_X10_waysOf_36 : DC cX10_waysOf 36 (.aload_n 0) 1 37 := ⟨by decide +kernel, rfl⟩
theorem e_X10_waysOf_37 : DC cX10_waysOf 37 (.getfield 64) 3 40 := ⟨by decide +kernel, rfl⟩
theorem e_X10_waysOf_40 : DC cX10_waysOf 40 (.getfield 234) 3 43 := ⟨by decide +kernel, rfl⟩
theorem e_X10_waysOf_43 : DC cX10_waysOf 43 (.areturn) 1 44 := ⟨by decide +kernel, rfl⟩
theorem e_X10_waysOf_44 : DC cX10_waysOf 44 (.aload_n 0) 1 45 := ⟨by decide +kernel, rfl⟩
theorem e_X10_waysOf_45 : DC cX10_waysOf 45 (.getfield 64) 3 48 := ⟨by decide +kernel, rfl⟩
theorem e_X10_waysOf_48 : DC cX10_waysOf 48 (.getfield 269) 3 51 := ⟨by decide +kernel, rfl⟩
theorem e_X10_waysOf_51 : DC cX10_waysOf 51 (.areturn) 1 52 := ⟨by decide +kernel, rfl⟩
theorem e_X10_waysOf_52 : DC cX10_waysOf 52 (.aconst_null) 1 53 := ⟨by decide +kernel, rfl⟩
theorem e_X10_waysOf_53 : DC cX10_waysOf 53 (.areturn) 1 54 := ⟨by decide +kernel, rfl⟩
theorem wfl_X10_149 : FL RX10 149 1 0 := ⟨RX1, TX1, 7, rfl, by decide, rfl, Or.inr (List.mem_of_getElem? (i := 36) (by decide +kernel))⟩
theorem wfl_X10_234 : FL RX10 234 1 1 := ⟨RX1, TX1, 7, rfl, by decide, rfl, Or.inr (List.mem_of_getElem? (i := 40) (by decide +kernel))⟩
theorem wfl_X10_269 : FL RX10 269 1 2 := ⟨RX1, TX1, 7, rfl, by decide, rfl, Or.inr (List.mem_of_getElem? (i := 42) (by decide +kernel))⟩
section GNL
variable {l : Launch} {E : EE} {b0 : Nat} {M : MB} {X : State → Prop} {Z : ZT} {c1 c2 n pc pc' : Nat} {h : AH} {L L' : LL} {st : List Value}
theorem g_aloadN {i : Nat} (hd : DC M.2.1 pc (.aload i) 2 pc') (hv : L[i]? = some (some .null)) (k : G l E b0 M X Z c1 c2 n h pc' L (.null :: st)) : G l E b0 M X Z c1 c2 n h pc L st := by
  intro p e s m args below meth c C hX hb H locs ls hR hS hl
  obtain ⟨hd, rfl⟩ := hd
  exact lv_aloadN C.1 C.2.1 hd (lc_get hl hv) (k p e s m args below meth c C hX hb H locs ls hR hS hl)
theorem g_astoreN {i : Nat} (hd : DC M.2.1 pc (.astore i) 2 pc') (hs : st1 L i .null = L') (hn : (nl2 L i && decide (i < M.2.2.1)) = true) (k : G l E b0 M X Z c1 c2 n h pc' L' st) : G l E b0 M X Z c1 c2 n h pc L (.null :: st) := by
  intro p e s m args below meth c C hX hb H locs ls hR hS hl
  obtain ⟨hd, rfl⟩ := hd
  subst hs
  rw [Bool.and_eq_true, decide_eq_true_eq] at hn
  exact lv_astoreN C.1 C.2.1 hd hl hn.2 rfl (fun ls' hl' => k p e s m args below meth c C hX hb H locs ls' hR hS (hl'.sub (st1_sub hn.1)))
end GNL
section WO
variable {l : Launch} {E : EE} {b0 n : Nat} {h : AH} {a_t a_c a_s : Nat} {sm v1 : Int}
theorem ct_waysOf0 (ao : AO b0 n [a_t, a_c]) (hf : FA h [a_t, a_c] [.inr (10, fsX10 a_t a_c a_s), .inr (1, fsX1 a_c sm)]) (ok : inI v1) (hv : v1 = 0) : Ct l E b0 M_X10_waysOf 0 0 [.ref a_t, vI v1] h n (some (.ref (a_c + 1))) h n True := by
  have hg : G l E b0 M_X10_waysOf (fun _ => True) (ZM E b0 (some (.ref (a_c + 1))) (ov [a_t, a_c] [.inr (10, fsX10 a_t a_c a_s), .inr (1, fsX1 a_c sm)] h) n True 0 0) 0 0 n (ov [a_t, a_c] [.inr (10, fsX10 a_t a_c a_s), .inr (1, fsX1 a_c sm)] h) 0 [some (.ref a_t), some (vI v1)] [] := by
    refine g_iload_n e_X10_waysOf_0 rfl ?_
    refine g_tableIn (off := 27) (tgt := 28) e_X10_waysOf_1 ok (by rw [hv]; decide) (by rw [hv]; decide) (by rw [hv]; rfl) rfl ?_
    refine g_aload_n e_X10_waysOf_28 rfl ?_
    refine g_get 0 8 ao rfl rfl fsX10_g8 fl_X10_64 e_X10_waysOf_29 ?_
    refine g_get 1 0 ao rfl rfl fsX1_g0 wfl_X10_149 e_X10_waysOf_32 ?_
    exact g_aret rfl (Or.inl ⟨_, rfl⟩) (Or.inr ⟨_, rfl⟩) trivial e_X10_waysOf_35
  rw [FA_id hf] at hg
  exact Ct_of [some (.ref a_t), some (vI v1)] ⟨by decide +kernel, rfl⟩ rfl (Nat.le_of_ble_eq_true rfl) hg
theorem ct_waysOf1 (ao : AO b0 n [a_t, a_c]) (hf : FA h [a_t, a_c] [.inr (10, fsX10 a_t a_c a_s), .inr (1, fsX1 a_c sm)]) (ok : inI v1) (hv : v1 = 1) : Ct l E b0 M_X10_waysOf 0 0 [.ref a_t, vI v1] h n (some (.ref (a_c + 5))) h n True := by
  have hg : G l E b0 M_X10_waysOf (fun _ => True) (ZM E b0 (some (.ref (a_c + 5))) (ov [a_t, a_c] [.inr (10, fsX10 a_t a_c a_s), .inr (1, fsX1 a_c sm)] h) n True 0 0) 0 0 n (ov [a_t, a_c] [.inr (10, fsX10 a_t a_c a_s), .inr (1, fsX1 a_c sm)] h) 0 [some (.ref a_t), some (vI v1)] [] := by
    refine g_iload_n e_X10_waysOf_0 rfl ?_
    refine g_tableIn (off := 35) (tgt := 36) e_X10_waysOf_1 ok (by rw [hv]; decide) (by rw [hv]; decide) (by rw [hv]; rfl) rfl ?_
    refine g_aload_n e_X10_waysOf_36 rfl ?_
    refine g_get 0 8 ao rfl rfl fsX10_g8 fl_X10_64 e_X10_waysOf_37 ?_
    refine g_get 1 1 ao rfl rfl fsX1_g1 wfl_X10_234 e_X10_waysOf_40 ?_
    exact g_aret rfl (Or.inl ⟨_, rfl⟩) (Or.inr ⟨_, rfl⟩) trivial e_X10_waysOf_43
  rw [FA_id hf] at hg
  exact Ct_of [some (.ref a_t), some (vI v1)] ⟨by decide +kernel, rfl⟩ rfl (Nat.le_of_ble_eq_true rfl) hg
theorem ct_waysOf2 (ao : AO b0 n [a_t, a_c]) (hf : FA h [a_t, a_c] [.inr (10, fsX10 a_t a_c a_s), .inr (1, fsX1 a_c sm)]) (ok : inI v1) (hv : v1 = 2) : Ct l E b0 M_X10_waysOf 0 0 [.ref a_t, vI v1] h n (some (.ref (a_c + 9))) h n True := by
  have hg : G l E b0 M_X10_waysOf (fun _ => True) (ZM E b0 (some (.ref (a_c + 9))) (ov [a_t, a_c] [.inr (10, fsX10 a_t a_c a_s), .inr (1, fsX1 a_c sm)] h) n True 0 0) 0 0 n (ov [a_t, a_c] [.inr (10, fsX10 a_t a_c a_s), .inr (1, fsX1 a_c sm)] h) 0 [some (.ref a_t), some (vI v1)] [] := by
    refine g_iload_n e_X10_waysOf_0 rfl ?_
    refine g_tableIn (off := 43) (tgt := 44) e_X10_waysOf_1 ok (by rw [hv]; decide) (by rw [hv]; decide) (by rw [hv]; rfl) rfl ?_
    refine g_aload_n e_X10_waysOf_44 rfl ?_
    refine g_get 0 8 ao rfl rfl fsX10_g8 fl_X10_64 e_X10_waysOf_45 ?_
    refine g_get 1 2 ao rfl rfl fsX1_g2 wfl_X10_269 e_X10_waysOf_48 ?_
    exact g_aret rfl (Or.inl ⟨_, rfl⟩) (Or.inr ⟨_, rfl⟩) trivial e_X10_waysOf_51
  rw [FA_id hf] at hg
  exact Ct_of [some (.ref a_t), some (vI v1)] ⟨by decide +kernel, rfl⟩ rfl (Nat.le_of_ble_eq_true rfl) hg
theorem ct_waysOf3 (ao : AO b0 n [a_t, a_c]) (hf : FA h [a_t, a_c] [.inr (10, fsX10 a_t a_c a_s), .inr (1, fsX1 a_c sm)]) (ok : inI v1) (h0 : ¬ v1 = 0) (h1 : ¬ v1 = 1) (h2 : ¬ v1 = 2) : Ct l E b0 M_X10_waysOf 0 0 [.ref a_t, vI v1] h n (some .null) h n True := by
  refine Ct_of [some (.ref a_t), some (vI v1)] ⟨by decide +kernel, rfl⟩ rfl (Nat.le_of_ble_eq_true rfl) ?_
  refine g_iload_n e_X10_waysOf_0 rfl ?_
  refine g_tableOut (tgt := 52) e_X10_waysOf_1 ok (by omega) rfl ?_
  refine g_null e_X10_waysOf_52 ?_
  exact g_aret rfl (Or.inl ⟨_, rfl⟩) (Or.inl rfl) trivial e_X10_waysOf_53
end WO

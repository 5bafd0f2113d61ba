theorem e_L_law_0 : DC cL_law 0 (.new 7) 3 3 := ⟨by decide +kernel, rfl⟩
theorem e_L_law_3 : DC cL_law 3 (.dup) 1 4 := ⟨by decide +kernel, rfl⟩
theorem e_L_law_4 : DC cL_law 4 (.invokespecial 9) 3 7 := ⟨by decide +kernel, rfl⟩
theorem e_L_law_7 : DC cL_law 7 (.astore_n 1) 1 8 := ⟨by decide +kernel, rfl⟩
theorem e_L_law_8 : DC cL_law 8 (.new 10) 3 11 := ⟨by decide +kernel, rfl⟩
theorem e_L_law_11 : DC cL_law 11 (.dup) 1 12 := ⟨by decide +kernel, rfl⟩
theorem e_L_law_12 : DC cL_law 12 (.invokespecial 12) 3 15 := ⟨by decide +kernel, rfl⟩
theorem e_L_law_15 : DC cL_law 15 (.astore_n 2) 1 16 := ⟨by decide +kernel, rfl⟩
theorem e_L_law_16 : DC cL_law 16 (.iconst 0) 1 17 := ⟨by decide +kernel, rfl⟩
theorem e_L_law_17 : DC cL_law 17 (.istore_n 3) 1 18 := ⟨by decide +kernel, rfl⟩
theorem e_L_law_18 : DC cL_law 18 (.iload_n 3) 1 19 := ⟨by decide +kernel, rfl⟩
theorem e_L_law_2366 : DC cL_law 2366 (.iconst 1) 1 2367 := ⟨by decide +kernel, rfl⟩
theorem e_L_law_2367 : DC cL_law 2367 (.ireturn) 1 2368 := ⟨by decide +kernel, rfl⟩
theorem nw_L_7 : NW RL 7 10 10 [.null, .null, .null, .null, .null, .null, .null, .null, .null, .null] := ⟨RX10, TX10, tyX10, rfl, GW_of 103 (by decide +kernel) (by decide +kernel), GW_of 104 (by decide +kernel) (by decide +kernel), GW_of 84 (by decide +kernel) (by decide +kernel), tyX10_ok, by decide +kernel⟩
theorem nw_L_10 : NW RL 10 11 71 [vI 0, vI 0, vI 0, vI 0, .null, .null, .null, .null, .null, .null, .null, .null, .null, .null, .null, .null, .null, vI 0, vI 0, vI 0, vI 0, vI 0, vI 0, vI 0, .null, .null, .null, .null, .null, .null, vI 0, .null, .null, .null, .null, .null, .null, .null, .null, .null, .null, .null, .null, .null, .null, .null, .null, vI 0, vI 0, .null, .null, vI 0, .null, .null, vI 0, vI 0, .null, .null, vI 0, .null, .null, vI 0, vI 0, vI 0, .null, .null, .null, .null, vI 0, .null, vI 0] := ⟨RX11, TX11, tyX11, rfl, GW_of 1437 (by decide +kernel) (by decide +kernel), GW_of 1438 (by decide +kernel) (by decide +kernel), GW_of 96 (by decide +kernel) (by decide +kernel), tyX11_ok, by decide +kernel⟩
theorem cb_X10_init : CB M_X10_init 0 := ⟨GW_of 107 (by decide +kernel) (by decide +kernel), GW_of 84 (by decide +kernel) (by decide +kernel), by decide +kernel, by decide +kernel, by decide +kernel⟩
theorem ci_L_9 : CI RL 9 M_X10_init 0 := ⟨cb_X10_init, Or.inl (GW_of 105 (by decide +kernel) (by decide +kernel)), GW_of 106 (by decide +kernel) (by decide +kernel), rfl, rfl⟩
theorem cb_X11_init : CB M_X11_init 0 := ⟨GW_of 1441 (by decide +kernel) (by decide +kernel), GW_of 96 (by decide +kernel) (by decide +kernel), by decide +kernel, by decide +kernel, by decide +kernel⟩
theorem ci_L_12 : CI RL 12 M_X11_init 0 := ⟨cb_X11_init, Or.inl (GW_of 1439 (by decide +kernel) (by decide +kernel)), GW_of 1440 (by decide +kernel) (by decide +kernel), rfl, rfl⟩
def h_start (E : EE) (b0 : Nat) (h : AH) : AH := lay (b0 + 369) (blkX11 E (b0 + 369)) (pu (lay b0 (blkX10 E b0) (pu h b0 (.inr (10, [.null, .null, .null, .null, .null, .null, .null, .null, .null, .null])))) (b0 + 369) (.inr (11, [vI 0, vI 0, vI 0, vI 0, .null, .null, .null, .null, .null, .null, .null, .null, .null, .null, .null, .null, .null, vI 0, vI 0, vI 0, vI 0, vI 0, vI 0, vI 0, .null, .null, .null, .null, .null, .null, vI 0, .null, .null, .null, .null, .null, .null, .null, .null, .null, .null, .null, .null, .null, .null, .null, .null, vI 0, vI 0, .null, .null, vI 0, .null, .null, vI 0, vI 0, .null, .null, vI 0, .null, .null, vI 0, vI 0, vI 0, .null, .null, .null, .null, vI 0, .null, vI 0])))
theorem law_start {l : Launch} {E : EE} {b0 b N : Nat} {h : AH} {xs : Nat → Int32} (kk : G l E b0 ML (XS b b0 N xs) (ZL b) 418 33444 418 (h_start E b0 h) 18 [some (.ref b), some (.ref b0), some (.ref (b0 + 369)), some (vI 0)] []) : G l E b0 ML (XS b b0 N xs) (ZL b) 0 0 0 h 0 [some (.ref b), none, none, none] [] := by
  refine g_new nw_L_7 e_L_law_0 ⟨Nat.le_of_ble_eq_true rfl, Nat.le_of_ble_eq_true rfl⟩ ?_
  refine g_dup e_L_law_3 rfl ?_
  refine g_callI (k1 := 368) (k2 := 16957) [] ci_L_9 ⟨rfl, rfl, Nat.le_of_ble_eq_true rfl, Nat.le_of_ble_eq_true rfl⟩ (ct_X10_init (a := b0) (k := 0) rfl (if_pos rfl)) e_L_law_4 rfl rfl (Nat.le_of_ble_eq_true rfl) ⟨Nat.le_of_ble_eq_true rfl, Nat.le_of_ble_eq_true rfl⟩ (fun _ => ?_)
  refine g_astore_n (L' := [some (.ref b), some (.ref b0), none, none]) e_L_law_7 rfl rfl ?_
  refine g_new nw_L_10 e_L_law_8 ⟨Nat.le_of_ble_eq_true rfl, Nat.le_of_ble_eq_true rfl⟩ ?_
  refine g_dup e_L_law_11 rfl ?_
  refine g_callI (k1 := 48) (k2 := 16406) [] ci_L_12 ⟨rfl, rfl, Nat.le_of_ble_eq_true rfl, Nat.le_of_ble_eq_true rfl⟩ (ct_X11_init (a := b0 + 369) (k := 369) rfl (if_pos rfl)) e_L_law_12 rfl rfl (Nat.le_of_ble_eq_true rfl) ⟨Nat.le_of_ble_eq_true rfl, Nat.le_of_ble_eq_true rfl⟩ (fun _ => ?_)
  refine g_astore_n (L' := [some (.ref b), some (.ref b0), some (.ref (b0 + 369)), none]) e_L_law_15 rfl rfl ?_
  refine g_iconst e_L_law_16 ?_
  refine g_istore_n (L' := [some (.ref b), some (.ref b0), some (.ref (b0 + 369)), some (vI 0)]) e_L_law_17 rfl rfl ?_
  exact kk
/-- the law out of its loop -/
theorem law_whole {l : Launch} (kk : ∀ (E : EE) (b0 b N : Nat) (xs : Nat → Int32) (h : AH), N ≤ 4096 → G l E b0 ML (XS b b0 N xs) (ZL b) 418 33444 418 (h_start E b0 h) 18 [some (.ref b), some (.ref b0), some (.ref (b0 + 369)), some (vI 0)] []) {p : Program} {e : Env} {s : State} {m : MethodId} {below : List Frame} {meth : Method} {c : Code} {b L : Nat} {xs : Nat → Int32} (hL : L ≤ 4096) (C0 : lw_At p s m meth c b L xs) (hnm : meth.name = ML.1.name) : W p l e room_1 s m #[Value.ref b] below meth c s.heap [] 0 0 (lw_Z below #[Value.ref b] s) (entryFrame m ([Value.ref b] : List Value).toArray 4) := by
  obtain ⟨hx, hb, hr, hml, hown, hts, hX, hbl, hlocks, hgv⟩ := C0
  obtain ⟨E, hK⟩ := kx_of rfl hts hgv
  have hg := law_start (kk E s.heap.size b L xs (fun _ => .inr (0, [])) hL)
  have hl := lv_entry ([.ref b]) (n := 4) (Nat.le_of_ble_eq_true rfl)
  rw [lg_entry_eq]
  have hw := hg p e s m #[Value.ref b] below meth c ⟨hx, hb, hml, hr, hown, fun w hw => hts w (List.mem_filter.mp hw).1, hlocks, hK, hnm⟩ ⟨hX, rfl, hbl⟩ (Nat.le_refl _) s.heap [] _ ⟨rfl, fun a h1 h2 => absurd h2 (by omega)⟩ va_S.rf hl
  intro T hT X
  obtain ⟨t, a1, hq⟩ := hw T hT X
  exact ⟨t, a1, hq rfl⟩

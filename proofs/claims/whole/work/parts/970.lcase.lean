
/-! ===== LAW: what its loop keeps ===== -/
def LL0 (b b0 i : Nat) : LL := [some (.ref b), some (.ref b0), some (.ref (b0 + 369)), some (vI (i : Int))]
def crK (b0 a_c a_s : Nat) : Prop := (a_c = b0 + 321 ∧ a_s = b0 + 345) ∨ (a_c = b0 + 345 ∧ a_s = b0 + 321)
def okRs (R : Nat → Nat → RowT) : Prop := okR (R 0) ∧ okR (R 1) ∧ okR (R 2)
/-- the heap holds the state, all in its ranges -/
def LwS (E : EE) (b0 a_c a_s : Nat) (h : AH) (N : Nat → Int) (F : Nat → Nat → Int) (K : Nat → Nat → Nat) (R : Nat → Nat → RowT) (N' : Nat → Int) (F' : Nat → Nat → Int) : Prop :=
  crK b0 a_c a_s ∧ FA h (asC b0 a_c a_s) (esC E b0 a_c a_s N F K) ∧ FA h (asM (b0 + 369)) (esM E (b0 + 369) N' F') ∧ FF E h (b0 + 32) 51 (R 0) ∧ FF E h (b0 + 252) 6 (R 1) ∧ FF E h (b0 + 289) 8 (R 2) ∧ OKN tyN N ∧ OKF tyF F ∧ okRs R ∧ OKN tyN' N' ∧ OKF tyF' F'
theorem AO_offs {b0 n : Nat} {os : List Nat} (h1 : os.Nodup) (h2 : ∀ o ∈ os, o < n) : AO b0 n (os.map (fun o => b0 + o)) := by
  refine ⟨nodup_of fun i j a hi hj => ?_, fun i a ha => ?_⟩
  · rw [List.getElem?_map] at hi hj
    cases hoi : os[i]? with
    | none => rw [hoi] at hi; exact absurd hi (by simp)
    | some o =>
      cases hoj : os[j]? with
      | none => rw [hoj] at hj; exact absurd hj (by simp)
      | some o2 =>
        rw [hoi] at hi
        rw [hoj] at hj
        have e1 : b0 + o = a := Option.some.inj hi
        have e2 : b0 + o2 = a := Option.some.inj hj
        obtain rfl : o = o2 := by omega
        exact nodup_get h1 hoi hoj
  rw [List.getElem?_map] at ha
  cases ho : os[i]? with
  | none => rw [ho] at ha; exact absurd ha (by simp)
  | some o =>
    rw [ho] at ha
    have e : b0 + o = a := Option.some.inj ha
    have := h2 o (List.mem_of_getElem? ho)
    omega
theorem ao_C {b0 a_c a_s : Nat} (h : crK b0 a_c a_s) : AO b0 418 (asC b0 a_c a_s) := by
  rcases h with ⟨rfl, rfl⟩ | ⟨rfl, rfl⟩
  · exact AO_offs (os := [0, 1, 2, 3, 4, 5, 6, 7, 8, 9, 10, 11, 12, 13, 14, 15, 16, 17, 18, 19, 20, 21, 22, 23, 24, 25, 26, 27, 28, 29, 30, 31, 236, 237, 238, 239, 240, 241, 242, 243, 244, 245, 246, 247, 248, 249, 250, 251, 276, 277, 278, 279, 280, 281, 282, 283, 284, 285, 286, 287, 288, 321, 322, 323, 324, 325, 326, 327, 328, 329, 330, 331, 332, 333, 334, 335, 336, 337, 338, 339, 340, 341, 342, 343, 344, 345, 346, 347, 348, 349, 350, 351, 352, 353, 354, 355, 356, 357, 358, 359, 360, 361, 362, 363, 364, 365, 366, 367, 368]) (by decide +kernel) (by decide +kernel)
  · exact AO_offs (os := [0, 1, 2, 3, 4, 5, 6, 7, 8, 9, 10, 11, 12, 13, 14, 15, 16, 17, 18, 19, 20, 21, 22, 23, 24, 25, 26, 27, 28, 29, 30, 31, 236, 237, 238, 239, 240, 241, 242, 243, 244, 245, 246, 247, 248, 249, 250, 251, 276, 277, 278, 279, 280, 281, 282, 283, 284, 285, 286, 287, 288, 345, 346, 347, 348, 349, 350, 351, 352, 353, 354, 355, 356, 357, 358, 359, 360, 361, 362, 363, 364, 365, 366, 367, 368, 321, 322, 323, 324, 325, 326, 327, 328, 329, 330, 331, 332, 333, 334, 335, 336, 337, 338, 339, 340, 341, 342, 343, 344]) (by decide +kernel) (by decide +kernel)
theorem ao_M {b0 : Nat} : AO b0 418 (asM (b0 + 369)) := by
  exact AO_offs (os := [369, 370, 371, 372, 373, 374, 375, 376, 377, 378, 379, 380, 381, 382, 383, 384, 385, 386, 387, 388, 389, 390, 391, 392, 393, 394, 395, 396, 397, 398, 399, 400, 401, 402, 403, 404, 405, 406, 407, 408, 409, 410, 411, 412, 413, 414, 415, 416, 417]) (by decide +kernel) (by decide +kernel)
theorem AO_sub {b0 n : Nat} {as as' : List Nat} (ps : List Nat) (ao : AO b0 n as) (hd : ps.Nodup) (hp : ps.map (fun i => as[i]?) = as'.map some) : AO b0 n as' := AO_call ps ao hd hp
theorem g_arg {l : Launch} {E : EE} {b0 b Nn n c1 c2 i : Nat} {h : AH} {st : List Value} {pc p1 p2 p3 p4 p5 : Nat} {xs : Nat → Int32} {j : Int} (jn : Nat) (hj : j = (jn : Int)) (d0 : DC cL_law pc (.aload_n 0) 1 p1) (d1 : DC cL_law p1 (.iload_n 3) 1 p2) (d2 : DC cL_law p2 (.iconst j) 1 p3) (d3 : DC cL_law p3 .iadd 1 p4) (d4 : DC cL_law p4 .iaload 1 p5) (hN : Nn ≤ 4096) (hi : i + jn < Nn) (k : G l E b0 ML (XS b b0 Nn xs) (ZL b) c1 c2 n h p5 (LL0 b b0 i) (vI (xs (i + jn)).toInt :: st)) : G l E b0 ML (XS b b0 Nn xs) (ZL b) c1 c2 n h pc (LL0 b b0 i) st := by
  refine g_aload_n d0 rfl ?_
  refine g_iload_n d1 rfl ?_
  refine g_iconst d2 ?_
  refine g_iadd d3 ?_
  refine g_sld (by omega) d4 (by subst hj; exact ⟨by omega, by omega⟩) ?_
  have e : ((i : Int) + j).toNat = i + jn := by omega
  rw [e]
  exact k
theorem xs_ok (x : Int32) : inI x.toInt := ⟨Int32.le_toInt x, Int32.toInt_le x⟩
/-- case 19 -/
theorem case_19 {l : Launch} {E : EE} {b0 b Nn a_c a_s i : Nat} {h : AH} {xs : Nat → Int32} {N N' : Nat → Int} {F F' : Nat → Nat → Int} {K : Nat → Nat → Nat} {R : Nat → Nat → RowT} {B : Int} (hN : Nn ≤ 4096) (hi : i + 8 ≤ Nn) (hl : LwS E b0 a_c a_s h N F K R N' F') (hr : Rel B N F K R N' F') (kk : G l E b0 ML (XS b b0 Nn xs) (ZL b) 418 33444 418 h 2360 (LL0 b b0 i) []) : G l E b0 ML (XS b b0 Nn xs) (ZL b) 418 33444 418 h 1070 (LL0 b b0 i) [] := by
  obtain ⟨s1, s2, s3, s4, s5, s6, s7, s8, s9, s10, s11⟩ := hl
  obtain ⟨r, z1, z2⟩ := pc_at hr.row (xs (i + 1)).toInt
  have aoC := ao_C s1
  refine g_aload_n e_L_law_1070 rfl ?_
  refine g_arg 1 rfl e_L_law_1071 e_L_law_1072 e_L_law_1073 e_L_law_1074 e_L_law_1075 hN (by omega) ?_
  refine g_callVr [vI (xs (i + 1)).toInt] cv_L_103 ⟨rfl, rfl, Nat.le_of_ble_eq_true rfl, Nat.le_of_ble_eq_true rfl⟩ (ct_X10_at (a_t := b0) (a_c := a_c) (a_s := a_s) (AO_sub [0, 22, 23] aoC (by decide) rfl) (FA_sub [0, 22, 23] rfl rfl s2) (s8 16) (xs_ok _) z1) e_L_law_1076 ⟨Nat.le_refl _, by omega⟩ (s2 0 b0 _ rfl rfl) rfl rfl rfl (Nat.le_of_ble_eq_true rfl) ⟨Nat.le_of_ble_eq_true rfl, Nat.le_of_ble_eq_true rfl⟩ (fun P1 => ?_)
  refine g_aload_n e_L_law_1079 rfl ?_
  refine g_arg 1 rfl e_L_law_1080 e_L_law_1081 e_L_law_1082 e_L_law_1083 e_L_law_1084 hN (by omega) ?_
  refine g_callVr [vI (xs (i + 1)).toInt] cv_L_106 ⟨rfl, rfl, Nat.le_of_ble_eq_true rfl, Nat.le_of_ble_eq_true rfl⟩ (ct_X11_at (a_t := b0 + 369) (AO_sub [0, 29] ao_M (by decide) rfl) (FA_sub [0, 29] rfl rfl s3) (s11 28) (xs_ok _) z2) e_L_law_1085 ⟨by omega, by omega⟩ (s3 0 (b0 + 369) _ rfl rfl) rfl rfl rfl (Nat.le_of_ble_eq_true rfl) ⟨Nat.le_of_ble_eq_true rfl, Nat.le_of_ble_eq_true rfl⟩ (fun P2 => ?_)
  refine g_icmp_eqT e_L_law_1088 P1 P2 rfl ?_
  exact kk

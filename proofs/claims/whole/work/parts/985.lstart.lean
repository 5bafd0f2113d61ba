
/-! ===== LAW: the relation at its first state ===== -/
theorem cnt_zz {f : Nat → Int} : ∀ {n : Nat}, (∀ j, j < n → f j = 0) → cnt f n = 0
  | 0, _ => rfl
  | n + 1, h => by
    rw [cnt_s, cnt_zz (n := n) (fun j hj => h j (by omega)), nz_0 (h n (by omega))]
    rfl
theorem cnt_00 : cnt (fun _ => 0) 100 = 0 := cnt_zz (fun _ _ => rfl)
theorem sl_0 {n a : Nat} : sl n (fun _ => 0) a = fun _ => 0 := by
  funext j
  unfold sl
  split <;> rfl
theorem rT_0 : rT zrow (fun _ => 0) (fun _ => 0) := ⟨rfl, cnt_00.symm, rfl, rfl, rfl, rfl, rfl, rfl⟩
theorem Zf_0 {n : Nat} : Zf n (fun _ => 0) := fun _ _ => rfl
theorem sg_0 : sg (fun _ => 0) := fun _ => (show -1 ≤ (0 : Int) ∧ (0 : Int) ≤ 1 from ⟨by decide, by decide⟩)
theorem rW_0 : rW 0 (fun _ => 0) (fun _ => 0) := ⟨sg_0, Zf_0, by rw [cnt_00]; omega, Zf_0, by unfold sB; dsimp only; omega⟩
theorem mf_lt {j : Nat} (h : j < 100) : mf 100 j = -1 := if_pos h
theorem RWy_0 {xs ys zs way : Nat → Int} {o : Nat} : RWy 0 xs ys zs 0 way o := ⟨0, rfl, rfl, by omega, fun k hk => absurd hk (by omega)⟩
theorem RGr_0 : RGr 0 0 (fun _ => 0) (fun _ => 0) (fun _ => 0) (fun _ => 0) (fun _ => 0) 0 0 (fun _ => 0) (mf 100) (fun _ => 0) (mf 100) := by
  refine ⟨rfl, Zf_0, fun _ => (show 0 ≤ (0 : Int) ∧ (0 : Int) ≤ 999 from ⟨by decide, by decide⟩), ⟨0, rfl, by omega, fun _ _ _ => rfl⟩, fun side k hk => ?_, ?_⟩
  · unfold hdM
    rw [if_pos (mf_lt hk), if_pos (mf_lt hk)]
    split
    · exact ⟨rfl, by omega, by omega⟩
    · exact ⟨rfl, by omega, by omega⟩
  · refine ⟨cnt_zz (fun j hj => by rw [mf_lt hj]; rfl), by omega, fun j hj => by rw [mf_lt hj]; omega, mf_lt (by omega), mf_lt (by omega), fun p hp h => absurd (mf_lt hp) h⟩
theorem RAc_0 : RAc 0 0 0 (fun j => j) (fun _ => zrow) 0 0 (fun _ => 0) (fun _ => 0) (fun _ => 0) (fun _ => 0) (fun _ => 0) (fun _ => 0) :=
  ⟨0, 0, rfl, rfl, rfl, rfl, by omega, fun _ h => h, fun _ _ _ _ h => h, fun _ => Zf_0, fun i hi => absurd hi (by omega), rT_0, rW_0, fun i hi => absurd hi (by omega)⟩
theorem RGn_0 : RGn 0 0 0 0 0 (fun _ => 0) (fun _ => 0) (fun _ => 0) 0 (fun _ => 0) (fun _ => 0) (fun _ => 0) (fun j => j) (fun _ => zrow) 0 0 0 (fun _ => 0) (fun _ => 0) (fun _ => 0) := by
  refine ⟨0, rfl, rfl, rfl, rfl, by omega, rfl, rfl, ⟨by omega, by omega⟩, ⟨by omega, by omega⟩, fun k hk => absurd hk (by omega), fun _ h => h, fun _ _ _ _ h => h, fun k hk => ?_⟩
  rw [sl_0, sl_0]
  exact ⟨rT_0, rW_0⟩
theorem start_Rel : Rel 0 N0 F0_ K0 R0 M0 Fm0 := by
  refine ⟨RAc_0, ⟨rfl, cnt_00.symm, rfl, rfl, rfl, rfl, rfl, rfl⟩, RGr_0, ⟨Zf_0, Zf_0, Zf_0⟩, ⟨RWy_0, RWy_0, RWy_0⟩, RSi_0 rfl rfl, ⟨0, 0, rfl, rfl, by omega, rfl, rfl, by omega, rfl, rfl, rfl, rfl, fun k hk => absurd hk (by omega), fun _ _ => rfl⟩, ⟨0, rfl, rfl, by omega, fun i hi => absurd hi (by omega)⟩, RGn_0, ⟨0, rfl, rfl, by omega, fun i hi => absurd hi (by omega)⟩, RTp_0 rfl rfl, ⟨fun _ h => h, fun _ _ _ _ h => h, fun _ => Zf_0⟩, ⟨0, rfl, rfl, by omega, fun i hi => absurd hi (by omega)⟩, ⟨0, 0, rfl, rfl, by omega, rfl, rfl, by omega, ?_, ?_, fun k hk => absurd hk (by omega)⟩, ⟨rfl, sg_0, Zf_0, ?_, cnt_00.symm, rfl, rfl, rfl, rfl, rfl, rfl⟩, Zf_0, Zf_0, Zf_0, Zf_0⟩
  · exact Int.le_refl 0
  · show (0 : Int) ≤ 100
    omega
  · show cnt (fun _ => 0) 100 ≤ 30
    rw [cnt_00]
    omega

/-! ===== LAW: from the entry ===== -/
theorem law_G {l : Launch} (E : EE) (b0 b N : Nat) (xs : Nat → Int32) (h : AH) (hN : N ≤ 4096) : G l E b0 ML (XS b b0 N xs) (ZL b) 418 33444 418 (h_start E b0 h) 18 [some (.ref b), some (.ref b0), some (.ref (b0 + 369)), some (vI 0)] [] :=
  G_heap (fun a _ _ H ha => start_le a H ha) (law_loop hN 512 0 (b0 + 321) (b0 + 345) (h_one E b0 h) N0 F0_ K0 R0 M0 Fm0 0 (by omega) (by omega) start_LwS start_Rel (by omega))

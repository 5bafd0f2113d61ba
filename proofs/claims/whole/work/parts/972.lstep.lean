
/-! ===== LAW: a step of the state ===== -/
theorem ao_C9 {b0 a_c a_s : Nat} (h : crK b0 a_c a_s) : AO b0 369 (asC b0 a_c a_s) := by
  rcases h with ⟨rfl, rfl⟩ | ⟨rfl, rfl⟩
  · exact AO_offs (os := [0, 1, 2, 3, 4, 5, 6, 7, 8, 9, 10, 11, 12, 13, 14, 15, 16, 17, 18, 19, 20, 21, 22, 23, 24, 25, 26, 27, 28, 29, 30, 31, 236, 237, 238, 239, 240, 241, 242, 243, 244, 245, 246, 247, 248, 249, 250, 251, 276, 277, 278, 279, 280, 281, 282, 283, 284, 285, 286, 287, 288, 321, 322, 323, 324, 325, 326, 327, 328, 329, 330, 331, 332, 333, 334, 335, 336, 337, 338, 339, 340, 341, 342, 343, 344, 345, 346, 347, 348, 349, 350, 351, 352, 353, 354, 355, 356, 357, 358, 359, 360, 361, 362, 363, 364, 365, 366, 367, 368]) (by decide +kernel) (by decide +kernel)
  · exact AO_offs (os := [0, 1, 2, 3, 4, 5, 6, 7, 8, 9, 10, 11, 12, 13, 14, 15, 16, 17, 18, 19, 20, 21, 22, 23, 24, 25, 26, 27, 28, 29, 30, 31, 236, 237, 238, 239, 240, 241, 242, 243, 244, 245, 246, 247, 248, 249, 250, 251, 276, 277, 278, 279, 280, 281, 282, 283, 284, 285, 286, 287, 288, 345, 346, 347, 348, 349, 350, 351, 352, 353, 354, 355, 356, 357, 358, 359, 360, 361, 362, 363, 364, 365, 366, 367, 368, 321, 322, 323, 324, 325, 326, 327, 328, 329, 330, 331, 332, 333, 334, 335, 336, 337, 338, 339, 340, 341, 342, 343, 344]) (by decide +kernel) (by decide +kernel)
theorem ao_M9 {b0 : Nat} : AO (b0 + 369) 49 (asM (b0 + 369)) := by
  exact AO_offs (b0 := b0 + 369) (os := [0, 1, 2, 3, 4, 5, 6, 7, 8, 9, 10, 11, 12, 13, 14, 15, 16, 17, 18, 19, 20, 21, 22, 23, 24, 25, 26, 27, 28, 29, 30, 31, 32, 33, 34, 35, 36, 37, 38, 39, 40, 41, 42, 43, 44, 45, 46, 47, 48]) (by decide +kernel) (by decide +kernel)
theorem FO_offs {b0 n r N : Nat} {os : List Nat} (h0 : r + 4 * N ≤ n) (h2 : ∀ o ∈ os, o < r ∨ r + 4 * N ≤ o) : FO b0 n (os.map (fun o => b0 + o)) (b0 + r) N := by
  refine ⟨by omega, by omega, fun i a ha => ?_⟩
  rw [List.getElem?_map] at ha
  cases ho : os[i]? with
  | none => rw [ho] at ha; exact absurd ha (by simp)
  | some o =>
    rw [ho] at ha
    have e : b0 + o = a := Option.some.inj ha
    have := h2 o (List.mem_of_getElem? ho)
    omega
theorem fo_C {b0 a_c a_s r N : Nat} (h : crK b0 a_c a_s) (hr : (r = 32 ∧ N = 51) ∨ (r = 252 ∧ N = 6) ∨ (r = 289 ∧ N = 8)) : FO b0 418 (asC b0 a_c a_s) (b0 + r) N := by
  rcases h with ⟨rfl, rfl⟩ | ⟨rfl, rfl⟩ <;> rcases hr with ⟨rfl, rfl⟩ | ⟨rfl, rfl⟩ | ⟨rfl, rfl⟩
  · exact FO_offs (os := [0, 1, 2, 3, 4, 5, 6, 7, 8, 9, 10, 11, 12, 13, 14, 15, 16, 17, 18, 19, 20, 21, 22, 23, 24, 25, 26, 27, 28, 29, 30, 31, 236, 237, 238, 239, 240, 241, 242, 243, 244, 245, 246, 247, 248, 249, 250, 251, 276, 277, 278, 279, 280, 281, 282, 283, 284, 285, 286, 287, 288, 321, 322, 323, 324, 325, 326, 327, 328, 329, 330, 331, 332, 333, 334, 335, 336, 337, 338, 339, 340, 341, 342, 343, 344, 345, 346, 347, 348, 349, 350, 351, 352, 353, 354, 355, 356, 357, 358, 359, 360, 361, 362, 363, 364, 365, 366, 367, 368]) (by decide) (by decide +kernel)
  · exact FO_offs (os := [0, 1, 2, 3, 4, 5, 6, 7, 8, 9, 10, 11, 12, 13, 14, 15, 16, 17, 18, 19, 20, 21, 22, 23, 24, 25, 26, 27, 28, 29, 30, 31, 236, 237, 238, 239, 240, 241, 242, 243, 244, 245, 246, 247, 248, 249, 250, 251, 276, 277, 278, 279, 280, 281, 282, 283, 284, 285, 286, 287, 288, 321, 322, 323, 324, 325, 326, 327, 328, 329, 330, 331, 332, 333, 334, 335, 336, 337, 338, 339, 340, 341, 342, 343, 344, 345, 346, 347, 348, 349, 350, 351, 352, 353, 354, 355, 356, 357, 358, 359, 360, 361, 362, 363, 364, 365, 366, 367, 368]) (by decide) (by decide +kernel)
  · exact FO_offs (os := [0, 1, 2, 3, 4, 5, 6, 7, 8, 9, 10, 11, 12, 13, 14, 15, 16, 17, 18, 19, 20, 21, 22, 23, 24, 25, 26, 27, 28, 29, 30, 31, 236, 237, 238, 239, 240, 241, 242, 243, 244, 245, 246, 247, 248, 249, 250, 251, 276, 277, 278, 279, 280, 281, 282, 283, 284, 285, 286, 287, 288, 321, 322, 323, 324, 325, 326, 327, 328, 329, 330, 331, 332, 333, 334, 335, 336, 337, 338, 339, 340, 341, 342, 343, 344, 345, 346, 347, 348, 349, 350, 351, 352, 353, 354, 355, 356, 357, 358, 359, 360, 361, 362, 363, 364, 365, 366, 367, 368]) (by decide) (by decide +kernel)
  · exact FO_offs (os := [0, 1, 2, 3, 4, 5, 6, 7, 8, 9, 10, 11, 12, 13, 14, 15, 16, 17, 18, 19, 20, 21, 22, 23, 24, 25, 26, 27, 28, 29, 30, 31, 236, 237, 238, 239, 240, 241, 242, 243, 244, 245, 246, 247, 248, 249, 250, 251, 276, 277, 278, 279, 280, 281, 282, 283, 284, 285, 286, 287, 288, 345, 346, 347, 348, 349, 350, 351, 352, 353, 354, 355, 356, 357, 358, 359, 360, 361, 362, 363, 364, 365, 366, 367, 368, 321, 322, 323, 324, 325, 326, 327, 328, 329, 330, 331, 332, 333, 334, 335, 336, 337, 338, 339, 340, 341, 342, 343, 344]) (by decide) (by decide +kernel)
  · exact FO_offs (os := [0, 1, 2, 3, 4, 5, 6, 7, 8, 9, 10, 11, 12, 13, 14, 15, 16, 17, 18, 19, 20, 21, 22, 23, 24, 25, 26, 27, 28, 29, 30, 31, 236, 237, 238, 239, 240, 241, 242, 243, 244, 245, 246, 247, 248, 249, 250, 251, 276, 277, 278, 279, 280, 281, 282, 283, 284, 285, 286, 287, 288, 345, 346, 347, 348, 349, 350, 351, 352, 353, 354, 355, 356, 357, 358, 359, 360, 361, 362, 363, 364, 365, 366, 367, 368, 321, 322, 323, 324, 325, 326, 327, 328, 329, 330, 331, 332, 333, 334, 335, 336, 337, 338, 339, 340, 341, 342, 343, 344]) (by decide) (by decide +kernel)
  · exact FO_offs (os := [0, 1, 2, 3, 4, 5, 6, 7, 8, 9, 10, 11, 12, 13, 14, 15, 16, 17, 18, 19, 20, 21, 22, 23, 24, 25, 26, 27, 28, 29, 30, 31, 236, 237, 238, 239, 240, 241, 242, 243, 244, 245, 246, 247, 248, 249, 250, 251, 276, 277, 278, 279, 280, 281, 282, 283, 284, 285, 286, 287, 288, 345, 346, 347, 348, 349, 350, 351, 352, 353, 354, 355, 356, 357, 358, 359, 360, 361, 362, 363, 364, 365, 366, 367, 368, 321, 322, 323, 324, 325, 326, 327, 328, 329, 330, 331, 332, 333, 334, 335, 336, 337, 338, 339, 340, 341, 342, 343, 344]) (by decide) (by decide +kernel)
theorem fo_M {b0 r N : Nat} (hr : (r = 32 ∧ N = 51) ∨ (r = 252 ∧ N = 6) ∨ (r = 289 ∧ N = 8)) : FO b0 418 (asM (b0 + 369)) (b0 + r) N := by
  rcases hr with ⟨rfl, rfl⟩ | ⟨rfl, rfl⟩ | ⟨rfl, rfl⟩
  · exact FO_offs (os := [369, 370, 371, 372, 373, 374, 375, 376, 377, 378, 379, 380, 381, 382, 383, 384, 385, 386, 387, 388, 389, 390, 391, 392, 393, 394, 395, 396, 397, 398, 399, 400, 401, 402, 403, 404, 405, 406, 407, 408, 409, 410, 411, 412, 413, 414, 415, 416, 417]) (by decide) (by decide +kernel)
  · exact FO_offs (os := [369, 370, 371, 372, 373, 374, 375, 376, 377, 378, 379, 380, 381, 382, 383, 384, 385, 386, 387, 388, 389, 390, 391, 392, 393, 394, 395, 396, 397, 398, 399, 400, 401, 402, 403, 404, 405, 406, 407, 408, 409, 410, 411, 412, 413, 414, 415, 416, 417]) (by decide) (by decide +kernel)
  · exact FO_offs (os := [369, 370, 371, 372, 373, 374, 375, 376, 377, 378, 379, 380, 381, 382, 383, 384, 385, 386, 387, 388, 389, 390, 391, 392, 393, 394, 395, 396, 397, 398, 399, 400, 401, 402, 403, 404, 405, 406, 407, 408, 409, 410, 411, 412, 413, 414, 415, 416, 417]) (by decide) (by decide +kernel)
theorem FO_sub {b0 n rb N : Nat} {as as' : List Nat} (ps : List Nat) (fo : FO b0 n as rb N) (hp : ps.map (fun i => as[i]?) = as'.map some) : FO b0 n as' rb N := ⟨fo.1, fo.2.1, fun i a ha => by
  obtain ⟨p, h1, h2⟩ := pick_get hp ha
  exact fo.2.2 p a h2⟩
/-- cells apart from those written stay -/
theorem FA_miss {h : AH} {as as' : List Nat} {es es' : List va_E} (hm : ∀ (i j a : Nat), as[i]? = some a → as'[j]? ≠ some a) (hf : FA h as es) : FA (ov as' es' h) as es := by
  intro i a e hi he
  rw [ov_miss (fun j a' ha hh => hm i j a hi (by rw [ha, hh]))]
  exact hf i a e hi he
theorem apart {b0 a_c a_s : Nat} {as' : List Nat} (ps : List Nat) (h : crK b0 a_c a_s) (hp : ps.map (fun i => (asC b0 a_c a_s)[i]?) = as'.map some) : ∀ (i j a : Nat), (asM (b0 + 369))[i]? = some a → as'[j]? ≠ some a := fun i j a hi hj => by
  obtain ⟨p, h1, h2⟩ := pick_get hp hj
  have := (ao_C9 h).2 p a h2
  have := (ao_M9 (b0 := b0)).2 i a hi
  omega
theorem apartM {b0 a_c a_s : Nat} {as' : List Nat} (ps : List Nat) (h : crK b0 a_c a_s) (hp : ps.map (fun i => (asM (b0 + 369))[i]?) = as'.map some) : ∀ (i j a : Nat), (asC b0 a_c a_s)[i]? = some a → as'[j]? ≠ some a := fun i j a hi hj => by
  obtain ⟨p, h1, h2⟩ := pick_get hp hj
  have := (ao_C9 h).2 i a hi
  have := (ao_M9 (b0 := b0)).2 p a h2
  omega
/-- the class wrote cells, no row of a family -/
theorem step_C {E : EE} {b0 a_c a_s : Nat} {h : AH} {N N' : Nat → Int} {F F' : Nat → Nat → Int} {K : Nat → Nat → Nat} {R : Nat → Nat → RowT} {B : Int} {N2 : Nat → Int} {F2 : Nat → Nat → Int} {K2 : Nat → Nat → Nat} {as' : List Nat} {es' : List va_E} (ps : List Nat) (bs : List Bool) (hl : LwS E b0 a_c a_s h N F K R N' F') (hp : ps.map (fun i => (asC b0 a_c a_s)[i]?) = as'.map some) (hq : ps.map (fun i => (esC E b0 a_c a_s N2 F2 K2)[i]?) = es'.map some) (ho : sel bs (esC E b0 a_c a_s N F K) = sel bs (esC E b0 a_c a_s N2 F2 K2)) (hc : (List.range 109).all (fun i => ps.contains i || bs.getD i false) = true) (hd : ps.Nodup) (okn : OKN tyN N2) (okf2 : OKF tyF F2) : LwS E b0 a_c a_s (ov as' es' h) N2 F2 K2 R N' F' := by
  obtain ⟨s1, s2, s3, s4, s5, s6, s7, s8, s9, s10, s11⟩ := hl
  exact ⟨s1, FA_step (es := esC E b0 a_c a_s N F K) (esn := esC E b0 a_c a_s N2 F2 K2) ps bs (ao_C s1).1 rfl rfl hp hq ho hc hd s2, FA_miss (apart ps s1 hp) s3, FF_miss (FO_sub ps (fo_C s1 (Or.inl ⟨rfl, rfl⟩)) hp) s4, FF_miss (FO_sub ps (fo_C s1 (Or.inr (Or.inl ⟨rfl, rfl⟩))) hp) s5, FF_miss (FO_sub ps (fo_C s1 (Or.inr (Or.inr ⟨rfl, rfl⟩))) hp) s6, okn, okf2, s9, s10, s11⟩
/-- the model wrote cells -/
theorem step_M {E : EE} {b0 a_c a_s : Nat} {h : AH} {N N' : Nat → Int} {F F' : Nat → Nat → Int} {K : Nat → Nat → Nat} {R : Nat → Nat → RowT} {B : Int} {N2 : Nat → Int} {F2 : Nat → Nat → Int} {as' : List Nat} {es' : List va_E} (ps : List Nat) (bs : List Bool) (hl : LwS E b0 a_c a_s h N F K R N' F') (hp : ps.map (fun i => (asM (b0 + 369))[i]?) = as'.map some) (hq : ps.map (fun i => (esM E (b0 + 369) N2 F2)[i]?) = es'.map some) (ho : sel bs (esM E (b0 + 369) N' F') = sel bs (esM E (b0 + 369) N2 F2)) (hc : (List.range 49).all (fun i => ps.contains i || bs.getD i false) = true) (hd : ps.Nodup) (okn : OKN tyN' N2) (okf2 : OKF tyF' F2) : LwS E b0 a_c a_s (ov as' es' h) N F K R N2 F2 := by
  obtain ⟨s1, s2, s3, s4, s5, s6, s7, s8, s9, s10, s11⟩ := hl
  exact ⟨s1, FA_miss (apartM ps s1 hp) s2, FA_step (es := esM E (b0 + 369) N' F') (esn := esM E (b0 + 369) N2 F2) ps bs (ao_M (b0 := b0)).1 rfl rfl hp hq ho hc hd s3, FF_miss (FO_sub ps (fo_M (Or.inl ⟨rfl, rfl⟩)) hp) s4, FF_miss (FO_sub ps (fo_M (Or.inr (Or.inl ⟨rfl, rfl⟩))) hp) s5, FF_miss (FO_sub ps (fo_M (Or.inr (Or.inr ⟨rfl, rfl⟩))) hp) s6, s7, s8, s9, okn, okf2⟩

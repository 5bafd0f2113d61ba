
/-! ===== PURE: tools ===== -/
theorem chkI {α : Type} {z : Int} {a : Option α} (h1 : -2147483648 ≤ z) (h2 : z ≤ 2147483647) : chk (inI z) a = a := if_pos ⟨h1, h2⟩
theorem chkJ {α : Type} {z : Int} {a : Option α} (h1 : -9223372036854775808 ≤ z) (h2 : z ≤ 9223372036854775807) : chk (inJ z) a = a := if_pos ⟨h1, h2⟩
theorem chkB {α : Type} {x : Int} {n : Nat} {a : Option α} (h1 : 0 ≤ x) (h2 : x < (n : Int)) : chk (inB x n) a = a := if_pos ⟨h1, h2⟩
theorem bind_s {α β : Type} (a : α) (f : α → Option β) : (some a).bind f = f a := rfl
theorem up_at {α : Type} (f : Nat → α) (k : Nat) (v : α) : up f k v k = v := if_pos rfl
theorem up_ne {α : Type} (f : Nat → α) {k j : Nat} (v : α) (h : j ≠ k) : up f k v j = f j := if_neg h
theorem up_up {α : Type} (f : Nat → α) (k : Nat) (v w : α) : up (up f k v) k w = up f k w := by
  funext j; unfold up; split <;> rfl
/-- a loop that counts up -/
theorem loop_up {ρ : Type} (N : Nat) (g : Nat → Nat → Option ρ) (r : Nat → Option ρ) (he : ∀ F, g (F + 1) N = r N) (hs : ∀ F i, i < N → g F (i + 1) = r (i + 1) → g (F + 1) i = r i) : ∀ n F i, i + n = N → n < F → g F i = r i := by
  intro n
  induction n with
  | zero =>
    intro F i hi hF
    obtain ⟨G, rfl⟩ : ∃ G, F = G + 1 := ⟨F - 1, by omega⟩
    obtain rfl : i = N := by omega
    exact he G
  | succ n ih =>
    intro F i hi hF
    obtain ⟨G, rfl⟩ : ∃ G, F = G + 1 := ⟨F - 1, by omega⟩
    exact hs G i (by omega) (ih G (i + 1) (by omega) (by omega))
/-- any loop, by a measure -/
theorem loop_w {α ρ : Type} (I : α → Prop) (μ : α → Nat) (g : Nat → α → Option ρ) (r : α → Option ρ) (h : ∀ F a, I a → (∀ b, I b → μ b < μ a → g F b = r b) → g (F + 1) a = r a) : ∀ n F a, I a → μ a ≤ n → n < F → g F a = r a := by
  intro n
  induction n with
  | zero =>
    intro F a ha hn hF
    obtain ⟨G, rfl⟩ : ∃ G, F = G + 1 := ⟨F - 1, by omega⟩
    exact h G a ha (fun b _ hb => by omega)
  | succ n ih =>
    intro F a ha hn hF
    obtain ⟨G, rfl⟩ : ∃ G, F = G + 1 := ⟨F - 1, by omega⟩
    exact h G a ha (fun b hb hb2 => ih G b hb (by omega) (by omega))
/-- a sum of the first n -/
def sm (f : Nat → Int) : Nat → Int
  | 0 => 0
  | n + 1 => sm f n + f n
theorem sm_z (f : Nat → Int) : sm f 0 = 0 := rfl
theorem sm_s (f : Nat → Int) (n : Nat) : sm f (n + 1) = sm f n + f n := rfl
theorem sm_congr {f g : Nat → Int} : ∀ {n : Nat}, (∀ j, j < n → f j = g j) → sm f n = sm g n := by
  intro n
  induction n with
  | zero => intro _; rfl
  | succ n ih => intro h; rw [sm_s, sm_s, ih (fun j hj => h j (by omega)), h n (by omega)]
theorem sm_bd {f : Nat → Int} {lo hi : Int} : ∀ {n : Nat}, (∀ j, j < n → lo ≤ f j ∧ f j ≤ hi) → n * lo ≤ sm f n ∧ sm f n ≤ n * hi := by
  intro n
  induction n with
  | zero => intro _; simp [sm_z]
  | succ n ih =>
    intro h
    have h1 := ih (fun j hj => h j (by omega))
    have h2 := h n (by omega)
    have e1 : ((n + 1 : Nat) : Int) * lo = n * lo + lo := by rw [Int.natCast_add, Int.add_mul]; simp
    have e2 : ((n + 1 : Nat) : Int) * hi = n * hi + hi := by rw [Int.natCast_add, Int.add_mul]; simp
    rw [sm_s, e1, e2]
    omega
theorem sm_add {f g : Nat → Int} : ∀ {n : Nat}, sm (fun j => f j + g j) n = sm f n + sm g n := by
  intro n
  induction n with
  | zero => rfl
  | succ n ih => rw [sm_s, sm_s, sm_s, ih]; omega
theorem sm_mul {f : Nat → Int} {c : Int} : ∀ {n : Nat}, sm (fun j => c * f j) n = c * sm f n := by
  intro n
  induction n with
  | zero => simp [sm_z]
  | succ n ih => rw [sm_s, sm_s, ih, Int.mul_add]
theorem sm_up {f : Nat → Int} {k : Nat} {v : Int} : ∀ {n : Nat}, sm (up f k v) n = sm f n + (if k < n then v - f k else 0) := by
  intro n
  induction n with
  | zero => simp [sm_z]
  | succ n ih =>
    rw [sm_s, sm_s, ih]
    by_cases h : n = k
    · subst h; rw [up_at, if_neg (by omega), if_pos (by omega)]; omega
    · rw [up_ne _ _ h]
      by_cases h2 : k < n
      · rw [if_pos h2, if_pos (by omega)]; omega
      · rw [if_neg h2, if_neg (by omega)]; omega
/-- a product's bounds -/
theorem mul_bd {a b A B : Int} (h1 : -A ≤ a) (h2 : a ≤ A) (h3 : -B ≤ b) (h4 : b ≤ B) : -(A * B) ≤ a * b ∧ a * b ≤ A * B := by
  have hA : 0 ≤ A := by omega
  have hB : 0 ≤ B := by omega
  have e1 : 0 ≤ (A - a) * (B - b) := Int.mul_nonneg (by omega) (by omega)
  have e2 : 0 ≤ (A + a) * (B + b) := Int.mul_nonneg (by omega) (by omega)
  have e3 : 0 ≤ (A - a) * (B + b) := Int.mul_nonneg (by omega) (by omega)
  have e4 : 0 ≤ (A + a) * (B - b) := Int.mul_nonneg (by omega) (by omega)
  rw [Int.sub_mul, Int.mul_sub, Int.mul_sub] at e1
  rw [Int.add_mul, Int.mul_add, Int.mul_add] at e2
  rw [Int.sub_mul, Int.mul_add, Int.mul_add] at e3
  rw [Int.add_mul, Int.mul_sub, Int.mul_sub] at e4
  constructor <;> omega
/-- noughts from n on -/
def Zf (n : Nat) (f : Nat → Int) : Prop := ∀ j, n ≤ j → f j = 0
theorem Zf_up {n k : Nat} {f : Nat → Int} {v : Int} (h : Zf n f) (hk : k < n) : Zf n (up f k v) := fun j hj => by
  rw [up_ne _ _ (by omega)]; exact h j hj
theorem Zf_ext {n : Nat} {f g : Nat → Int} (hf : Zf n f) (hg : Zf n g) (h : ∀ j, j < n → f j = g j) : f = g := by
  funext j
  by_cases hj : j < n
  · exact h j hj
  · rw [hf j (by omega), hg j (by omega)]
/-- n cells of f from a on -/
def sl (n : Nat) (f : Nat → Int) (a : Nat) : Nat → Int := fun j => if j < n then f (a + j) else 0
theorem Zf_sl {n a : Nat} {f : Nat → Int} : Zf n (sl n f a) := fun j hj => if_neg (by omega)
theorem sl_z {n : Nat} {f : Nat → Int} (h : Zf n f) : sl n f 0 = f := by
  funext j
  unfold sl
  split
  · rw [Nat.zero_add]
  · exact (h j (by omega)).symm
/-- the first n cells of f, g behind them -/
def mix (n : Nat) (f g : Nat → Int) : Nat → Int := fun j => if j < n then f j else g j
theorem mix_s {n : Nat} {f g : Nat → Int} : up (mix n f g) n (f n) = mix (n + 1) f g := by
  funext j
  unfold up mix
  by_cases h : j = n
  · subst h; simp
  · by_cases h2 : j < n
    · rw [if_neg h, if_pos h2, if_pos (by omega)]
    · rw [if_neg h, if_neg h2, if_neg (by omega)]
theorem mix_z {f g : Nat → Int} : mix 0 f g = g := by
  funext j; unfold mix; exact if_neg (by omega)
theorem mix_Z {n : Nat} {f g : Nat → Int} (hf : Zf n f) (hg : Zf n g) : mix n f g = f := by
  funext j; unfold mix; split
  · rfl
  · rw [hf j (by omega), hg j (by omega)]
theorem cpy_all {n : Nat} {f g : Nat → Int} (hf : Zf n f) (hg : Zf n g) : cpy f g 0 0 (n : Int) = f := by
  funext j
  unfold cpy
  by_cases h : j < n
  · rw [if_pos ⟨by omega, by omega⟩]; congr 1; simp
  · rw [if_neg (by omega), hf j (by omega), hg j (by omega)]
theorem tn (i : Nat) : Int.toNat (i : Int) = i := rfl
theorem ca (i : Nat) : ((i : Int) + 1) = ((i + 1 : Nat) : Int) := rfl
theorem q_J7_fill {N : Nat} {f : Nat → Int} {v : Int} (hN : N < 6000) : m_J7_fill_53178 N f v = some (mix N (fun _ => v) f) := by
  rw [m_J7_fill_53178, m_J7_fill_53178_0]
  have := loop_up N (fun F i => m_J7_fill_53178_5 N v (N : Int) (fun p0_a' _ => m_J7_fill_53178_20 N p0_a') F (mix i (fun _ => v) f) (i : Int)) (fun _ => some (mix N (fun _ => v) f)) (fun F => by
    show m_J7_fill_53178_5 _ _ _ _ (F + 1) _ _ = _
    rw [m_J7_fill_53178_5, if_pos (by omega)]) (fun F i hi ih => by
    show m_J7_fill_53178_5 _ _ _ _ (F + 1) _ _ = _
    rw [m_J7_fill_53178_5, if_neg (by omega), chkB (by omega) (by omega), chkI (by omega) (by omega), tn, ca, mix_s (f := fun _ => v)]
    exact ih) N FU 0 (by omega) (by unfold FU; omega)
  rw [mix_z] at this
  exact this

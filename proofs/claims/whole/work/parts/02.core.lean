
/-! ===== the pure heap, the frame's judgement ===== -/
abbrev EE : Type := va_G × (Nat → ClassId) × (Nat → Nat) × (Nat → Nat)
abbrev AH : Type := Nat → va_E
abbrev LL : Type := List (Option Value)
abbrev MB : Type := MethodName × ByteArray × Nat × Option FieldType × Room × String
abbrev ZT : Type := List Frame → Array Value → State → State → Prop
def vI (z : Int) : Value := .int (Int32.ofInt z)
def vJ (z : Int) : Value := .long (Int64.ofInt z)
abbrev inI (z : Int) : Prop := -2147483648 ≤ z ∧ z ≤ 2147483647
abbrev inJ (z : Int) : Prop := -9223372036854775808 ≤ z ∧ z ≤ 9223372036854775807
abbrev inB (x : Int) (n : Nat) : Prop := 0 ≤ x ∧ x < (n : Int)
abbrev inZ (z : Int) : Prop := z = 0 ∨ z = 1
def chk {α : Type} (P : Prop) [Decidable P] (a : Option α) : Option α := if P then a else none
theorem chk_elim {α : Type} {P : Prop} [Decidable P] {a : Option α} {r : α} (h : chk P a = some r) : P ∧ a = some r := by
  unfold chk at h
  split at h
  · exact ⟨by assumption, h⟩
  · cases h
theorem chk_pos {α : Type} {P : Prop} [Decidable P] {a : Option α} (h : P) : chk P a = a := if_pos h
/-- an array's cells, one changed -/
def up {α : Type} (f : Nat → α) (k : Nat) (v : α) : Nat → α := fun j => if j = k then v else f j
def okA (f : Nat → Int) : Prop := ∀ j, inI (f j)
def okJ (f : Nat → Int) : Prop := ∀ j, inJ (f j)
def okZ (f : Nat → Int) : Prop := ∀ j, inZ (f j)
abbrev inY (z : Int) : Prop := -128 ≤ z ∧ z ≤ 127
def okY (f : Nat → Int) : Prop := ∀ j, inY (f j)
theorem okA_up {f : Nat → Int} {k : Nat} {v : Int} (h : okA f) (hv : inI v) : okA (up f k v) := fun j => by
  unfold up; split
  · exact hv
  · exact h j
theorem okJ_up {f : Nat → Int} {k : Nat} {v : Int} (h : okJ f) (hv : inJ v) : okJ (up f k v) := fun j => by
  unfold up; split
  · exact hv
  · exact h j
theorem okZ_up {f : Nat → Int} {k : Nat} {v : Int} (h : okZ f) (hv : inZ v) : okZ (up f k v) := fun j => by
  unfold up; split
  · exact hv
  · exact h j
theorem okY_up {f : Nat → Int} {k : Nat} {v : Int} (h : okY f) (hv : inY v) : okY (up f k v) := fun j => by
  unfold up; split
  · exact hv
  · exact h j
theorem inZ_I {z : Int} (h : inZ z) : inI z := by rcases h with rfl | rfl <;> exact ⟨by decide, by decide⟩
theorem inY_I {z : Int} (h : inY z) : inI z := ⟨by have := h.1; omega, by have := h.2; omega⟩
theorem inI_J {z : Int} (h : inI z) : inJ z := ⟨by have := h.1; omega, by have := h.2; omega⟩
def IA (E : EE) (n : Nat) (f : Nat → Int) : va_E := .inl (E.2.1 0, n, .inl (fun j => Int32.ofInt (f j)))
def JA (E : EE) (n : Nat) (f : Nat → Int) : va_E := .inl (E.2.1 1, n, .inr (.inl (fun j => Int64.ofInt (f j))))
def ZA (E : EE) (n : Nat) (f : Nat → Int) : va_E := .inl (E.2.1 2, n, .inl (fun j => Int32.ofInt (f j)))
def YA (E : EE) (n : Nat) (f : Nat → Int) : va_E := .inl (E.2.1 3, n, .inl (fun j => Int32.ofInt (f j)))
def RA (E : EE) (n : Nat) (f : Nat → Option Nat) : va_E := .inl (E.2.1 4, n, .inr (.inr (.inr (.inr f))))
def TY (E : EE) : List (ClassId × FieldType) := [(E.2.1 0, .int), (E.2.1 1, .long), (E.2.1 2, .boolean), (E.2.1 3, .byte), (E.2.1 4, .object "SlidingFlaws$Row")]
def lc : Nat → LL → List (Nat × Value)
  | _, [] => []
  | i, none :: L => lc (i + 1) L
  | i, some v :: L => (i, v) :: lc (i + 1) L
def NF : List (String × Nat × String × String × String) := [("SlidingFlaws$Web", 74, "SlidingFlaws$Ways", "many", "I"), ("SlidingFlaws$Crystal", 61, "SlidingFlaws$Ways", "many", "I"), ("SlidingFlaws$Pull", 69, "SlidingFlaws$Ways", "many", "I"), ("SlidingFlaws", 357, "SlidingFlaws$Ways", "many", "I"), ("SlidingFlaws", 272, "SlidingFlaws$Web", "steps", "LSlidingFlaws$Ways;"), ("SlidingFlaws", 360, "SlidingFlaws$Web", "knotMany", "I"), ("SlidingFlaws", 363, "SlidingFlaws$Web", "thereMany", "I"), ("SlidingFlaws", 174, "SlidingFlaws$Pull", "above", "J"), ("SlidingFlaws", 178, "SlidingFlaws$Pull", "below", "J"), ("SlidingFlaws$Grain", 77, "SlidingFlaws$Row", "flaws", "I"), ("SlidingFlaws", 213, "SlidingFlaws$Row", "flaws", "I"), ("SlidingFlaws$Trials", 87, "SlidingFlaws$Row", "slipped", "I"), ("SlidingFlaws$Grain", 80, "SlidingFlaws$Row", "slipped", "I"), ("SlidingFlaws", 239, "SlidingFlaws$Row", "slipped", "I"), ("SlidingFlaws$Grain", 83, "SlidingFlaws$Row", "gone", "I"), ("SlidingFlaws", 366, "SlidingFlaws$Row", "work", "J"), ("SlidingFlaws$Grain", 90, "SlidingFlaws$Row", "out", "I"), ("SlidingFlaws", 369, "SlidingFlaws$Row", "out", "I"), ("SlidingFlaws$Grain", 93, "SlidingFlaws$Row", "lost", "I"), ("SlidingFlaws", 372, "SlidingFlaws$Row", "lost", "I"), ("SlidingFlaws$Grain", 96, "SlidingFlaws$Row", "came", "I"), ("SlidingFlaws", 375, "SlidingFlaws$Row", "came", "I"), ("SlidingFlaws", 382, "SlidingFlaws$Acts", "now", "I"), ("SlidingFlaws$Row", 72, "SlidingFlaws$Ground", "pushes", "[I"), ("SlidingFlaws$Row", 117, "SlidingFlaws$Ground", "sourceHolds", "[I"), ("SlidingFlaws$Row", 99, "SlidingFlaws$Ground", "sources", "[I"), ("SlidingFlaws$Reader", 122, "SlidingFlaws$Ground", "speckMany", "I"), ("SlidingFlaws$Row", 96, "SlidingFlaws$Ground", "sourceMany", "I"), ("SlidingFlaws$Reader", 125, "SlidingFlaws$Ground", "sourceMany", "I"), ("SlidingFlaws$Reader", 65, "SlidingFlaws$Ground", "baseTold", "Z"), ("SlidingFlaws$Row", 67, "SlidingFlaws$Ground", "reach", "I"), ("SlidingFlaws", 381, "SlidingFlaws$Grain", "many", "I"), ("SlidingFlaws", 333, "SlidingFlaws$Grain", "wallSize", "I"), ("SlidingFlaws$Grain", 60, "SlidingFlaws$Crystal", "steps", "LSlidingFlaws$Ways;"), ("SlidingFlaws$Pull", 72, "SlidingFlaws$Crystal", "steps", "LSlidingFlaws$Ways;"), ("SlidingFlaws$Reader", 107, "SlidingFlaws$Crystal", "steps", "LSlidingFlaws$Ways;"), ("SlidingFlaws", 149, "SlidingFlaws$Crystal", "steps", "LSlidingFlaws$Ways;"), ("SlidingFlaws$Grain", 49, "SlidingFlaws$Crystal", "planes", "LSlidingFlaws$Ways;"), ("SlidingFlaws$Pull", 63, "SlidingFlaws$Crystal", "planes", "LSlidingFlaws$Ways;"), ("SlidingFlaws$Reader", 116, "SlidingFlaws$Crystal", "planes", "LSlidingFlaws$Ways;"), ("SlidingFlaws", 234, "SlidingFlaws$Crystal", "planes", "LSlidingFlaws$Ways;"), ("SlidingFlaws$Reader", 119, "SlidingFlaws$Crystal", "eyes", "LSlidingFlaws$Ways;"), ("SlidingFlaws", 269, "SlidingFlaws$Crystal", "eyes", "LSlidingFlaws$Ways;"), ("SlidingFlaws", 106, "SlidingFlaws$Crystal", "ground", "LSlidingFlaws$Ground;"), ("SlidingFlaws$Reader", 49, "SlidingFlaws$Crystal", "ground", "LSlidingFlaws$Ground;"), ("SlidingFlaws", 378, "SlidingFlaws$Crystal", "sightMany", "I")]
def NM : List (String × Nat × MethodName) := [("SlidingFlaws", 9, ⟨"SlidingFlaws$Reader", "<init>", "()V"⟩), ("SlidingFlaws", 18, ⟨"SlidingFlaws$Web", "<init>", "()V"⟩), ("SlidingFlaws", 25, ⟨"SlidingFlaws$Pull", "<init>", "()V"⟩), ("SlidingFlaws", 32, ⟨"SlidingFlaws$Row", "<init>", "()V"⟩), ("SlidingFlaws$Acts", 17, ⟨"SlidingFlaws$Row", "<init>", "()V"⟩), ("SlidingFlaws$Trials", 19, ⟨"SlidingFlaws$Ground", "<init>", "()V"⟩), ("SlidingFlaws$Trials", 40, ⟨"SlidingFlaws$Row", "<init>", "()V"⟩), ("SlidingFlaws$Grain", 40, ⟨"SlidingFlaws$Row", "<init>", "()V"⟩), ("SlidingFlaws", 63, ⟨"SlidingFlaws$Crystal", "<init>", "()V"⟩), ("SlidingFlaws$Crystal", 28, ⟨"SlidingFlaws$Ground", "<init>", "()V"⟩), ("SlidingFlaws$Reader", 19, ⟨"SlidingFlaws", "within", "(III)Z"⟩), ("SlidingFlaws$Ground", 69, ⟨"SlidingFlaws", "isDistance", "(I)Z"⟩), ("SlidingFlaws$Ground", 73, ⟨"SlidingFlaws", "isPlace", "(I)Z"⟩), ("SlidingFlaws$Web", 56, ⟨"SlidingFlaws", "within", "(III)Z"⟩), ("SlidingFlaws$Pull", 29, ⟨"SlidingFlaws", "within", "(III)Z"⟩), ("SlidingFlaws$Row", 64, ⟨"SlidingFlaws", "isSign", "(I)Z"⟩), ("SlidingFlaws$Row", 114, ⟨"SlidingFlaws", "isPlace", "(I)Z"⟩), ("SlidingFlaws$Trials", 106, ⟨"SlidingFlaws", "within", "(III)Z"⟩), ("SlidingFlaws$Grain", 45, ⟨"SlidingFlaws", "within", "(III)Z"⟩)]
def Nx (U : State) : Prop := (∀ q ∈ NF, va_Nw (.fieldLinkNest q.1 q.2.1 q.2.2.1 q.2.2.2.1 q.2.2.2.2 "SlidingFlaws") U) ∧ ∀ q ∈ NM, va_Nw (.methodLinkNest q.1 q.2.1 q.2.2 "SlidingFlaws") U
theorem Nx.warm {s U : State} (hW : s.WarmedH U.vm) (h : Nx s) : Nx U := ⟨fun q hq => (h.1 q hq).warmF hW, fun q hq => (h.2 q hq).warmM hW⟩
theorem Nx.same {u U : State} (hv : u.vm = U.vm) (h : Nx u) : Nx U := ⟨fun q hq => (h.1 q hq).same rfl hv, fun q hq => (h.2 q hq).same rfl hv⟩
/-- the text constants: step, plane, eye, push, speck, source, base -/
def sLens : List Nat := [4, 5, 3, 4, 5, 6, 4]
def sByts : List (List Int32) := [[115, 116, 101, 112], [112, 108, 97, 110, 101], [101, 121, 101], [112, 117, 115, 104], [115, 112, 101, 99, 107], [115, 111, 117, 114, 99, 101], [98, 97, 115, 101]]
def SR : List (String × Nat × String × Nat) := [("SlidingFlaws$Reader", 80, "step", 0), ("SlidingFlaws$Reader", 86, "plane", 1), ("SlidingFlaws$Reader", 88, "eye", 2), ("SlidingFlaws$Reader", 90, "push", 3), ("SlidingFlaws$Reader", 92, "speck", 4), ("SlidingFlaws$Reader", 94, "source", 5), ("SlidingFlaws$Reader", 96, "base", 6), ("SlidingFlawsModel", 178, "step", 0), ("SlidingFlawsModel", 180, "plane", 1), ("SlidingFlawsModel", 182, "eye", 2), ("SlidingFlawsModel", 184, "push", 3), ("SlidingFlawsModel", 185, "speck", 4), ("SlidingFlawsModel", 187, "source", 5), ("SlidingFlawsModel", 189, "base", 6)]
def SX (E : EE) (b0 : Nat) (U : State) (H : Heap) : Prop := vk_S 7 sLens sByts E.2.2.1 E.2.2.2 (fun q => b0 ≤ q) U H ∧ (∀ q ∈ SR, vk_R q.1 q.2.1 q.2.2.1 (E.2.2.1 q.2.2.2) U) ∧ va_Z "java/lang/String" "COMPACT_STRINGS" "Z" (.int 1) (fun q => b0 ≤ q) U H ∧ va_Zq "jdk/internal/util/Preconditions" "SIOOBE_FORMATTER" "Ljava/util/function/BiFunction;" (fun q => b0 ≤ q) U H
def KX (E : EE) (b0 : Nat) (U : State) : Prop := va_K E.1 vwCl (TY E) U ∧ Nx U ∧ va_AO "SlidingFlaws$Row" U ∧ SX E b0 U U.heap
theorem KX.go {E : EE} {b0 : Nat} {s U : State} (hW : s.WarmedH U.vm) (hq : ∀ a : Nat, a < s.heap.size → ¬ b0 ≤ a → U.heap[a]? = s.heap[a]?) (h : KX E b0 s) : KX E b0 U :=
  ⟨va_K.moved hW.alike h.1, h.2.1.warm hW, h.2.2.1.moved hW.alike, (vk_S.moved hW.alike h.2.2.2.1).kept hq, fun q hq => vk_R.warm hW (h.2.2.2.2.1 q hq), (va_Z.moved hW.alike h.2.2.2.2.2.1).kept hq, (va_Zq.moved hW.alike h.2.2.2.2.2.2).kept hq⟩
theorem KX.same {E : EE} {b0 : Nat} {u U : State} (hv : u.vm = U.vm) (hh : U.heap = u.heap) (h : KX E b0 u) : KX E b0 U := by
  have ha : u.vm.Alike U.vm := by rw [hv]; exact Vm.Alike.refl U.vm
  refine ⟨va_K.moved ha h.1, h.2.1.same hv, h.2.2.1.moved ha, ?_⟩
  rw [show U.heap = u.heap from hh]
  exact ⟨vk_S.moved ha h.2.2.2.1, fun q hq => vk_R.same hv.symm (h.2.2.2.2.1 q hq), va_Z.moved ha h.2.2.2.2.2.1, va_Zq.moved ha h.2.2.2.2.2.2⟩
/-- all cells from b0 on are ours, n of them, and hold h -/
def RH (E : EE) (b0 n : Nat) (h : AH) (H : Heap) : Prop := H.size = b0 + n ∧ ∀ a, b0 ≤ a → a < b0 + n → va_at E.1 vwCl (a, h a) H
def CX (E : EE) (b0 : Nat) (M : MB) (p : Program) (s : State) (m : MethodId) (args : Array Value) (meth : Method) (c : Code) : Prop :=
  p.tables.exec = Jvm.exec ∧ c.code = M.2.1 ∧ c.maxLocals = M.2.2.1 ∧ meth.sig.returnType = M.2.2.2.1 ∧ s.vm.findClass M.2.2.2.2.2 = some m.cls ∧ (∀ w ∈ GW, w.before args s = true) ∧ meth.locks = false ∧ KX E b0 s ∧ meth.name = M.1.name
def G (l : Launch) (E : EE) (b0 : Nat) (M : MB) (X : State → Prop) (Z : ZT) (c1 c2 n : Nat) (h : AH) (pc : Nat) (L : LL) (st : List Value) : Prop :=
  ∀ (p : Program) (e : Env) (s : State) (m : MethodId) (args : Array Value) (below : List Frame) (meth : Method) (c : Code), CX E b0 M p s m args meth c → X s → b0 ≤ s.heap.size → ∀ (H : Heap) (locs : List Loc) (ls : Array Slot), RH E b0 n h H → va_S (fun q => b0 ≤ q) s.heap H locs → lv_has ls M.2.2.1 (lc 0 L) →
    W p l e M.2.2.2.2.1 s m args below meth c H locs c1 c2 (Z below args s) (F0 m pc ls st)
def DC (cc : ByteArray) (pc : Nat) (i : Instr) (len pc' : Nat) : Prop := decode cc pc = .ok (i, len) ∧ pc + len = pc'
def DB (cc : ByteArray) (pc : Nat) (i : Instr) (off : Int) (len pc' tgt : Nat) : Prop := decode cc pc = .ok (i, len) ∧ pc + len = pc' ∧ (pc : Int) + off = (tgt : Int)
/-- what a method's end says -/
def QR (E : EE) (b0 : Nat) (v : Option Value) (h' : AH) (n' : Nat) (P : Prop) : Array Value → State → Outcome → State → Prop := fun _ st oc t => oc = .returned v ∧ RH E b0 n' h' t.heap ∧ va_F (fun q => b0 ≤ q) st t ∧ P
def ZM (E : EE) (b0 : Nat) (v : Option Value) (h' : AH) (n' : Nat) (P : Prop) (mc ms : Nat) : ZT := fun below args s => MQ below (QR E b0 v h' n' P) args s mc ms (fun q => b0 ≤ q)
def Ct (l : Launch) (E : EE) (b0 : Nat) (M : MB) (c1 c2 : Nat) (As : List Value) (h : AH) (n : Nat) (v : Option Value) (h' : AH) (n' : Nat) (P : Prop) : Prop :=
  Met l M.1 (Cond.code M.1 M.2.1 M.2.2.1 M.2.2.2.1 :: GW) M.2.2.2.2.1 (va_Pc As (fun U => KX E b0 U ∧ RH E b0 n h U.heap)) (QR E b0 v h' n' P) c1 c2 (fun q => b0 ≤ q)
theorem Ct_of {l : Launch} {E : EE} {b0 : Nat} {M : MB} {c1 c2 n n' : Nat} {As : List Value} {h h' : AH} {v : Option Value} {P : Prop} (L0 : LL) (hy : plainName M.1.cls = true ∧ M.2.2.2.2.2 = M.1.cls) (hl : lv_args 0 As = lc 0 L0) (hn : (lg_sl As).length ≤ M.2.2.1)
    (k : G l E b0 M (fun _ => True) (ZM E b0 v h' n' P c1 c2) 0 0 n h 0 L0 []) : Ct l E b0 M c1 c2 As h n v h' n' P := by
  refine Met.ofW (cc := M.2.1) (maxL := M.2.2.1) (ret := M.2.2.2.1) hy.1 rfl ?_
  intro p e s m args below meth c s₁ B hml hv
  obtain ⟨rfl, hK, hR⟩ := hv
  have hts := atoms_spec (ws := Cond.code M.1 M.2.1 M.2.2.1 M.2.2.2.1 :: GW) B.pre
  have hown : s.vm.findClass M.2.2.2.2.2 = some m.cls := by rw [hy.2]; exact findClass_of_methodNamed B.named
  have hle := lv_entry As (n := M.2.2.1) hn
  rw [hl] at hle
  rw [lg_entry_eq]
  exact k p e s m _ below meth c ⟨B.exec, B.bytes, hml, B.returns, hown, fun w hw => hts w (List.mem_cons_of_mem _ hw), B.notSynchronized, hK, (name_of_methodNamed B.named B.method).1⟩ trivial (by rw [hR.1]; exact Nat.le_add_right _ _) s.heap [] _ hR va_S.rf hle
/-! ===== locals ===== -/
theorem lc_mem {L : LL} {i k : Nat} {v : Value} (h : L[k]? = some (some v)) : (i + k, v) ∈ lc i L := by
  induction L generalizing i k with
  | nil => simp at h
  | cons x L ih =>
    cases k with
    | zero =>
      simp at h
      subst h
      exact List.mem_cons_self
    | succ k =>
      have h2 : L[k]? = some (some v) := by simpa using h
      have h3 := ih (i := i + 1) h2
      rw [show i + 1 + k = i + (k + 1) by omega] at h3
      cases x with
      | none => exact h3
      | some w => exact List.mem_cons_of_mem _ h3
theorem lc_inv {L : LL} {i j : Nat} {v : Value} (h : (j, v) ∈ lc i L) : ∃ k, j = i + k ∧ L[k]? = some (some v) := by
  induction L generalizing i with
  | nil => simp [lc] at h
  | cons x L ih =>
    cases x with
    | none =>
      obtain ⟨k, h1, h2⟩ := ih (i := i + 1) h
      exact ⟨k + 1, by omega, by simpa using h2⟩
    | some w =>
      rcases List.mem_cons.mp h with h | h
      · cases h
        exact ⟨0, rfl, rfl⟩
      · obtain ⟨k, h1, h2⟩ := ih (i := i + 1) h
        exact ⟨k + 1, by omega, by simpa using h2⟩
theorem lc_get {ls : Array Slot} {nL : Nat} {L : LL} {k : Nat} {v : Value} (hl : lv_has ls nL (lc 0 L)) (h : L[k]? = some (some v)) : ls[k]? = some (.val v) := by
  have := lc_mem (i := 0) h
  rw [Nat.zero_add] at this
  exact hl.2.2 _ this
/-- no long stands at k - 1 -/
def nl2 (L : LL) (k : Nat) : Bool := match k with
  | 0 => true
  | k + 1 => match L[k]? with
    | some (some v) => v.category != 2
    | _ => true
def st1 (L : LL) (k : Nat) (v : Value) : LL := L.set k (some v)
def st2 (L : LL) (k : Nat) (v : Value) : LL := (L.set (k + 1) none).set k (some v)
theorem st1_sub {L : LL} {k : Nat} {v : Value} (h2 : nl2 L k = true) : ∀ q ∈ lc 0 (st1 L k v), q ∈ (k, v) :: (lc 0 L).filter (fun q => !(q.1 == k) && !(q.1 + 1 == k && q.2.category == 2)) := by
  intro q hq
  obtain ⟨j, h3, h4⟩ := lc_inv (j := q.1) (v := q.2) hq
  rw [Nat.zero_add] at h3
  unfold st1 at h4
  rw [List.getElem?_set] at h4
  split at h4
  · rename_i hk
    split at h4
    · have : q = (k, v) := by
        have h5 := Option.some.inj (Option.some.inj h4)
        exact Prod.ext (by rw [h3, ← hk]) h5.symm
      rw [this]
      exact List.mem_cons_self
    · cases h4
  · rename_i hk
    refine List.mem_cons_of_mem _ (List.mem_filter.mpr ⟨?_, ?_⟩)
    · have := lc_mem (i := 0) h4
      rw [Nat.zero_add, ← h3] at this
      exact this
    · simp only [Bool.and_eq_true, Bool.not_eq_true', beq_eq_false_iff_ne, ne_eq, Bool.and_eq_false_iff]
      refine ⟨by omega, ?_⟩
      by_cases h6 : q.1 + 1 = k
      · right
        subst h6
        rw [← h3] at h4
        simp only [nl2, h4] at h2
        simpa using h2
      · left
        exact h6
theorem st2_sub {L : LL} {k : Nat} {v : Value} (h2 : nl2 L k = true) : ∀ q ∈ lc 0 (st2 L k v), q ∈ (k, v) :: (lc 0 L).filter (fun q => !(q.1 == k) && (!(q.1 == k + 1) && !(q.1 + 1 == k && q.2.category == 2))) := by
  intro q hq
  obtain ⟨j, h3, h4⟩ := lc_inv (j := q.1) (v := q.2) hq
  rw [Nat.zero_add] at h3
  unfold st2 at h4
  rw [List.getElem?_set] at h4
  split at h4
  · rename_i hk
    split at h4
    · have : q = (k, v) := by
        have h5 := Option.some.inj (Option.some.inj h4)
        exact Prod.ext (by rw [h3, ← hk]) h5.symm
      rw [this]
      exact List.mem_cons_self
    · cases h4
  · rename_i hk
    rw [List.getElem?_set] at h4
    split at h4
    · split at h4
      · cases h4
      · cases h4
    · rename_i hk1
      refine List.mem_cons_of_mem _ (List.mem_filter.mpr ⟨?_, ?_⟩)
      · have := lc_mem (i := 0) h4
        rw [Nat.zero_add, ← h3] at this
        exact this
      · simp only [Bool.and_eq_true, Bool.not_eq_true', beq_eq_false_iff_ne, ne_eq, Bool.and_eq_false_iff]
        refine ⟨by omega, by omega, ?_⟩
        by_cases h6 : q.1 + 1 = k
        · right
          subst h6
          rw [← h3] at h4
          simp only [nl2, h4] at h2
          simpa using h2
        · left
          exact h6
theorem lv_has.sub {ls : Array Slot} {nL : Nat} {l l' : List (Nat × Value)} (h : lv_has ls nL l) (hs : ∀ q ∈ l', q ∈ l) : lv_has ls nL l' := ⟨h.1, h.2.1, fun q hq => h.2.2 q (hs q hq)⟩


/-! ===== LAW: the relation ===== -/
def Rel (B : Int) (N : Nat → Int) (F : Nat → Nat → Int) (K : Nat → Nat → Nat) (R : Nat → Nat → RowT) (N' : Nat → Int) (F' : Nat → Nat → Int) : Prop :=
  RAc B (N 29) (N 30) (K 0) (R 0) (N' 12) (N' 13) (F' 31) (F' 33) (F' 32) (F' 34) (F' 28) (F' 30) ∧
  RRow (N 15) (N 16) (N 17) (N 18) (N 19) (N 20) (N 21) (F 16) (F' 28) (F' 30) ∧
  RGr (N 55) (N 59) (F 53) (F 55) (F 56) (F 58) (F 60) (N' 4) (N' 5) (F' 5) (F' 7) (F' 8) (F' 9) ∧
  RSc (F' 23) (F' 26) (F' 27) ∧
  RCw (N 51) (F 44) (F 45) (F 46) (N 52) (F 47) (F 48) (F 49) (N 53) (F 50) (F 51) (F 52) (F' 1) (F' 3) ∧
  RSi (N 50) (N 53) (F 61) (F 62) (N' 17) (F' 41) (F' 42) ∧
  RWb (N 4) (N 5) (F 1) (F 2) (F 3) (N 7) (F 4) (F 5) (F 6) (F 7) (N' 9) (N' 10) (F' 13) (F' 14) (F' 15) (F' 16) (F' 17) ∧
  RGp (N 6) (F 9) (N' 11) (F' 22) ∧
  RGn B (N 42) (N 43) (N 44) (N 48) (F 35) (F 36) (F 37) (N 49) (F 38) (F 39) (F 40) (K 2) (R 2) (N' 18) (N' 19) (N' 20) (F' 44) (F' 43) (F' 46) ∧
  RCu (N 45) (F 43) (N' 21) (F' 47) ∧
  RTp (N 0) (N' 1) (F 0) (F' 0) ∧
  RTr (K 1) (R 1) ∧
  RAi (N 32) (F 32) (N' 14) (F' 38) ∧
  RFi (N 33) (N 34) (N 35) (F 34) (N' 15) (N' 16) (F' 40) ∧
  RMk (N 22) (N 23) (N 24) (N 25) (N 26) (N 27) (N 28) (F 19) (F' 29) ∧
  Zf 21 (F 72) ∧
  Zf 21 (F 22) ∧
  Zf 100 (F' 35) ∧
  Zf 6 (F' 36)
theorem Rel.ac {N N' : Nat → Int} {F F' : Nat → Nat → Int} {K : Nat → Nat → Nat} {R : Nat → Nat → RowT} {B : Int} (h : Rel B N F K R N' F') : RAc B (N 29) (N 30) (K 0) (R 0) (N' 12) (N' 13) (F' 31) (F' 33) (F' 32) (F' 34) (F' 28) (F' 30) := h.1
theorem Rel.row {N N' : Nat → Int} {F F' : Nat → Nat → Int} {K : Nat → Nat → Nat} {R : Nat → Nat → RowT} {B : Int} (h : Rel B N F K R N' F') : RRow (N 15) (N 16) (N 17) (N 18) (N 19) (N 20) (N 21) (F 16) (F' 28) (F' 30) := h.2.1
theorem Rel.gr {N N' : Nat → Int} {F F' : Nat → Nat → Int} {K : Nat → Nat → Nat} {R : Nat → Nat → RowT} {B : Int} (h : Rel B N F K R N' F') : RGr (N 55) (N 59) (F 53) (F 55) (F 56) (F 58) (F 60) (N' 4) (N' 5) (F' 5) (F' 7) (F' 8) (F' 9) := h.2.2.1
theorem Rel.sc {N N' : Nat → Int} {F F' : Nat → Nat → Int} {K : Nat → Nat → Nat} {R : Nat → Nat → RowT} {B : Int} (h : Rel B N F K R N' F') : RSc (F' 23) (F' 26) (F' 27) := h.2.2.2.1
theorem Rel.cw {N N' : Nat → Int} {F F' : Nat → Nat → Int} {K : Nat → Nat → Nat} {R : Nat → Nat → RowT} {B : Int} (h : Rel B N F K R N' F') : RCw (N 51) (F 44) (F 45) (F 46) (N 52) (F 47) (F 48) (F 49) (N 53) (F 50) (F 51) (F 52) (F' 1) (F' 3) := h.2.2.2.2.1
theorem Rel.si {N N' : Nat → Int} {F F' : Nat → Nat → Int} {K : Nat → Nat → Nat} {R : Nat → Nat → RowT} {B : Int} (h : Rel B N F K R N' F') : RSi (N 50) (N 53) (F 61) (F 62) (N' 17) (F' 41) (F' 42) := h.2.2.2.2.2.1
theorem Rel.wb {N N' : Nat → Int} {F F' : Nat → Nat → Int} {K : Nat → Nat → Nat} {R : Nat → Nat → RowT} {B : Int} (h : Rel B N F K R N' F') : RWb (N 4) (N 5) (F 1) (F 2) (F 3) (N 7) (F 4) (F 5) (F 6) (F 7) (N' 9) (N' 10) (F' 13) (F' 14) (F' 15) (F' 16) (F' 17) := h.2.2.2.2.2.2.1
theorem Rel.gp {N N' : Nat → Int} {F F' : Nat → Nat → Int} {K : Nat → Nat → Nat} {R : Nat → Nat → RowT} {B : Int} (h : Rel B N F K R N' F') : RGp (N 6) (F 9) (N' 11) (F' 22) := h.2.2.2.2.2.2.2.1
theorem Rel.gn {N N' : Nat → Int} {F F' : Nat → Nat → Int} {K : Nat → Nat → Nat} {R : Nat → Nat → RowT} {B : Int} (h : Rel B N F K R N' F') : RGn B (N 42) (N 43) (N 44) (N 48) (F 35) (F 36) (F 37) (N 49) (F 38) (F 39) (F 40) (K 2) (R 2) (N' 18) (N' 19) (N' 20) (F' 44) (F' 43) (F' 46) := h.2.2.2.2.2.2.2.2.1
theorem Rel.cu {N N' : Nat → Int} {F F' : Nat → Nat → Int} {K : Nat → Nat → Nat} {R : Nat → Nat → RowT} {B : Int} (h : Rel B N F K R N' F') : RCu (N 45) (F 43) (N' 21) (F' 47) := h.2.2.2.2.2.2.2.2.2.1
theorem Rel.tp {N N' : Nat → Int} {F F' : Nat → Nat → Int} {K : Nat → Nat → Nat} {R : Nat → Nat → RowT} {B : Int} (h : Rel B N F K R N' F') : RTp (N 0) (N' 1) (F 0) (F' 0) := h.2.2.2.2.2.2.2.2.2.2.1
theorem Rel.tr {N N' : Nat → Int} {F F' : Nat → Nat → Int} {K : Nat → Nat → Nat} {R : Nat → Nat → RowT} {B : Int} (h : Rel B N F K R N' F') : RTr (K 1) (R 1) := h.2.2.2.2.2.2.2.2.2.2.2.1
theorem Rel.ai {N N' : Nat → Int} {F F' : Nat → Nat → Int} {K : Nat → Nat → Nat} {R : Nat → Nat → RowT} {B : Int} (h : Rel B N F K R N' F') : RAi (N 32) (F 32) (N' 14) (F' 38) := h.2.2.2.2.2.2.2.2.2.2.2.2.1
theorem Rel.fi {N N' : Nat → Int} {F F' : Nat → Nat → Int} {K : Nat → Nat → Nat} {R : Nat → Nat → RowT} {B : Int} (h : Rel B N F K R N' F') : RFi (N 33) (N 34) (N 35) (F 34) (N' 15) (N' 16) (F' 40) := h.2.2.2.2.2.2.2.2.2.2.2.2.2.1
theorem Rel.mk {N N' : Nat → Int} {F F' : Nat → Nat → Int} {K : Nat → Nat → Nat} {R : Nat → Nat → RowT} {B : Int} (h : Rel B N F K R N' F') : RMk (N 22) (N 23) (N 24) (N 25) (N 26) (N 27) (N 28) (F 19) (F' 29) := h.2.2.2.2.2.2.2.2.2.2.2.2.2.2.1
theorem Rel.sp {N N' : Nat → Int} {F F' : Nat → Nat → Int} {K : Nat → Nat → Nat} {R : Nat → Nat → RowT} {B : Int} (h : Rel B N F K R N' F') : Zf 21 (F 72) := h.2.2.2.2.2.2.2.2.2.2.2.2.2.2.2.1
theorem Rel.tg {N N' : Nat → Int} {F F' : Nat → Nat → Int} {K : Nat → Nat → Nat} {R : Nat → Nat → RowT} {B : Int} (h : Rel B N F K R N' F') : Zf 21 (F 22) := h.2.2.2.2.2.2.2.2.2.2.2.2.2.2.2.2.1
theorem Rel.ot {N N' : Nat → Int} {F F' : Nat → Nat → Int} {K : Nat → Nat → Nat} {R : Nat → Nat → RowT} {B : Int} (h : Rel B N F K R N' F') : Zf 100 (F' 35) := h.2.2.2.2.2.2.2.2.2.2.2.2.2.2.2.2.2.1
theorem Rel.os {N N' : Nat → Int} {F F' : Nat → Nat → Int} {K : Nat → Nat → Nat} {R : Nat → Nat → RowT} {B : Int} (h : Rel B N F K R N' F') : Zf 6 (F' 36) := h.2.2.2.2.2.2.2.2.2.2.2.2.2.2.2.2.2.2

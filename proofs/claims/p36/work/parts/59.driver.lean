/-! ===== the driver of the latest year; the bench's last word ===== -/
section DRIVER
variable {K n : Nat} {h : mm_H}
/-- the driver of the latest year below one that tells it -/
def drS (h : mm_H) (f dr : Nat) (d : Int32) : Nat → Int32
  | 0 => 0
  | y + 1 => if kn h f y dr d = -1 then drS h f dr d y else kn h f y dr d
/-- whether a bench word is of this -/
def bnB (h : mm_H) (f hd y d : Int32) (i : Nat) : Prop := iA h 62 i = f ∧ iA h 63 i = hd ∧ iA h 64 i = y ∧ ¬ d < iA h 66 i
/-- the last one -/
def bnS (h : mm_H) (f hd y d : Int32) : Nat → Option Nat
  | 0 => none
  | i + 1 => if iA h 62 i = f ∧ iA h 63 i = hd ∧ iA h 64 i = y ∧ ¬ d < iA h 66 i then some i else bnS h f hd y d i
theorem bnS_lt (h : mm_H) (f hd y d : Int32) : ∀ (m i : Nat), bnS h f hd y d m = some i → i < m
  | 0, i, e => by cases e
  | m + 1, i, e => by
    unfold bnS at e
    split at e
    · cases e; omega
    · have := bnS_lt h f hd y d m i e
      omega
end DRIVER

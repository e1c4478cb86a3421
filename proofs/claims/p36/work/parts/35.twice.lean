/-! ===== the call twice ===== -/
section CALLK
variable {K n : Nat} {h : mm_H}
def twF (h : mm_H) (a b : Nat) : Int32 := if iA h 57 a = iA h 57 b then if iA h 58 a = iA h 58 b then if 1 < i_abs (iA h 59 a - iA h 59 b) then 0 else 1 else 0 else 0
theorem tw_step (k p : Int32) : k - p + -1 = k - (p + 1) := by grind
theorem tw_zero (k p : Int32) : k - p = 0 ↔ p = k := by
  constructor
  · intro e
    have : k = (k - p) + p := by grind
    rw [this, e]
    grind
  · intro e; rw [e]; grind
end CALLK

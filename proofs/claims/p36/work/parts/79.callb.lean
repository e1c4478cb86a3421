/-! ===== the calls bills and home ===== -/
section CALLB
variable {K n : Nat} {h : mm_H}
/-- what is left behind some kinds of homes -/
def lfS (h : mm_H) (f y : Nat) (d : Int32) (cn : Int64) : Nat → Int64
  | 0 => cn
  | k + 1 => lfS h f y d cn k - pdS h f y d cn k * (hmP h f y d k).toInt64
theorem lfS_c {g : mm_H} (e : ∀ a, a < 73 → g a = h a) (f y : Nat) (d : Int32) (cn : Int64) : ∀ k, lfS g f y d cn k = lfS h f y d cn k
  | 0 => rfl
  | k + 1 => by
    unfold lfS
    rw [lfS_c e f y d cn k, pdS_c e, hmP_c e]
end CALLB

/-! ===== what an output earns, on the model's side ===== -/
section EARNM
variable {K n : Nat} {h : mm_H}
theorem sub64 {a b : Nat} (ha : a ≤ 99999) (hb : b ≤ 99999) : (ni a - ni b).toInt64 = (ni a).toInt64 - (ni b).toInt64 := by
  refine Int64.toInt_inj.mp ?_
  rw [Int32.toInt_toInt64, Int32.toInt_sub, Int64.toInt_sub, Int32.toInt_toInt64, Int32.toInt_toInt64, ni_int (by omega), ni_int (by omega)]
  rw [Int.bmod_eq_of_le (by omega) (by omega), Int.bmod_eq_of_le (by omega) (by omega)]
theorem abs_eq (v : Int64) : j_abs v = absS v := by
  unfold j_abs absS
  by_cases h0 : 0 < v
  · rw [if_pos h0, if_pos (Int64.le_of_lt h0)]
  · rw [if_neg h0]
    by_cases h1 : 0 ≤ v
    · have : v = 0 := Int64.le_antisymm (Int64.not_lt.mp h0) h1
      subst this
      rfl
    · rw [if_neg h1]
def eaS (h : mm_H) (f y o : Nat) (d : Int32) (w : Nat → Int64) (L : List Stm) : Int64 := match lastS w 2 o L 0 none with
  | none => 0
  | some i => match L[i]? with
    | some s => if kn h f y (14 + o) d = -1 then 0 else erS s (kn h f y (14 + o) d).toInt64
    | none => 0
end EARNM

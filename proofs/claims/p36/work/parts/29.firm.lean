/-! ===== firm, fact, tell ===== -/
section CALLB
variable {K n : Nat} {h : mm_H}
theorem cN_lt {x : Int32} {m N : Nat} (hx : x = ni m) (hm : m < 2147483648) (hN : N < 2147483648) : (x < ni N) ↔ m < N := by rw [hx]; exact ni_lt hm hN
theorem upd_s (f : Nat → Int32) (i : Nat) (x : Int32) : upd f i x i = x := by simp [upd]
theorem upd_n {f : Nat → Int32} {i j : Nat} {x : Int32} (q : j ≠ i) : upd f i x j = f j := by simp [upd, q]
end CALLB

/-! ===== the calls work, bench, log ===== -/
section CALLH
variable {K n : Nat} {h : mm_H}
theorem nDone_up (D : Nat → Int32) (m : Nat) (x : Int32) : ∀ k, k ≤ m → nDone (upd D m x) k = nDone D k := by
  intro k
  induction k with
  | zero => intro _; rfl
  | succ k ih =>
    intro hk
    unfold nDone
    rw [ih (by omega), upd_n (by omega)]
theorem ni_div {a b : Nat} (ha : a < 2147483648) (hb : b < 2147483648) : ni a / ni b = ni (a / b) := by
  refine Int32.toInt_inj.mp ?_
  rw [ni_int (Nat.lt_of_le_of_lt (Nat.div_le_self a b) ha), Int32.toInt_div, ni_int ha, ni_int hb]
  have e1 : ((a : Int).tdiv (b : Int)) = ((a / b : Nat) : Int) := by
    rw [Int.tdiv_eq_ediv_of_nonneg (by omega)]
    rfl
  have h3 := Nat.div_le_self a b
  rw [e1]
  generalize a / b = q at h3
  exact Int.bmod_eq_of_le (by omega) (by omega)

end CALLH

/-! ===== the model's statement, its worths ===== -/
section MODEL
variable {K n : Nat} {h : mm_H}
end MODEL

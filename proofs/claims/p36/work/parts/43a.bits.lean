/-! ===== masks of owners ===== -/
theorem bit_or : ∀ M, M < 2048 → ∀ o, o < 11 → ni M ||| ((1 : Int32) <<< (ni o &&& 31)) = ni (M ||| 2 ^ o) := by decide +kernel
theorem bit_in : ∀ M, M < 2048 → ∀ o, o < 11 → (((ni M >>> (ni o &&& 31)) &&& 1 = 0) ↔ M.testBit o = false) := by decide +kernel

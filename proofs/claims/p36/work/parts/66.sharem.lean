/-! ===== what is shared, on the model's side ===== -/
section SHAREM
variable {K n : Nat} {h : mm_H}
def shS (h : mm_H) (F f y hd : Nat) (d : Int32) (w : Nat → Int64) (L : List Stm) : Int64 := if kn h f y (3 + hd) d = -1 then 0 else ((kn h f y (3 + hd) d).toInt64 - allS h F f y hd d w L) - brO w L hd ((kn h f y (3 + hd) d).toInt64 - allS h F f y hd d w L)
theorem RS_ok {b : Option Nat} {z : Int32} {L : List Stm} (R : RS h n b z L) : ∀ s, s ∈ L → sOk s := by
  rcases R with ⟨-, -, rfl⟩ | ⟨p', w0, B, a, b', -, -, -, -, -, -, ok, -⟩
  · intro s hs; cases hs
  · exact ok
end SHAREM

/-! ===== the lines of a year; what the model tells of them ===== -/
section LINES
variable {K n : Nat} {h : mm_H}
def smS (h : mm_H) (F f : Nat) (Ls : Nat → List Stm) (d : Int32) (y : Nat) : Nat → Int64
  | 0 => 0
  | i + 1 => smS h F f Ls d y i + alS h F f Ls d y i
def lgV (h : mm_H) (F f : Nat) (Ls : Nat → List Stm) (d : Int32) (y : Nat) : Int64 := if lgS h (ni f) (ni y) d (fI h 67 5).toNatClampNeg < smS h F f Ls d y 4 * (numS (wwS h f Ls y) (Ls (y / 5)) 8 0).toInt64 / 100 then 0 else lgS h (ni f) (ni y) d (fI h 67 5).toNatClampNeg
/-- a line -/
def lnS (h : mm_H) (F f : Nat) (Ls : Nat → List Stm) (d : Int32) (y k : Nat) : Int64 :=
  if k < 4 then alS h F f Ls d y k
  else if k = 4 then wrS h f Ls y * (numS (wwS h f Ls y) (Ls (y / 5)) 3 0).toInt64 / 1000
  else if k = 5 then duS h f y (fI h 56 4).toNatClampNeg
  else if k = 6 then -(tbS h f Ls y (fI h 56 4).toNatClampNeg)
  else if k = 14 then lgV h F f Ls d y
  else if y = 0 then 0
  else if k < 10 then eaS h f (y - 1) (k - 7) d (wwS h f Ls (y - 1)) (Ls ((y - 1) / 5))
  else shS h F f (y - 1) (k - 10) d (wwS h f Ls (y - 1)) (Ls ((y - 1) / 5))
/-- a year's lines together -/
def rvS (h : mm_H) (F f : Nat) (Ls : Nat → List Stm) (d : Int32) (y : Nat) : Nat → Int64
  | 0 => 0
  | k + 1 => rvS h F f Ls d y k + lnS h F f Ls d y k
end LINES

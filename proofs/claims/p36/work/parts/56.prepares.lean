/-! ===== the model prepares all years ===== -/
section PREPARES
variable {K n : Nat} {h : mm_H}
def MY (g h : mm_H) (f : Nat) (Ls : Nat → List Stm) (Y : Nat) : Prop := (∀ y, y < Y → iA g 201 y = hmS h f (dcd y) (y + 1) ∧ iA g 202 y = ni (ltS h f y (fI h 56 4).toNatClampNeg)) ∧ ∀ i, i ≤ Y → jA g 200 i = wrS h f Ls i
theorem MY.w {g : mm_H} {f : Nat} {Ls : Nat → List Stm} {Y : Nat} (m : MY g h f Ls Y) {y : Nat} (hy : y < Y) : ∀ i, i < 5 → wdW (ni y).toInt64 (ni f).toInt64 (iA g 201 y).toInt64 (jA g 200 y) (iA g 202 y).toInt64 i = wwS h f Ls y i := fun i _ => by
  rw [(m.1 y hy).1, (m.1 y hy).2, m.2 y (by omega)]
  rfl
end PREPARES

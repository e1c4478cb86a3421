/-! ===== the call moves ===== -/
section CALLM
variable {K n : Nat} {h : mm_H}
theorem absS_j (v : Int64) : j_abs v = absS v := by
  unfold j_abs absS
  by_cases h1 : 0 < v
  · rw [if_pos h1, if_pos (Int64.le_of_lt h1)]
  · rw [if_neg h1]
    by_cases h2 : 0 ≤ v
    · rw [if_pos h2]
      have : v = 0 := Int64.le_antisymm (Int64.not_lt.mp h1) h2
      rw [this]
      rfl
    · rw [if_neg h2]
/-- the driver whose line misses least -/
def mvS (P : Nat → List Pt) : Nat → Nat → Int32 × Int64 → Int32 × Int64
  | 0, _, s => s
  | c + 1, i, s => if P i = [] then mvS P c (i + 1) s else if s.1 = -1 then mvS P c (i + 1) (ni i, missS (P i) (P i) 0) else if missS (P i) (P i) 0 < s.2 then mvS P c (i + 1) (ni i, missS (P i) (P i) 0) else mvS P c (i + 1) s
theorem len_nil {L : List Pt} (hl : L.length ≤ 50) : (ni L.length = 0) ↔ L = [] := by
  constructor
  · intro e
    exact List.length_eq_zero_iff.mp ((ni_inj (b := 0) (by omega) (by omega)).mp e)
  · intro e; rw [e]; rfl
theorem F11 (uF : JF h) : (fI h 49 5).toNatClampNeg ≤ 11 := by
  obtain ⟨⟨m, hm, hm11⟩, -⟩ := uF
  rw [hm, ni_tn (by omega)]; exact hm11
end CALLM

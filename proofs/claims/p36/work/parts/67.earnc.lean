/-! ===== what an output earns, on the class's side ===== -/
section EARNC
variable {K n : Nat} {h : mm_H}
def erB (s : Stm) (by_ : Int64) : Int64 :=
  if 0 ≤ by_ then j_min (ni (sE s)).toInt64 (j_max 0 (absS by_ - (ni (sD s)).toInt64) / (ni (sB s)).toInt64 * (ni (sC s)).toInt64)
  else -(j_min (ni (sE s)).toInt64 (j_max 0 (absS by_ - (ni (sD s)).toInt64) / (ni (sB s)).toInt64 * (ni (sC s)).toInt64))
/-- what is earned with an output by a target -/
def erS (s : Stm) (o : Int64) : Int64 := if sM s = 0 then erB s (o - (ni (sA s)).toInt64) else erB s ((ni (sA s)).toInt64 - o)
theorem z_earns {r : Nat} {s : Stm} (rr : ruleC h n r s) (os : sOk s) (k2 : sK s = 2) (o : Int64) : q_X5_earns K h n r o = some (erS s o) := by
  obtain ⟨hr, hrn, u, e1, -⟩ := rr
  obtain ⟨o2, m1, a9, b1, b9, c9, d9, e9⟩ := os.2.2.2.1 k2
  have r2 : rdI h n r 5 2 = some (ni (sM s)) := by
    have := rdI_o (n := n) (k := 2) (x := if sK s = 0 ∨ sK s = 2 then ni (sM s) else 0) (by omega) e1 rfl
    rw [if_pos (Or.inr k2)] at this
    exact this
  have r4 : rdI h n r 5 4 = some (ni (sA s)) := by
    have := rdI_o (n := n) (k := 4) (x := if sK s = 0 then ni (sB s) else ni (sA s)) (by omega) e1 rfl
    rw [if_neg (by omega)] at this
    exact this
  have r6 : rdI h n r 5 6 = some (ni (sB s)) := by
    have := rdI_o (n := n) (k := 6) (x := if sK s = 2 then ni (sB s) else 0) (by omega) e1 rfl
    rw [if_pos k2] at this
    exact this
  have r7 : rdI h n r 5 7 = some (ni (sC s)) := by
    have := rdI_o (n := n) (k := 7) (x := if sK s = 2 then ni (sC s) else 0) (by omega) e1 rfl
    rw [if_pos k2] at this
    exact this
  have r8 : rdI h n r 5 8 = some (ni (sD s)) := by
    have := rdI_o (n := n) (k := 8) (x := if sK s = 2 then ni (sD s) else 0) (by omega) e1 rfl
    rw [if_pos k2] at this
    exact this
  have r9 : rdI h n r 5 9 = some (ni (sE s)) := by
    have := rdI_o (n := n) (k := 9) (x := if sK s = 2 then ni (sE s) else 0) (by omega) e1 rfl
    rw [if_pos k2] at this
    exact this
  have em : (ni (sM s) = 0) = (sM s = 0) := propext (ni_inj (b := 0) (by omega) (by omega))
  have nz : ¬ (ni (sB s)).toInt64 = 0 := fun z => by
    rw [ni_nj (by omega)] at z
    have := congrArg Int64.toInt z
    rw [nj_int (by omega)] at this
    have e0 : (0 : Int64).toInt = 0 := by decide
    omega
  have ct : ∀ v : Int64, q_X8_cut K h n v (ni (sB s)).toInt64 = some (v / (ni (sB s)).toInt64) := fun v => by
    unfold q_X8_cut
    simp only [lg_cmp_eq]
    rw [if_neg nz, if_neg nz]
  unfold q_X5_earns erS erB
  simp only [r2, r4, r6, r7, r8, r9, Option.bind_some, em, z_X8_size, ct, lg_cmp_ge]
  by_cases h0 : sM s = 0
  · rw [if_pos h0, if_pos h0]
    by_cases hb : 0 ≤ o - (ni (sA s)).toInt64
    · rw [if_pos hb, if_pos hb]
    · rw [if_neg hb, if_neg hb]
  · rw [if_neg h0, if_neg h0]
    by_cases hb : 0 ≤ (ni (sA s)).toInt64 - o
    · rw [if_pos hb, if_pos hb]
    · rw [if_neg hb, if_neg hb]
end EARNC

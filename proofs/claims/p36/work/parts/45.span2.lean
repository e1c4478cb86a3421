/-! ===== the call span: both ends ===== -/
section CALLT
variable {K n : Nat} {h : mm_H}
def vS (L : List Pt) (x : Int32) (i : Nat) : Int64 := lineS (flt (ni i) L) (Int32.toInt64 x)
def SCe (L : List Pt) (x l2 : Int32) : Nat → Int64
  | 0 => -1
  | i + 1 => if (∃ p ∈ L, p.1 = i) then (if SCe L x l2 i = -1 then vS L x i else if l2 = 0 then (if SCe L x l2 i ≤ vS L x i then SCe L x l2 i else vS L x i) else (if vS L x i ≤ SCe L x l2 i then SCe L x l2 i else vS L x i)) else SCe L x l2 i
def SRe (L : List Pt) (x : Int32) : Nat → Int64 × Int64
  | 0 => (999999, 0)
  | i + 1 => if (∃ p ∈ L, p.1 = i) then (j_min (SRe L x i).1 (vS L x i), j_max (SRe L x i).2 (vS L x i)) else SRe L x i
theorem SRe_pos {L : List Pt} {x : Int32} {i : Nat} (hh : hasO L i) : SRe L x (i + 1) = (j_min (SRe L x i).1 (vS L x i), j_max (SRe L x i).2 (vS L x i)) := if_pos hh
theorem SRe_neg {L : List Pt} {x : Int32} {i : Nat} (hh : ¬ hasO L i) : SRe L x (i + 1) = SRe L x i := if_neg hh
theorem SCe_pos {L : List Pt} {x l2 : Int32} {i : Nat} (hh : hasO L i) : SCe L x l2 (i + 1) = (if SCe L x l2 i = -1 then vS L x i else if l2 = 0 then (if SCe L x l2 i ≤ vS L x i then SCe L x l2 i else vS L x i) else (if vS L x i ≤ SCe L x l2 i then SCe L x l2 i else vS L x i)) := if_pos hh
theorem SCe_neg {L : List Pt} {x l2 : Int32} {i : Nat} (hh : ¬ hasO L i) : SCe L x l2 (i + 1) = SCe L x l2 i := if_neg hh
theorem SCR_eq (L : List Pt) (x : Int32) : ∀ i : Nat, ((∀ o, o < i → ¬ hasO L o) ∧ SCe L x 0 i = -1 ∧ SCe L x 1 i = -1 ∧ SRe L x i = (999999, 0)) ∨ ((∃ o, o < i ∧ hasO L o) ∧ SCe L x 0 i = (SRe L x i).1 ∧ SCe L x 1 i = (SRe L x i).2 ∧ 0 ≤ (SRe L x i).1 ∧ 0 ≤ (SRe L x i).2) := by
  intro i
  induction i with
  | zero => exact Or.inl ⟨fun o q => by omega, rfl, rfl, rfl⟩
  | succ i ih =>
    have hv := lineS_in (flt (ni i) L) (Int32.toInt64 x)
    have hv0 : 0 ≤ vS L x i := hv.1
    have hv1 : vS L x i ≤ 999999 := hv.2
    have n10 : ¬ (1 : Int32) = 0 := by decide
    by_cases hh : ∃ p ∈ L, p.1 = i
    · have e1 : SCe L x 0 (i + 1) = (if SCe L x 0 i = -1 then vS L x i else if SCe L x 0 i ≤ vS L x i then SCe L x 0 i else vS L x i) := by
        show (if (∃ p ∈ L, p.1 = i) then _ else _) = _
        rw [if_pos hh]
        rfl
      have e2 : SCe L x 1 (i + 1) = (if SCe L x 1 i = -1 then vS L x i else if vS L x i ≤ SCe L x 1 i then SCe L x 1 i else vS L x i) := by
        show (if (∃ p ∈ L, p.1 = i) then _ else _) = _
        rw [if_pos hh, if_neg n10]
      have e3 : SRe L x (i + 1) = (j_min (SRe L x i).1 (vS L x i), j_max (SRe L x i).2 (vS L x i)) := by
        show (if (∃ p ∈ L, p.1 = i) then _ else _) = _
        rw [if_pos hh]
      right
      refine ⟨⟨i, by omega, hh⟩, ?_⟩
      rw [e1, e2, e3]
      unfold j_min j_max
      dsimp only
      rcases ih with ⟨-, i1, i2, i3⟩ | ⟨-, i1, i2, i3, i4⟩
      · rw [i1, i2, i3, if_pos rfl, if_pos rfl]
        dsimp only
        have h1 : (if vS L x i < 999999 then vS L x i else 999999) = vS L x i := by
          by_cases q : vS L x i < 999999
          · rw [if_pos q]
          · rw [if_neg q]
            exact Int64.le_antisymm (Int64.not_lt.mp q) hv1
        rw [h1, if_neg (Int64.not_lt.mpr hv0)]
        exact ⟨rfl, rfl, hv0, hv0⟩
      · have m1 : ¬ SCe L x 0 i = -1 := fun q => by rw [← i1, q] at i3; exact absurd i3 (by decide)
        have m2 : ¬ SCe L x 1 i = -1 := fun q => by rw [← i2, q] at i4; exact absurd i4 (by decide)
        rw [if_neg m1, if_neg m2, i1, i2]
        by_cases q : vS L x i < (SRe L x i).1
        · rw [if_pos q, if_neg (Int64.not_le.mpr q)]
          by_cases q2 : vS L x i < (SRe L x i).2
          · rw [if_pos q2, if_pos (Int64.le_of_lt q2)]
            exact ⟨rfl, rfl, hv0, i4⟩
          · rw [if_neg q2]
            by_cases q3 : vS L x i ≤ (SRe L x i).2
            · rw [if_pos q3]
              exact ⟨rfl, Int64.le_antisymm (Int64.not_lt.mp q2) q3, hv0, hv0⟩
            · rw [if_neg q3]
              exact ⟨rfl, rfl, hv0, hv0⟩
        · rw [if_neg q, if_pos (Int64.not_lt.mp q)]
          by_cases q2 : vS L x i < (SRe L x i).2
          · rw [if_pos q2, if_pos (Int64.le_of_lt q2)]
            exact ⟨rfl, rfl, i3, i4⟩
          · rw [if_neg q2]
            by_cases q3 : vS L x i ≤ (SRe L x i).2
            · rw [if_pos q3]
              exact ⟨rfl, Int64.le_antisymm (Int64.not_lt.mp q2) q3, i3, hv0⟩
            · rw [if_neg q3]
              exact ⟨rfl, rfl, i3, hv0⟩
    · have e1 : ∀ l, SCe L x l (i + 1) = SCe L x l i := fun l => by
        show (if (∃ p ∈ L, p.1 = i) then _ else _) = _
        rw [if_neg hh]
      have e3 : SRe L x (i + 1) = SRe L x i := by
        show (if (∃ p ∈ L, p.1 = i) then _ else _) = _
        rw [if_neg hh]
      rw [e1, e1, e3]
      rcases ih with ⟨i0, i1, i2, i3⟩ | ⟨⟨o, o1, o2⟩, i1⟩
      · refine Or.inl ⟨fun o q => ?_, i1, i2, i3⟩
        by_cases z : o = i
        · subst z; exact hh
        · exact i0 o (by omega)
      · exact Or.inr ⟨⟨o, by omega, o2⟩, i1⟩
end CALLT

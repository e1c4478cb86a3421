/-! ===== the calls line and revenue ===== -/
section CALLL
variable {K n : Nat} {h : mm_H}
/-- a firm, a year, a day that are -/
abbrev okY (h : mm_H) (a b d : Int32) : Prop := ¬ mm_in a 0 (fI h 49 5 - 1) = 0 ∧ ¬ mm_in b 0 14 = 0 ∧ ¬ mm_in d 0 1499 = 0
theorem y_pre {α : Type} (c : PS h) (hn : 159 ≤ n) (j : JF h) (a b d : Int32) (N X : Option α) : ((q_X10_isFirmsYear K h n 48 a b).bind fun v3 => if v3 = 0 then N else (q_X10_isDay K h n d).bind fun v5 => if v5 = 0 then N else X) = if okY h a b d then X else N := by
  rw [y_X10_isFirmsYear c hn j, z_X10_isDay]
  simp only [Option.bind_some]
  by_cases h1 : mm_in a 0 (fI h 49 5 - 1) = 0
  · rw [if_neg (fun q : okY h a b d => q.1 h1)]
    simp only [h1, if_true]
  by_cases h2 : mm_in b 0 14 = 0
  · rw [if_neg (fun q : okY h a b d => q.2.1 h2)]
    simp only [h1, h2, if_true, if_false]
  by_cases h3 : mm_in d 0 1499 = 0
  · rw [if_neg (fun q : okY h a b d => q.2.2 h3)]
    simp only [h1, h2, h3, if_true, if_false, ite_self]
  · rw [if_pos (show okY h a b d from ⟨h1, h2, h3⟩)]
    simp only [h1, h2, h3, if_false]
    rw [if_neg (by decide)]
theorem okY_c {g : mm_H} (s : SW h g) {a b d : Int32} : okY g a b d = okY h a b d := by
  unfold okY
  rw [fI_c (s.1 49 (by omega)) 5]
theorem ok_nat {a b d : Int32} (uF : JF h) (ok : okY h a b d) : ∃ f y F : Nat, a = ni f ∧ b = ni y ∧ y ≤ 14 ∧ fI h 49 5 = ni F ∧ F ≤ 11 ∧ f < F := by
  obtain ⟨fm, hfm, hfm10, hF1, hF2⟩ := in_firm uF ok.1
  obtain ⟨y, hy, ey⟩ := mm_in_nat (N := 14) (by omega) ok.2.1
  obtain ⟨F0, hF0, hF11⟩ := id uF.1
  refine ⟨fm, y, F0, hfm, ey, hy, hF0, hF11, ?_⟩
  rw [hF0, ni_tn (by omega)] at hF2
  exact hF2
end CALLL

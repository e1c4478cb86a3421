/-! ===== the calls fact, known ===== -/
section CALLG
variable {K n : Nat} {h : mm_H}
theorem in_firm {x : Int32} (j : JF h) (q : ¬ mm_in x 0 (fI h 49 5 - 1) = 0) : ∃ f : Nat, x = ni f ∧ f ≤ 10 ∧ fI h 49 5 = ni ((fI h 49 5).toNatClampNeg) ∧ f < (fI h 49 5).toNatClampNeg := by
  obtain ⟨⟨m, hm, hm11⟩, -⟩ := j
  cases m with
  | zero =>
    rw [hm] at q
    exact absurd (by
      unfold mm_in
      by_cases h1 : x < 0
      · rw [if_pos h1]
      · obtain ⟨k, hk, rfl⟩ := ni_of h1
        rw [if_neg h1, if_pos]
        show (-1 : Int32) < ni k
        rw [Int32.lt_iff_toInt_lt, ni_int hk]
        show (-1 : Int) < k
        omega) q
  | succ m =>
    rw [hm, ni_sub1] at q
    obtain ⟨f, hf, rfl⟩ := mm_in_nat (by omega) q
    refine ⟨f, rfl, by omega, ?_, ?_⟩
    · rw [hm, ni_tn (by omega)]
    · rw [hm, ni_tn (by omega)]; omega
end CALLG

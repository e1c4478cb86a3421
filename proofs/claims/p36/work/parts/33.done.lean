/-! ===== the calls done, fault, count, twice ===== -/
section CALLI
variable {K n : Nat} {h : mm_H}
/-- the rules' numbers: how many sets, how many put by, whether there are some beside, the fault; nothing stands in for a review's own -/
def JN (h : mm_H) : Prop := (∃ m : Nat, fI h 48 7 = ni m ∧ m ≤ 8) ∧ (∃ m : Nat, fI h 48 10 = ni m ∧ m ≤ 4) ∧ fR h 48 8 = none
theorem JN.fb0 {g : mm_H} (j : JN h) (f : FB0 h g) : JN g := by
  obtain ⟨-, f1, f2, f3, -⟩ := f
  unfold JN
  rw [f1, f2, f3]
  exact j
theorem JN.fb {g : mm_H} (j : JN h) (f : FB h g) : JN g := j.fb0 f.o
theorem in_cnt {m : Nat} (hm : m < 2147483648) (a : Int32) : (mm_in a 0 (ni m - 1) = 0 ∧ ∀ w, w < m → a ≠ ni w) ∨ (mm_in a 0 (ni m - 1) = 1 ∧ ∃ w, w < m ∧ a = ni w) := by
  by_cases h1 : a < 0
  · left
    refine ⟨by unfold mm_in; rw [if_pos h1], fun w hw e => ?_⟩
    rw [e] at h1
    exact ni_pos (by omega) h1
  · obtain ⟨k, hk, rfl⟩ := ni_of h1
    cases m with
    | zero =>
      left
      refine ⟨?_, fun w hw => by omega⟩
      unfold mm_in
      rw [if_neg h1, if_pos]
      show (-1 : Int32) < ni k
      rw [Int32.lt_iff_toInt_lt, ni_int hk]
      show (-1 : Int) < k
      omega
    | succ m =>
      rw [ni_sub1]
      unfold mm_in
      rw [if_neg h1]
      by_cases h2 : ni m < ni k
      · left
        rw [if_pos h2]
        have := (ni_lt (by omega) hk).mp h2
        exact ⟨rfl, fun w hw e => by have := (ni_inj hk (by omega)).mp e; omega⟩
      · right
        rw [if_neg h2]
        have h5 : ¬ m < k := fun q => h2 ((ni_lt (a := m) (b := k) (by omega) hk).mpr q)
        exact ⟨rfl, k, by omega, rfl⟩
theorem z_X9_isThere (c : PS h) (hn : 159 ≤ n) {m : Nat} (hm : fI h 56 4 = ni m) (hm40 : m ≤ 40) (a : Int32) : q_X9_isThere K h n 56 a = some (mm_in a 0 (ni m - 1)) := by
  unfold q_X9_isThere
  simp only [g_56_4 c hn, hm, Option.bind_some]
  rcases in_cnt (m := m) (by omega) a with ⟨e1, e2⟩ | ⟨e1, w, hw, rfl⟩
  · rw [e1]
    by_cases h1 : a < 0
    · rw [if_pos h1]
    · obtain ⟨k, hk, rfl⟩ := ni_of h1
      rw [if_neg h1, if_pos]
      exact (ni_le (by omega) hk).mpr (Nat.not_lt.mp fun q => e2 k q rfl)
  · rw [e1, if_neg (ni_pos (by omega)), if_neg (fun q => by have := (ni_le (by omega) (by omega)).mp q; omega), if_neg (fun q => by have := (ni_le (a := 40) (by omega) (by omega)).mp q; omega)]
theorem nDone_in {D : Nat → Int32} {w : Nat} {x : Int32} (hD : D w = -1) (hx : x ≠ -1) : ∀ m, w < m → nDone (upd D w x) m = nDone D m + 1 := by
  intro m
  induction m with
  | zero => intro q; omega
  | succ m ih =>
    intro hw
    show nDone (upd D w x) m + (if upd D w x m = -1 then 0 else 1) = nDone D m + (if D m = -1 then 0 else 1) + 1
    by_cases e : w = m
    · subst e
      rw [nDone_up _ _ _ _ (Nat.le_refl w), upd_s, hD, if_neg hx, if_pos rfl]
    · rw [ih (by omega), upd_n (fun q => e q.symm)]
      omega
end CALLI

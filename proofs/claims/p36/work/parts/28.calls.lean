/-! ===== the calls that write the register: helpers, day, firm, fact ===== -/
section CALLA
variable {K n : Nat} {h : mm_H}
/-- the script's cell, and what a call reads of it -/
def SCR (e0 : mm_E) (n : Nat) (l3 : Int32) (x : Nat → Int32) : Prop := ∀ g : mm_H, g 0 = e0 → ldI g n 0 (l3 + 1) = some (x 1) ∧ ldI g n 0 (l3 + 2) = some (x 2) ∧ ldI g n 0 (l3 + 3) = some (x 3) ∧ ldI g n 0 (l3 + 4) = some (x 4) ∧ ldI g n 0 (l3 + 5) = some (x 5) ∧ ldI g n 0 (l3 + 6) = some (x 6)
theorem isF_eq {a F : Int32} (hF : cN F 11) : (if a < 0 then (0 : Int32) else if F ≤ a then 0 else 1) = mm_in a 0 (F - 1) := by
  obtain ⟨m, rfl, hm⟩ := hF
  unfold mm_in
  by_cases h1 : a < 0
  · rw [if_pos h1, if_pos h1]
  · rw [if_neg h1, if_neg h1]
    obtain ⟨k, hk, rfl⟩ := ni_of h1
    cases m with
    | zero =>
      rw [if_pos (show ni 0 ≤ ni k from (ni_le (by omega) hk).mpr (Nat.zero_le _)), if_pos]
      show (-1 : Int32) < ni k
      rw [Int32.lt_iff_toInt_lt, ni_int hk]
      show (-1 : Int) < k
      omega
    | succ m =>
      rw [ni_sub1]
      by_cases h2 : m + 1 ≤ k
      · rw [if_pos ((ni_le (by omega) hk).mpr h2), if_pos ((ni_lt (by omega) hk).mpr (by omega))]
      · rw [if_neg (fun q => h2 ((ni_le (by omega) hk).mp q)), if_neg (fun q => h2 ((ni_lt (by omega) hk).mp q))]
theorem y_X10_isFirm (c : PS h) (hn : 159 ≤ n) (j : JF h) (a : Int32) : q_X10_isFirm K h n 48 a = some (mm_in a 0 (fI h 49 5 - 1)) := by
  rw [z_X10_isFirm c hn, isF_eq j.1]
theorem y_X10_isFirmsYear (c : PS h) (hn : 159 ≤ n) (j : JF h) (a b : Int32) : q_X10_isFirmsYear K h n 48 a b = some (if mm_in a 0 (fI h 49 5 - 1) = 0 then 0 else if mm_in b 0 14 = 0 then 0 else 1) := by
  unfold q_X10_isFirmsYear
  simp only [gq_48 c hn, y_X10_isFirm c hn j, z_X10_isWithin, Option.bind_some]
  split
  · rfl
  · split <;> rfl
def mostF (w : Int32) : Int32 := if 3 ≤ w then if 11 ≤ w then 9999 else 99999 else 999
theorem z_X10_mostOfFact (a : Int32) : q_X10_mostOfFact K h n a = some (mostF a) := by
  unfold q_X10_mostOfFact mostF
  split
  · split <;> rfl
  · rfl
theorem mostF_le (w : Int32) : ∃ m : Nat, mostF w = ni m ∧ m ≤ 99999 := by
  unfold mostF
  split
  · split
    · exact ⟨9999, rfl, by omega⟩
    · exact ⟨99999, rfl, by omega⟩
  · exact ⟨999, rfl, by omega⟩
/-- a fact's place -/
def keyF (f y w : Nat) : Nat := (f * 15 + y) * 17 + w
theorem keyF_lt {f y w : Nat} (hf : f ≤ 10) (hy : y ≤ 14) (hw : w ≤ 16) : keyF f y w < 2805 := by unfold keyF; omega
theorem z_X0_placeOf {f y w a : Nat} (hf : f ≤ 10) (hy : y ≤ 14) (hw : w ≤ 16) : q_X0_placeOf K h n a (ni f) (ni y) (ni w) = some (ni (keyF f y w)) := by
  unfold q_X0_placeOf
  rw [if_neg (ni_pos (by omega)), if_neg (fun q => by have := (ni_le (a := 11) (b := f) (by omega) (by omega)).mp q; omega), if_neg (ni_pos (by omega)), if_neg (fun q => by have := (ni_le (a := 15) (b := y) (by omega) (by omega)).mp q; omega), if_neg (ni_pos (by omega)), if_pos (show ni w < 17 from (ni_lt (a := w) (b := 17) (by omega) (by omega)).mpr (by omega))]
  rw [show (15 : Int32) = ni 15 from rfl, show (17 : Int32) = ni 17 from rfl, ni_mul, ni_add, ni_mul, ni_add]
  rfl
theorem day_1500 (d : Int32) : d < 1500 ↔ d ≤ 1499 := by
  rw [Int32.lt_iff_toInt_lt, Int32.le_iff_toInt_le]
  show d.toInt < 1500 ↔ d.toInt ≤ 1499
  omega
end CALLA

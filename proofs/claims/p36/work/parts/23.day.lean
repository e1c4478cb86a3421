/-! ===== the calls, one by one: what the pure functions answer ===== -/
theorem z_X10_day {K n : Nat} {h : mm_H} (c : PS h) (hn : 159 ≤ n) (l1 : Int32) : q_X10_day K h n 48 l1 = some (if l1 ≤ fI h 49 6 then (0, h) else if l1 < 1500 then (1, mm_sf h 49 6 (.int l1)) else (0, h)) := by
  unfold q_X10_day
  simp only [g_48_0 c hn, g_49_6 c hn, p_49_6 c hn, Option.bind_some]
  split
  · rfl
  · split <;> rfl
def mm_in (x lo hi : Int32) : Int32 := if x < lo then 0 else if hi < x then 0 else 1
theorem mm_in_01 (x lo hi : Int32) : mm_in x lo hi = 0 ∨ mm_in x lo hi = 1 := by
  unfold mm_in
  split
  · exact Or.inl rfl
  · split
    · exact Or.inl rfl
    · exact Or.inr rfl
theorem ckz_in (x lo hi : Int32) : ckz (mm_in x lo hi) = some () := if_pos (mm_in_01 x lo hi)
theorem z_X10_isWithin {K n : Nat} {h : mm_H} (a b c : Int32) : q_X10_isWithin K h n a b c = some (mm_in a b c) := by
  unfold q_X10_isWithin mm_in
  split
  · rfl
  · split <;> rfl
theorem z_X10_isDay {K n : Nat} {h : mm_H} (a : Int32) : q_X10_isDay K h n a = some (mm_in a 0 1499) := by
  unfold q_X10_isDay
  simp only [z_X10_isWithin, Option.bind_some, ckz_in]
theorem z_X10_isReview {K n : Nat} {h : mm_H} (a : Int32) : q_X10_isReview K h n a = some (mm_in a 0 2) := by
  unfold q_X10_isReview
  simp only [z_X10_isWithin, Option.bind_some, ckz_in]
theorem z_X10_isFirm {K n : Nat} {h : mm_H} (c : PS h) (hn : 159 ≤ n) (a : Int32) : q_X10_isFirm K h n 48 a = some (if a < 0 then 0 else if fI h 49 5 ≤ a then 0 else 1) := by
  unfold q_X10_isFirm
  simp only [g_48_0 c hn, g_49_5 c hn, Option.bind_some]
  split
  · rfl
  · split <;> rfl

/-! ===== the calls, one by one: what the pure functions answer ===== -/
theorem z_X10_day {K n : Nat} {h : mm_H} (c : PS h) (hn : 208 ≤ n) (l1 : Int32) : q_X10_day K h n 48 l1 = some (if l1 ≤ fI h 49 6 then (0, h) else if l1 < 1500 then (1, mm_sf h 49 6 (.int l1)) else (0, h)) := by
  unfold q_X10_day
  simp only [g_48_0 c hn, g_49_6 c hn, p_49_6 c hn, Option.bind_some]
  split
  · rfl
  · split <;> rfl
theorem z_X11_day {K n : Nat} {h : mm_H} (c : PS h) (hn : 208 ≤ n) (l1 : Int32) : q_X11_day K h n 159 l1 = some (if l1 ≤ fI h 159 0 then (0, h) else if l1 ≤ 1499 then (1, mm_sf h 159 0 (.int l1)) else (0, h)) := by
  unfold q_X11_day
  simp only [g_159_0 c hn, p_159_0 c hn, Option.bind_some]
  split
  · rfl
  · split <;> rfl

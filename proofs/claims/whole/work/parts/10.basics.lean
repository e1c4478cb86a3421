set_option maxRecDepth 100000 in
set_option maxHeartbeats 4000000 in
/-- least ≤ v ≤ most -/
theorem c_isWithin (G : mm_G) (l : Launch) (h : mm_H) (n : Nat) (v a b : Int32) (hn : 32 ≤ n) : Sp G l yX10_isWithin cX10_isWithin 3 (some .boolean) 0 0 0 [.int v, .int a, .int b] h n (fun v h' n' => v = some (.int (b2i (a ≤ v ∧ v ≤ b))) ∧ h' = h ∧ n' = n) := by
  refine Sp_of (by decide +kernel) (Nat.le_of_ble_eq_true rfl) (by omega) ?_
  intro w hwl C
  subst hwl
  show WW w G 3 _ _ _ 0 [some (.int v), some (.int a), some (.int b)] [] h n 0 0
  refine rr_iload_n (i := 0) C dX10_isWithin_0 rfl rfl ?_
  refine rr_iload_n (i := 1) C dX10_isWithin_1 rfl rfl ?_
  refine rr_icmp_lt (tgt := 14) C dX10_isWithin_2 (by decide) (fun c_2 => ?_) (fun c_2 => ?_)
  · refine rr_iconst (v := 0) C dX10_isWithin_14 (by decide) ?_
    refine rr_iret (ty := .boolean) C dX10_isWithin_15 rfl rfl ?_
    refine ⟨congrArg (fun x => some (Value.int x)) ?_, rfl, rfl⟩
    first | (refine (b2i_t ?_).symm; (try simp only [Int32.lt_iff_toInt_lt, Int32.le_iff_toInt_le, ← Int32.toInt_inj] at *) <;> omega) | (refine (b2i_f ?_).symm; (try simp only [Int32.lt_iff_toInt_lt, Int32.le_iff_toInt_le, ← Int32.toInt_inj] at *) <;> omega) | (refine b2i_c ?_; (try simp only [Int32.lt_iff_toInt_lt, Int32.le_iff_toInt_le, ← Int32.toInt_inj] at *) <;> omega)
  · refine rr_iload_n (i := 0) C dX10_isWithin_5 rfl rfl ?_
    refine rr_iload_n (i := 2) C dX10_isWithin_6 rfl rfl ?_
    refine rr_icmp_gt (tgt := 14) C dX10_isWithin_7 (by decide) (fun c_7 => ?_) (fun c_7 => ?_)
    · refine rr_iconst (v := 0) C dX10_isWithin_14 (by decide) ?_
      refine rr_iret (ty := .boolean) C dX10_isWithin_15 rfl rfl ?_
      refine ⟨congrArg (fun x => some (Value.int x)) ?_, rfl, rfl⟩
      first | (refine (b2i_t ?_).symm; (try simp only [Int32.lt_iff_toInt_lt, Int32.le_iff_toInt_le, ← Int32.toInt_inj] at *) <;> omega) | (refine (b2i_f ?_).symm; (try simp only [Int32.lt_iff_toInt_lt, Int32.le_iff_toInt_le, ← Int32.toInt_inj] at *) <;> omega) | (refine b2i_c ?_; (try simp only [Int32.lt_iff_toInt_lt, Int32.le_iff_toInt_le, ← Int32.toInt_inj] at *) <;> omega)
    · refine rr_iconst (v := 1) C dX10_isWithin_10 (by decide) ?_
      refine rr_goto (tgt := 15) C dX10_isWithin_11 (by decide) ?_
      refine rr_iret (ty := .boolean) C dX10_isWithin_15 rfl rfl ?_
      refine ⟨congrArg (fun x => some (Value.int x)) ?_, rfl, rfl⟩
      first | (refine (b2i_t ?_).symm; (try simp only [Int32.lt_iff_toInt_lt, Int32.le_iff_toInt_le, ← Int32.toInt_inj] at *) <;> omega) | (refine (b2i_f ?_).symm; (try simp only [Int32.lt_iff_toInt_lt, Int32.le_iff_toInt_le, ← Int32.toInt_inj] at *) <;> omega) | (refine b2i_c ?_; (try simp only [Int32.lt_iff_toInt_lt, Int32.le_iff_toInt_le, ← Int32.toInt_inj] at *) <;> omega)
set_option maxRecDepth 100000 in
set_option maxHeartbeats 4000000 in
theorem c_isDay (G : mm_G) (l : Launch) (h : mm_H) (n : Nat) (v : Int32) (hn : 32 ≤ n) : Sp G l yX10_isDay cX10_isDay 1 (some .boolean) 1 0 0 [.int v] h n (fun v h' n' => v = some (.int (b2i (0 ≤ v ∧ v ≤ 1499))) ∧ h' = h ∧ n' = n) := by
  refine Sp_of (by decide +kernel) (Nat.le_of_ble_eq_true rfl) (by omega) ?_
  intro w hwl C
  subst hwl
  show WW w G 1 _ _ _ 0 [some (.int v)] [] h n 0 0
  refine rr_iload_n (i := 0) C dX10_isDay_0 rfl rfl ?_
  refine rr_iconst (v := 0) C dX10_isDay_1 (by decide) ?_
  refine rr_sipush (v := 1499) C dX10_isDay_2 (by decide) ?_
  refine rr_callS (as := [.int v, .int 0, .int 1499]) (st := []) (mc' := 0) (ms' := 0) C dX10_isDay_5 it_X10_60 (by decide) (Nat.le_of_ble_eq_true rfl) (c_isWithin G _ (h) n v 0 1499 (by omega)) (fun v_ h_5 n_5 q_ => ?_)
  obtain ⟨e1_, e2_, e3_⟩ := q_
  subst v_; subst h_5; subst n_5
  show WW w G 1 _ _ _ 8 [some (.int v)] [.int (b2i (0 ≤ v ∧ v ≤ 1499))] h n 0 0
  refine rr_iret (ty := .boolean) C dX10_isDay_8 rfl (b2i_nar _) ?_
  exact ⟨rfl, rfl, rfl⟩
set_option maxRecDepth 100000 in
set_option maxHeartbeats 4000000 in
theorem c_isReview (G : mm_G) (l : Launch) (h : mm_H) (n : Nat) (v : Int32) (hn : 32 ≤ n) : Sp G l yX10_isReview cX10_isReview 1 (some .boolean) 1 0 0 [.int v] h n (fun v h' n' => v = some (.int (b2i (0 ≤ v ∧ v ≤ 2))) ∧ h' = h ∧ n' = n) := by
  refine Sp_of (by decide +kernel) (Nat.le_of_ble_eq_true rfl) (by omega) ?_
  intro w hwl C
  subst hwl
  show WW w G 1 _ _ _ 0 [some (.int v)] [] h n 0 0
  refine rr_iload_n (i := 0) C dX10_isReview_0 rfl rfl ?_
  refine rr_iconst (v := 0) C dX10_isReview_1 (by decide) ?_
  refine rr_iconst (v := 2) C dX10_isReview_2 (by decide) ?_
  refine rr_callS (as := [.int v, .int 0, .int 2]) (st := []) (mc' := 0) (ms' := 0) C dX10_isReview_3 it_X10_60 (by decide) (Nat.le_of_ble_eq_true rfl) (c_isWithin G _ (h) n v 0 2 (by omega)) (fun v_ h_3 n_3 q_ => ?_)
  obtain ⟨e1_, e2_, e3_⟩ := q_
  subst v_; subst h_3; subst n_3
  show WW w G 1 _ _ _ 6 [some (.int v)] [.int (b2i (0 ≤ v ∧ v ≤ 2))] h n 0 0
  refine rr_iret (ty := .boolean) C dX10_isReview_6 rfl (b2i_nar _) ?_
  exact ⟨rfl, rfl, rfl⟩
set_option maxRecDepth 100000 in
set_option maxHeartbeats 4000000 in
theorem c_isHead (G : mm_G) (l : Launch) (h : mm_H) (n : Nat) (v : Int32) (hn : 32 ≤ n) : Sp G l yX10_isHead cX10_isHead 1 (some .boolean) 1 0 0 [.int v] h n (fun v h' n' => v = some (.int (b2i (0 ≤ v ∧ v ≤ 3))) ∧ h' = h ∧ n' = n) := by
  refine Sp_of (by decide +kernel) (Nat.le_of_ble_eq_true rfl) (by omega) ?_
  intro w hwl C
  subst hwl
  show WW w G 1 _ _ _ 0 [some (.int v)] [] h n 0 0
  refine rr_iload_n (i := 0) C dX10_isHead_0 rfl rfl ?_
  refine rr_iconst (v := 0) C dX10_isHead_1 (by decide) ?_
  refine rr_iconst (v := 3) C dX10_isHead_2 (by decide) ?_
  refine rr_callS (as := [.int v, .int 0, .int 3]) (st := []) (mc' := 0) (ms' := 0) C dX10_isHead_3 it_X10_60 (by decide) (Nat.le_of_ble_eq_true rfl) (c_isWithin G _ (h) n v 0 3 (by omega)) (fun v_ h_3 n_3 q_ => ?_)
  obtain ⟨e1_, e2_, e3_⟩ := q_
  subst v_; subst h_3; subst n_3
  show WW w G 1 _ _ _ 6 [some (.int v)] [.int (b2i (0 ≤ v ∧ v ≤ 3))] h n 0 0
  refine rr_iret (ty := .boolean) C dX10_isHead_6 rfl (b2i_nar _) ?_
  exact ⟨rfl, rfl, rfl⟩
set_option maxRecDepth 100000 in
set_option maxHeartbeats 4000000 in
theorem c_isDriver (G : mm_G) (l : Launch) (h : mm_H) (n : Nat) (v : Int32) (hn : 32 ≤ n) : Sp G l yX10_isDriver cX10_isDriver 1 (some .boolean) 1 0 0 [.int v] h n (fun v h' n' => v = some (.int (b2i (0 ≤ v ∧ v ≤ 2))) ∧ h' = h ∧ n' = n) := by
  refine Sp_of (by decide +kernel) (Nat.le_of_ble_eq_true rfl) (by omega) ?_
  intro w hwl C
  subst hwl
  show WW w G 1 _ _ _ 0 [some (.int v)] [] h n 0 0
  refine rr_iload_n (i := 0) C dX10_isDriver_0 rfl rfl ?_
  refine rr_iconst (v := 0) C dX10_isDriver_1 (by decide) ?_
  refine rr_iconst (v := 2) C dX10_isDriver_2 (by decide) ?_
  refine rr_callS (as := [.int v, .int 0, .int 2]) (st := []) (mc' := 0) (ms' := 0) C dX10_isDriver_3 it_X10_60 (by decide) (Nat.le_of_ble_eq_true rfl) (c_isWithin G _ (h) n v 0 2 (by omega)) (fun v_ h_3 n_3 q_ => ?_)
  obtain ⟨e1_, e2_, e3_⟩ := q_
  subst v_; subst h_3; subst n_3
  show WW w G 1 _ _ _ 6 [some (.int v)] [.int (b2i (0 ≤ v ∧ v ≤ 2))] h n 0 0
  refine rr_iret (ty := .boolean) C dX10_isDriver_6 rfl (b2i_nar _) ?_
  exact ⟨rfl, rfl, rfl⟩

theorem il_m1 : (-1 : Int32).toInt = -1 := rfl
theorem il_m2 : (-2 : Int32).toInt = -2 := rfl
theorem il_0 : (0 : Int32).toInt = 0 := rfl
theorem il_1 : (1 : Int32).toInt = 1 := rfl
theorem il_2 : (2 : Int32).toInt = 2 := rfl
theorem il_3 : (3 : Int32).toInt = 3 := rfl
theorem il_4 : (4 : Int32).toInt = 4 := rfl
theorem il_5 : (5 : Int32).toInt = 5 := rfl
theorem il_6 : (6 : Int32).toInt = 6 := rfl
theorem il_7 : (7 : Int32).toInt = 7 := rfl
theorem il_8 : (8 : Int32).toInt = 8 := rfl
theorem il_9 : (9 : Int32).toInt = 9 := rfl
theorem il_10 : (10 : Int32).toInt = 10 := rfl
theorem il_11 : (11 : Int32).toInt = 11 := rfl
theorem il_12 : (12 : Int32).toInt = 12 := rfl
theorem il_13 : (13 : Int32).toInt = 13 := rfl
theorem il_14 : (14 : Int32).toInt = 14 := rfl
theorem il_15 : (15 : Int32).toInt = 15 := rfl
theorem il_16 : (16 : Int32).toInt = 16 := rfl
theorem il_17 : (17 : Int32).toInt = 17 := rfl
theorem il_18 : (18 : Int32).toInt = 18 := rfl
theorem il_19 : (19 : Int32).toInt = 19 := rfl
theorem il_20 : (20 : Int32).toInt = 20 := rfl
theorem il_21 : (21 : Int32).toInt = 21 := rfl
theorem il_22 : (22 : Int32).toInt = 22 := rfl
theorem il_23 : (23 : Int32).toInt = 23 := rfl
theorem il_24 : (24 : Int32).toInt = 24 := rfl
theorem il_25 : (25 : Int32).toInt = 25 := rfl
theorem il_26 : (26 : Int32).toInt = 26 := rfl
theorem il_27 : (27 : Int32).toInt = 27 := rfl
theorem il_28 : (28 : Int32).toInt = 28 := rfl
theorem il_29 : (29 : Int32).toInt = 29 := rfl
theorem il_30 : (30 : Int32).toInt = 30 := rfl
theorem il_40 : (40 : Int32).toInt = 40 := rfl
theorem il_45 : (45 : Int32).toInt = 45 := rfl
theorem il_50 : (50 : Int32).toInt = 50 := rfl
theorem il_80 : (80 : Int32).toInt = 80 := rfl
theorem il_85 : (85 : Int32).toInt = 85 := rfl
theorem il_99 : (99 : Int32).toInt = 99 := rfl
theorem il_100 : (100 : Int32).toInt = 100 := rfl
theorem il_120 : (120 : Int32).toInt = 120 := rfl
theorem il_150 : (150 : Int32).toInt = 150 := rfl
theorem il_200 : (200 : Int32).toInt = 200 := rfl
theorem il_255 : (255 : Int32).toInt = 255 := rfl
theorem il_270 : (270 : Int32).toInt = 270 := rfl
theorem il_300 : (300 : Int32).toInt = 300 := rfl
theorem il_499 : (499 : Int32).toInt = 499 := rfl
theorem il_500 : (500 : Int32).toInt = 500 := rfl
theorem il_512 : (512 : Int32).toInt = 512 := rfl
theorem il_899 : (899 : Int32).toInt = 899 := rfl
theorem il_900 : (900 : Int32).toInt = 900 := rfl
theorem il_999 : (999 : Int32).toInt = 999 := rfl
theorem il_1000 : (1000 : Int32).toInt = 1000 := rfl
theorem il_1499 : (1499 : Int32).toInt = 1499 := rfl
theorem il_1500 : (1500 : Int32).toInt = 1500 := rfl
theorem il_2805 : (2805 : Int32).toInt = 2805 := rfl
theorem il_4200 : (4200 : Int32).toInt = 4200 := rfl
theorem il_5000 : (5000 : Int32).toInt = 5000 := rfl
theorem il_9999 : (9999 : Int32).toInt = 9999 := rfl
theorem il_99999 : (99999 : Int32).toInt = 99999 := rfl
theorem il_999999 : (999999 : Int32).toInt = 999999 := rfl
set_option maxRecDepth 100000 in
set_option maxHeartbeats 4000000 in
/-- least ≤ v ≤ most -/
theorem c_isWithin (G : mm_G) (l : Launch) (h : mm_H) (n : Nat) (v a b : Int32) (hn : 32 ≤ n) : Sp G l yX10_isWithin cX10_isWithin 3 (some .boolean) 0 0 0 [.int v, .int a, .int b] h n (fun v h' n' => v = some (.int (b2i (a ≤ v ∧ v ≤ b))) ∧ h' = h ∧ n' = n) := by
  refine Sp_of (by decide +kernel) (Nat.le_of_ble_eq_true rfl) (by omega) ?_
  intro W0 hwl C
  subst hwl
  show WW W0 G 3 _ _ _ 0 [some (.int v), some (.int a), some (.int b)] [] h n 0 0
  refine rr_iload_n (i := 0) C dX10_isWithin_0 rfl rfl ?_
  refine rr_iload_n (i := 1) C dX10_isWithin_1 rfl rfl ?_
  refine rr_icmp_lt (tgt := 14) C dX10_isWithin_2 (by decide) (fun c_2 => ?_) (fun c_2 => ?_)
  · refine rr_iconst (v := 0) C dX10_isWithin_14 (by decide) ?_
    refine rr_iret (ty := .boolean) C dX10_isWithin_15 rfl rfl ?_
    refine ⟨congrArg (fun x => some (Value.int x)) ?_, rfl, rfl⟩
    first | (refine (b2i_t ?_).symm; ((try simp only [Int32.lt_iff_toInt_lt, Int32.le_iff_toInt_le, ← Int32.toInt_inj, il_m1, il_m2, il_0, il_1, il_2, il_3, il_4, il_5, il_6, il_7, il_8, il_9, il_10, il_11, il_12, il_13, il_14, il_15, il_16, il_17, il_18, il_19, il_20, il_21, il_22, il_23, il_24, il_25, il_26, il_27, il_28, il_29, il_30, il_40, il_45, il_50, il_80, il_85, il_99, il_100, il_120, il_150, il_200, il_255, il_270, il_300, il_499, il_500, il_512, il_899, il_900, il_999, il_1000, il_1499, il_1500, il_2805, il_4200, il_5000, il_9999, il_99999, il_999999] at *) <;> omega)) | (refine (b2i_f ?_).symm; ((try simp only [Int32.lt_iff_toInt_lt, Int32.le_iff_toInt_le, ← Int32.toInt_inj, il_m1, il_m2, il_0, il_1, il_2, il_3, il_4, il_5, il_6, il_7, il_8, il_9, il_10, il_11, il_12, il_13, il_14, il_15, il_16, il_17, il_18, il_19, il_20, il_21, il_22, il_23, il_24, il_25, il_26, il_27, il_28, il_29, il_30, il_40, il_45, il_50, il_80, il_85, il_99, il_100, il_120, il_150, il_200, il_255, il_270, il_300, il_499, il_500, il_512, il_899, il_900, il_999, il_1000, il_1499, il_1500, il_2805, il_4200, il_5000, il_9999, il_99999, il_999999] at *) <;> omega)) | (refine b2i_c ?_; ((try simp only [Int32.lt_iff_toInt_lt, Int32.le_iff_toInt_le, ← Int32.toInt_inj, il_m1, il_m2, il_0, il_1, il_2, il_3, il_4, il_5, il_6, il_7, il_8, il_9, il_10, il_11, il_12, il_13, il_14, il_15, il_16, il_17, il_18, il_19, il_20, il_21, il_22, il_23, il_24, il_25, il_26, il_27, il_28, il_29, il_30, il_40, il_45, il_50, il_80, il_85, il_99, il_100, il_120, il_150, il_200, il_255, il_270, il_300, il_499, il_500, il_512, il_899, il_900, il_999, il_1000, il_1499, il_1500, il_2805, il_4200, il_5000, il_9999, il_99999, il_999999] at *) <;> omega))
  · refine rr_iload_n (i := 0) C dX10_isWithin_5 rfl rfl ?_
    refine rr_iload_n (i := 2) C dX10_isWithin_6 rfl rfl ?_
    refine rr_icmp_gt (tgt := 14) C dX10_isWithin_7 (by decide) (fun c_7 => ?_) (fun c_7 => ?_)
    · refine rr_iconst (v := 0) C dX10_isWithin_14 (by decide) ?_
      refine rr_iret (ty := .boolean) C dX10_isWithin_15 rfl rfl ?_
      refine ⟨congrArg (fun x => some (Value.int x)) ?_, rfl, rfl⟩
      first | (refine (b2i_t ?_).symm; ((try simp only [Int32.lt_iff_toInt_lt, Int32.le_iff_toInt_le, ← Int32.toInt_inj, il_m1, il_m2, il_0, il_1, il_2, il_3, il_4, il_5, il_6, il_7, il_8, il_9, il_10, il_11, il_12, il_13, il_14, il_15, il_16, il_17, il_18, il_19, il_20, il_21, il_22, il_23, il_24, il_25, il_26, il_27, il_28, il_29, il_30, il_40, il_45, il_50, il_80, il_85, il_99, il_100, il_120, il_150, il_200, il_255, il_270, il_300, il_499, il_500, il_512, il_899, il_900, il_999, il_1000, il_1499, il_1500, il_2805, il_4200, il_5000, il_9999, il_99999, il_999999] at *) <;> omega)) | (refine (b2i_f ?_).symm; ((try simp only [Int32.lt_iff_toInt_lt, Int32.le_iff_toInt_le, ← Int32.toInt_inj, il_m1, il_m2, il_0, il_1, il_2, il_3, il_4, il_5, il_6, il_7, il_8, il_9, il_10, il_11, il_12, il_13, il_14, il_15, il_16, il_17, il_18, il_19, il_20, il_21, il_22, il_23, il_24, il_25, il_26, il_27, il_28, il_29, il_30, il_40, il_45, il_50, il_80, il_85, il_99, il_100, il_120, il_150, il_200, il_255, il_270, il_300, il_499, il_500, il_512, il_899, il_900, il_999, il_1000, il_1499, il_1500, il_2805, il_4200, il_5000, il_9999, il_99999, il_999999] at *) <;> omega)) | (refine b2i_c ?_; ((try simp only [Int32.lt_iff_toInt_lt, Int32.le_iff_toInt_le, ← Int32.toInt_inj, il_m1, il_m2, il_0, il_1, il_2, il_3, il_4, il_5, il_6, il_7, il_8, il_9, il_10, il_11, il_12, il_13, il_14, il_15, il_16, il_17, il_18, il_19, il_20, il_21, il_22, il_23, il_24, il_25, il_26, il_27, il_28, il_29, il_30, il_40, il_45, il_50, il_80, il_85, il_99, il_100, il_120, il_150, il_200, il_255, il_270, il_300, il_499, il_500, il_512, il_899, il_900, il_999, il_1000, il_1499, il_1500, il_2805, il_4200, il_5000, il_9999, il_99999, il_999999] at *) <;> omega))
    · refine rr_iconst (v := 1) C dX10_isWithin_10 (by decide) ?_
      refine rr_goto (tgt := 15) C dX10_isWithin_11 (by decide) ?_
      refine rr_iret (ty := .boolean) C dX10_isWithin_15 rfl rfl ?_
      refine ⟨congrArg (fun x => some (Value.int x)) ?_, rfl, rfl⟩
      first | (refine (b2i_t ?_).symm; ((try simp only [Int32.lt_iff_toInt_lt, Int32.le_iff_toInt_le, ← Int32.toInt_inj, il_m1, il_m2, il_0, il_1, il_2, il_3, il_4, il_5, il_6, il_7, il_8, il_9, il_10, il_11, il_12, il_13, il_14, il_15, il_16, il_17, il_18, il_19, il_20, il_21, il_22, il_23, il_24, il_25, il_26, il_27, il_28, il_29, il_30, il_40, il_45, il_50, il_80, il_85, il_99, il_100, il_120, il_150, il_200, il_255, il_270, il_300, il_499, il_500, il_512, il_899, il_900, il_999, il_1000, il_1499, il_1500, il_2805, il_4200, il_5000, il_9999, il_99999, il_999999] at *) <;> omega)) | (refine (b2i_f ?_).symm; ((try simp only [Int32.lt_iff_toInt_lt, Int32.le_iff_toInt_le, ← Int32.toInt_inj, il_m1, il_m2, il_0, il_1, il_2, il_3, il_4, il_5, il_6, il_7, il_8, il_9, il_10, il_11, il_12, il_13, il_14, il_15, il_16, il_17, il_18, il_19, il_20, il_21, il_22, il_23, il_24, il_25, il_26, il_27, il_28, il_29, il_30, il_40, il_45, il_50, il_80, il_85, il_99, il_100, il_120, il_150, il_200, il_255, il_270, il_300, il_499, il_500, il_512, il_899, il_900, il_999, il_1000, il_1499, il_1500, il_2805, il_4200, il_5000, il_9999, il_99999, il_999999] at *) <;> omega)) | (refine b2i_c ?_; ((try simp only [Int32.lt_iff_toInt_lt, Int32.le_iff_toInt_le, ← Int32.toInt_inj, il_m1, il_m2, il_0, il_1, il_2, il_3, il_4, il_5, il_6, il_7, il_8, il_9, il_10, il_11, il_12, il_13, il_14, il_15, il_16, il_17, il_18, il_19, il_20, il_21, il_22, il_23, il_24, il_25, il_26, il_27, il_28, il_29, il_30, il_40, il_45, il_50, il_80, il_85, il_99, il_100, il_120, il_150, il_200, il_255, il_270, il_300, il_499, il_500, il_512, il_899, il_900, il_999, il_1000, il_1499, il_1500, il_2805, il_4200, il_5000, il_9999, il_99999, il_999999] at *) <;> omega))
set_option maxRecDepth 100000 in
set_option maxHeartbeats 4000000 in
theorem c_isDay (G : mm_G) (l : Launch) (h : mm_H) (n : Nat) (v : Int32) (hn : 32 ≤ n) : Sp G l yX10_isDay cX10_isDay 1 (some .boolean) 1 0 0 [.int v] h n (fun v h' n' => v = some (.int (b2i (0 ≤ v ∧ v ≤ 1499))) ∧ h' = h ∧ n' = n) := by
  refine Sp_of (by decide +kernel) (Nat.le_of_ble_eq_true rfl) (by omega) ?_
  intro W0 hwl C
  subst hwl
  show WW W0 G 1 _ _ _ 0 [some (.int v)] [] h n 0 0
  refine rr_iload_n (i := 0) C dX10_isDay_0 rfl rfl ?_
  refine rr_iconst (v := 0) C dX10_isDay_1 (by decide) ?_
  refine rr_sipush (v := 1499) C dX10_isDay_2 (by decide) ?_
  refine rr_callS (as := [.int v, .int 0, .int 1499]) (st := []) (mc' := 0) (ms' := 0) C dX10_isDay_5 it_X10_60 (by decide) (Nat.le_of_ble_eq_true rfl) (c_isWithin G _ h n v 0 1499 (by omega)) (fun v_ h_5 n_5 q_ => ?_)
  obtain ⟨e1_, e2_, e3_⟩ := q_
  subst v_; subst h_5; subst n_5
  show WW W0 G 1 _ _ _ 8 [some (.int v)] [.int (b2i (0 ≤ v ∧ v ≤ 1499))] h n 0 0
  refine rr_iret (ty := .boolean) C dX10_isDay_8 rfl (b2i_nar _) ?_
  exact ⟨rfl, rfl, rfl⟩
set_option maxRecDepth 100000 in
set_option maxHeartbeats 4000000 in
theorem c_isReview (G : mm_G) (l : Launch) (h : mm_H) (n : Nat) (v : Int32) (hn : 32 ≤ n) : Sp G l yX10_isReview cX10_isReview 1 (some .boolean) 1 0 0 [.int v] h n (fun v h' n' => v = some (.int (b2i (0 ≤ v ∧ v ≤ 2))) ∧ h' = h ∧ n' = n) := by
  refine Sp_of (by decide +kernel) (Nat.le_of_ble_eq_true rfl) (by omega) ?_
  intro W0 hwl C
  subst hwl
  show WW W0 G 1 _ _ _ 0 [some (.int v)] [] h n 0 0
  refine rr_iload_n (i := 0) C dX10_isReview_0 rfl rfl ?_
  refine rr_iconst (v := 0) C dX10_isReview_1 (by decide) ?_
  refine rr_iconst (v := 2) C dX10_isReview_2 (by decide) ?_
  refine rr_callS (as := [.int v, .int 0, .int 2]) (st := []) (mc' := 0) (ms' := 0) C dX10_isReview_3 it_X10_60 (by decide) (Nat.le_of_ble_eq_true rfl) (c_isWithin G _ h n v 0 2 (by omega)) (fun v_ h_3 n_3 q_ => ?_)
  obtain ⟨e1_, e2_, e3_⟩ := q_
  subst v_; subst h_3; subst n_3
  show WW W0 G 1 _ _ _ 6 [some (.int v)] [.int (b2i (0 ≤ v ∧ v ≤ 2))] h n 0 0
  refine rr_iret (ty := .boolean) C dX10_isReview_6 rfl (b2i_nar _) ?_
  exact ⟨rfl, rfl, rfl⟩
set_option maxRecDepth 100000 in
set_option maxHeartbeats 4000000 in
theorem c_isHead (G : mm_G) (l : Launch) (h : mm_H) (n : Nat) (v : Int32) (hn : 32 ≤ n) : Sp G l yX10_isHead cX10_isHead 1 (some .boolean) 1 0 0 [.int v] h n (fun v h' n' => v = some (.int (b2i (0 ≤ v ∧ v ≤ 3))) ∧ h' = h ∧ n' = n) := by
  refine Sp_of (by decide +kernel) (Nat.le_of_ble_eq_true rfl) (by omega) ?_
  intro W0 hwl C
  subst hwl
  show WW W0 G 1 _ _ _ 0 [some (.int v)] [] h n 0 0
  refine rr_iload_n (i := 0) C dX10_isHead_0 rfl rfl ?_
  refine rr_iconst (v := 0) C dX10_isHead_1 (by decide) ?_
  refine rr_iconst (v := 3) C dX10_isHead_2 (by decide) ?_
  refine rr_callS (as := [.int v, .int 0, .int 3]) (st := []) (mc' := 0) (ms' := 0) C dX10_isHead_3 it_X10_60 (by decide) (Nat.le_of_ble_eq_true rfl) (c_isWithin G _ h n v 0 3 (by omega)) (fun v_ h_3 n_3 q_ => ?_)
  obtain ⟨e1_, e2_, e3_⟩ := q_
  subst v_; subst h_3; subst n_3
  show WW W0 G 1 _ _ _ 6 [some (.int v)] [.int (b2i (0 ≤ v ∧ v ≤ 3))] h n 0 0
  refine rr_iret (ty := .boolean) C dX10_isHead_6 rfl (b2i_nar _) ?_
  exact ⟨rfl, rfl, rfl⟩
set_option maxRecDepth 100000 in
set_option maxHeartbeats 4000000 in
theorem c_isDriver (G : mm_G) (l : Launch) (h : mm_H) (n : Nat) (v : Int32) (hn : 32 ≤ n) : Sp G l yX10_isDriver cX10_isDriver 1 (some .boolean) 1 0 0 [.int v] h n (fun v h' n' => v = some (.int (b2i (0 ≤ v ∧ v ≤ 2))) ∧ h' = h ∧ n' = n) := by
  refine Sp_of (by decide +kernel) (Nat.le_of_ble_eq_true rfl) (by omega) ?_
  intro W0 hwl C
  subst hwl
  show WW W0 G 1 _ _ _ 0 [some (.int v)] [] h n 0 0
  refine rr_iload_n (i := 0) C dX10_isDriver_0 rfl rfl ?_
  refine rr_iconst (v := 0) C dX10_isDriver_1 (by decide) ?_
  refine rr_iconst (v := 2) C dX10_isDriver_2 (by decide) ?_
  refine rr_callS (as := [.int v, .int 0, .int 2]) (st := []) (mc' := 0) (ms' := 0) C dX10_isDriver_3 it_X10_60 (by decide) (Nat.le_of_ble_eq_true rfl) (c_isWithin G _ h n v 0 2 (by omega)) (fun v_ h_3 n_3 q_ => ?_)
  obtain ⟨e1_, e2_, e3_⟩ := q_
  subst v_; subst h_3; subst n_3
  show WW W0 G 1 _ _ _ 6 [some (.int v)] [.int (b2i (0 ≤ v ∧ v ≤ 2))] h n 0 0
  refine rr_iret (ty := .boolean) C dX10_isDriver_6 rfl (b2i_nar _) ?_
  exact ⟨rfl, rfl, rfl⟩
set_option maxRecDepth 100000 in
set_option maxHeartbeats 4000000 in
theorem m_isIn (G : mm_G) (l : Launch) (h : mm_H) (n : Nat) (v a b : Int32) (hn : 32 ≤ n) : Sp G l yX11_isIn cX11_isIn 3 (some .boolean) 0 0 0 [.int v, .int a, .int b] h n (fun v h' n' => v = some (.int (b2i (a ≤ v ∧ v ≤ b))) ∧ h' = h ∧ n' = n) := by
  refine Sp_of (by decide +kernel) (Nat.le_of_ble_eq_true rfl) (by omega) ?_
  intro W0 hwl C
  subst hwl
  show WW W0 G 3 _ _ _ 0 [some (.int v), some (.int a), some (.int b)] [] h n 0 0
  refine rr_iload_n (i := 0) C dX11_isIn_0 rfl rfl ?_
  refine rr_iload_n (i := 1) C dX11_isIn_1 rfl rfl ?_
  refine rr_icmp_lt (tgt := 14) C dX11_isIn_2 (by decide) (fun c_2 => ?_) (fun c_2 => ?_)
  · refine rr_iconst (v := 0) C dX11_isIn_14 (by decide) ?_
    refine rr_iret (ty := .boolean) C dX11_isIn_15 rfl rfl ?_
    refine ⟨congrArg (fun x => some (Value.int x)) ?_, rfl, rfl⟩
    first | (refine (b2i_t ?_).symm; ((try simp only [Int32.lt_iff_toInt_lt, Int32.le_iff_toInt_le, ← Int32.toInt_inj, il_m1, il_m2, il_0, il_1, il_2, il_3, il_4, il_5, il_6, il_7, il_8, il_9, il_10, il_11, il_12, il_13, il_14, il_15, il_16, il_17, il_18, il_19, il_20, il_21, il_22, il_23, il_24, il_25, il_26, il_27, il_28, il_29, il_30, il_40, il_45, il_50, il_80, il_85, il_99, il_100, il_120, il_150, il_200, il_255, il_270, il_300, il_499, il_500, il_512, il_899, il_900, il_999, il_1000, il_1499, il_1500, il_2805, il_4200, il_5000, il_9999, il_99999, il_999999] at *) <;> omega)) | (refine (b2i_f ?_).symm; ((try simp only [Int32.lt_iff_toInt_lt, Int32.le_iff_toInt_le, ← Int32.toInt_inj, il_m1, il_m2, il_0, il_1, il_2, il_3, il_4, il_5, il_6, il_7, il_8, il_9, il_10, il_11, il_12, il_13, il_14, il_15, il_16, il_17, il_18, il_19, il_20, il_21, il_22, il_23, il_24, il_25, il_26, il_27, il_28, il_29, il_30, il_40, il_45, il_50, il_80, il_85, il_99, il_100, il_120, il_150, il_200, il_255, il_270, il_300, il_499, il_500, il_512, il_899, il_900, il_999, il_1000, il_1499, il_1500, il_2805, il_4200, il_5000, il_9999, il_99999, il_999999] at *) <;> omega)) | (refine b2i_c ?_; ((try simp only [Int32.lt_iff_toInt_lt, Int32.le_iff_toInt_le, ← Int32.toInt_inj, il_m1, il_m2, il_0, il_1, il_2, il_3, il_4, il_5, il_6, il_7, il_8, il_9, il_10, il_11, il_12, il_13, il_14, il_15, il_16, il_17, il_18, il_19, il_20, il_21, il_22, il_23, il_24, il_25, il_26, il_27, il_28, il_29, il_30, il_40, il_45, il_50, il_80, il_85, il_99, il_100, il_120, il_150, il_200, il_255, il_270, il_300, il_499, il_500, il_512, il_899, il_900, il_999, il_1000, il_1499, il_1500, il_2805, il_4200, il_5000, il_9999, il_99999, il_999999] at *) <;> omega))
  · refine rr_iload_n (i := 0) C dX11_isIn_5 rfl rfl ?_
    refine rr_iload_n (i := 2) C dX11_isIn_6 rfl rfl ?_
    refine rr_icmp_gt (tgt := 14) C dX11_isIn_7 (by decide) (fun c_7 => ?_) (fun c_7 => ?_)
    · refine rr_iconst (v := 0) C dX11_isIn_14 (by decide) ?_
      refine rr_iret (ty := .boolean) C dX11_isIn_15 rfl rfl ?_
      refine ⟨congrArg (fun x => some (Value.int x)) ?_, rfl, rfl⟩
      first | (refine (b2i_t ?_).symm; ((try simp only [Int32.lt_iff_toInt_lt, Int32.le_iff_toInt_le, ← Int32.toInt_inj, il_m1, il_m2, il_0, il_1, il_2, il_3, il_4, il_5, il_6, il_7, il_8, il_9, il_10, il_11, il_12, il_13, il_14, il_15, il_16, il_17, il_18, il_19, il_20, il_21, il_22, il_23, il_24, il_25, il_26, il_27, il_28, il_29, il_30, il_40, il_45, il_50, il_80, il_85, il_99, il_100, il_120, il_150, il_200, il_255, il_270, il_300, il_499, il_500, il_512, il_899, il_900, il_999, il_1000, il_1499, il_1500, il_2805, il_4200, il_5000, il_9999, il_99999, il_999999] at *) <;> omega)) | (refine (b2i_f ?_).symm; ((try simp only [Int32.lt_iff_toInt_lt, Int32.le_iff_toInt_le, ← Int32.toInt_inj, il_m1, il_m2, il_0, il_1, il_2, il_3, il_4, il_5, il_6, il_7, il_8, il_9, il_10, il_11, il_12, il_13, il_14, il_15, il_16, il_17, il_18, il_19, il_20, il_21, il_22, il_23, il_24, il_25, il_26, il_27, il_28, il_29, il_30, il_40, il_45, il_50, il_80, il_85, il_99, il_100, il_120, il_150, il_200, il_255, il_270, il_300, il_499, il_500, il_512, il_899, il_900, il_999, il_1000, il_1499, il_1500, il_2805, il_4200, il_5000, il_9999, il_99999, il_999999] at *) <;> omega)) | (refine b2i_c ?_; ((try simp only [Int32.lt_iff_toInt_lt, Int32.le_iff_toInt_le, ← Int32.toInt_inj, il_m1, il_m2, il_0, il_1, il_2, il_3, il_4, il_5, il_6, il_7, il_8, il_9, il_10, il_11, il_12, il_13, il_14, il_15, il_16, il_17, il_18, il_19, il_20, il_21, il_22, il_23, il_24, il_25, il_26, il_27, il_28, il_29, il_30, il_40, il_45, il_50, il_80, il_85, il_99, il_100, il_120, il_150, il_200, il_255, il_270, il_300, il_499, il_500, il_512, il_899, il_900, il_999, il_1000, il_1499, il_1500, il_2805, il_4200, il_5000, il_9999, il_99999, il_999999] at *) <;> omega))
    · refine rr_iconst (v := 1) C dX11_isIn_10 (by decide) ?_
      refine rr_goto (tgt := 15) C dX11_isIn_11 (by decide) ?_
      refine rr_iret (ty := .boolean) C dX11_isIn_15 rfl rfl ?_
      refine ⟨congrArg (fun x => some (Value.int x)) ?_, rfl, rfl⟩
      first | (refine (b2i_t ?_).symm; ((try simp only [Int32.lt_iff_toInt_lt, Int32.le_iff_toInt_le, ← Int32.toInt_inj, il_m1, il_m2, il_0, il_1, il_2, il_3, il_4, il_5, il_6, il_7, il_8, il_9, il_10, il_11, il_12, il_13, il_14, il_15, il_16, il_17, il_18, il_19, il_20, il_21, il_22, il_23, il_24, il_25, il_26, il_27, il_28, il_29, il_30, il_40, il_45, il_50, il_80, il_85, il_99, il_100, il_120, il_150, il_200, il_255, il_270, il_300, il_499, il_500, il_512, il_899, il_900, il_999, il_1000, il_1499, il_1500, il_2805, il_4200, il_5000, il_9999, il_99999, il_999999] at *) <;> omega)) | (refine (b2i_f ?_).symm; ((try simp only [Int32.lt_iff_toInt_lt, Int32.le_iff_toInt_le, ← Int32.toInt_inj, il_m1, il_m2, il_0, il_1, il_2, il_3, il_4, il_5, il_6, il_7, il_8, il_9, il_10, il_11, il_12, il_13, il_14, il_15, il_16, il_17, il_18, il_19, il_20, il_21, il_22, il_23, il_24, il_25, il_26, il_27, il_28, il_29, il_30, il_40, il_45, il_50, il_80, il_85, il_99, il_100, il_120, il_150, il_200, il_255, il_270, il_300, il_499, il_500, il_512, il_899, il_900, il_999, il_1000, il_1499, il_1500, il_2805, il_4200, il_5000, il_9999, il_99999, il_999999] at *) <;> omega)) | (refine b2i_c ?_; ((try simp only [Int32.lt_iff_toInt_lt, Int32.le_iff_toInt_le, ← Int32.toInt_inj, il_m1, il_m2, il_0, il_1, il_2, il_3, il_4, il_5, il_6, il_7, il_8, il_9, il_10, il_11, il_12, il_13, il_14, il_15, il_16, il_17, il_18, il_19, il_20, il_21, il_22, il_23, il_24, il_25, il_26, il_27, il_28, il_29, il_30, il_40, il_45, il_50, il_80, il_85, il_99, il_100, il_120, il_150, il_200, il_255, il_270, il_300, il_499, il_500, il_512, il_899, il_900, il_999, il_1000, il_1499, il_1500, il_2805, il_4200, il_5000, il_9999, il_99999, il_999999] at *) <;> omega))
set_option maxRecDepth 100000 in
set_option maxHeartbeats 4000000 in
theorem m_isDay (G : mm_G) (l : Launch) (h : mm_H) (n : Nat) (v : Int32) (hn : 32 ≤ n) : Sp G l yX11_isDay cX11_isDay 1 (some .boolean) 1 0 0 [.int v] h n (fun v h' n' => v = some (.int (b2i (0 ≤ v ∧ v ≤ 1499))) ∧ h' = h ∧ n' = n) := by
  refine Sp_of (by decide +kernel) (Nat.le_of_ble_eq_true rfl) (by omega) ?_
  intro W0 hwl C
  subst hwl
  show WW W0 G 1 _ _ _ 0 [some (.int v)] [] h n 0 0
  refine rr_iload_n (i := 0) C dX11_isDay_0 rfl rfl ?_
  refine rr_iconst (v := 0) C dX11_isDay_1 (by decide) ?_
  refine rr_sipush (v := 1499) C dX11_isDay_2 (by decide) ?_
  refine rr_callS (as := [.int v, .int 0, .int 1499]) (st := []) (mc' := 0) (ms' := 0) C dX11_isDay_5 it_X11_165 (by decide) (Nat.le_of_ble_eq_true rfl) (m_isIn G _ h n v 0 1499 (by omega)) (fun v_ h_5 n_5 q_ => ?_)
  obtain ⟨e1_, e2_, e3_⟩ := q_
  subst v_; subst h_5; subst n_5
  show WW W0 G 1 _ _ _ 8 [some (.int v)] [.int (b2i (0 ≤ v ∧ v ≤ 1499))] h n 0 0
  refine rr_iret (ty := .boolean) C dX11_isDay_8 rfl (b2i_nar _) ?_
  exact ⟨rfl, rfl, rfl⟩
set_option maxRecDepth 100000 in
set_option maxHeartbeats 4000000 in
theorem m_isYear (G : mm_G) (l : Launch) (h : mm_H) (n : Nat) (v : Int32) (hn : 32 ≤ n) : Sp G l yX11_isYear cX11_isYear 1 (some .boolean) 1 0 0 [.int v] h n (fun v h' n' => v = some (.int (b2i (0 ≤ v ∧ v ≤ 14))) ∧ h' = h ∧ n' = n) := by
  refine Sp_of (by decide +kernel) (Nat.le_of_ble_eq_true rfl) (by omega) ?_
  intro W0 hwl C
  subst hwl
  show WW W0 G 1 _ _ _ 0 [some (.int v)] [] h n 0 0
  refine rr_iload_n (i := 0) C dX11_isYear_0 rfl rfl ?_
  refine rr_iconst (v := 0) C dX11_isYear_1 (by decide) ?_
  refine rr_bipush (v := 14) C dX11_isYear_2 (by decide) ?_
  refine rr_callS (as := [.int v, .int 0, .int 14]) (st := []) (mc' := 0) (ms' := 0) C dX11_isYear_4 it_X11_165 (by decide) (Nat.le_of_ble_eq_true rfl) (m_isIn G _ h n v 0 14 (by omega)) (fun v_ h_4 n_4 q_ => ?_)
  obtain ⟨e1_, e2_, e3_⟩ := q_
  subst v_; subst h_4; subst n_4
  show WW W0 G 1 _ _ _ 7 [some (.int v)] [.int (b2i (0 ≤ v ∧ v ≤ 14))] h n 0 0
  refine rr_iret (ty := .boolean) C dX11_isYear_7 rfl (b2i_nar _) ?_
  exact ⟨rfl, rfl, rfl⟩
set_option maxRecDepth 100000 in
set_option maxHeartbeats 4000000 in
theorem m_isReview (G : mm_G) (l : Launch) (h : mm_H) (n : Nat) (v : Int32) (hn : 32 ≤ n) : Sp G l yX11_isReview cX11_isReview 1 (some .boolean) 1 0 0 [.int v] h n (fun v h' n' => v = some (.int (b2i (0 ≤ v ∧ v ≤ 2))) ∧ h' = h ∧ n' = n) := by
  refine Sp_of (by decide +kernel) (Nat.le_of_ble_eq_true rfl) (by omega) ?_
  intro W0 hwl C
  subst hwl
  show WW W0 G 1 _ _ _ 0 [some (.int v)] [] h n 0 0
  refine rr_iload_n (i := 0) C dX11_isReview_0 rfl rfl ?_
  refine rr_iconst (v := 0) C dX11_isReview_1 (by decide) ?_
  refine rr_iconst (v := 2) C dX11_isReview_2 (by decide) ?_
  refine rr_callS (as := [.int v, .int 0, .int 2]) (st := []) (mc' := 0) (ms' := 0) C dX11_isReview_3 it_X11_165 (by decide) (Nat.le_of_ble_eq_true rfl) (m_isIn G _ h n v 0 2 (by omega)) (fun v_ h_3 n_3 q_ => ?_)
  obtain ⟨e1_, e2_, e3_⟩ := q_
  subst v_; subst h_3; subst n_3
  show WW W0 G 1 _ _ _ 6 [some (.int v)] [.int (b2i (0 ≤ v ∧ v ≤ 2))] h n 0 0
  refine rr_iret (ty := .boolean) C dX11_isReview_6 rfl (b2i_nar _) ?_
  exact ⟨rfl, rfl, rfl⟩
set_option maxRecDepth 100000 in
set_option maxHeartbeats 4000000 in
theorem m_isHead (G : mm_G) (l : Launch) (h : mm_H) (n : Nat) (v : Int32) (hn : 32 ≤ n) : Sp G l yX11_isHead cX11_isHead 1 (some .boolean) 1 0 0 [.int v] h n (fun v h' n' => v = some (.int (b2i (0 ≤ v ∧ v ≤ 3))) ∧ h' = h ∧ n' = n) := by
  refine Sp_of (by decide +kernel) (Nat.le_of_ble_eq_true rfl) (by omega) ?_
  intro W0 hwl C
  subst hwl
  show WW W0 G 1 _ _ _ 0 [some (.int v)] [] h n 0 0
  refine rr_iload_n (i := 0) C dX11_isHead_0 rfl rfl ?_
  refine rr_iconst (v := 0) C dX11_isHead_1 (by decide) ?_
  refine rr_iconst (v := 3) C dX11_isHead_2 (by decide) ?_
  refine rr_callS (as := [.int v, .int 0, .int 3]) (st := []) (mc' := 0) (ms' := 0) C dX11_isHead_3 it_X11_165 (by decide) (Nat.le_of_ble_eq_true rfl) (m_isIn G _ h n v 0 3 (by omega)) (fun v_ h_3 n_3 q_ => ?_)
  obtain ⟨e1_, e2_, e3_⟩ := q_
  subst v_; subst h_3; subst n_3
  show WW W0 G 1 _ _ _ 6 [some (.int v)] [.int (b2i (0 ≤ v ∧ v ≤ 3))] h n 0 0
  refine rr_iret (ty := .boolean) C dX11_isHead_6 rfl (b2i_nar _) ?_
  exact ⟨rfl, rfl, rfl⟩

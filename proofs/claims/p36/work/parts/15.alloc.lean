def q_X0_init (K : Nat) (h : mm_H) (n : Nat) (l0 : Nat) : Option (mm_H × Nat) :=
  (newI h n .int 500 500).bind fun h1 =>
  (wrF h1 (n + 1) l0 0 0 (.ref n)).bind fun h3 =>
  (newI h3 (n + 1) .int 500 500).bind fun h5 =>
  (wrF h5 (n + 2) l0 0 1 (.ref (n + 1))).bind fun h7 =>
  (newI h7 (n + 2) .int 500 500).bind fun h9 =>
  (wrF h9 (n + 3) l0 0 2 (.ref (n + 2))).bind fun h11 =>
  (newI h11 (n + 3) .int 2805 2805).bind fun h13 =>
  (wrF h13 (n + 4) l0 0 3 (.ref (n + 3))).bind fun h15 =>
  (rdR h15 (n + 4) l0 0 3).bind fun v17 =>
  (q_J7_fill_53178 K h15 (n + 4) v17 (-1)).bind fun v19 =>
  some (v19, n + 4)
set_option maxRecDepth 100000 in
set_option maxHeartbeats 4000000 in
theorem c_X0_init {K : Nat} {G : mm_G} {l : Launch} {h : mm_H} {n : Nat} (l0 : Nat) {r_ : mm_H × Nat} (hn : 48 ≤ n) (hr : q_X0_init K h n l0 = some r_) : Sp G l yX0_init cX0_init 1 none 1 4 4305 [.ref l0] h n (fun v h' n' => v = none ∧ h' = r_.1 ∧ n' = r_.2 ∧ n ≤ n') := by
  refine Sp_of (by decide +kernel) (Nat.le_of_ble_eq_true rfl) hn ?_
  intro W0 hwl C
  subst hwl
  unfold q_X0_init at hr
  show WW W0 G 1 4 4305 _ 0 [some (.ref l0)] [] h n 4 4305
  refine rr_aload_n (i := 0) C dX0_init_0 rfl rfl ?_
  refine rr_obj C dX0_init_1 oi_X0 (by decide) (Nat.le_of_ble_eq_true rfl) ?_
  refine rr_aload_n (i := 0) C dX0_init_4 rfl rfl ?_
  refine rr_sipush (v := 500) C dX0_init_5 (by decide) ?_
  refine rr_cut C (kc' := 3 + 1) (ks' := 3805 + 500) (by omega) (by omega) ?_
  replace hr := Option.bind_eq_some_iff.mp hr
  obtain ⟨h1, e2, hr⟩ := hr
  refine rr_newIq C dX0_init_8 (t0 := 0) rfl rfl (by decide) rfl ac_int (N := 500) (by decide) e2 ?_
  show WW W0 G 1 _ _ _ 10 [some (.ref l0)] [.ref n, .ref l0] h1 (n + 1) _ _
  replace hr := Option.bind_eq_some_iff.mp hr
  obtain ⟨h3, e4, hr⟩ := hr
  refine rr_wrFF C dX0_init_10 fp_X0_9 rfl rfl e4 ?_
  refine rr_aload_n (i := 0) C dX0_init_13 rfl rfl ?_
  refine rr_sipush (v := 500) C dX0_init_14 (by decide) ?_
  refine rr_cut C (kc' := 2 + 1) (ks' := 3305 + 500) (by omega) (by omega) ?_
  replace hr := Option.bind_eq_some_iff.mp hr
  obtain ⟨h5, e6, hr⟩ := hr
  refine rr_newIq C dX0_init_17 (t0 := 0) rfl rfl (by decide) rfl ac_int (N := 500) (by decide) e6 ?_
  show WW W0 G 1 _ _ _ 19 [some (.ref l0)] [.ref (n + 1), .ref l0] h5 (n + 2) _ _
  replace hr := Option.bind_eq_some_iff.mp hr
  obtain ⟨h7, e8, hr⟩ := hr
  refine rr_wrFF C dX0_init_19 fp_X0_15 rfl rfl e8 ?_
  refine rr_aload_n (i := 0) C dX0_init_22 rfl rfl ?_
  refine rr_sipush (v := 500) C dX0_init_23 (by decide) ?_
  refine rr_cut C (kc' := 1 + 1) (ks' := 2805 + 500) (by omega) (by omega) ?_
  replace hr := Option.bind_eq_some_iff.mp hr
  obtain ⟨h9, e10, hr⟩ := hr
  refine rr_newIq C dX0_init_26 (t0 := 0) rfl rfl (by decide) rfl ac_int (N := 500) (by decide) e10 ?_
  show WW W0 G 1 _ _ _ 28 [some (.ref l0)] [.ref (n + 2), .ref l0] h9 (n + 3) _ _
  replace hr := Option.bind_eq_some_iff.mp hr
  obtain ⟨h11, e12, hr⟩ := hr
  refine rr_wrFF C dX0_init_28 fp_X0_18 rfl rfl e12 ?_
  refine rr_aload_n (i := 0) C dX0_init_31 rfl rfl ?_
  refine rr_sipush (v := 2805) C dX0_init_32 (by decide) ?_
  refine rr_cut C (kc' := 0 + 1) (ks' := 0 + 2805) (by omega) (by omega) ?_
  replace hr := Option.bind_eq_some_iff.mp hr
  obtain ⟨h13, e14, hr⟩ := hr
  refine rr_newIq C dX0_init_35 (t0 := 0) rfl rfl (by decide) rfl ac_int (N := 2805) (by decide) e14 ?_
  show WW W0 G 1 _ _ _ 37 [some (.ref l0)] [.ref (n + 3), .ref l0] h13 (n + 4) _ _
  replace hr := Option.bind_eq_some_iff.mp hr
  obtain ⟨h15, e16, hr⟩ := hr
  refine rr_wrFF C dX0_init_37 fp_X0_21 rfl rfl e16 ?_
  refine rr_aload_n (i := 0) C dX0_init_40 rfl rfl ?_
  replace hr := Option.bind_eq_some_iff.mp hr
  obtain ⟨v17, e18, hr⟩ := hr
  refine rr_rdR C dX0_init_41 fl_X0_21 e18 ?_
  refine rr_iconst (v := (-1)) C dX0_init_44 (by decide) ?_
  replace hr := Option.bind_eq_some_iff.mp hr
  obtain ⟨v19, e20, hr⟩ := hr
  refine rr_callS (as := [va_rf v17, .int (-1)]) (st := []) (mc' := 0) (ms' := 0) C dX0_init_45 it_X0_24 (by decide) (Nat.le_of_ble_eq_true rfl) (c_J7_fill_53178 v17 (-1) (by omega) e20) (fun v_ h_ n_ q_ => ?_)
  obtain ⟨q1_, q2_, q3_⟩ := q_
  subst v_; subst h_; subst n_
  show WW W0 G 1 _ _ _ 48 [some (.ref l0)] [] v19 (n + 4) _ _
  obtain rfl := Option.some.inj hr
  exact rr_vret C dX0_init_48 rfl ⟨rfl, rfl, rfl, by omega⟩
def q_X1_init (K : Nat) (h : mm_H) (n : Nat) (l0 : Nat) : Option (mm_H × Nat) :=
  (newI h n .int 20 20).bind fun h1 =>
  (wrF h1 (n + 1) l0 1 0 (.ref n)).bind fun h3 =>
  (newI h3 (n + 1) .int 20 20).bind fun h5 =>
  (wrF h5 (n + 2) l0 1 1 (.ref (n + 1))).bind fun h7 =>
  (newI h7 (n + 2) .int 20 20).bind fun h9 =>
  (wrF h9 (n + 3) l0 1 2 (.ref (n + 2))).bind fun h11 =>
  (newI h11 (n + 3) .int 20 20).bind fun h13 =>
  (wrF h13 (n + 4) l0 1 3 (.ref (n + 3))).bind fun h15 =>
  (newI h15 (n + 4) .int 20 20).bind fun h17 =>
  (wrF h17 (n + 5) l0 1 4 (.ref (n + 4))).bind fun h19 =>
  some (h19, n + 5)
set_option maxRecDepth 100000 in
set_option maxHeartbeats 4000000 in
theorem c_X1_init {K : Nat} {G : mm_G} {l : Launch} {h : mm_H} {n : Nat} (l0 : Nat) {r_ : mm_H × Nat} (hn : 48 ≤ n) (hr : q_X1_init K h n l0 = some r_) : Sp G l yX1_init cX1_init 1 none 1 5 100 [.ref l0] h n (fun v h' n' => v = none ∧ h' = r_.1 ∧ n' = r_.2 ∧ n ≤ n') := by
  refine Sp_of (by decide +kernel) (Nat.le_of_ble_eq_true rfl) hn ?_
  intro W0 hwl C
  subst hwl
  unfold q_X1_init at hr
  show WW W0 G 1 5 100 _ 0 [some (.ref l0)] [] h n 5 100
  refine rr_aload_n (i := 0) C dX1_init_0 rfl rfl ?_
  refine rr_obj C dX1_init_1 oi_X1 (by decide) (Nat.le_of_ble_eq_true rfl) ?_
  refine rr_aload_n (i := 0) C dX1_init_4 rfl rfl ?_
  refine rr_bipush (v := 20) C dX1_init_5 (by decide) ?_
  refine rr_cut C (kc' := 4 + 1) (ks' := 80 + 20) (by omega) (by omega) ?_
  replace hr := Option.bind_eq_some_iff.mp hr
  obtain ⟨h1, e2, hr⟩ := hr
  refine rr_newIq C dX1_init_7 (t0 := 0) rfl rfl (by decide) rfl ac_int (N := 20) (by decide) e2 ?_
  show WW W0 G 1 _ _ _ 9 [some (.ref l0)] [.ref n, .ref l0] h1 (n + 1) _ _
  replace hr := Option.bind_eq_some_iff.mp hr
  obtain ⟨h3, e4, hr⟩ := hr
  refine rr_wrFF C dX1_init_9 fp_X1_9 rfl rfl e4 ?_
  refine rr_aload_n (i := 0) C dX1_init_12 rfl rfl ?_
  refine rr_bipush (v := 20) C dX1_init_13 (by decide) ?_
  refine rr_cut C (kc' := 3 + 1) (ks' := 60 + 20) (by omega) (by omega) ?_
  replace hr := Option.bind_eq_some_iff.mp hr
  obtain ⟨h5, e6, hr⟩ := hr
  refine rr_newIq C dX1_init_15 (t0 := 0) rfl rfl (by decide) rfl ac_int (N := 20) (by decide) e6 ?_
  show WW W0 G 1 _ _ _ 17 [some (.ref l0)] [.ref (n + 1), .ref l0] h5 (n + 2) _ _
  replace hr := Option.bind_eq_some_iff.mp hr
  obtain ⟨h7, e8, hr⟩ := hr
  refine rr_wrFF C dX1_init_17 fp_X1_15 rfl rfl e8 ?_
  refine rr_aload_n (i := 0) C dX1_init_20 rfl rfl ?_
  refine rr_bipush (v := 20) C dX1_init_21 (by decide) ?_
  refine rr_cut C (kc' := 2 + 1) (ks' := 40 + 20) (by omega) (by omega) ?_
  replace hr := Option.bind_eq_some_iff.mp hr
  obtain ⟨h9, e10, hr⟩ := hr
  refine rr_newIq C dX1_init_23 (t0 := 0) rfl rfl (by decide) rfl ac_int (N := 20) (by decide) e10 ?_
  show WW W0 G 1 _ _ _ 25 [some (.ref l0)] [.ref (n + 2), .ref l0] h9 (n + 3) _ _
  replace hr := Option.bind_eq_some_iff.mp hr
  obtain ⟨h11, e12, hr⟩ := hr
  refine rr_wrFF C dX1_init_25 fp_X1_18 rfl rfl e12 ?_
  refine rr_aload_n (i := 0) C dX1_init_28 rfl rfl ?_
  refine rr_bipush (v := 20) C dX1_init_29 (by decide) ?_
  refine rr_cut C (kc' := 1 + 1) (ks' := 20 + 20) (by omega) (by omega) ?_
  replace hr := Option.bind_eq_some_iff.mp hr
  obtain ⟨h13, e14, hr⟩ := hr
  refine rr_newIq C dX1_init_31 (t0 := 0) rfl rfl (by decide) rfl ac_int (N := 20) (by decide) e14 ?_
  show WW W0 G 1 _ _ _ 33 [some (.ref l0)] [.ref (n + 3), .ref l0] h13 (n + 4) _ _
  replace hr := Option.bind_eq_some_iff.mp hr
  obtain ⟨h15, e16, hr⟩ := hr
  refine rr_wrFF C dX1_init_33 fp_X1_21 rfl rfl e16 ?_
  refine rr_aload_n (i := 0) C dX1_init_36 rfl rfl ?_
  refine rr_bipush (v := 20) C dX1_init_37 (by decide) ?_
  refine rr_cut C (kc' := 0 + 1) (ks' := 0 + 20) (by omega) (by omega) ?_
  replace hr := Option.bind_eq_some_iff.mp hr
  obtain ⟨h17, e18, hr⟩ := hr
  refine rr_newIq C dX1_init_39 (t0 := 0) rfl rfl (by decide) rfl ac_int (N := 20) (by decide) e18 ?_
  show WW W0 G 1 _ _ _ 41 [some (.ref l0)] [.ref (n + 4), .ref l0] h17 (n + 5) _ _
  replace hr := Option.bind_eq_some_iff.mp hr
  obtain ⟨h19, e20, hr⟩ := hr
  refine rr_wrFF C dX1_init_41 fp_X1_24 rfl rfl e20 ?_
  obtain rfl := Option.some.inj hr
  exact rr_vret C dX1_init_44 rfl ⟨rfl, rfl, rfl, by omega⟩
def q_X2_init (K : Nat) (h : mm_H) (n : Nat) (l0 : Nat) (l1 : Option Nat) : Option (mm_H × Nat) :=
  (newI h n .int 50 50).bind fun h1 =>
  (wrF h1 (n + 1) l0 2 1 (.ref n)).bind fun h3 =>
  (newI h3 (n + 1) .int 50 50).bind fun h5 =>
  (wrF h5 (n + 2) l0 2 2 (.ref (n + 1))).bind fun h7 =>
  (newI h7 (n + 2) .int 50 50).bind fun h9 =>
  (wrF h9 (n + 3) l0 2 3 (.ref (n + 2))).bind fun h11 =>
  (wrF h11 (n + 3) l0 2 0 (va_rf l1)).bind fun h13 =>
  some (h13, n + 3)
set_option maxRecDepth 100000 in
set_option maxHeartbeats 4000000 in
theorem c_X2_init {K : Nat} {G : mm_G} {l : Launch} {h : mm_H} {n : Nat} (l0 : Nat) (l1 : Option Nat) {r_ : mm_H × Nat} (hn : 48 ≤ n) (hr : q_X2_init K h n l0 l1 = some r_) : Sp G l yX2_init cX2_init 2 none 1 3 150 [.ref l0, va_rf l1] h n (fun v h' n' => v = none ∧ h' = r_.1 ∧ n' = r_.2 ∧ n ≤ n') := by
  refine Sp_of (by decide +kernel) (by rcases l1 with _ | _ <;> exact Nat.le_of_ble_eq_true rfl) hn ?_
  intro W0 hwl C
  subst hwl
  unfold q_X2_init at hr
  rw [show mm_en 2 [.ref l0, va_rf l1] = [some (.ref l0), some (va_rf l1)] from by rcases l1 with _ | _ <;> rfl]
  show WW W0 G 2 3 150 _ 0 [some (.ref l0), some (va_rf l1)] [] h n 3 150
  refine rr_aload_n (i := 0) C dX2_init_0 rfl rfl ?_
  refine rr_obj C dX2_init_1 oi_X2 (by decide) (Nat.le_of_ble_eq_true rfl) ?_
  refine rr_aload_n (i := 0) C dX2_init_4 rfl rfl ?_
  refine rr_bipush (v := 50) C dX2_init_5 (by decide) ?_
  refine rr_cut C (kc' := 2 + 1) (ks' := 100 + 50) (by omega) (by omega) ?_
  replace hr := Option.bind_eq_some_iff.mp hr
  obtain ⟨h1, e2, hr⟩ := hr
  refine rr_newIq C dX2_init_7 (t0 := 0) rfl rfl (by decide) rfl ac_int (N := 50) (by decide) e2 ?_
  show WW W0 G 2 _ _ _ 9 [some (.ref l0), some (va_rf l1)] [.ref n, .ref l0] h1 (n + 1) _ _
  replace hr := Option.bind_eq_some_iff.mp hr
  obtain ⟨h3, e4, hr⟩ := hr
  refine rr_wrFF C dX2_init_9 fp_X2_11 rfl rfl e4 ?_
  refine rr_aload_n (i := 0) C dX2_init_12 rfl rfl ?_
  refine rr_bipush (v := 50) C dX2_init_13 (by decide) ?_
  refine rr_cut C (kc' := 1 + 1) (ks' := 50 + 50) (by omega) (by omega) ?_
  replace hr := Option.bind_eq_some_iff.mp hr
  obtain ⟨h5, e6, hr⟩ := hr
  refine rr_newIq C dX2_init_15 (t0 := 0) rfl rfl (by decide) rfl ac_int (N := 50) (by decide) e6 ?_
  show WW W0 G 2 _ _ _ 17 [some (.ref l0), some (va_rf l1)] [.ref (n + 1), .ref l0] h5 (n + 2) _ _
  replace hr := Option.bind_eq_some_iff.mp hr
  obtain ⟨h7, e8, hr⟩ := hr
  refine rr_wrFF C dX2_init_17 fp_X2_15 rfl rfl e8 ?_
  refine rr_aload_n (i := 0) C dX2_init_20 rfl rfl ?_
  refine rr_bipush (v := 50) C dX2_init_21 (by decide) ?_
  refine rr_cut C (kc' := 0 + 1) (ks' := 0 + 50) (by omega) (by omega) ?_
  replace hr := Option.bind_eq_some_iff.mp hr
  obtain ⟨h9, e10, hr⟩ := hr
  refine rr_newIq C dX2_init_23 (t0 := 0) rfl rfl (by decide) rfl ac_int (N := 50) (by decide) e10 ?_
  show WW W0 G 2 _ _ _ 25 [some (.ref l0), some (va_rf l1)] [.ref (n + 2), .ref l0] h9 (n + 3) _ _
  replace hr := Option.bind_eq_some_iff.mp hr
  obtain ⟨h11, e12, hr⟩ := hr
  refine rr_wrFF C dX2_init_25 fp_X2_18 rfl rfl e12 ?_
  refine rr_aload_n (i := 0) C dX2_init_28 rfl rfl ?_
  refine rr_aload_nO (i := 1) C dX2_init_29 rfl rfl ?_
  replace hr := Option.bind_eq_some_iff.mp hr
  obtain ⟨h13, e14, hr⟩ := hr
  refine rr_wrFF C dX2_init_30 fp_X2_21 (na_rf _ _) (fi_rf rfl _) e14 ?_
  obtain rfl := Option.some.inj hr
  exact rr_vret C dX2_init_33 rfl ⟨rfl, rfl, rfl, by omega⟩
def q_X3_init (K : Nat) (h : mm_H) (n : Nat) (l0 : Nat) : Option (mm_H × Nat) :=
  (wrF h n l0 3 0 (.ref 2)).bind fun h1 =>
  (wrF h1 n l0 3 5 (.int (-1))).bind fun h3 =>
  (newI h3 n .int 270 270).bind fun h5 =>
  (wrF h5 (n + 1) l0 3 6 (.ref n)).bind fun h7 =>
  (newA h7 (n + 1) (.object "WaterReview$Rule") 30 30).bind fun h9 =>
  (wrF h9 (n + 2) l0 3 8 (.ref (n + 1))).bind fun h11 =>
  (newI h11 (n + 2) .int 900 900).bind fun h13 =>
  (wrF h13 (n + 3) l0 3 10 (.ref (n + 2))).bind fun h15 =>
  some (h15, n + 3)
set_option maxRecDepth 100000 in
set_option maxHeartbeats 4000000 in
theorem c_X3_init {K : Nat} {G : mm_G} {l : Launch} {h : mm_H} {n : Nat} (l0 : Nat) {r_ : mm_H × Nat} (hn : 48 ≤ n) (hr : q_X3_init K h n l0 = some r_) : Sp G l yX3_init cX3_init 1 none 1 3 1200 [.ref l0] h n (fun v h' n' => v = none ∧ h' = r_.1 ∧ n' = r_.2 ∧ n ≤ n') := by
  refine Sp_of (by decide +kernel) (Nat.le_of_ble_eq_true rfl) hn ?_
  intro W0 hwl C
  subst hwl
  unfold q_X3_init at hr
  show WW W0 G 1 3 1200 _ 0 [some (.ref l0)] [] h n 3 1200
  refine rr_aload_n (i := 0) C dX3_init_0 rfl rfl ?_
  refine rr_obj C dX3_init_1 oi_X3 (by decide) (Nat.le_of_ble_eq_true rfl) ?_
  refine rr_aload_n (i := 0) C dX3_init_4 rfl rfl ?_
  refine rr_getsN C dX3_init_5 ns_X3_9 ?_
  replace hr := Option.bind_eq_some_iff.mp hr
  obtain ⟨h1, e2, hr⟩ := hr
  refine rr_wrF C dX3_init_8 fp_X3_13 rfl rfl e2 ?_
  refine rr_aload_n (i := 0) C dX3_init_11 rfl rfl ?_
  refine rr_iconst (v := (-1)) C dX3_init_12 (by decide) ?_
  replace hr := Option.bind_eq_some_iff.mp hr
  obtain ⟨h3, e4, hr⟩ := hr
  refine rr_wrF C dX3_init_13 fp_X3_18 rfl rfl e4 ?_
  refine rr_aload_n (i := 0) C dX3_init_16 rfl rfl ?_
  refine rr_sipush (v := 270) C dX3_init_17 (by decide) ?_
  refine rr_cut C (kc' := 2 + 1) (ks' := 930 + 270) (by omega) (by omega) ?_
  replace hr := Option.bind_eq_some_iff.mp hr
  obtain ⟨h5, e6, hr⟩ := hr
  refine rr_newIq C dX3_init_20 (t0 := 0) rfl rfl (by decide) rfl ac_int (N := 270) (by decide) e6 ?_
  show WW W0 G 1 _ _ _ 22 [some (.ref l0)] [.ref n, .ref l0] h5 (n + 1) _ _
  replace hr := Option.bind_eq_some_iff.mp hr
  obtain ⟨h7, e8, hr⟩ := hr
  refine rr_wrFF C dX3_init_22 fp_X3_22 rfl rfl e8 ?_
  refine rr_aload_n (i := 0) C dX3_init_25 rfl rfl ?_
  refine rr_bipush (v := 30) C dX3_init_26 (by decide) ?_
  refine rr_cut C (kc' := 1 + 1) (ks' := 900 + 30) (by omega) (by omega) ?_
  replace hr := Option.bind_eq_some_iff.mp hr
  obtain ⟨h9, e10, hr⟩ := hr
  refine rr_newAq C dX3_init_28 (t0 := 4) rfl an_X3_25 (fun U_ o_ => o_.2.2.2.2.2.2.2.2.1) (N := 30) (by decide) e10 ?_
  show WW W0 G 1 _ _ _ 31 [some (.ref l0)] [.ref (n + 1), .ref l0] h9 (n + 2) _ _
  replace hr := Option.bind_eq_some_iff.mp hr
  obtain ⟨h11, e12, hr⟩ := hr
  refine rr_wrFF C dX3_init_31 fp_X3_27 rfl rfl e12 ?_
  refine rr_aload_n (i := 0) C dX3_init_34 rfl rfl ?_
  refine rr_sipush (v := 900) C dX3_init_35 (by decide) ?_
  refine rr_cut C (kc' := 0 + 1) (ks' := 0 + 900) (by omega) (by omega) ?_
  replace hr := Option.bind_eq_some_iff.mp hr
  obtain ⟨h13, e14, hr⟩ := hr
  refine rr_newIq C dX3_init_38 (t0 := 0) rfl rfl (by decide) rfl ac_int (N := 900) (by decide) e14 ?_
  show WW W0 G 1 _ _ _ 40 [some (.ref l0)] [.ref (n + 2), .ref l0] h13 (n + 3) _ _
  replace hr := Option.bind_eq_some_iff.mp hr
  obtain ⟨h15, e16, hr⟩ := hr
  refine rr_wrFF C dX3_init_40 fp_X3_31 rfl rfl e16 ?_
  obtain rfl := Option.some.inj hr
  exact rr_vret C dX3_init_43 rfl ⟨rfl, rfl, rfl, by omega⟩
def q_X5_init (K : Nat) (h : mm_H) (n : Nat) (l0 : Nat) (l1 : Int32) : Option (mm_H) :=
  (wrF h n l0 5 10 (.ref 2)).bind fun h1 =>
  (wrF h1 n l0 5 0 (.int l1)).bind fun h3 =>
  some h3
set_option maxRecDepth 100000 in
set_option maxHeartbeats 4000000 in
theorem c_X5_init {K : Nat} {G : mm_G} {l : Launch} {h : mm_H} {n : Nat} (l0 : Nat) (l1 : Int32) {r_ : mm_H} (hn : 48 ≤ n) (hr : q_X5_init K h n l0 l1 = some r_) : Sp G l yX5_init cX5_init 2 none 1 0 0 [.ref l0, .int l1] h n (fun v h' n' => v = none ∧ h' = r_ ∧ n' = n) := by
  refine Sp_of (by decide +kernel) (Nat.le_of_ble_eq_true rfl) hn ?_
  intro W0 hwl C
  subst hwl
  unfold q_X5_init at hr
  show WW W0 G 2 0 0 _ 0 [some (.ref l0), some (.int l1)] [] h n 0 0
  refine rr_aload_n (i := 0) C dX5_init_0 rfl rfl ?_
  refine rr_obj C dX5_init_1 oi_X5 (by decide) (Nat.le_of_ble_eq_true rfl) ?_
  refine rr_aload_n (i := 0) C dX5_init_4 rfl rfl ?_
  refine rr_getsN C dX5_init_5 ns_X5_9 ?_
  replace hr := Option.bind_eq_some_iff.mp hr
  obtain ⟨h1, e2, hr⟩ := hr
  refine rr_wrF C dX5_init_8 fp_X5_13 rfl rfl e2 ?_
  refine rr_aload_n (i := 0) C dX5_init_11 rfl rfl ?_
  refine rr_iload_n (i := 1) C dX5_init_12 rfl rfl ?_
  replace hr := Option.bind_eq_some_iff.mp hr
  obtain ⟨h3, e4, hr⟩ := hr
  refine rr_wrFF C dX5_init_13 fp_X5_18 rfl rfl e4 ?_
  obtain rfl := Option.some.inj hr
  exact rr_vret C dX5_init_16 rfl ⟨rfl, rfl, rfl⟩
def q_X6_init (K : Nat) (h : mm_H) (n : Nat) (l0 : Nat) (l1 : Int32) : Option (mm_H × Nat) :=
  (newA h n (.object "WaterReview$Rule") 300 (i_max 0 l1)).bind fun h1 =>
  (wrF h1 (n + 1) l0 6 0 (.ref n)).bind fun h3 =>
  some (h3, n + 1)
set_option maxRecDepth 100000 in
set_option maxHeartbeats 4000000 in
theorem c_X6_init {K : Nat} {G : mm_G} {l : Launch} {h : mm_H} {n : Nat} (l0 : Nat) (l1 : Int32) {r_ : mm_H × Nat} (hn : 48 ≤ n) (hr : q_X6_init K h n l0 l1 = some r_) : Sp G l yX6_init cX6_init 2 none 1 1 300 [.ref l0, .int l1] h n (fun v h' n' => v = none ∧ h' = r_.1 ∧ n' = r_.2 ∧ n ≤ n') := by
  refine Sp_of (by decide +kernel) (Nat.le_of_ble_eq_true rfl) hn ?_
  intro W0 hwl C
  subst hwl
  unfold q_X6_init at hr
  show WW W0 G 2 1 300 _ 0 [some (.ref l0), some (.int l1)] [] h n 1 300
  refine rr_aload_n (i := 0) C dX6_init_0 rfl rfl ?_
  refine rr_obj C dX6_init_1 oi_X6 (by decide) (Nat.le_of_ble_eq_true rfl) ?_
  refine rr_aload_n (i := 0) C dX6_init_4 rfl rfl ?_
  refine rr_iconst (v := 0) C dX6_init_5 (by decide) ?_
  refine rr_iload_n (i := 1) C dX6_init_6 rfl rfl ?_
  refine rr_mmax C dX6_init_7 ma_X6_9 (by decide) (Nat.le_of_ble_eq_true rfl) ?_
  refine rr_cut C (kc' := 0 + 1) (ks' := 0 + 300) (by omega) (by omega) ?_
  replace hr := Option.bind_eq_some_iff.mp hr
  obtain ⟨h1, e2, hr⟩ := hr
  refine rr_newAq C dX6_init_10 (t0 := 4) rfl an_X6_15 (fun U_ o_ => o_.2.2.2.2.2.2.2.2.1) (N := 300) (by decide) e2 ?_
  show WW W0 G 2 _ _ _ 13 [some (.ref l0), some (.int l1)] [.ref n, .ref l0] h1 (n + 1) _ _
  replace hr := Option.bind_eq_some_iff.mp hr
  obtain ⟨h3, e4, hr⟩ := hr
  refine rr_wrFF C dX6_init_13 fp_X6_17 rfl rfl e4 ?_
  obtain rfl := Option.some.inj hr
  exact rr_vret C dX6_init_16 rfl ⟨rfl, rfl, rfl, by omega⟩
def q_X9_init (K : Nat) (h : mm_H) (n : Nat) (l0 : Nat) : Option (mm_H × Nat) :=
  (newI h n .int 40 40).bind fun h1 =>
  (wrF h1 (n + 1) l0 8 0 (.ref n)).bind fun h3 =>
  (newI h3 (n + 1) .int 40 40).bind fun h5 =>
  (wrF h5 (n + 2) l0 8 1 (.ref (n + 1))).bind fun h7 =>
  (newI h7 (n + 2) .int 40 40).bind fun h9 =>
  (wrF h9 (n + 3) l0 8 2 (.ref (n + 2))).bind fun h11 =>
  (newI h11 (n + 3) .int 40 40).bind fun h13 =>
  (wrF h13 (n + 4) l0 8 3 (.ref (n + 3))).bind fun h15 =>
  some (h15, n + 4)
set_option maxRecDepth 100000 in
set_option maxHeartbeats 4000000 in
theorem c_X9_init {K : Nat} {G : mm_G} {l : Launch} {h : mm_H} {n : Nat} (l0 : Nat) {r_ : mm_H × Nat} (hn : 48 ≤ n) (hr : q_X9_init K h n l0 = some r_) : Sp G l yX9_init cX9_init 1 none 1 4 160 [.ref l0] h n (fun v h' n' => v = none ∧ h' = r_.1 ∧ n' = r_.2 ∧ n ≤ n') := by
  refine Sp_of (by decide +kernel) (Nat.le_of_ble_eq_true rfl) hn ?_
  intro W0 hwl C
  subst hwl
  unfold q_X9_init at hr
  show WW W0 G 1 4 160 _ 0 [some (.ref l0)] [] h n 4 160
  refine rr_aload_n (i := 0) C dX9_init_0 rfl rfl ?_
  refine rr_obj C dX9_init_1 oi_X9 (by decide) (Nat.le_of_ble_eq_true rfl) ?_
  refine rr_aload_n (i := 0) C dX9_init_4 rfl rfl ?_
  refine rr_bipush (v := 40) C dX9_init_5 (by decide) ?_
  refine rr_cut C (kc' := 3 + 1) (ks' := 120 + 40) (by omega) (by omega) ?_
  replace hr := Option.bind_eq_some_iff.mp hr
  obtain ⟨h1, e2, hr⟩ := hr
  refine rr_newIq C dX9_init_7 (t0 := 0) rfl rfl (by decide) rfl ac_int (N := 40) (by decide) e2 ?_
  show WW W0 G 1 _ _ _ 9 [some (.ref l0)] [.ref n, .ref l0] h1 (n + 1) _ _
  replace hr := Option.bind_eq_some_iff.mp hr
  obtain ⟨h3, e4, hr⟩ := hr
  refine rr_wrFF C dX9_init_9 fp_X9_9 rfl rfl e4 ?_
  refine rr_aload_n (i := 0) C dX9_init_12 rfl rfl ?_
  refine rr_bipush (v := 40) C dX9_init_13 (by decide) ?_
  refine rr_cut C (kc' := 2 + 1) (ks' := 80 + 40) (by omega) (by omega) ?_
  replace hr := Option.bind_eq_some_iff.mp hr
  obtain ⟨h5, e6, hr⟩ := hr
  refine rr_newIq C dX9_init_15 (t0 := 0) rfl rfl (by decide) rfl ac_int (N := 40) (by decide) e6 ?_
  show WW W0 G 1 _ _ _ 17 [some (.ref l0)] [.ref (n + 1), .ref l0] h5 (n + 2) _ _
  replace hr := Option.bind_eq_some_iff.mp hr
  obtain ⟨h7, e8, hr⟩ := hr
  refine rr_wrFF C dX9_init_17 fp_X9_15 rfl rfl e8 ?_
  refine rr_aload_n (i := 0) C dX9_init_20 rfl rfl ?_
  refine rr_bipush (v := 40) C dX9_init_21 (by decide) ?_
  refine rr_cut C (kc' := 1 + 1) (ks' := 40 + 40) (by omega) (by omega) ?_
  replace hr := Option.bind_eq_some_iff.mp hr
  obtain ⟨h9, e10, hr⟩ := hr
  refine rr_newIq C dX9_init_23 (t0 := 0) rfl rfl (by decide) rfl ac_int (N := 40) (by decide) e10 ?_
  show WW W0 G 1 _ _ _ 25 [some (.ref l0)] [.ref (n + 2), .ref l0] h9 (n + 3) _ _
  replace hr := Option.bind_eq_some_iff.mp hr
  obtain ⟨h11, e12, hr⟩ := hr
  refine rr_wrFF C dX9_init_25 fp_X9_18 rfl rfl e12 ?_
  refine rr_aload_n (i := 0) C dX9_init_28 rfl rfl ?_
  refine rr_bipush (v := 40) C dX9_init_29 (by decide) ?_
  refine rr_cut C (kc' := 0 + 1) (ks' := 0 + 40) (by omega) (by omega) ?_
  replace hr := Option.bind_eq_some_iff.mp hr
  obtain ⟨h13, e14, hr⟩ := hr
  refine rr_newIq C dX9_init_31 (t0 := 0) rfl rfl (by decide) rfl ac_int (N := 40) (by decide) e14 ?_
  show WW W0 G 1 _ _ _ 33 [some (.ref l0)] [.ref (n + 3), .ref l0] h13 (n + 4) _ _
  replace hr := Option.bind_eq_some_iff.mp hr
  obtain ⟨h15, e16, hr⟩ := hr
  refine rr_wrFF C dX9_init_33 fp_X9_21 rfl rfl e16 ?_
  obtain rfl := Option.some.inj hr
  exact rr_vret C dX9_init_36 rfl ⟨rfl, rfl, rfl, by omega⟩
def q_X4_init (K : Nat) (h : mm_H) (n : Nat) (l0 : Nat) : Option (mm_H × Nat) :=
  (newI h n .int 11 11).bind fun h1 =>
  (wrF h1 (n + 1) l0 4 0 (.ref n)).bind fun h3 =>
  (newO h3 (n + 1) 0 [.null, .null, .null, .null, .int 0]).bind fun h5 =>
  (q_X0_init K h5 (n + 2) (n + 1)).bind fun (h7, n8) =>
  (wrF h7 n8 l0 4 1 (.ref (n + 1))).bind fun h12 =>
  (newO h12 n8 8 [.null, .null, .null, .null, .int 0, .int 0]).bind fun h14 =>
  (q_X9_init K h14 (n8 + 1) n8).bind fun (h16, n17) =>
  (wrF h16 n17 l0 4 2 (.ref n8)).bind fun h21 =>
  (newO h21 n17 1 [.null, .null, .null, .null, .null, .int 0]).bind fun h23 =>
  (q_X1_init K h23 (n17 + 1) n17).bind fun (h25, n26) =>
  (wrF h25 n26 l0 4 3 (.ref n17)).bind fun h30 =>
  (newO h30 n26 1 [.null, .null, .null, .null, .null, .int 0]).bind fun h32 =>
  (q_X1_init K h32 (n26 + 1) n26).bind fun (h34, n35) =>
  (wrF h34 n35 l0 4 4 (.ref n26)).bind fun h39 =>
  some (h39, n35)
set_option maxRecDepth 100000 in
set_option maxHeartbeats 4000000 in
theorem c_X4_init {K : Nat} {G : mm_G} {l : Launch} {h : mm_H} {n : Nat} (l0 : Nat) {r_ : mm_H × Nat} (hn : 48 ≤ n) (hr : q_X4_init K h n l0 = some r_) : Sp G l yX4_init cX4_init 1 none 2 23 4699 [.ref l0] h n (fun v h' n' => v = none ∧ h' = r_.1 ∧ n' = r_.2 ∧ n ≤ n') := by
  refine Sp_of (by decide +kernel) (Nat.le_of_ble_eq_true rfl) hn ?_
  intro W0 hwl C
  subst hwl
  unfold q_X4_init at hr
  show WW W0 G 1 23 4699 _ 0 [some (.ref l0)] [] h n 23 4699
  refine rr_aload_n (i := 0) C dX4_init_0 rfl rfl ?_
  refine rr_obj C dX4_init_1 oi_X4 (by decide) (Nat.le_of_ble_eq_true rfl) ?_
  refine rr_aload_n (i := 0) C dX4_init_4 rfl rfl ?_
  refine rr_bipush (v := 11) C dX4_init_5 (by decide) ?_
  refine rr_cut C (kc' := 22 + 1) (ks' := 4688 + 11) (by omega) (by omega) ?_
  replace hr := Option.bind_eq_some_iff.mp hr
  obtain ⟨h1, e2, hr⟩ := hr
  refine rr_newIq C dX4_init_7 (t0 := 0) rfl rfl (by decide) rfl ac_int (N := 11) (by decide) e2 ?_
  show WW W0 G 1 _ _ _ 9 [some (.ref l0)] [.ref n, .ref l0] h1 (n + 1) _ _
  replace hr := Option.bind_eq_some_iff.mp hr
  obtain ⟨h3, e4, hr⟩ := hr
  refine rr_wrFF C dX4_init_9 fp_X4_9 rfl rfl e4 ?_
  refine rr_aload_n (i := 0) C dX4_init_12 rfl rfl ?_
  refine rr_cut C (kc' := 21 + 1) (ks' := 4683 + 5) (by omega) (by omega) ?_
  replace hr := Option.bind_eq_some_iff.mp hr
  obtain ⟨h5, e6, hr⟩ := hr
  refine rr_newq C dX4_init_13 nw_X4_15 e6 ?_
  show WW W0 G 1 _ _ _ 16 [some (.ref l0)] [.ref (n + 1), .ref l0] h5 (n + 2) _ _
  refine rr_dup C dX4_init_16 rfl ?_
  refine rr_cut C (kc' := 17 + 4) (ks' := 378 + 4305) (by omega) (by omega) ?_
  replace hr := Option.bind_eq_some_iff.mp hr
  obtain ⟨⟨h7, n8⟩, e10, hr⟩ := hr
  dsimp only at hr
  refine rr_callI (as := []) (st := [.ref (n + 1), .ref l0]) (mc' := 4) (ms' := 4305) C dX4_init_17 ii_X4_17 (by decide) (Nat.le_of_ble_eq_true rfl) (c_X0_init (n + 1) (by omega) e10) (fun v_ h_ n_ q_ => ?_)
  obtain ⟨q1_, q2_, q3_, b11⟩ := q_
  subst v_; subst h_; subst n_
  try dsimp only at b11
  show WW W0 G 1 _ _ _ 20 [some (.ref l0)] [.ref (n + 1), .ref l0] h7 n8 _ _
  replace hr := Option.bind_eq_some_iff.mp hr
  obtain ⟨h12, e13, hr⟩ := hr
  refine rr_wrFF C dX4_init_20 fp_X4_18 rfl rfl e13 ?_
  refine rr_aload_n (i := 0) C dX4_init_23 rfl rfl ?_
  refine rr_cut C (kc' := 16 + 1) (ks' := 372 + 6) (by omega) (by omega) ?_
  replace hr := Option.bind_eq_some_iff.mp hr
  obtain ⟨h14, e15, hr⟩ := hr
  refine rr_newq C dX4_init_24 nw_X4_22 e15 ?_
  show WW W0 G 1 _ _ _ 27 [some (.ref l0)] [.ref n8, .ref l0] h14 (n8 + 1) _ _
  refine rr_dup C dX4_init_27 rfl ?_
  refine rr_cut C (kc' := 12 + 4) (ks' := 212 + 160) (by omega) (by omega) ?_
  replace hr := Option.bind_eq_some_iff.mp hr
  obtain ⟨⟨h16, n17⟩, e19, hr⟩ := hr
  dsimp only at hr
  refine rr_callI (as := []) (st := [.ref n8, .ref l0]) (mc' := 4) (ms' := 160) C dX4_init_28 ii_X4_24 (by decide) (Nat.le_of_ble_eq_true rfl) (c_X9_init n8 (by omega) e19) (fun v_ h_ n_ q_ => ?_)
  obtain ⟨q1_, q2_, q3_, b20⟩ := q_
  subst v_; subst h_; subst n_
  try dsimp only at b20
  show WW W0 G 1 _ _ _ 31 [some (.ref l0)] [.ref n8, .ref l0] h16 n17 _ _
  replace hr := Option.bind_eq_some_iff.mp hr
  obtain ⟨h21, e22, hr⟩ := hr
  refine rr_wrFF C dX4_init_31 fp_X4_25 rfl rfl e22 ?_
  refine rr_aload_n (i := 0) C dX4_init_34 rfl rfl ?_
  refine rr_cut C (kc' := 11 + 1) (ks' := 206 + 6) (by omega) (by omega) ?_
  replace hr := Option.bind_eq_some_iff.mp hr
  obtain ⟨h23, e24, hr⟩ := hr
  refine rr_newq C dX4_init_35 nw_X4_29 e24 ?_
  show WW W0 G 1 _ _ _ 38 [some (.ref l0)] [.ref n17, .ref l0] h23 (n17 + 1) _ _
  refine rr_dup C dX4_init_38 rfl ?_
  refine rr_cut C (kc' := 6 + 5) (ks' := 106 + 100) (by omega) (by omega) ?_
  replace hr := Option.bind_eq_some_iff.mp hr
  obtain ⟨⟨h25, n26⟩, e28, hr⟩ := hr
  dsimp only at hr
  refine rr_callI (as := []) (st := [.ref n17, .ref l0]) (mc' := 5) (ms' := 100) C dX4_init_39 ii_X4_31 (by decide) (Nat.le_of_ble_eq_true rfl) (c_X1_init n17 (by omega) e28) (fun v_ h_ n_ q_ => ?_)
  obtain ⟨q1_, q2_, q3_, b29⟩ := q_
  subst v_; subst h_; subst n_
  try dsimp only at b29
  show WW W0 G 1 _ _ _ 42 [some (.ref l0)] [.ref n17, .ref l0] h25 n26 _ _
  replace hr := Option.bind_eq_some_iff.mp hr
  obtain ⟨h30, e31, hr⟩ := hr
  refine rr_wrFF C dX4_init_42 fp_X4_32 rfl rfl e31 ?_
  refine rr_aload_n (i := 0) C dX4_init_45 rfl rfl ?_
  refine rr_cut C (kc' := 5 + 1) (ks' := 100 + 6) (by omega) (by omega) ?_
  replace hr := Option.bind_eq_some_iff.mp hr
  obtain ⟨h32, e33, hr⟩ := hr
  refine rr_newq C dX4_init_46 nw_X4_29 e33 ?_
  show WW W0 G 1 _ _ _ 49 [some (.ref l0)] [.ref n26, .ref l0] h32 (n26 + 1) _ _
  refine rr_dup C dX4_init_49 rfl ?_
  refine rr_cut C (kc' := 0 + 5) (ks' := 0 + 100) (by omega) (by omega) ?_
  replace hr := Option.bind_eq_some_iff.mp hr
  obtain ⟨⟨h34, n35⟩, e37, hr⟩ := hr
  dsimp only at hr
  refine rr_callI (as := []) (st := [.ref n26, .ref l0]) (mc' := 5) (ms' := 100) C dX4_init_50 ii_X4_31 (by decide) (Nat.le_of_ble_eq_true rfl) (c_X1_init n26 (by omega) e37) (fun v_ h_ n_ q_ => ?_)
  obtain ⟨q1_, q2_, q3_, b38⟩ := q_
  subst v_; subst h_; subst n_
  try dsimp only at b38
  show WW W0 G 1 _ _ _ 53 [some (.ref l0)] [.ref n26, .ref l0] h34 n35 _ _
  replace hr := Option.bind_eq_some_iff.mp hr
  obtain ⟨h39, e40, hr⟩ := hr
  refine rr_wrFF C dX4_init_53 fp_X4_36 rfl rfl e40 ?_
  obtain rfl := Option.some.inj hr
  exact rr_vret C dX4_init_56 rfl ⟨rfl, rfl, rfl, by omega⟩
def lp_X3_together_35 (K : Nat) (n : Nat) (l0 : Nat) (l1 : Option Nat) (l2 : Int32) (l3 : Nat) : Nat → Int32 → mm_H → Option (mm_H)
  | 0, _, _ => none
  | k_ + 1, l4, h =>
    if l2 ≤ l4 then
      some (h)
    else
    (rdR h n l0 3 6).bind fun v13 =>
    v13.bind fun a15 =>
    (lenA h n a15 0).bind fun v17 =>
    if v17 ≤ l4 then
      l1.bind fun a19 =>
      (ckq h n a19 6).bind fun u21 =>
      (q_X6_at K h n a19 l4).bind fun v23 =>
      (ckq h n l3 6).bind fun u25 =>
      (q_X6_add K h n l3 v23).bind fun v27 =>
      lp_X3_together_35 K n l0 l1 l2 l3 k_ (l4 + 1) v27
    else
    (rdR h n l0 3 6).bind fun v29 =>
    v29.bind fun a31 =>
    (ldI h n a31 l4).bind fun v33 =>
    if v33 = 0 then
      l1.bind fun a35 =>
      (ckq h n a35 6).bind fun u37 =>
      (q_X6_at K h n a35 l4).bind fun v39 =>
      (ckq h n l3 6).bind fun u41 =>
      (q_X6_add K h n l3 v39).bind fun v43 =>
      lp_X3_together_35 K n l0 l1 l2 l3 k_ (l4 + 1) v43
    else
    lp_X3_together_35 K n l0 l1 l2 l3 k_ (l4 + 1) h
def lp_X3_together_80 (K : Nat) (n : Nat) (l0 : Nat) (l3 : Nat) : Nat → Int32 → mm_H → Option (mm_H)
  | 0, _, _ => none
  | k_ + 1, l4, h =>
    (rdI h n l0 3 9).bind fun v47 =>
    if v47 ≤ l4 then
      some (h)
    else
    (rdR h n l0 3 8).bind fun v49 =>
    v49.bind fun a51 =>
    (lenA h n a51 4).bind fun v53 =>
    if v53 ≤ l4 then
      some (h)
    else
    (rdR h n l0 3 8).bind fun v55 =>
    v55.bind fun a57 =>
    (ldR h n a57 4 l4).bind fun v59 =>
    (ckq h n l3 6).bind fun u61 =>
    (q_X6_add K h n l3 v59).bind fun v63 =>
    lp_X3_together_80 K n l0 l3 k_ (l4 + 1) v63
def q_X3_together (K : Nat) (h : mm_H) (n : Nat) (l0 : Nat) (l1 : Option Nat) : Option (Option Nat × mm_H × Nat) :=
  match l1 with
  | none =>
    (newO h n 6 [.null, .int 0, .int 0, .int 0]).bind fun h2 =>
    (rdI h2 (n + 1) l0 3 7).bind fun v4 =>
    (rdI h2 (n + 1) l0 3 9).bind fun v6 =>
    (q_X6_init K h2 (n + 1) n ((0 - v4) + v6)).bind fun (h8, n9) =>
    (lp_X3_together_35 K n9 l0 none 0 n K 0 h8).bind fun v45 =>
    (lp_X3_together_80 K n9 l0 n K 0 v45).bind fun v65 =>
    some ((some n), v65, n9)
  | some a1 =>
    (rdI h n a1 6 1).bind fun v67 =>
    (newO h n 6 [.null, .int 0, .int 0, .int 0]).bind fun h69 =>
    (rdI h69 (n + 1) l0 3 7).bind fun v71 =>
    (rdI h69 (n + 1) l0 3 9).bind fun v73 =>
    (q_X6_init K h69 (n + 1) n ((v67 - v71) + v73)).bind fun (h75, n76) =>
    (lp_X3_together_35 K n76 l0 (some a1) v67 n K 0 h75).bind fun v80 =>
    (lp_X3_together_80 K n76 l0 n K 0 v80).bind fun v82 =>
    some ((some n), v82, n76)
set_option maxRecDepth 100000 in
set_option maxHeartbeats 4000000 in
theorem w_X3_together_35 {K : Nat} {W0 : mm_X} {G : mm_G} {mc ms kc ks : Nat} {Q_ : State → Prop} {n : Nat} (C : mm_C W0 G cX3_together yX3_together.cls 5 mc ms (some (.object "WaterReview$RuleBook")) 2 yX3_together.name) (hn : 48 ≤ n) (l0 : Nat) (l1 : Option Nat) (l2 : Int32) (l3 : Nat) : ∀ (k_ : Nat) (l4 : Int32) (h : mm_H) {r_ : mm_H} (hr : lp_X3_together_35 K n l0 l1 l2 l3 k_ l4 h = some r_) (hx0 : WW W0 G 5 mc ms Q_ 77 [some (.ref l0), none, none, some (.ref l3), none] [] r_ n kc ks), WW W0 G 5 mc ms Q_ 35 [some (.ref l0), some (va_rf l1), some (.int l2), some (.ref l3), some (.int l4)] [] h n kc ks := by
  intro k_
  induction k_ with
  | zero =>
    intro l4 h r_ hr
    cases hr
  | succ k_ ih_ =>
    intro l4 h r_ hr hx0
    unfold lp_X3_together_35 at hr
    refine rr_iload C dX3_together_35 rfl ?_
    refine rr_iload_n (i := 2) C dX3_together_37 rfl rfl ?_
    refine rr_icmp_ge (tgt := 77) C dX3_together_38 (by decide) (fun c38_ => ?_) (fun c38_ => ?_)
    · replace hr := (if_pos c38_).symm.trans hr
      obtain rfl := Option.some.inj hr
      exact rr_keep [true, false, false, true, false] (hx0)
    · replace hr := (if_neg c38_).symm.trans hr
      refine rr_iload C dX3_together_41 rfl ?_
      refine rr_aload_n (i := 0) C dX3_together_43 rfl rfl ?_
      replace hr := Option.bind_eq_some_iff.mp hr
      obtain ⟨v13, e14, hr⟩ := hr
      refine rr_rdR C dX3_together_44 fl_X3_22 e14 ?_
      replace hr := Option.bind_eq_some_iff.mp hr
      obtain ⟨a15, e16, hr⟩ := hr
      subst e16
      replace hr := Option.bind_eq_some_iff.mp hr
      obtain ⟨v17, e18, hr⟩ := hr
      refine rr_lenA C dX3_together_47 e18 ?_
      refine rr_icmp_ge (tgt := 61) C dX3_together_48 (by decide) (fun c48_ => ?_) (fun c48_ => ?_)
      · replace hr := (if_pos c48_).symm.trans hr
        refine rr_aload_n (i := 3) C dX3_together_61 rfl rfl ?_
        refine rr_aload_nO (i := 1) C dX3_together_62 rfl rfl ?_
        refine rr_iload C dX3_together_63 rfl ?_
        replace hr := Option.bind_eq_some_iff.mp hr
        obtain ⟨a19, e20, hr⟩ := hr
        subst e20
        replace hr := Option.bind_eq_some_iff.mp hr
        obtain ⟨u21, e22, hr⟩ := hr
        replace hr := Option.bind_eq_some_iff.mp hr
        obtain ⟨v23, e24, hr⟩ := hr
        refine rr_callVq (as := [.int l4]) (st := [.ref l3]) (mc' := 0) (ms' := 0) C dX3_together_65 iv_X3_100 (by decide) e22 rfl (Nat.le_of_ble_eq_true rfl) (c_X6_at a19 l4 (by omega) e24) (fun v_ h_ n_ q_ => ?_)
        obtain ⟨q1_, q2_, q3_⟩ := q_
        subst v_; subst h_; subst n_
        show WW W0 G 5 _ _ _ 68 [some (.ref l0), some (.ref a19), some (.int l2), some (.ref l3), some (.int l4)] [va_rf v23, .ref l3] h n _ _
        replace hr := Option.bind_eq_some_iff.mp hr
        obtain ⟨u25, e26, hr⟩ := hr
        replace hr := Option.bind_eq_some_iff.mp hr
        obtain ⟨v27, e28, hr⟩ := hr
        refine rr_callVq (as := [va_rf v23]) (st := []) (mc' := 0) (ms' := 0) C dX3_together_68 iv_X3_104 (by decide) e26 rfl (Nat.le_of_ble_eq_true rfl) (c_X6_add l3 v23 (by omega) e28) (fun v_ h_ n_ q_ => ?_)
        obtain ⟨q1_, q2_, q3_⟩ := q_
        subst v_; subst h_; subst n_
        show WW W0 G 5 _ _ _ 71 [some (.ref l0), some (.ref a19), some (.int l2), some (.ref l3), some (.int l4)] [] v27 n _ _
        refine rr_iinc (v := l4 + 1) C dX3_together_71 rfl rfl ?_
        show WW W0 G 5 _ _ _ 74 [some (.ref l0), some (.ref a19), some (.int l2), some (.ref l3), some (.int (l4 + 1))] [] v27 n _ _
        refine rr_goto (tgt := 35) C dX3_together_74 (by decide) ?_
        exact rr_keep [true, true, true, true, true] (ih_ _ _ hr hx0)
      · replace hr := (if_neg c48_).symm.trans hr
        refine rr_aload_n (i := 0) C dX3_together_51 rfl rfl ?_
        replace hr := Option.bind_eq_some_iff.mp hr
        obtain ⟨v29, e30, hr⟩ := hr
        refine rr_rdR C dX3_together_52 fl_X3_22 e30 ?_
        refine rr_iload C dX3_together_55 rfl ?_
        replace hr := Option.bind_eq_some_iff.mp hr
        obtain ⟨a31, e32, hr⟩ := hr
        subst e32
        replace hr := Option.bind_eq_some_iff.mp hr
        obtain ⟨v33, e34, hr⟩ := hr
        refine rr_ldI C dX3_together_57 e34 ?_
        refine rr_if_ne (tgt := 71) C dX3_together_58 (by decide) (fun c58_ => ?_) (fun c58_ => ?_)
        · replace hr := (if_neg c58_).symm.trans hr
          refine rr_iinc (v := l4 + 1) C dX3_together_71 rfl rfl ?_
          show WW W0 G 5 _ _ _ 74 [some (.ref l0), some (va_rf l1), some (.int l2), some (.ref l3), some (.int (l4 + 1))] [] h n _ _
          refine rr_goto (tgt := 35) C dX3_together_74 (by decide) ?_
          exact rr_keep [true, true, true, true, true] (ih_ _ _ hr hx0)
        · replace hr := (if_pos c58_).symm.trans hr
          refine rr_aload_n (i := 3) C dX3_together_61 rfl rfl ?_
          refine rr_aload_nO (i := 1) C dX3_together_62 rfl rfl ?_
          refine rr_iload C dX3_together_63 rfl ?_
          replace hr := Option.bind_eq_some_iff.mp hr
          obtain ⟨a35, e36, hr⟩ := hr
          subst e36
          replace hr := Option.bind_eq_some_iff.mp hr
          obtain ⟨u37, e38, hr⟩ := hr
          replace hr := Option.bind_eq_some_iff.mp hr
          obtain ⟨v39, e40, hr⟩ := hr
          refine rr_callVq (as := [.int l4]) (st := [.ref l3]) (mc' := 0) (ms' := 0) C dX3_together_65 iv_X3_100 (by decide) e38 rfl (Nat.le_of_ble_eq_true rfl) (c_X6_at a35 l4 (by omega) e40) (fun v_ h_ n_ q_ => ?_)
          obtain ⟨q1_, q2_, q3_⟩ := q_
          subst v_; subst h_; subst n_
          show WW W0 G 5 _ _ _ 68 [some (.ref l0), some (.ref a35), some (.int l2), some (.ref l3), some (.int l4)] [va_rf v39, .ref l3] h n _ _
          replace hr := Option.bind_eq_some_iff.mp hr
          obtain ⟨u41, e42, hr⟩ := hr
          replace hr := Option.bind_eq_some_iff.mp hr
          obtain ⟨v43, e44, hr⟩ := hr
          refine rr_callVq (as := [va_rf v39]) (st := []) (mc' := 0) (ms' := 0) C dX3_together_68 iv_X3_104 (by decide) e42 rfl (Nat.le_of_ble_eq_true rfl) (c_X6_add l3 v39 (by omega) e44) (fun v_ h_ n_ q_ => ?_)
          obtain ⟨q1_, q2_, q3_⟩ := q_
          subst v_; subst h_; subst n_
          show WW W0 G 5 _ _ _ 71 [some (.ref l0), some (.ref a35), some (.int l2), some (.ref l3), some (.int l4)] [] v43 n _ _
          refine rr_iinc (v := l4 + 1) C dX3_together_71 rfl rfl ?_
          show WW W0 G 5 _ _ _ 74 [some (.ref l0), some (.ref a35), some (.int l2), some (.ref l3), some (.int (l4 + 1))] [] v43 n _ _
          refine rr_goto (tgt := 35) C dX3_together_74 (by decide) ?_
          exact rr_keep [true, true, true, true, true] (ih_ _ _ hr hx0)
set_option maxRecDepth 100000 in
set_option maxHeartbeats 4000000 in
theorem w_X3_together_80 {K : Nat} {W0 : mm_X} {G : mm_G} {mc ms kc ks : Nat} {Q_ : State → Prop} {n : Nat} (C : mm_C W0 G cX3_together yX3_together.cls 5 mc ms (some (.object "WaterReview$RuleBook")) 2 yX3_together.name) (hn : 48 ≤ n) (l0 : Nat) (l3 : Nat) : ∀ (k_ : Nat) (l4 : Int32) (h : mm_H) {r_ : mm_H} (hr : lp_X3_together_80 K n l0 l3 k_ l4 h = some r_) (hx0 : WW W0 G 5 mc ms Q_ 116 [none, none, none, some (.ref l3), none] [] r_ n kc ks), WW W0 G 5 mc ms Q_ 80 [some (.ref l0), none, none, some (.ref l3), some (.int l4)] [] h n kc ks := by
  intro k_
  induction k_ with
  | zero =>
    intro l4 h r_ hr
    cases hr
  | succ k_ ih_ =>
    intro l4 h r_ hr hx0
    unfold lp_X3_together_80 at hr
    refine rr_iload C dX3_together_80 rfl ?_
    refine rr_aload_n (i := 0) C dX3_together_82 rfl rfl ?_
    replace hr := Option.bind_eq_some_iff.mp hr
    obtain ⟨v47, e48, hr⟩ := hr
    refine rr_rdI C dX3_together_83 fl_X3_58 e48 ?_
    refine rr_icmp_ge (tgt := 116) C dX3_together_86 (by decide) (fun c86_ => ?_) (fun c86_ => ?_)
    · replace hr := (if_pos c86_).symm.trans hr
      obtain rfl := Option.some.inj hr
      exact rr_keep [false, false, false, true, false] (hx0)
    · replace hr := (if_neg c86_).symm.trans hr
      refine rr_iload C dX3_together_89 rfl ?_
      refine rr_aload_n (i := 0) C dX3_together_91 rfl rfl ?_
      replace hr := Option.bind_eq_some_iff.mp hr
      obtain ⟨v49, e50, hr⟩ := hr
      refine rr_rdR C dX3_together_92 fl_X3_27 e50 ?_
      replace hr := Option.bind_eq_some_iff.mp hr
      obtain ⟨a51, e52, hr⟩ := hr
      subst e52
      replace hr := Option.bind_eq_some_iff.mp hr
      obtain ⟨v53, e54, hr⟩ := hr
      refine rr_lenA C dX3_together_95 e54 ?_
      refine rr_icmp_ge (tgt := 116) C dX3_together_96 (by decide) (fun c96_ => ?_) (fun c96_ => ?_)
      · replace hr := (if_pos c96_).symm.trans hr
        obtain rfl := Option.some.inj hr
        exact rr_keep [false, false, false, true, false] (hx0)
      · replace hr := (if_neg c96_).symm.trans hr
        refine rr_aload_n (i := 3) C dX3_together_99 rfl rfl ?_
        refine rr_aload_n (i := 0) C dX3_together_100 rfl rfl ?_
        replace hr := Option.bind_eq_some_iff.mp hr
        obtain ⟨v55, e56, hr⟩ := hr
        refine rr_rdR C dX3_together_101 fl_X3_27 e56 ?_
        refine rr_iload C dX3_together_104 rfl ?_
        replace hr := Option.bind_eq_some_iff.mp hr
        obtain ⟨a57, e58, hr⟩ := hr
        subst e58
        replace hr := Option.bind_eq_some_iff.mp hr
        obtain ⟨v59, e60, hr⟩ := hr
        refine rr_ldR C dX3_together_106 e60 ?_
        replace hr := Option.bind_eq_some_iff.mp hr
        obtain ⟨u61, e62, hr⟩ := hr
        replace hr := Option.bind_eq_some_iff.mp hr
        obtain ⟨v63, e64, hr⟩ := hr
        refine rr_callVq (as := [va_rf v59]) (st := []) (mc' := 0) (ms' := 0) C dX3_together_107 iv_X3_104 (by decide) e62 rfl (Nat.le_of_ble_eq_true rfl) (c_X6_add l3 v59 (by omega) e64) (fun v_ h_ n_ q_ => ?_)
        obtain ⟨q1_, q2_, q3_⟩ := q_
        subst v_; subst h_; subst n_
        show WW W0 G 5 _ _ _ 110 [some (.ref l0), none, none, some (.ref l3), some (.int l4)] [] v63 n _ _
        refine rr_iinc (v := l4 + 1) C dX3_together_110 rfl rfl ?_
        show WW W0 G 5 _ _ _ 113 [some (.ref l0), none, none, some (.ref l3), some (.int (l4 + 1))] [] v63 n _ _
        refine rr_goto (tgt := 80) C dX3_together_113 (by decide) ?_
        exact rr_keep [true, false, false, true, true] (ih_ _ _ hr hx0)
set_option maxRecDepth 100000 in
set_option maxHeartbeats 4000000 in
theorem c_X3_together {K : Nat} {G : mm_G} {l : Launch} {h : mm_H} {n : Nat} (l0 : Nat) (l1 : Option Nat) {r_ : Option Nat × mm_H × Nat} (hn : 48 ≤ n) (hr : q_X3_together K h n l0 l1 = some r_) : Sp G l yX3_together cX3_together 5 (some (.object "WaterReview$RuleBook")) 2 2 304 [.ref l0, va_rf l1] h n (fun v h' n' => v = some (va_rf r_.1) ∧ h' = r_.2.1 ∧ n' = r_.2.2 ∧ n ≤ n') := by
  refine Sp_of (by decide +kernel) (by rcases l1 with _ | _ <;> exact Nat.le_of_ble_eq_true rfl) hn ?_
  intro W0 hwl C
  subst hwl
  unfold q_X3_together at hr
  rw [show mm_en 5 [.ref l0, va_rf l1] = [some (.ref l0), some (va_rf l1), none, none, none] from by rcases l1 with _ | _ <;> rfl]
  show WW W0 G 5 2 304 _ 0 [some (.ref l0), some (va_rf l1), none, none, none] [] h n 2 304
  refine rr_aload_nO (i := 1) C dX3_together_0 rfl rfl ?_
  rcases l1 with _ | a1
  · dsimp only at hr
    refine rr_ifnonnullN C dX3_together_1 ?_
    refine rr_iconst (v := 0) C dX3_together_4 (by decide) ?_
    refine rr_goto (tgt := 12) C dX3_together_5 (by decide) ?_
    refine rr_istore_n (i := 2) C dX3_together_12 rfl (by decide) ?_
    show WW W0 G 5 _ _ _ 13 [some (.ref l0), some (.null), some (.int 0), none, none] [] h n _ _
    refine rr_cut C (kc' := 1 + 1) (ks' := 300 + 4) (by omega) (by omega) ?_
    replace hr := Option.bind_eq_some_iff.mp hr
    obtain ⟨h2, e3, hr⟩ := hr
    refine rr_newq C dX3_together_13 nw_X3_93 e3 ?_
    show WW W0 G 5 _ _ _ 16 [some (.ref l0), some (.null), some (.int 0), none, none] [.ref n] h2 (n + 1) _ _
    refine rr_dup C dX3_together_16 rfl ?_
    refine rr_iload_n (i := 2) C dX3_together_17 rfl rfl ?_
    refine rr_aload_n (i := 0) C dX3_together_18 rfl rfl ?_
    replace hr := Option.bind_eq_some_iff.mp hr
    obtain ⟨v4, e5, hr⟩ := hr
    refine rr_rdI C dX3_together_19 fl_X3_49 e5 ?_
    refine rr_isub C dX3_together_22 ?_
    refine rr_aload_n (i := 0) C dX3_together_23 rfl rfl ?_
    replace hr := Option.bind_eq_some_iff.mp hr
    obtain ⟨v6, e7, hr⟩ := hr
    refine rr_rdI C dX3_together_24 fl_X3_58 e7 ?_
    refine rr_iadd C dX3_together_27 ?_
    refine rr_cut C (kc' := 0 + 1) (ks' := 0 + 300) (by omega) (by omega) ?_
    replace hr := Option.bind_eq_some_iff.mp hr
    obtain ⟨⟨h8, n9⟩, e11, hr⟩ := hr
    dsimp only at hr
    refine rr_callI (as := [.int ((0 - v4) + v6)]) (st := [.ref n]) (mc' := 1) (ms' := 300) C dX3_together_28 ii_X3_97 (by decide) (Nat.le_of_ble_eq_true rfl) (c_X6_init n ((0 - v4) + v6) (by omega) e11) (fun v_ h_ n_ q_ => ?_)
    obtain ⟨q1_, q2_, q3_, b12⟩ := q_
    subst v_; subst h_; subst n_
    try dsimp only at b12
    show WW W0 G 5 _ _ _ 31 [some (.ref l0), some (.null), some (.int 0), none, none] [.ref n] h8 n9 _ _
    refine rr_astore_n (i := 3) C dX3_together_31 rfl (by decide) ?_
    show WW W0 G 5 _ _ _ 32 [some (.ref l0), some (.null), some (.int 0), some (.ref n), none] [] h8 n9 _ _
    refine rr_iconst (v := 0) C dX3_together_32 (by decide) ?_
    refine rr_istore C dX3_together_33 (by decide) ?_
    show WW W0 G 5 _ _ _ 35 [some (.ref l0), some (.null), some (.int 0), some (.ref n), some (.int 0)] [] h8 n9 _ _
    replace hr := Option.bind_eq_some_iff.mp hr
    obtain ⟨v45, e46, hr⟩ := hr
    refine rr_keep [true, true, true, true, true] (w_X3_together_35 C (by omega) l0 none 0 n K 0 h8 e46 ?_)
    show WW W0 G 5 _ _ _ 77 [some (.ref l0), none, none, some (.ref n), none] [] v45 n9 _ _
    refine rr_iconst (v := 0) C dX3_together_77 (by decide) ?_
    refine rr_istore C dX3_together_78 (by decide) ?_
    show WW W0 G 5 _ _ _ 80 [some (.ref l0), none, none, some (.ref n), some (.int 0)] [] v45 n9 _ _
    replace hr := Option.bind_eq_some_iff.mp hr
    obtain ⟨v65, e66, hr⟩ := hr
    refine rr_keep [true, false, false, true, true] (w_X3_together_80 C (by omega) l0 n K 0 v45 e66 ?_)
    show WW W0 G 5 _ _ _ 116 [none, none, none, some (.ref n), none] [] v65 n9 _ _
    refine rr_aload_n (i := 3) C dX3_together_116 rfl rfl ?_
    obtain rfl := Option.some.inj hr
    exact rr_aret (r := (some n)) C dX3_together_117 rfl (Or.inl ⟨_, rfl⟩) ⟨rfl, rfl, rfl, by omega⟩
  · dsimp only at hr
    refine rr_ifnonnull (tgt := 8) C dX3_together_1 (by decide) ?_
    refine rr_aload_n (i := 1) C dX3_together_8 rfl rfl ?_
    replace hr := Option.bind_eq_some_iff.mp hr
    obtain ⟨v67, e68, hr⟩ := hr
    refine rr_rdI C dX3_together_9 fl_X3_92 e68 ?_
    refine rr_istore_n (i := 2) C dX3_together_12 rfl (by decide) ?_
    show WW W0 G 5 _ _ _ 13 [some (.ref l0), some (.ref a1), some (.int v67), none, none] [] h n _ _
    refine rr_cut C (kc' := 1 + 1) (ks' := 300 + 4) (by omega) (by omega) ?_
    replace hr := Option.bind_eq_some_iff.mp hr
    obtain ⟨h69, e70, hr⟩ := hr
    refine rr_newq C dX3_together_13 nw_X3_93 e70 ?_
    show WW W0 G 5 _ _ _ 16 [some (.ref l0), some (.ref a1), some (.int v67), none, none] [.ref n] h69 (n + 1) _ _
    refine rr_dup C dX3_together_16 rfl ?_
    refine rr_iload_n (i := 2) C dX3_together_17 rfl rfl ?_
    refine rr_aload_n (i := 0) C dX3_together_18 rfl rfl ?_
    replace hr := Option.bind_eq_some_iff.mp hr
    obtain ⟨v71, e72, hr⟩ := hr
    refine rr_rdI C dX3_together_19 fl_X3_49 e72 ?_
    refine rr_isub C dX3_together_22 ?_
    refine rr_aload_n (i := 0) C dX3_together_23 rfl rfl ?_
    replace hr := Option.bind_eq_some_iff.mp hr
    obtain ⟨v73, e74, hr⟩ := hr
    refine rr_rdI C dX3_together_24 fl_X3_58 e74 ?_
    refine rr_iadd C dX3_together_27 ?_
    refine rr_cut C (kc' := 0 + 1) (ks' := 0 + 300) (by omega) (by omega) ?_
    replace hr := Option.bind_eq_some_iff.mp hr
    obtain ⟨⟨h75, n76⟩, e78, hr⟩ := hr
    dsimp only at hr
    refine rr_callI (as := [.int ((v67 - v71) + v73)]) (st := [.ref n]) (mc' := 1) (ms' := 300) C dX3_together_28 ii_X3_97 (by decide) (Nat.le_of_ble_eq_true rfl) (c_X6_init n ((v67 - v71) + v73) (by omega) e78) (fun v_ h_ n_ q_ => ?_)
    obtain ⟨q1_, q2_, q3_, b79⟩ := q_
    subst v_; subst h_; subst n_
    try dsimp only at b79
    show WW W0 G 5 _ _ _ 31 [some (.ref l0), some (.ref a1), some (.int v67), none, none] [.ref n] h75 n76 _ _
    refine rr_astore_n (i := 3) C dX3_together_31 rfl (by decide) ?_
    show WW W0 G 5 _ _ _ 32 [some (.ref l0), some (.ref a1), some (.int v67), some (.ref n), none] [] h75 n76 _ _
    refine rr_iconst (v := 0) C dX3_together_32 (by decide) ?_
    refine rr_istore C dX3_together_33 (by decide) ?_
    show WW W0 G 5 _ _ _ 35 [some (.ref l0), some (.ref a1), some (.int v67), some (.ref n), some (.int 0)] [] h75 n76 _ _
    replace hr := Option.bind_eq_some_iff.mp hr
    obtain ⟨v80, e81, hr⟩ := hr
    refine rr_keep [true, true, true, true, true] (w_X3_together_35 C (by omega) l0 (some a1) v67 n K 0 h75 e81 ?_)
    show WW W0 G 5 _ _ _ 77 [some (.ref l0), none, none, some (.ref n), none] [] v80 n76 _ _
    refine rr_iconst (v := 0) C dX3_together_77 (by decide) ?_
    refine rr_istore C dX3_together_78 (by decide) ?_
    show WW W0 G 5 _ _ _ 80 [some (.ref l0), none, none, some (.ref n), some (.int 0)] [] v80 n76 _ _
    replace hr := Option.bind_eq_some_iff.mp hr
    obtain ⟨v82, e83, hr⟩ := hr
    refine rr_keep [true, false, false, true, true] (w_X3_together_80 C (by omega) l0 n K 0 v80 e83 ?_)
    show WW W0 G 5 _ _ _ 116 [none, none, none, some (.ref n), none] [] v82 n76 _ _
    refine rr_aload_n (i := 3) C dX3_together_116 rfl rfl ?_
    obtain rfl := Option.some.inj hr
    exact rr_aret (r := (some n)) C dX3_together_117 rfl (Or.inl ⟨_, rfl⟩) ⟨rfl, rfl, rfl, by omega⟩
def q_J7_copyOf_59c91 (K : Nat) (h : mm_H) (n : Nat) (l0 : Option Nat) (l1 : Int32) : Option (Option Nat × mm_H × Nat) :=
  l0.bind fun a1 =>
  (lenA h n a1 0).bind fun v3 =>
  if l1 = v3 then
    (clA h n a1 900).bind fun h5 =>
    (ckA h5 (n + 1) n).bind fun u7 =>
    some ((some n), h5, n + 1)
  else
  (newI h n .int 900 l1).bind fun h9 =>
  (lenA h9 (n + 1) a1 0).bind fun v11 =>
  (cpA h9 (n + 1) a1 n (i_min v11 l1)).bind fun h13 =>
  some ((some n), h13, n + 1)
set_option maxRecDepth 100000 in
set_option maxHeartbeats 4000000 in
theorem c_J7_copyOf_59c91 {K : Nat} {G : mm_G} {l : Launch} {h : mm_H} {n : Nat} (l0 : Option Nat) (l1 : Int32) {r_ : Option Nat × mm_H × Nat} (hn : 48 ≤ n) (hr : q_J7_copyOf_59c91 K h n l0 l1 = some r_) : Sp G l yJ7_copyOf_59c91 cJ7_copyOf_59c91 3 (some (.array .int)) 1 1 900 [va_rf l0, .int l1] h n (fun v h' n' => v = some (va_rf r_.1) ∧ h' = r_.2.1 ∧ n' = r_.2.2 ∧ n ≤ n') := by
  refine Sp_of (by decide +kernel) (by rcases l0 with _ | _ <;> exact Nat.le_of_ble_eq_true rfl) hn ?_
  intro W0 hwl C
  subst hwl
  unfold q_J7_copyOf_59c91 at hr
  rw [show mm_en 3 [va_rf l0, .int l1] = [some (va_rf l0), some (.int l1), none] from by rcases l0 with _ | _ <;> rfl]
  show WW W0 G 3 1 900 _ 0 [some (va_rf l0), some (.int l1), none] [] h n 1 900
  refine rr_iload_n (i := 1) C dJ7_copyOf_59c91_0 rfl rfl ?_
  refine rr_aload_nO (i := 0) C dJ7_copyOf_59c91_1 rfl rfl ?_
  replace hr := Option.bind_eq_some_iff.mp hr
  obtain ⟨a1, e2, hr⟩ := hr
  subst e2
  replace hr := Option.bind_eq_some_iff.mp hr
  obtain ⟨v3, e4, hr⟩ := hr
  refine rr_lenA C dJ7_copyOf_59c91_2 e4 ?_
  refine rr_icmp_ne (tgt := 14) C dJ7_copyOf_59c91_3 (by decide) (fun c3_ => ?_) (fun c3_ => ?_)
  · replace hr := (if_neg c3_).symm.trans hr
    refine rr_iload_n (i := 1) C dJ7_copyOf_59c91_14 rfl rfl ?_
    refine rr_cut C (kc' := 0 + 1) (ks' := 0 + 900) (by omega) (by omega) ?_
    replace hr := Option.bind_eq_some_iff.mp hr
    obtain ⟨h9, e10, hr⟩ := hr
    refine rr_newIq C dJ7_copyOf_59c91_15 (t0 := 0) rfl rfl (by decide) rfl ac_int (N := 900) (by decide) e10 ?_
    show WW W0 G 3 _ _ _ 17 [some (.ref a1), some (.int l1), none] [.ref n] h9 (n + 1) _ _
    refine rr_astore_n (i := 2) C dJ7_copyOf_59c91_17 rfl (by decide) ?_
    show WW W0 G 3 _ _ _ 18 [some (.ref a1), some (.int l1), some (.ref n)] [] h9 (n + 1) _ _
    refine rr_aload_n (i := 0) C dJ7_copyOf_59c91_18 rfl rfl ?_
    refine rr_iconst (v := 0) C dJ7_copyOf_59c91_19 (by decide) ?_
    refine rr_aload_n (i := 2) C dJ7_copyOf_59c91_20 rfl rfl ?_
    refine rr_iconst (v := 0) C dJ7_copyOf_59c91_21 (by decide) ?_
    refine rr_aload_n (i := 0) C dJ7_copyOf_59c91_22 rfl rfl ?_
    replace hr := Option.bind_eq_some_iff.mp hr
    obtain ⟨v11, e12, hr⟩ := hr
    refine rr_lenA C dJ7_copyOf_59c91_23 e12 ?_
    refine rr_iload_n (i := 1) C dJ7_copyOf_59c91_24 rfl rfl ?_
    refine rr_mmin C dJ7_copyOf_59c91_25 ma_J7_304 (by decide) (Nat.le_of_ble_eq_true rfl) ?_
    replace hr := Option.bind_eq_some_iff.mp hr
    obtain ⟨h13, e14, hr⟩ := hr
    refine rr_acopyq C dJ7_copyOf_59c91_28 kl_150 (by decide) (Nat.le_of_ble_eq_true rfl) e14 ?_
    show WW W0 G 3 _ _ _ 31 [some (.ref a1), some (.int l1), some (.ref n)] [] h13 (n + 1) _ _
    refine rr_aload_n (i := 2) C dJ7_copyOf_59c91_31 rfl rfl ?_
    obtain rfl := Option.some.inj hr
    exact rr_aret (r := (some n)) C dJ7_copyOf_59c91_32 rfl (Or.inr ⟨_, rfl⟩) ⟨rfl, rfl, rfl, by omega⟩
  · replace hr := (if_pos c3_).symm.trans hr
    refine rr_aload_n (i := 0) C dJ7_copyOf_59c91_6 rfl rfl ?_
    refine rr_cut C (kc' := 0 + 1) (ks' := 0 + 900) (by omega) (by omega) ?_
    replace hr := Option.bind_eq_some_iff.mp hr
    obtain ⟨h5, e6, hr⟩ := hr
    refine rr_cloneq C dJ7_copyOf_59c91_7 kl_316 (by decide) (Nat.le_of_ble_eq_true rfl) e6 ?_
    show WW W0 G 3 _ _ _ 10 [some (.ref a1), some (.int l1), none] [.ref n] h5 (n + 1) _ _
    replace hr := Option.bind_eq_some_iff.mp hr
    obtain ⟨u7, e8, hr⟩ := hr
    refine rr_castq C dJ7_copyOf_59c91_10 kl_317 e8 ?_
    obtain rfl := Option.some.inj hr
    exact rr_aret (r := (some n)) C dJ7_copyOf_59c91_13 rfl (Or.inr ⟨_, rfl⟩) ⟨rfl, rfl, rfl, by omega⟩
def q_X3_rule (K : Nat) (h : mm_H) (n : Nat) (l0 : Nat) : Option (mm_H × Nat) :=
  (ckq h n l0 3).bind fun u1 =>
  (q_X3_pick K h n l0 (some 5)).bind fun v3 =>
  (newO v3.2 n 5 [.int 0, .int 0, .int 0, .int 0, .int 0, .int 0, .int 0, .int 0, .int 0, .int 0, .null]).bind fun h6 =>
  (q_X5_init K h6 (n + 1) n v3.1).bind fun h8 =>
  (wrF h8 (n + 1) l0 3 11 (.int 0)).bind fun h12 =>
  if v3.1 = 0 then
    (ckq h12 (n + 1) l0 3).bind fun u14 =>
    (q_X3_allow K h12 (n + 1) l0 (some n)).bind fun v16 =>
    (ckq v16 (n + 1) l0 3).bind fun u18 =>
    (q_X3_isWord K v16 (n + 1) l0 (some 7)).bind fun v20 =>
    if v20 = 0 then
      (ckq v16 (n + 1) l0 3).bind fun u22 =>
      (q_X3_sign K v16 (n + 1) l0 59).bind fun v24 =>
      (rdI v24 (n + 1) l0 3 5).bind fun v26 =>
      if v26 = (-1) then
        (rdI v24 (n + 1) l0 3 9).bind fun v28 =>
        (rdR v24 (n + 1) l0 3 8).bind fun v30 =>
        v30.bind fun a32 =>
        (lenA v24 (n + 1) a32 4).bind fun v34 =>
        if v34 ≤ v28 then
          some (v24, n + 1)
        else
        (rdR v24 (n + 1) l0 3 8).bind fun v36 =>
        (rdI v24 (n + 1) l0 3 9).bind fun v38 =>
        v36.bind fun a40 =>
        (stR v24 (n + 1) a40 4 5 v38 n).bind fun h42 =>
        (rdI h42 (n + 1) l0 3 9).bind fun v44 =>
        (wrF h42 (n + 1) l0 3 9 (.int (v44 + 1))).bind fun h46 =>
        some (h46, n + 1)
      else
      some (v24, n + 1)
    else
    (ckq v16 (n + 1) l0 3).bind fun u48 =>
    (q_X3_step K v16 (n + 1) l0).bind fun v50 =>
    (ckq v50 (n + 1) l0 3).bind fun u52 =>
    (q_X3_any K v50 (n + 1) l0 0).bind fun v54 =>
    (rdR v54 (n + 1) l0 3 10).bind fun v56 =>
    (rdI v54 (n + 1) l0 3 11).bind fun v58 =>
    (rdR v54 (n + 1) l0 3 10).bind fun v60 =>
    v60.bind fun a62 =>
    (lenA v54 (n + 1) a62 0).bind fun v64 =>
    (q_J7_copyOf_59c91 K v54 (n + 1) v56 (i_min v58 v64)).bind fun (v68, h66, n67) =>
    (wrF h66 n67 n 5 10 (va_rf v68)).bind fun h71 =>
    (ckq h71 n67 l0 3).bind fun u73 =>
    (q_X3_sign K h71 n67 l0 59).bind fun v75 =>
    (rdI v75 n67 l0 3 5).bind fun v77 =>
    if v77 = (-1) then
      (rdI v75 n67 l0 3 9).bind fun v79 =>
      (rdR v75 n67 l0 3 8).bind fun v81 =>
      v81.bind fun a83 =>
      (lenA v75 n67 a83 4).bind fun v85 =>
      if v85 ≤ v79 then
        some (v75, n67)
      else
      (rdR v75 n67 l0 3 8).bind fun v87 =>
      (rdI v75 n67 l0 3 9).bind fun v89 =>
      v87.bind fun a91 =>
      (stR v75 n67 a91 4 5 v89 n).bind fun h93 =>
      (rdI h93 n67 l0 3 9).bind fun v95 =>
      (wrF h93 n67 l0 3 9 (.int (v95 + 1))).bind fun h97 =>
      some (h97, n67)
    else
    some (v75, n67)
  else
  if v3.1 = 1 then
    (ckq h12 (n + 1) l0 3).bind fun u99 =>
    (q_X3_pick K h12 (n + 1) l0 (some 6)).bind fun v101 =>
    (wrF v101.2 (n + 1) n 5 1 (.int v101.1)).bind fun h103 =>
    (ckq h103 (n + 1) l0 3).bind fun u105 =>
    (q_X3_number K h103 (n + 1) l0 0 100).bind fun v107 =>
    (wrF v107.2 (n + 1) n 5 4 (.int v107.1)).bind fun h109 =>
    (ckq h109 (n + 1) l0 3).bind fun u111 =>
    (q_X3_number K h109 (n + 1) l0 0 100).bind fun v113 =>
    (wrF v113.2 (n + 1) n 5 5 (.int v113.1)).bind fun h115 =>
    (ckq h115 (n + 1) l0 3).bind fun u117 =>
    (q_X3_isWord K h115 (n + 1) l0 (some 7)).bind fun v119 =>
    if v119 = 0 then
      (ckq h115 (n + 1) l0 3).bind fun u121 =>
      (q_X3_sign K h115 (n + 1) l0 59).bind fun v123 =>
      (rdI v123 (n + 1) l0 3 5).bind fun v125 =>
      if v125 = (-1) then
        (rdI v123 (n + 1) l0 3 9).bind fun v127 =>
        (rdR v123 (n + 1) l0 3 8).bind fun v129 =>
        v129.bind fun a131 =>
        (lenA v123 (n + 1) a131 4).bind fun v133 =>
        if v133 ≤ v127 then
          some (v123, n + 1)
        else
        (rdR v123 (n + 1) l0 3 8).bind fun v135 =>
        (rdI v123 (n + 1) l0 3 9).bind fun v137 =>
        v135.bind fun a139 =>
        (stR v123 (n + 1) a139 4 5 v137 n).bind fun h141 =>
        (rdI h141 (n + 1) l0 3 9).bind fun v143 =>
        (wrF h141 (n + 1) l0 3 9 (.int (v143 + 1))).bind fun h145 =>
        some (h145, n + 1)
      else
      some (v123, n + 1)
    else
    (ckq h115 (n + 1) l0 3).bind fun u147 =>
    (q_X3_step K h115 (n + 1) l0).bind fun v149 =>
    (ckq v149 (n + 1) l0 3).bind fun u151 =>
    (q_X3_any K v149 (n + 1) l0 0).bind fun v153 =>
    (rdR v153 (n + 1) l0 3 10).bind fun v155 =>
    (rdI v153 (n + 1) l0 3 11).bind fun v157 =>
    (rdR v153 (n + 1) l0 3 10).bind fun v159 =>
    v159.bind fun a161 =>
    (lenA v153 (n + 1) a161 0).bind fun v163 =>
    (q_J7_copyOf_59c91 K v153 (n + 1) v155 (i_min v157 v163)).bind fun (v167, h165, n166) =>
    (wrF h165 n166 n 5 10 (va_rf v167)).bind fun h170 =>
    (ckq h170 n166 l0 3).bind fun u172 =>
    (q_X3_sign K h170 n166 l0 59).bind fun v174 =>
    (rdI v174 n166 l0 3 5).bind fun v176 =>
    if v176 = (-1) then
      (rdI v174 n166 l0 3 9).bind fun v178 =>
      (rdR v174 n166 l0 3 8).bind fun v180 =>
      v180.bind fun a182 =>
      (lenA v174 n166 a182 4).bind fun v184 =>
      if v184 ≤ v178 then
        some (v174, n166)
      else
      (rdR v174 n166 l0 3 8).bind fun v186 =>
      (rdI v174 n166 l0 3 9).bind fun v188 =>
      v186.bind fun a190 =>
      (stR v174 n166 a190 4 5 v188 n).bind fun h192 =>
      (rdI h192 n166 l0 3 9).bind fun v194 =>
      (wrF h192 n166 l0 3 9 (.int (v194 + 1))).bind fun h196 =>
      some (h196, n166)
    else
    some (v174, n166)
  else
  if v3.1 = 2 then
    (ckq h12 (n + 1) l0 3).bind fun u198 =>
    (q_X3_target K h12 (n + 1) l0 (some n)).bind fun v200 =>
    (ckq v200 (n + 1) l0 3).bind fun u202 =>
    (q_X3_isWord K v200 (n + 1) l0 (some 7)).bind fun v204 =>
    if v204 = 0 then
      (ckq v200 (n + 1) l0 3).bind fun u206 =>
      (q_X3_sign K v200 (n + 1) l0 59).bind fun v208 =>
      (rdI v208 (n + 1) l0 3 5).bind fun v210 =>
      if v210 = (-1) then
        (rdI v208 (n + 1) l0 3 9).bind fun v212 =>
        (rdR v208 (n + 1) l0 3 8).bind fun v214 =>
        v214.bind fun a216 =>
        (lenA v208 (n + 1) a216 4).bind fun v218 =>
        if v218 ≤ v212 then
          some (v208, n + 1)
        else
        (rdR v208 (n + 1) l0 3 8).bind fun v220 =>
        (rdI v208 (n + 1) l0 3 9).bind fun v222 =>
        v220.bind fun a224 =>
        (stR v208 (n + 1) a224 4 5 v222 n).bind fun h226 =>
        (rdI h226 (n + 1) l0 3 9).bind fun v228 =>
        (wrF h226 (n + 1) l0 3 9 (.int (v228 + 1))).bind fun h230 =>
        some (h230, n + 1)
      else
      some (v208, n + 1)
    else
    (ckq v200 (n + 1) l0 3).bind fun u232 =>
    (q_X3_step K v200 (n + 1) l0).bind fun v234 =>
    (ckq v234 (n + 1) l0 3).bind fun u236 =>
    (q_X3_any K v234 (n + 1) l0 0).bind fun v238 =>
    (rdR v238 (n + 1) l0 3 10).bind fun v240 =>
    (rdI v238 (n + 1) l0 3 11).bind fun v242 =>
    (rdR v238 (n + 1) l0 3 10).bind fun v244 =>
    v244.bind fun a246 =>
    (lenA v238 (n + 1) a246 0).bind fun v248 =>
    (q_J7_copyOf_59c91 K v238 (n + 1) v240 (i_min v242 v248)).bind fun (v252, h250, n251) =>
    (wrF h250 n251 n 5 10 (va_rf v252)).bind fun h255 =>
    (ckq h255 n251 l0 3).bind fun u257 =>
    (q_X3_sign K h255 n251 l0 59).bind fun v259 =>
    (rdI v259 n251 l0 3 5).bind fun v261 =>
    if v261 = (-1) then
      (rdI v259 n251 l0 3 9).bind fun v263 =>
      (rdR v259 n251 l0 3 8).bind fun v265 =>
      v265.bind fun a267 =>
      (lenA v259 n251 a267 4).bind fun v269 =>
      if v269 ≤ v263 then
        some (v259, n251)
      else
      (rdR v259 n251 l0 3 8).bind fun v271 =>
      (rdI v259 n251 l0 3 9).bind fun v273 =>
      v271.bind fun a275 =>
      (stR v259 n251 a275 4 5 v273 n).bind fun h277 =>
      (rdI h277 n251 l0 3 9).bind fun v279 =>
      (wrF h277 n251 l0 3 9 (.int (v279 + 1))).bind fun h281 =>
      some (h281, n251)
    else
    some (v259, n251)
  else
  if v3.1 = 3 then
    (ckq h12 (n + 1) l0 3).bind fun u283 =>
    (q_X3_number K h12 (n + 1) l0 0 500).bind fun v285 =>
    (wrF v285.2 (n + 1) n 5 4 (.int v285.1)).bind fun h287 =>
    (ckq h287 (n + 1) l0 3).bind fun u289 =>
    (q_X3_isWord K h287 (n + 1) l0 (some 7)).bind fun v291 =>
    if v291 = 0 then
      (ckq h287 (n + 1) l0 3).bind fun u293 =>
      (q_X3_sign K h287 (n + 1) l0 59).bind fun v295 =>
      (rdI v295 (n + 1) l0 3 5).bind fun v297 =>
      if v297 = (-1) then
        (rdI v295 (n + 1) l0 3 9).bind fun v299 =>
        (rdR v295 (n + 1) l0 3 8).bind fun v301 =>
        v301.bind fun a303 =>
        (lenA v295 (n + 1) a303 4).bind fun v305 =>
        if v305 ≤ v299 then
          some (v295, n + 1)
        else
        (rdR v295 (n + 1) l0 3 8).bind fun v307 =>
        (rdI v295 (n + 1) l0 3 9).bind fun v309 =>
        v307.bind fun a311 =>
        (stR v295 (n + 1) a311 4 5 v309 n).bind fun h313 =>
        (rdI h313 (n + 1) l0 3 9).bind fun v315 =>
        (wrF h313 (n + 1) l0 3 9 (.int (v315 + 1))).bind fun h317 =>
        some (h317, n + 1)
      else
      some (v295, n + 1)
    else
    (ckq h287 (n + 1) l0 3).bind fun u319 =>
    (q_X3_step K h287 (n + 1) l0).bind fun v321 =>
    (ckq v321 (n + 1) l0 3).bind fun u323 =>
    (q_X3_any K v321 (n + 1) l0 0).bind fun v325 =>
    (rdR v325 (n + 1) l0 3 10).bind fun v327 =>
    (rdI v325 (n + 1) l0 3 11).bind fun v329 =>
    (rdR v325 (n + 1) l0 3 10).bind fun v331 =>
    v331.bind fun a333 =>
    (lenA v325 (n + 1) a333 0).bind fun v335 =>
    (q_J7_copyOf_59c91 K v325 (n + 1) v327 (i_min v329 v335)).bind fun (v339, h337, n338) =>
    (wrF h337 n338 n 5 10 (va_rf v339)).bind fun h342 =>
    (ckq h342 n338 l0 3).bind fun u344 =>
    (q_X3_sign K h342 n338 l0 59).bind fun v346 =>
    (rdI v346 n338 l0 3 5).bind fun v348 =>
    if v348 = (-1) then
      (rdI v346 n338 l0 3 9).bind fun v350 =>
      (rdR v346 n338 l0 3 8).bind fun v352 =>
      v352.bind fun a354 =>
      (lenA v346 n338 a354 4).bind fun v356 =>
      if v356 ≤ v350 then
        some (v346, n338)
      else
      (rdR v346 n338 l0 3 8).bind fun v358 =>
      (rdI v346 n338 l0 3 9).bind fun v360 =>
      v358.bind fun a362 =>
      (stR v346 n338 a362 4 5 v360 n).bind fun h364 =>
      (rdI h364 n338 l0 3 9).bind fun v366 =>
      (wrF h364 n338 l0 3 9 (.int (v366 + 1))).bind fun h368 =>
      some (h368, n338)
    else
    some (v346, n338)
  else
  if v3.1 = 4 then
    (ckq h12 (n + 1) l0 3).bind fun u370 =>
    (q_X3_number K h12 (n + 1) l0 50 150).bind fun v372 =>
    (wrF v372.2 (n + 1) n 5 4 (.int v372.1)).bind fun h374 =>
    (ckq h374 (n + 1) l0 3).bind fun u376 =>
    (q_X3_isWord K h374 (n + 1) l0 (some 7)).bind fun v378 =>
    if v378 = 0 then
      (ckq h374 (n + 1) l0 3).bind fun u380 =>
      (q_X3_sign K h374 (n + 1) l0 59).bind fun v382 =>
      (rdI v382 (n + 1) l0 3 5).bind fun v384 =>
      if v384 = (-1) then
        (rdI v382 (n + 1) l0 3 9).bind fun v386 =>
        (rdR v382 (n + 1) l0 3 8).bind fun v388 =>
        v388.bind fun a390 =>
        (lenA v382 (n + 1) a390 4).bind fun v392 =>
        if v392 ≤ v386 then
          some (v382, n + 1)
        else
        (rdR v382 (n + 1) l0 3 8).bind fun v394 =>
        (rdI v382 (n + 1) l0 3 9).bind fun v396 =>
        v394.bind fun a398 =>
        (stR v382 (n + 1) a398 4 5 v396 n).bind fun h400 =>
        (rdI h400 (n + 1) l0 3 9).bind fun v402 =>
        (wrF h400 (n + 1) l0 3 9 (.int (v402 + 1))).bind fun h404 =>
        some (h404, n + 1)
      else
      some (v382, n + 1)
    else
    (ckq h374 (n + 1) l0 3).bind fun u406 =>
    (q_X3_step K h374 (n + 1) l0).bind fun v408 =>
    (ckq v408 (n + 1) l0 3).bind fun u410 =>
    (q_X3_any K v408 (n + 1) l0 0).bind fun v412 =>
    (rdR v412 (n + 1) l0 3 10).bind fun v414 =>
    (rdI v412 (n + 1) l0 3 11).bind fun v416 =>
    (rdR v412 (n + 1) l0 3 10).bind fun v418 =>
    v418.bind fun a420 =>
    (lenA v412 (n + 1) a420 0).bind fun v422 =>
    (q_J7_copyOf_59c91 K v412 (n + 1) v414 (i_min v416 v422)).bind fun (v426, h424, n425) =>
    (wrF h424 n425 n 5 10 (va_rf v426)).bind fun h429 =>
    (ckq h429 n425 l0 3).bind fun u431 =>
    (q_X3_sign K h429 n425 l0 59).bind fun v433 =>
    (rdI v433 n425 l0 3 5).bind fun v435 =>
    if v435 = (-1) then
      (rdI v433 n425 l0 3 9).bind fun v437 =>
      (rdR v433 n425 l0 3 8).bind fun v439 =>
      v439.bind fun a441 =>
      (lenA v433 n425 a441 4).bind fun v443 =>
      if v443 ≤ v437 then
        some (v433, n425)
      else
      (rdR v433 n425 l0 3 8).bind fun v445 =>
      (rdI v433 n425 l0 3 9).bind fun v447 =>
      v445.bind fun a449 =>
      (stR v433 n425 a449 4 5 v447 n).bind fun h451 =>
      (rdI h451 n425 l0 3 9).bind fun v453 =>
      (wrF h451 n425 l0 3 9 (.int (v453 + 1))).bind fun h455 =>
      some (h455, n425)
    else
    some (v433, n425)
  else
  (ckq h12 (n + 1) l0 3).bind fun u457 =>
  (q_X3_number K h12 (n + 1) l0 0 100).bind fun v459 =>
  (wrF v459.2 (n + 1) n 5 4 (.int v459.1)).bind fun h461 =>
  (ckq h461 (n + 1) l0 3).bind fun u463 =>
  (q_X3_isWord K h461 (n + 1) l0 (some 7)).bind fun v465 =>
  if v465 = 0 then
    (ckq h461 (n + 1) l0 3).bind fun u467 =>
    (q_X3_sign K h461 (n + 1) l0 59).bind fun v469 =>
    (rdI v469 (n + 1) l0 3 5).bind fun v471 =>
    if v471 = (-1) then
      (rdI v469 (n + 1) l0 3 9).bind fun v473 =>
      (rdR v469 (n + 1) l0 3 8).bind fun v475 =>
      v475.bind fun a477 =>
      (lenA v469 (n + 1) a477 4).bind fun v479 =>
      if v479 ≤ v473 then
        some (v469, n + 1)
      else
      (rdR v469 (n + 1) l0 3 8).bind fun v481 =>
      (rdI v469 (n + 1) l0 3 9).bind fun v483 =>
      v481.bind fun a485 =>
      (stR v469 (n + 1) a485 4 5 v483 n).bind fun h487 =>
      (rdI h487 (n + 1) l0 3 9).bind fun v489 =>
      (wrF h487 (n + 1) l0 3 9 (.int (v489 + 1))).bind fun h491 =>
      some (h491, n + 1)
    else
    some (v469, n + 1)
  else
  (ckq h461 (n + 1) l0 3).bind fun u493 =>
  (q_X3_step K h461 (n + 1) l0).bind fun v495 =>
  (ckq v495 (n + 1) l0 3).bind fun u497 =>
  (q_X3_any K v495 (n + 1) l0 0).bind fun v499 =>
  (rdR v499 (n + 1) l0 3 10).bind fun v501 =>
  (rdI v499 (n + 1) l0 3 11).bind fun v503 =>
  (rdR v499 (n + 1) l0 3 10).bind fun v505 =>
  v505.bind fun a507 =>
  (lenA v499 (n + 1) a507 0).bind fun v509 =>
  (q_J7_copyOf_59c91 K v499 (n + 1) v501 (i_min v503 v509)).bind fun (v513, h511, n512) =>
  (wrF h511 n512 n 5 10 (va_rf v513)).bind fun h516 =>
  (ckq h516 n512 l0 3).bind fun u518 =>
  (q_X3_sign K h516 n512 l0 59).bind fun v520 =>
  (rdI v520 n512 l0 3 5).bind fun v522 =>
  if v522 = (-1) then
    (rdI v520 n512 l0 3 9).bind fun v524 =>
    (rdR v520 n512 l0 3 8).bind fun v526 =>
    v526.bind fun a528 =>
    (lenA v520 n512 a528 4).bind fun v530 =>
    if v530 ≤ v524 then
      some (v520, n512)
    else
    (rdR v520 n512 l0 3 8).bind fun v532 =>
    (rdI v520 n512 l0 3 9).bind fun v534 =>
    v532.bind fun a536 =>
    (stR v520 n512 a536 4 5 v534 n).bind fun h538 =>
    (rdI h538 n512 l0 3 9).bind fun v540 =>
    (wrF h538 n512 l0 3 9 (.int (v540 + 1))).bind fun h542 =>
    some (h542, n512)
  else
  some (v520, n512)
set_option maxRecDepth 100000 in
set_option maxHeartbeats 4000000 in
theorem c_X3_rule {K : Nat} {G : mm_G} {l : Launch} {h : mm_H} {n : Nat} (l0 : Nat) {r_ : mm_H × Nat} (hn : 48 ≤ n) (hr : q_X3_rule K h n l0 = some r_) : Sp G l yX3_rule cX3_rule 3 none 56 2 911 [.ref l0] h n (fun v h' n' => v = none ∧ h' = r_.1 ∧ n' = r_.2 ∧ n ≤ n') := by
  refine Sp_of (by decide +kernel) (Nat.le_of_ble_eq_true rfl) hn ?_
  intro W0 hwl C
  subst hwl
  unfold q_X3_rule at hr
  show WW W0 G 3 2 911 _ 0 [some (.ref l0), none, none] [] h n 2 911
  refine rr_aload_n (i := 0) C dX3_rule_0 rfl rfl ?_
  refine rr_ldcS (i := 2) C dX3_rule_1 (by decide) rfl ?_
  replace hr := Option.bind_eq_some_iff.mp hr
  obtain ⟨u1, e2, hr⟩ := hr
  replace hr := Option.bind_eq_some_iff.mp hr
  obtain ⟨v3, e4, hr⟩ := hr
  refine rr_callVq (as := [.ref 5]) (st := []) (mc' := 0) (ms' := 0) C dX3_rule_3 iv_X3_114 (by decide) e2 rfl (Nat.le_of_ble_eq_true rfl) (c_X3_pick l0 (some 5) (by omega) e4) (fun v_ h_ n_ q_ => ?_)
  obtain ⟨q1_, q2_, q3_⟩ := q_
  subst v_; subst h_; subst n_
  show WW W0 G 3 _ _ _ 6 [some (.ref l0), none, none] [.int v3.1] v3.2 n _ _
  refine rr_istore_n (i := 1) C dX3_rule_6 rfl (by decide) ?_
  show WW W0 G 3 _ _ _ 7 [some (.ref l0), some (.int v3.1), none] [] v3.2 n _ _
  refine rr_cut C (kc' := 1 + 1) (ks' := 900 + 11) (by omega) (by omega) ?_
  replace hr := Option.bind_eq_some_iff.mp hr
  obtain ⟨h6, e7, hr⟩ := hr
  refine rr_newq C dX3_rule_7 nw_X3_25 e7 ?_
  show WW W0 G 3 _ _ _ 10 [some (.ref l0), some (.int v3.1), none] [.ref n] h6 (n + 1) _ _
  refine rr_dup C dX3_rule_10 rfl ?_
  refine rr_iload_n (i := 1) C dX3_rule_11 rfl rfl ?_
  replace hr := Option.bind_eq_some_iff.mp hr
  obtain ⟨h8, e11, hr⟩ := hr
  refine rr_callI (as := [.int v3.1]) (st := [.ref n]) (mc' := 0) (ms' := 0) C dX3_rule_12 ii_X3_118 (by decide) (Nat.le_of_ble_eq_true rfl) (c_X5_init n v3.1 (by omega) e11) (fun v_ h_ n_ q_ => ?_)
  obtain ⟨q1_, q2_, q3_⟩ := q_
  subst v_; subst h_; subst n_
  show WW W0 G 3 _ _ _ 15 [some (.ref l0), some (.int v3.1), none] [.ref n] h8 (n + 1) _ _
  refine rr_astore_n (i := 2) C dX3_rule_15 rfl (by decide) ?_
  show WW W0 G 3 _ _ _ 16 [some (.ref l0), some (.int v3.1), some (.ref n)] [] h8 (n + 1) _ _
  refine rr_aload_n (i := 0) C dX3_rule_16 rfl rfl ?_
  refine rr_iconst (v := 0) C dX3_rule_17 (by decide) ?_
  replace hr := Option.bind_eq_some_iff.mp hr
  obtain ⟨h12, e13, hr⟩ := hr
  refine rr_wrF C dX3_rule_18 fp_X3_119 rfl rfl e13 ?_
  refine rr_iload_n (i := 1) C dX3_rule_21 rfl rfl ?_
  by_cases s22_0 : v3.1 = 0
  · replace hr := (if_pos s22_0).symm.trans hr
    refine rr_tabIn (off := 34) (tgt := 56) C dX3_rule_22 (by rw [s22_0]; decide) (by rw [s22_0]; decide) (by rw [s22_0]; rfl) (by decide) ?_
    refine rr_aload_n (i := 0) C dX3_rule_56 rfl rfl ?_
    refine rr_aload_n (i := 2) C dX3_rule_57 rfl rfl ?_
    replace hr := Option.bind_eq_some_iff.mp hr
    obtain ⟨u14, e15, hr⟩ := hr
    replace hr := Option.bind_eq_some_iff.mp hr
    obtain ⟨v16, e17, hr⟩ := hr
    refine rr_callVq (as := [.ref n]) (st := []) (mc' := 0) (ms' := 0) C dX3_rule_58 iv_X3_122 (by decide) e15 rfl (Nat.le_of_ble_eq_true rfl) (c_X3_allow l0 (some n) (by omega) e17) (fun v_ h_ n_ q_ => ?_)
    obtain ⟨q1_, q2_, q3_⟩ := q_
    subst v_; subst h_; subst n_
    show WW W0 G 3 _ _ _ 61 [some (.ref l0), some (.int v3.1), some (.ref n)] [] v16 (n + 1) _ _
    refine rr_goto (tgt := 149) C dX3_rule_61 (by decide) ?_
    refine rr_aload_n (i := 0) C dX3_rule_149 rfl rfl ?_
    refine rr_ldcS (i := 4) C dX3_rule_150 (by decide) rfl ?_
    replace hr := Option.bind_eq_some_iff.mp hr
    obtain ⟨u18, e19, hr⟩ := hr
    replace hr := Option.bind_eq_some_iff.mp hr
    obtain ⟨v20, e21, hr⟩ := hr
    refine rr_callVq (as := [.ref 7]) (st := []) (mc' := 0) (ms' := 0) C dX3_rule_152 iv_X3_66 (by decide) e19 rfl (Nat.le_of_ble_eq_true rfl) (c_X3_isWord l0 (some 7) (by omega) e21) (fun v_ h_ n_ q_ => ?_)
    obtain ⟨q1_, q2_, q3_⟩ := q_
    subst v_; subst h_; subst n_
    show WW W0 G 3 _ _ _ 155 [some (.ref l0), some (.int v3.1), some (.ref n)] [.int v20] v16 (n + 1) _ _
    refine rr_if_eq (tgt := 190) C dX3_rule_155 (by decide) (fun c155_ => ?_) (fun c155_ => ?_)
    · replace hr := (if_pos c155_).symm.trans hr
      refine rr_aload_n (i := 0) C dX3_rule_190 rfl rfl ?_
      refine rr_bipush (v := 59) C dX3_rule_191 (by decide) ?_
      replace hr := Option.bind_eq_some_iff.mp hr
      obtain ⟨u22, e23, hr⟩ := hr
      replace hr := Option.bind_eq_some_iff.mp hr
      obtain ⟨v24, e25, hr⟩ := hr
      refine rr_callVq (as := [.int 59]) (st := []) (mc' := 0) (ms' := 0) C dX3_rule_193 iv_X3_70 (by decide) e23 rfl (Nat.le_of_ble_eq_true rfl) (c_X3_sign l0 59 (by omega) e25) (fun v_ h_ n_ q_ => ?_)
      obtain ⟨q1_, q2_, q3_⟩ := q_
      subst v_; subst h_; subst n_
      show WW W0 G 3 _ _ _ 196 [some (.ref l0), some (.int v3.1), some (.ref n)] [] v24 (n + 1) _ _
      refine rr_aload_n (i := 0) C dX3_rule_196 rfl rfl ?_
      replace hr := Option.bind_eq_some_iff.mp hr
      obtain ⟨v26, e27, hr⟩ := hr
      refine rr_rdI C dX3_rule_197 fl_X3_18 e27 ?_
      refine rr_iconst (v := (-1)) C dX3_rule_200 (by decide) ?_
      refine rr_icmp_ne (tgt := 236) C dX3_rule_201 (by decide) (fun c201_ => ?_) (fun c201_ => ?_)
      · replace hr := (if_neg c201_).symm.trans hr
        obtain rfl := Option.some.inj hr
        exact rr_vret C dX3_rule_236 rfl ⟨rfl, rfl, rfl, by omega⟩
      · replace hr := (if_pos c201_).symm.trans hr
        refine rr_aload_n (i := 0) C dX3_rule_204 rfl rfl ?_
        replace hr := Option.bind_eq_some_iff.mp hr
        obtain ⟨v28, e29, hr⟩ := hr
        refine rr_rdI C dX3_rule_205 fl_X3_58 e29 ?_
        refine rr_aload_n (i := 0) C dX3_rule_208 rfl rfl ?_
        replace hr := Option.bind_eq_some_iff.mp hr
        obtain ⟨v30, e31, hr⟩ := hr
        refine rr_rdR C dX3_rule_209 fl_X3_27 e31 ?_
        replace hr := Option.bind_eq_some_iff.mp hr
        obtain ⟨a32, e33, hr⟩ := hr
        subst e33
        replace hr := Option.bind_eq_some_iff.mp hr
        obtain ⟨v34, e35, hr⟩ := hr
        refine rr_lenA C dX3_rule_212 e35 ?_
        refine rr_icmp_ge (tgt := 236) C dX3_rule_213 (by decide) (fun c213_ => ?_) (fun c213_ => ?_)
        · replace hr := (if_pos c213_).symm.trans hr
          obtain rfl := Option.some.inj hr
          exact rr_vret C dX3_rule_236 rfl ⟨rfl, rfl, rfl, by omega⟩
        · replace hr := (if_neg c213_).symm.trans hr
          refine rr_aload_n (i := 0) C dX3_rule_216 rfl rfl ?_
          replace hr := Option.bind_eq_some_iff.mp hr
          obtain ⟨v36, e37, hr⟩ := hr
          refine rr_rdR C dX3_rule_217 fl_X3_27 e37 ?_
          refine rr_aload_n (i := 0) C dX3_rule_220 rfl rfl ?_
          replace hr := Option.bind_eq_some_iff.mp hr
          obtain ⟨v38, e39, hr⟩ := hr
          refine rr_rdI C dX3_rule_221 fl_X3_58 e39 ?_
          refine rr_aload_n (i := 2) C dX3_rule_224 rfl rfl ?_
          replace hr := Option.bind_eq_some_iff.mp hr
          obtain ⟨a40, e41, hr⟩ := hr
          subst e41
          replace hr := Option.bind_eq_some_iff.mp hr
          obtain ⟨h42, e43, hr⟩ := hr
          refine rr_stR C dX3_rule_225 (t0 := 4) (ci := 5) rfl rfl e43 ?_
          refine rr_aload_n (i := 0) C dX3_rule_226 rfl rfl ?_
          refine rr_dup C dX3_rule_227 rfl ?_
          replace hr := Option.bind_eq_some_iff.mp hr
          obtain ⟨v44, e45, hr⟩ := hr
          refine rr_rdI C dX3_rule_228 fl_X3_58 e45 ?_
          refine rr_iconst (v := 1) C dX3_rule_231 (by decide) ?_
          refine rr_iadd C dX3_rule_232 ?_
          replace hr := Option.bind_eq_some_iff.mp hr
          obtain ⟨h46, e47, hr⟩ := hr
          refine rr_wrF C dX3_rule_233 fp_X3_58 rfl rfl e47 ?_
          obtain rfl := Option.some.inj hr
          exact rr_vret C dX3_rule_236 rfl ⟨rfl, rfl, rfl, by omega⟩
    · replace hr := (if_neg c155_).symm.trans hr
      refine rr_aload_n (i := 0) C dX3_rule_158 rfl rfl ?_
      replace hr := Option.bind_eq_some_iff.mp hr
      obtain ⟨u48, e49, hr⟩ := hr
      replace hr := Option.bind_eq_some_iff.mp hr
      obtain ⟨v50, e51, hr⟩ := hr
      refine rr_callVq (as := []) (st := []) (mc' := 0) (ms' := 0) C dX3_rule_159 iv_X3_61 (by decide) e49 rfl (Nat.le_of_ble_eq_true rfl) (c_X3_step l0 (by omega) e51) (fun v_ h_ n_ q_ => ?_)
      obtain ⟨q1_, q2_, q3_⟩ := q_
      subst v_; subst h_; subst n_
      show WW W0 G 3 _ _ _ 162 [some (.ref l0), some (.int v3.1), some (.ref n)] [] v50 (n + 1) _ _
      refine rr_aload_n (i := 0) C dX3_rule_162 rfl rfl ?_
      refine rr_iconst (v := 0) C dX3_rule_163 (by decide) ?_
      replace hr := Option.bind_eq_some_iff.mp hr
      obtain ⟨u52, e53, hr⟩ := hr
      replace hr := Option.bind_eq_some_iff.mp hr
      obtain ⟨v54, e55, hr⟩ := hr
      refine rr_callVq (as := [.int 0]) (st := []) (mc' := 0) (ms' := 0) C dX3_rule_164 iv_X3_143 (by decide) e53 rfl (Nat.le_of_ble_eq_true rfl) (c_X3_any l0 0 (by omega) e55) (fun v_ h_ n_ q_ => ?_)
      obtain ⟨q1_, q2_, q3_⟩ := q_
      subst v_; subst h_; subst n_
      show WW W0 G 3 _ _ _ 167 [some (.ref l0), some (.int v3.1), some (.ref n)] [] v54 (n + 1) _ _
      refine rr_aload_n (i := 2) C dX3_rule_167 rfl rfl ?_
      refine rr_aload_n (i := 0) C dX3_rule_168 rfl rfl ?_
      replace hr := Option.bind_eq_some_iff.mp hr
      obtain ⟨v56, e57, hr⟩ := hr
      refine rr_rdR C dX3_rule_169 fl_X3_31 e57 ?_
      refine rr_aload_n (i := 0) C dX3_rule_172 rfl rfl ?_
      replace hr := Option.bind_eq_some_iff.mp hr
      obtain ⟨v58, e59, hr⟩ := hr
      refine rr_rdI C dX3_rule_173 fl_X3_119 e59 ?_
      refine rr_aload_n (i := 0) C dX3_rule_176 rfl rfl ?_
      replace hr := Option.bind_eq_some_iff.mp hr
      obtain ⟨v60, e61, hr⟩ := hr
      refine rr_rdR C dX3_rule_177 fl_X3_31 e61 ?_
      replace hr := Option.bind_eq_some_iff.mp hr
      obtain ⟨a62, e63, hr⟩ := hr
      subst e63
      replace hr := Option.bind_eq_some_iff.mp hr
      obtain ⟨v64, e65, hr⟩ := hr
      refine rr_lenA C dX3_rule_180 e65 ?_
      refine rr_mmin C dX3_rule_181 ma_X3_34 (by decide) (by rcases v56 with _ | _ <;> exact Nat.le_of_ble_eq_true rfl) ?_
      refine rr_cut C (kc' := 0 + 1) (ks' := 0 + 900) (by omega) (by omega) ?_
      replace hr := Option.bind_eq_some_iff.mp hr
      obtain ⟨⟨v68, h66, n67⟩, e69, hr⟩ := hr
      dsimp only at hr
      refine rr_callS (as := [va_rf v56, .int (i_min v58 v64)]) (st := [.ref n]) (mc' := 1) (ms' := 900) C dX3_rule_184 it_X3_146 (by decide) (Nat.le_of_ble_eq_true rfl) (c_J7_copyOf_59c91 v56 (i_min v58 v64) (by omega) e69) (fun v_ h_ n_ q_ => ?_)
      obtain ⟨q1_, q2_, q3_, b70⟩ := q_
      subst v_; subst h_; subst n_
      try dsimp only at b70
      show WW W0 G 3 _ _ _ 187 [some (.ref l0), some (.int v3.1), some (.ref n)] [va_rf v68, .ref n] h66 n67 _ _
      replace hr := Option.bind_eq_some_iff.mp hr
      obtain ⟨h71, e72, hr⟩ := hr
      refine rr_wrF C dX3_rule_187 fp_X3_150 (na_rf _ _) (fi_rf rfl _) e72 ?_
      refine rr_aload_n (i := 0) C dX3_rule_190 rfl rfl ?_
      refine rr_bipush (v := 59) C dX3_rule_191 (by decide) ?_
      replace hr := Option.bind_eq_some_iff.mp hr
      obtain ⟨u73, e74, hr⟩ := hr
      replace hr := Option.bind_eq_some_iff.mp hr
      obtain ⟨v75, e76, hr⟩ := hr
      refine rr_callVq (as := [.int 59]) (st := []) (mc' := 0) (ms' := 0) C dX3_rule_193 iv_X3_70 (by decide) e74 rfl (Nat.le_of_ble_eq_true rfl) (c_X3_sign l0 59 (by omega) e76) (fun v_ h_ n_ q_ => ?_)
      obtain ⟨q1_, q2_, q3_⟩ := q_
      subst v_; subst h_; subst n_
      show WW W0 G 3 _ _ _ 196 [some (.ref l0), some (.int v3.1), some (.ref n)] [] v75 n67 _ _
      refine rr_aload_n (i := 0) C dX3_rule_196 rfl rfl ?_
      replace hr := Option.bind_eq_some_iff.mp hr
      obtain ⟨v77, e78, hr⟩ := hr
      refine rr_rdI C dX3_rule_197 fl_X3_18 e78 ?_
      refine rr_iconst (v := (-1)) C dX3_rule_200 (by decide) ?_
      refine rr_icmp_ne (tgt := 236) C dX3_rule_201 (by decide) (fun c201_ => ?_) (fun c201_ => ?_)
      · replace hr := (if_neg c201_).symm.trans hr
        obtain rfl := Option.some.inj hr
        exact rr_vret C dX3_rule_236 rfl ⟨rfl, rfl, rfl, by omega⟩
      · replace hr := (if_pos c201_).symm.trans hr
        refine rr_aload_n (i := 0) C dX3_rule_204 rfl rfl ?_
        replace hr := Option.bind_eq_some_iff.mp hr
        obtain ⟨v79, e80, hr⟩ := hr
        refine rr_rdI C dX3_rule_205 fl_X3_58 e80 ?_
        refine rr_aload_n (i := 0) C dX3_rule_208 rfl rfl ?_
        replace hr := Option.bind_eq_some_iff.mp hr
        obtain ⟨v81, e82, hr⟩ := hr
        refine rr_rdR C dX3_rule_209 fl_X3_27 e82 ?_
        replace hr := Option.bind_eq_some_iff.mp hr
        obtain ⟨a83, e84, hr⟩ := hr
        subst e84
        replace hr := Option.bind_eq_some_iff.mp hr
        obtain ⟨v85, e86, hr⟩ := hr
        refine rr_lenA C dX3_rule_212 e86 ?_
        refine rr_icmp_ge (tgt := 236) C dX3_rule_213 (by decide) (fun c213_ => ?_) (fun c213_ => ?_)
        · replace hr := (if_pos c213_).symm.trans hr
          obtain rfl := Option.some.inj hr
          exact rr_vret C dX3_rule_236 rfl ⟨rfl, rfl, rfl, by omega⟩
        · replace hr := (if_neg c213_).symm.trans hr
          refine rr_aload_n (i := 0) C dX3_rule_216 rfl rfl ?_
          replace hr := Option.bind_eq_some_iff.mp hr
          obtain ⟨v87, e88, hr⟩ := hr
          refine rr_rdR C dX3_rule_217 fl_X3_27 e88 ?_
          refine rr_aload_n (i := 0) C dX3_rule_220 rfl rfl ?_
          replace hr := Option.bind_eq_some_iff.mp hr
          obtain ⟨v89, e90, hr⟩ := hr
          refine rr_rdI C dX3_rule_221 fl_X3_58 e90 ?_
          refine rr_aload_n (i := 2) C dX3_rule_224 rfl rfl ?_
          replace hr := Option.bind_eq_some_iff.mp hr
          obtain ⟨a91, e92, hr⟩ := hr
          subst e92
          replace hr := Option.bind_eq_some_iff.mp hr
          obtain ⟨h93, e94, hr⟩ := hr
          refine rr_stR C dX3_rule_225 (t0 := 4) (ci := 5) rfl rfl e94 ?_
          refine rr_aload_n (i := 0) C dX3_rule_226 rfl rfl ?_
          refine rr_dup C dX3_rule_227 rfl ?_
          replace hr := Option.bind_eq_some_iff.mp hr
          obtain ⟨v95, e96, hr⟩ := hr
          refine rr_rdI C dX3_rule_228 fl_X3_58 e96 ?_
          refine rr_iconst (v := 1) C dX3_rule_231 (by decide) ?_
          refine rr_iadd C dX3_rule_232 ?_
          replace hr := Option.bind_eq_some_iff.mp hr
          obtain ⟨h97, e98, hr⟩ := hr
          refine rr_wrF C dX3_rule_233 fp_X3_58 rfl rfl e98 ?_
          obtain rfl := Option.some.inj hr
          exact rr_vret C dX3_rule_236 rfl ⟨rfl, rfl, rfl, by omega⟩
  replace hr := (if_neg s22_0).symm.trans hr
  by_cases s22_1 : v3.1 = 1
  · replace hr := (if_pos s22_1).symm.trans hr
    refine rr_tabIn (off := 42) (tgt := 64) C dX3_rule_22 (by rw [s22_1]; decide) (by rw [s22_1]; decide) (by rw [s22_1]; rfl) (by decide) ?_
    refine rr_aload_n (i := 2) C dX3_rule_64 rfl rfl ?_
    refine rr_aload_n (i := 0) C dX3_rule_65 rfl rfl ?_
    refine rr_ldcS (i := 3) C dX3_rule_66 (by decide) rfl ?_
    replace hr := Option.bind_eq_some_iff.mp hr
    obtain ⟨u99, e100, hr⟩ := hr
    replace hr := Option.bind_eq_some_iff.mp hr
    obtain ⟨v101, e102, hr⟩ := hr
    refine rr_callVq (as := [.ref 6]) (st := [.ref n]) (mc' := 0) (ms' := 0) C dX3_rule_68 iv_X3_114 (by decide) e100 rfl (Nat.le_of_ble_eq_true rfl) (c_X3_pick l0 (some 6) (by omega) e102) (fun v_ h_ n_ q_ => ?_)
    obtain ⟨q1_, q2_, q3_⟩ := q_
    subst v_; subst h_; subst n_
    show WW W0 G 3 _ _ _ 71 [some (.ref l0), some (.int v3.1), some (.ref n)] [.int v101.1, .ref n] v101.2 (n + 1) _ _
    replace hr := Option.bind_eq_some_iff.mp hr
    obtain ⟨h103, e104, hr⟩ := hr
    refine rr_wrF C dX3_rule_71 fp_X3_127 rfl rfl e104 ?_
    refine rr_aload_n (i := 2) C dX3_rule_74 rfl rfl ?_
    refine rr_aload_n (i := 0) C dX3_rule_75 rfl rfl ?_
    refine rr_iconst (v := 0) C dX3_rule_76 (by decide) ?_
    refine rr_bipush (v := 100) C dX3_rule_77 (by decide) ?_
    replace hr := Option.bind_eq_some_iff.mp hr
    obtain ⟨u105, e106, hr⟩ := hr
    replace hr := Option.bind_eq_some_iff.mp hr
    obtain ⟨v107, e108, hr⟩ := hr
    refine rr_callVq (as := [.int 0, .int 100]) (st := [.ref n]) (mc' := 0) (ms' := 0) C dX3_rule_79 iv_X3_130 (by decide) e106 rfl (Nat.le_of_ble_eq_true rfl) (c_X3_number l0 0 100 (by omega) e108) (fun v_ h_ n_ q_ => ?_)
    obtain ⟨q1_, q2_, q3_⟩ := q_
    subst v_; subst h_; subst n_
    show WW W0 G 3 _ _ _ 82 [some (.ref l0), some (.int v3.1), some (.ref n)] [.int v107.1, .ref n] v107.2 (n + 1) _ _
    replace hr := Option.bind_eq_some_iff.mp hr
    obtain ⟨h109, e110, hr⟩ := hr
    refine rr_wrF C dX3_rule_82 fp_X3_133 rfl rfl e110 ?_
    refine rr_aload_n (i := 2) C dX3_rule_85 rfl rfl ?_
    refine rr_aload_n (i := 0) C dX3_rule_86 rfl rfl ?_
    refine rr_iconst (v := 0) C dX3_rule_87 (by decide) ?_
    refine rr_bipush (v := 100) C dX3_rule_88 (by decide) ?_
    replace hr := Option.bind_eq_some_iff.mp hr
    obtain ⟨u111, e112, hr⟩ := hr
    replace hr := Option.bind_eq_some_iff.mp hr
    obtain ⟨v113, e114, hr⟩ := hr
    refine rr_callVq (as := [.int 0, .int 100]) (st := [.ref n]) (mc' := 0) (ms' := 0) C dX3_rule_90 iv_X3_130 (by decide) e112 rfl (Nat.le_of_ble_eq_true rfl) (c_X3_number l0 0 100 (by omega) e114) (fun v_ h_ n_ q_ => ?_)
    obtain ⟨q1_, q2_, q3_⟩ := q_
    subst v_; subst h_; subst n_
    show WW W0 G 3 _ _ _ 93 [some (.ref l0), some (.int v3.1), some (.ref n)] [.int v113.1, .ref n] v113.2 (n + 1) _ _
    replace hr := Option.bind_eq_some_iff.mp hr
    obtain ⟨h115, e116, hr⟩ := hr
    refine rr_wrF C dX3_rule_93 fp_X3_135 rfl rfl e116 ?_
    refine rr_goto (tgt := 149) C dX3_rule_96 (by decide) ?_
    refine rr_aload_n (i := 0) C dX3_rule_149 rfl rfl ?_
    refine rr_ldcS (i := 4) C dX3_rule_150 (by decide) rfl ?_
    replace hr := Option.bind_eq_some_iff.mp hr
    obtain ⟨u117, e118, hr⟩ := hr
    replace hr := Option.bind_eq_some_iff.mp hr
    obtain ⟨v119, e120, hr⟩ := hr
    refine rr_callVq (as := [.ref 7]) (st := []) (mc' := 0) (ms' := 0) C dX3_rule_152 iv_X3_66 (by decide) e118 rfl (Nat.le_of_ble_eq_true rfl) (c_X3_isWord l0 (some 7) (by omega) e120) (fun v_ h_ n_ q_ => ?_)
    obtain ⟨q1_, q2_, q3_⟩ := q_
    subst v_; subst h_; subst n_
    show WW W0 G 3 _ _ _ 155 [some (.ref l0), some (.int v3.1), some (.ref n)] [.int v119] h115 (n + 1) _ _
    refine rr_if_eq (tgt := 190) C dX3_rule_155 (by decide) (fun c155_ => ?_) (fun c155_ => ?_)
    · replace hr := (if_pos c155_).symm.trans hr
      refine rr_aload_n (i := 0) C dX3_rule_190 rfl rfl ?_
      refine rr_bipush (v := 59) C dX3_rule_191 (by decide) ?_
      replace hr := Option.bind_eq_some_iff.mp hr
      obtain ⟨u121, e122, hr⟩ := hr
      replace hr := Option.bind_eq_some_iff.mp hr
      obtain ⟨v123, e124, hr⟩ := hr
      refine rr_callVq (as := [.int 59]) (st := []) (mc' := 0) (ms' := 0) C dX3_rule_193 iv_X3_70 (by decide) e122 rfl (Nat.le_of_ble_eq_true rfl) (c_X3_sign l0 59 (by omega) e124) (fun v_ h_ n_ q_ => ?_)
      obtain ⟨q1_, q2_, q3_⟩ := q_
      subst v_; subst h_; subst n_
      show WW W0 G 3 _ _ _ 196 [some (.ref l0), some (.int v3.1), some (.ref n)] [] v123 (n + 1) _ _
      refine rr_aload_n (i := 0) C dX3_rule_196 rfl rfl ?_
      replace hr := Option.bind_eq_some_iff.mp hr
      obtain ⟨v125, e126, hr⟩ := hr
      refine rr_rdI C dX3_rule_197 fl_X3_18 e126 ?_
      refine rr_iconst (v := (-1)) C dX3_rule_200 (by decide) ?_
      refine rr_icmp_ne (tgt := 236) C dX3_rule_201 (by decide) (fun c201_ => ?_) (fun c201_ => ?_)
      · replace hr := (if_neg c201_).symm.trans hr
        obtain rfl := Option.some.inj hr
        exact rr_vret C dX3_rule_236 rfl ⟨rfl, rfl, rfl, by omega⟩
      · replace hr := (if_pos c201_).symm.trans hr
        refine rr_aload_n (i := 0) C dX3_rule_204 rfl rfl ?_
        replace hr := Option.bind_eq_some_iff.mp hr
        obtain ⟨v127, e128, hr⟩ := hr
        refine rr_rdI C dX3_rule_205 fl_X3_58 e128 ?_
        refine rr_aload_n (i := 0) C dX3_rule_208 rfl rfl ?_
        replace hr := Option.bind_eq_some_iff.mp hr
        obtain ⟨v129, e130, hr⟩ := hr
        refine rr_rdR C dX3_rule_209 fl_X3_27 e130 ?_
        replace hr := Option.bind_eq_some_iff.mp hr
        obtain ⟨a131, e132, hr⟩ := hr
        subst e132
        replace hr := Option.bind_eq_some_iff.mp hr
        obtain ⟨v133, e134, hr⟩ := hr
        refine rr_lenA C dX3_rule_212 e134 ?_
        refine rr_icmp_ge (tgt := 236) C dX3_rule_213 (by decide) (fun c213_ => ?_) (fun c213_ => ?_)
        · replace hr := (if_pos c213_).symm.trans hr
          obtain rfl := Option.some.inj hr
          exact rr_vret C dX3_rule_236 rfl ⟨rfl, rfl, rfl, by omega⟩
        · replace hr := (if_neg c213_).symm.trans hr
          refine rr_aload_n (i := 0) C dX3_rule_216 rfl rfl ?_
          replace hr := Option.bind_eq_some_iff.mp hr
          obtain ⟨v135, e136, hr⟩ := hr
          refine rr_rdR C dX3_rule_217 fl_X3_27 e136 ?_
          refine rr_aload_n (i := 0) C dX3_rule_220 rfl rfl ?_
          replace hr := Option.bind_eq_some_iff.mp hr
          obtain ⟨v137, e138, hr⟩ := hr
          refine rr_rdI C dX3_rule_221 fl_X3_58 e138 ?_
          refine rr_aload_n (i := 2) C dX3_rule_224 rfl rfl ?_
          replace hr := Option.bind_eq_some_iff.mp hr
          obtain ⟨a139, e140, hr⟩ := hr
          subst e140
          replace hr := Option.bind_eq_some_iff.mp hr
          obtain ⟨h141, e142, hr⟩ := hr
          refine rr_stR C dX3_rule_225 (t0 := 4) (ci := 5) rfl rfl e142 ?_
          refine rr_aload_n (i := 0) C dX3_rule_226 rfl rfl ?_
          refine rr_dup C dX3_rule_227 rfl ?_
          replace hr := Option.bind_eq_some_iff.mp hr
          obtain ⟨v143, e144, hr⟩ := hr
          refine rr_rdI C dX3_rule_228 fl_X3_58 e144 ?_
          refine rr_iconst (v := 1) C dX3_rule_231 (by decide) ?_
          refine rr_iadd C dX3_rule_232 ?_
          replace hr := Option.bind_eq_some_iff.mp hr
          obtain ⟨h145, e146, hr⟩ := hr
          refine rr_wrF C dX3_rule_233 fp_X3_58 rfl rfl e146 ?_
          obtain rfl := Option.some.inj hr
          exact rr_vret C dX3_rule_236 rfl ⟨rfl, rfl, rfl, by omega⟩
    · replace hr := (if_neg c155_).symm.trans hr
      refine rr_aload_n (i := 0) C dX3_rule_158 rfl rfl ?_
      replace hr := Option.bind_eq_some_iff.mp hr
      obtain ⟨u147, e148, hr⟩ := hr
      replace hr := Option.bind_eq_some_iff.mp hr
      obtain ⟨v149, e150, hr⟩ := hr
      refine rr_callVq (as := []) (st := []) (mc' := 0) (ms' := 0) C dX3_rule_159 iv_X3_61 (by decide) e148 rfl (Nat.le_of_ble_eq_true rfl) (c_X3_step l0 (by omega) e150) (fun v_ h_ n_ q_ => ?_)
      obtain ⟨q1_, q2_, q3_⟩ := q_
      subst v_; subst h_; subst n_
      show WW W0 G 3 _ _ _ 162 [some (.ref l0), some (.int v3.1), some (.ref n)] [] v149 (n + 1) _ _
      refine rr_aload_n (i := 0) C dX3_rule_162 rfl rfl ?_
      refine rr_iconst (v := 0) C dX3_rule_163 (by decide) ?_
      replace hr := Option.bind_eq_some_iff.mp hr
      obtain ⟨u151, e152, hr⟩ := hr
      replace hr := Option.bind_eq_some_iff.mp hr
      obtain ⟨v153, e154, hr⟩ := hr
      refine rr_callVq (as := [.int 0]) (st := []) (mc' := 0) (ms' := 0) C dX3_rule_164 iv_X3_143 (by decide) e152 rfl (Nat.le_of_ble_eq_true rfl) (c_X3_any l0 0 (by omega) e154) (fun v_ h_ n_ q_ => ?_)
      obtain ⟨q1_, q2_, q3_⟩ := q_
      subst v_; subst h_; subst n_
      show WW W0 G 3 _ _ _ 167 [some (.ref l0), some (.int v3.1), some (.ref n)] [] v153 (n + 1) _ _
      refine rr_aload_n (i := 2) C dX3_rule_167 rfl rfl ?_
      refine rr_aload_n (i := 0) C dX3_rule_168 rfl rfl ?_
      replace hr := Option.bind_eq_some_iff.mp hr
      obtain ⟨v155, e156, hr⟩ := hr
      refine rr_rdR C dX3_rule_169 fl_X3_31 e156 ?_
      refine rr_aload_n (i := 0) C dX3_rule_172 rfl rfl ?_
      replace hr := Option.bind_eq_some_iff.mp hr
      obtain ⟨v157, e158, hr⟩ := hr
      refine rr_rdI C dX3_rule_173 fl_X3_119 e158 ?_
      refine rr_aload_n (i := 0) C dX3_rule_176 rfl rfl ?_
      replace hr := Option.bind_eq_some_iff.mp hr
      obtain ⟨v159, e160, hr⟩ := hr
      refine rr_rdR C dX3_rule_177 fl_X3_31 e160 ?_
      replace hr := Option.bind_eq_some_iff.mp hr
      obtain ⟨a161, e162, hr⟩ := hr
      subst e162
      replace hr := Option.bind_eq_some_iff.mp hr
      obtain ⟨v163, e164, hr⟩ := hr
      refine rr_lenA C dX3_rule_180 e164 ?_
      refine rr_mmin C dX3_rule_181 ma_X3_34 (by decide) (by rcases v155 with _ | _ <;> exact Nat.le_of_ble_eq_true rfl) ?_
      refine rr_cut C (kc' := 0 + 1) (ks' := 0 + 900) (by omega) (by omega) ?_
      replace hr := Option.bind_eq_some_iff.mp hr
      obtain ⟨⟨v167, h165, n166⟩, e168, hr⟩ := hr
      dsimp only at hr
      refine rr_callS (as := [va_rf v155, .int (i_min v157 v163)]) (st := [.ref n]) (mc' := 1) (ms' := 900) C dX3_rule_184 it_X3_146 (by decide) (Nat.le_of_ble_eq_true rfl) (c_J7_copyOf_59c91 v155 (i_min v157 v163) (by omega) e168) (fun v_ h_ n_ q_ => ?_)
      obtain ⟨q1_, q2_, q3_, b169⟩ := q_
      subst v_; subst h_; subst n_
      try dsimp only at b169
      show WW W0 G 3 _ _ _ 187 [some (.ref l0), some (.int v3.1), some (.ref n)] [va_rf v167, .ref n] h165 n166 _ _
      replace hr := Option.bind_eq_some_iff.mp hr
      obtain ⟨h170, e171, hr⟩ := hr
      refine rr_wrF C dX3_rule_187 fp_X3_150 (na_rf _ _) (fi_rf rfl _) e171 ?_
      refine rr_aload_n (i := 0) C dX3_rule_190 rfl rfl ?_
      refine rr_bipush (v := 59) C dX3_rule_191 (by decide) ?_
      replace hr := Option.bind_eq_some_iff.mp hr
      obtain ⟨u172, e173, hr⟩ := hr
      replace hr := Option.bind_eq_some_iff.mp hr
      obtain ⟨v174, e175, hr⟩ := hr
      refine rr_callVq (as := [.int 59]) (st := []) (mc' := 0) (ms' := 0) C dX3_rule_193 iv_X3_70 (by decide) e173 rfl (Nat.le_of_ble_eq_true rfl) (c_X3_sign l0 59 (by omega) e175) (fun v_ h_ n_ q_ => ?_)
      obtain ⟨q1_, q2_, q3_⟩ := q_
      subst v_; subst h_; subst n_
      show WW W0 G 3 _ _ _ 196 [some (.ref l0), some (.int v3.1), some (.ref n)] [] v174 n166 _ _
      refine rr_aload_n (i := 0) C dX3_rule_196 rfl rfl ?_
      replace hr := Option.bind_eq_some_iff.mp hr
      obtain ⟨v176, e177, hr⟩ := hr
      refine rr_rdI C dX3_rule_197 fl_X3_18 e177 ?_
      refine rr_iconst (v := (-1)) C dX3_rule_200 (by decide) ?_
      refine rr_icmp_ne (tgt := 236) C dX3_rule_201 (by decide) (fun c201_ => ?_) (fun c201_ => ?_)
      · replace hr := (if_neg c201_).symm.trans hr
        obtain rfl := Option.some.inj hr
        exact rr_vret C dX3_rule_236 rfl ⟨rfl, rfl, rfl, by omega⟩
      · replace hr := (if_pos c201_).symm.trans hr
        refine rr_aload_n (i := 0) C dX3_rule_204 rfl rfl ?_
        replace hr := Option.bind_eq_some_iff.mp hr
        obtain ⟨v178, e179, hr⟩ := hr
        refine rr_rdI C dX3_rule_205 fl_X3_58 e179 ?_
        refine rr_aload_n (i := 0) C dX3_rule_208 rfl rfl ?_
        replace hr := Option.bind_eq_some_iff.mp hr
        obtain ⟨v180, e181, hr⟩ := hr
        refine rr_rdR C dX3_rule_209 fl_X3_27 e181 ?_
        replace hr := Option.bind_eq_some_iff.mp hr
        obtain ⟨a182, e183, hr⟩ := hr
        subst e183
        replace hr := Option.bind_eq_some_iff.mp hr
        obtain ⟨v184, e185, hr⟩ := hr
        refine rr_lenA C dX3_rule_212 e185 ?_
        refine rr_icmp_ge (tgt := 236) C dX3_rule_213 (by decide) (fun c213_ => ?_) (fun c213_ => ?_)
        · replace hr := (if_pos c213_).symm.trans hr
          obtain rfl := Option.some.inj hr
          exact rr_vret C dX3_rule_236 rfl ⟨rfl, rfl, rfl, by omega⟩
        · replace hr := (if_neg c213_).symm.trans hr
          refine rr_aload_n (i := 0) C dX3_rule_216 rfl rfl ?_
          replace hr := Option.bind_eq_some_iff.mp hr
          obtain ⟨v186, e187, hr⟩ := hr
          refine rr_rdR C dX3_rule_217 fl_X3_27 e187 ?_
          refine rr_aload_n (i := 0) C dX3_rule_220 rfl rfl ?_
          replace hr := Option.bind_eq_some_iff.mp hr
          obtain ⟨v188, e189, hr⟩ := hr
          refine rr_rdI C dX3_rule_221 fl_X3_58 e189 ?_
          refine rr_aload_n (i := 2) C dX3_rule_224 rfl rfl ?_
          replace hr := Option.bind_eq_some_iff.mp hr
          obtain ⟨a190, e191, hr⟩ := hr
          subst e191
          replace hr := Option.bind_eq_some_iff.mp hr
          obtain ⟨h192, e193, hr⟩ := hr
          refine rr_stR C dX3_rule_225 (t0 := 4) (ci := 5) rfl rfl e193 ?_
          refine rr_aload_n (i := 0) C dX3_rule_226 rfl rfl ?_
          refine rr_dup C dX3_rule_227 rfl ?_
          replace hr := Option.bind_eq_some_iff.mp hr
          obtain ⟨v194, e195, hr⟩ := hr
          refine rr_rdI C dX3_rule_228 fl_X3_58 e195 ?_
          refine rr_iconst (v := 1) C dX3_rule_231 (by decide) ?_
          refine rr_iadd C dX3_rule_232 ?_
          replace hr := Option.bind_eq_some_iff.mp hr
          obtain ⟨h196, e197, hr⟩ := hr
          refine rr_wrF C dX3_rule_233 fp_X3_58 rfl rfl e197 ?_
          obtain rfl := Option.some.inj hr
          exact rr_vret C dX3_rule_236 rfl ⟨rfl, rfl, rfl, by omega⟩
  replace hr := (if_neg s22_1).symm.trans hr
  by_cases s22_2 : v3.1 = 2
  · replace hr := (if_pos s22_2).symm.trans hr
    refine rr_tabIn (off := 77) (tgt := 99) C dX3_rule_22 (by rw [s22_2]; decide) (by rw [s22_2]; decide) (by rw [s22_2]; rfl) (by decide) ?_
    refine rr_aload_n (i := 0) C dX3_rule_99 rfl rfl ?_
    refine rr_aload_n (i := 2) C dX3_rule_100 rfl rfl ?_
    replace hr := Option.bind_eq_some_iff.mp hr
    obtain ⟨u198, e199, hr⟩ := hr
    replace hr := Option.bind_eq_some_iff.mp hr
    obtain ⟨v200, e201, hr⟩ := hr
    refine rr_callVq (as := [.ref n]) (st := []) (mc' := 0) (ms' := 0) C dX3_rule_101 iv_X3_138 (by decide) e199 rfl (Nat.le_of_ble_eq_true rfl) (c_X3_target l0 (some n) (by omega) e201) (fun v_ h_ n_ q_ => ?_)
    obtain ⟨q1_, q2_, q3_⟩ := q_
    subst v_; subst h_; subst n_
    show WW W0 G 3 _ _ _ 104 [some (.ref l0), some (.int v3.1), some (.ref n)] [] v200 (n + 1) _ _
    refine rr_goto (tgt := 149) C dX3_rule_104 (by decide) ?_
    refine rr_aload_n (i := 0) C dX3_rule_149 rfl rfl ?_
    refine rr_ldcS (i := 4) C dX3_rule_150 (by decide) rfl ?_
    replace hr := Option.bind_eq_some_iff.mp hr
    obtain ⟨u202, e203, hr⟩ := hr
    replace hr := Option.bind_eq_some_iff.mp hr
    obtain ⟨v204, e205, hr⟩ := hr
    refine rr_callVq (as := [.ref 7]) (st := []) (mc' := 0) (ms' := 0) C dX3_rule_152 iv_X3_66 (by decide) e203 rfl (Nat.le_of_ble_eq_true rfl) (c_X3_isWord l0 (some 7) (by omega) e205) (fun v_ h_ n_ q_ => ?_)
    obtain ⟨q1_, q2_, q3_⟩ := q_
    subst v_; subst h_; subst n_
    show WW W0 G 3 _ _ _ 155 [some (.ref l0), some (.int v3.1), some (.ref n)] [.int v204] v200 (n + 1) _ _
    refine rr_if_eq (tgt := 190) C dX3_rule_155 (by decide) (fun c155_ => ?_) (fun c155_ => ?_)
    · replace hr := (if_pos c155_).symm.trans hr
      refine rr_aload_n (i := 0) C dX3_rule_190 rfl rfl ?_
      refine rr_bipush (v := 59) C dX3_rule_191 (by decide) ?_
      replace hr := Option.bind_eq_some_iff.mp hr
      obtain ⟨u206, e207, hr⟩ := hr
      replace hr := Option.bind_eq_some_iff.mp hr
      obtain ⟨v208, e209, hr⟩ := hr
      refine rr_callVq (as := [.int 59]) (st := []) (mc' := 0) (ms' := 0) C dX3_rule_193 iv_X3_70 (by decide) e207 rfl (Nat.le_of_ble_eq_true rfl) (c_X3_sign l0 59 (by omega) e209) (fun v_ h_ n_ q_ => ?_)
      obtain ⟨q1_, q2_, q3_⟩ := q_
      subst v_; subst h_; subst n_
      show WW W0 G 3 _ _ _ 196 [some (.ref l0), some (.int v3.1), some (.ref n)] [] v208 (n + 1) _ _
      refine rr_aload_n (i := 0) C dX3_rule_196 rfl rfl ?_
      replace hr := Option.bind_eq_some_iff.mp hr
      obtain ⟨v210, e211, hr⟩ := hr
      refine rr_rdI C dX3_rule_197 fl_X3_18 e211 ?_
      refine rr_iconst (v := (-1)) C dX3_rule_200 (by decide) ?_
      refine rr_icmp_ne (tgt := 236) C dX3_rule_201 (by decide) (fun c201_ => ?_) (fun c201_ => ?_)
      · replace hr := (if_neg c201_).symm.trans hr
        obtain rfl := Option.some.inj hr
        exact rr_vret C dX3_rule_236 rfl ⟨rfl, rfl, rfl, by omega⟩
      · replace hr := (if_pos c201_).symm.trans hr
        refine rr_aload_n (i := 0) C dX3_rule_204 rfl rfl ?_
        replace hr := Option.bind_eq_some_iff.mp hr
        obtain ⟨v212, e213, hr⟩ := hr
        refine rr_rdI C dX3_rule_205 fl_X3_58 e213 ?_
        refine rr_aload_n (i := 0) C dX3_rule_208 rfl rfl ?_
        replace hr := Option.bind_eq_some_iff.mp hr
        obtain ⟨v214, e215, hr⟩ := hr
        refine rr_rdR C dX3_rule_209 fl_X3_27 e215 ?_
        replace hr := Option.bind_eq_some_iff.mp hr
        obtain ⟨a216, e217, hr⟩ := hr
        subst e217
        replace hr := Option.bind_eq_some_iff.mp hr
        obtain ⟨v218, e219, hr⟩ := hr
        refine rr_lenA C dX3_rule_212 e219 ?_
        refine rr_icmp_ge (tgt := 236) C dX3_rule_213 (by decide) (fun c213_ => ?_) (fun c213_ => ?_)
        · replace hr := (if_pos c213_).symm.trans hr
          obtain rfl := Option.some.inj hr
          exact rr_vret C dX3_rule_236 rfl ⟨rfl, rfl, rfl, by omega⟩
        · replace hr := (if_neg c213_).symm.trans hr
          refine rr_aload_n (i := 0) C dX3_rule_216 rfl rfl ?_
          replace hr := Option.bind_eq_some_iff.mp hr
          obtain ⟨v220, e221, hr⟩ := hr
          refine rr_rdR C dX3_rule_217 fl_X3_27 e221 ?_
          refine rr_aload_n (i := 0) C dX3_rule_220 rfl rfl ?_
          replace hr := Option.bind_eq_some_iff.mp hr
          obtain ⟨v222, e223, hr⟩ := hr
          refine rr_rdI C dX3_rule_221 fl_X3_58 e223 ?_
          refine rr_aload_n (i := 2) C dX3_rule_224 rfl rfl ?_
          replace hr := Option.bind_eq_some_iff.mp hr
          obtain ⟨a224, e225, hr⟩ := hr
          subst e225
          replace hr := Option.bind_eq_some_iff.mp hr
          obtain ⟨h226, e227, hr⟩ := hr
          refine rr_stR C dX3_rule_225 (t0 := 4) (ci := 5) rfl rfl e227 ?_
          refine rr_aload_n (i := 0) C dX3_rule_226 rfl rfl ?_
          refine rr_dup C dX3_rule_227 rfl ?_
          replace hr := Option.bind_eq_some_iff.mp hr
          obtain ⟨v228, e229, hr⟩ := hr
          refine rr_rdI C dX3_rule_228 fl_X3_58 e229 ?_
          refine rr_iconst (v := 1) C dX3_rule_231 (by decide) ?_
          refine rr_iadd C dX3_rule_232 ?_
          replace hr := Option.bind_eq_some_iff.mp hr
          obtain ⟨h230, e231, hr⟩ := hr
          refine rr_wrF C dX3_rule_233 fp_X3_58 rfl rfl e231 ?_
          obtain rfl := Option.some.inj hr
          exact rr_vret C dX3_rule_236 rfl ⟨rfl, rfl, rfl, by omega⟩
    · replace hr := (if_neg c155_).symm.trans hr
      refine rr_aload_n (i := 0) C dX3_rule_158 rfl rfl ?_
      replace hr := Option.bind_eq_some_iff.mp hr
      obtain ⟨u232, e233, hr⟩ := hr
      replace hr := Option.bind_eq_some_iff.mp hr
      obtain ⟨v234, e235, hr⟩ := hr
      refine rr_callVq (as := []) (st := []) (mc' := 0) (ms' := 0) C dX3_rule_159 iv_X3_61 (by decide) e233 rfl (Nat.le_of_ble_eq_true rfl) (c_X3_step l0 (by omega) e235) (fun v_ h_ n_ q_ => ?_)
      obtain ⟨q1_, q2_, q3_⟩ := q_
      subst v_; subst h_; subst n_
      show WW W0 G 3 _ _ _ 162 [some (.ref l0), some (.int v3.1), some (.ref n)] [] v234 (n + 1) _ _
      refine rr_aload_n (i := 0) C dX3_rule_162 rfl rfl ?_
      refine rr_iconst (v := 0) C dX3_rule_163 (by decide) ?_
      replace hr := Option.bind_eq_some_iff.mp hr
      obtain ⟨u236, e237, hr⟩ := hr
      replace hr := Option.bind_eq_some_iff.mp hr
      obtain ⟨v238, e239, hr⟩ := hr
      refine rr_callVq (as := [.int 0]) (st := []) (mc' := 0) (ms' := 0) C dX3_rule_164 iv_X3_143 (by decide) e237 rfl (Nat.le_of_ble_eq_true rfl) (c_X3_any l0 0 (by omega) e239) (fun v_ h_ n_ q_ => ?_)
      obtain ⟨q1_, q2_, q3_⟩ := q_
      subst v_; subst h_; subst n_
      show WW W0 G 3 _ _ _ 167 [some (.ref l0), some (.int v3.1), some (.ref n)] [] v238 (n + 1) _ _
      refine rr_aload_n (i := 2) C dX3_rule_167 rfl rfl ?_
      refine rr_aload_n (i := 0) C dX3_rule_168 rfl rfl ?_
      replace hr := Option.bind_eq_some_iff.mp hr
      obtain ⟨v240, e241, hr⟩ := hr
      refine rr_rdR C dX3_rule_169 fl_X3_31 e241 ?_
      refine rr_aload_n (i := 0) C dX3_rule_172 rfl rfl ?_
      replace hr := Option.bind_eq_some_iff.mp hr
      obtain ⟨v242, e243, hr⟩ := hr
      refine rr_rdI C dX3_rule_173 fl_X3_119 e243 ?_
      refine rr_aload_n (i := 0) C dX3_rule_176 rfl rfl ?_
      replace hr := Option.bind_eq_some_iff.mp hr
      obtain ⟨v244, e245, hr⟩ := hr
      refine rr_rdR C dX3_rule_177 fl_X3_31 e245 ?_
      replace hr := Option.bind_eq_some_iff.mp hr
      obtain ⟨a246, e247, hr⟩ := hr
      subst e247
      replace hr := Option.bind_eq_some_iff.mp hr
      obtain ⟨v248, e249, hr⟩ := hr
      refine rr_lenA C dX3_rule_180 e249 ?_
      refine rr_mmin C dX3_rule_181 ma_X3_34 (by decide) (by rcases v240 with _ | _ <;> exact Nat.le_of_ble_eq_true rfl) ?_
      refine rr_cut C (kc' := 0 + 1) (ks' := 0 + 900) (by omega) (by omega) ?_
      replace hr := Option.bind_eq_some_iff.mp hr
      obtain ⟨⟨v252, h250, n251⟩, e253, hr⟩ := hr
      dsimp only at hr
      refine rr_callS (as := [va_rf v240, .int (i_min v242 v248)]) (st := [.ref n]) (mc' := 1) (ms' := 900) C dX3_rule_184 it_X3_146 (by decide) (Nat.le_of_ble_eq_true rfl) (c_J7_copyOf_59c91 v240 (i_min v242 v248) (by omega) e253) (fun v_ h_ n_ q_ => ?_)
      obtain ⟨q1_, q2_, q3_, b254⟩ := q_
      subst v_; subst h_; subst n_
      try dsimp only at b254
      show WW W0 G 3 _ _ _ 187 [some (.ref l0), some (.int v3.1), some (.ref n)] [va_rf v252, .ref n] h250 n251 _ _
      replace hr := Option.bind_eq_some_iff.mp hr
      obtain ⟨h255, e256, hr⟩ := hr
      refine rr_wrF C dX3_rule_187 fp_X3_150 (na_rf _ _) (fi_rf rfl _) e256 ?_
      refine rr_aload_n (i := 0) C dX3_rule_190 rfl rfl ?_
      refine rr_bipush (v := 59) C dX3_rule_191 (by decide) ?_
      replace hr := Option.bind_eq_some_iff.mp hr
      obtain ⟨u257, e258, hr⟩ := hr
      replace hr := Option.bind_eq_some_iff.mp hr
      obtain ⟨v259, e260, hr⟩ := hr
      refine rr_callVq (as := [.int 59]) (st := []) (mc' := 0) (ms' := 0) C dX3_rule_193 iv_X3_70 (by decide) e258 rfl (Nat.le_of_ble_eq_true rfl) (c_X3_sign l0 59 (by omega) e260) (fun v_ h_ n_ q_ => ?_)
      obtain ⟨q1_, q2_, q3_⟩ := q_
      subst v_; subst h_; subst n_
      show WW W0 G 3 _ _ _ 196 [some (.ref l0), some (.int v3.1), some (.ref n)] [] v259 n251 _ _
      refine rr_aload_n (i := 0) C dX3_rule_196 rfl rfl ?_
      replace hr := Option.bind_eq_some_iff.mp hr
      obtain ⟨v261, e262, hr⟩ := hr
      refine rr_rdI C dX3_rule_197 fl_X3_18 e262 ?_
      refine rr_iconst (v := (-1)) C dX3_rule_200 (by decide) ?_
      refine rr_icmp_ne (tgt := 236) C dX3_rule_201 (by decide) (fun c201_ => ?_) (fun c201_ => ?_)
      · replace hr := (if_neg c201_).symm.trans hr
        obtain rfl := Option.some.inj hr
        exact rr_vret C dX3_rule_236 rfl ⟨rfl, rfl, rfl, by omega⟩
      · replace hr := (if_pos c201_).symm.trans hr
        refine rr_aload_n (i := 0) C dX3_rule_204 rfl rfl ?_
        replace hr := Option.bind_eq_some_iff.mp hr
        obtain ⟨v263, e264, hr⟩ := hr
        refine rr_rdI C dX3_rule_205 fl_X3_58 e264 ?_
        refine rr_aload_n (i := 0) C dX3_rule_208 rfl rfl ?_
        replace hr := Option.bind_eq_some_iff.mp hr
        obtain ⟨v265, e266, hr⟩ := hr
        refine rr_rdR C dX3_rule_209 fl_X3_27 e266 ?_
        replace hr := Option.bind_eq_some_iff.mp hr
        obtain ⟨a267, e268, hr⟩ := hr
        subst e268
        replace hr := Option.bind_eq_some_iff.mp hr
        obtain ⟨v269, e270, hr⟩ := hr
        refine rr_lenA C dX3_rule_212 e270 ?_
        refine rr_icmp_ge (tgt := 236) C dX3_rule_213 (by decide) (fun c213_ => ?_) (fun c213_ => ?_)
        · replace hr := (if_pos c213_).symm.trans hr
          obtain rfl := Option.some.inj hr
          exact rr_vret C dX3_rule_236 rfl ⟨rfl, rfl, rfl, by omega⟩
        · replace hr := (if_neg c213_).symm.trans hr
          refine rr_aload_n (i := 0) C dX3_rule_216 rfl rfl ?_
          replace hr := Option.bind_eq_some_iff.mp hr
          obtain ⟨v271, e272, hr⟩ := hr
          refine rr_rdR C dX3_rule_217 fl_X3_27 e272 ?_
          refine rr_aload_n (i := 0) C dX3_rule_220 rfl rfl ?_
          replace hr := Option.bind_eq_some_iff.mp hr
          obtain ⟨v273, e274, hr⟩ := hr
          refine rr_rdI C dX3_rule_221 fl_X3_58 e274 ?_
          refine rr_aload_n (i := 2) C dX3_rule_224 rfl rfl ?_
          replace hr := Option.bind_eq_some_iff.mp hr
          obtain ⟨a275, e276, hr⟩ := hr
          subst e276
          replace hr := Option.bind_eq_some_iff.mp hr
          obtain ⟨h277, e278, hr⟩ := hr
          refine rr_stR C dX3_rule_225 (t0 := 4) (ci := 5) rfl rfl e278 ?_
          refine rr_aload_n (i := 0) C dX3_rule_226 rfl rfl ?_
          refine rr_dup C dX3_rule_227 rfl ?_
          replace hr := Option.bind_eq_some_iff.mp hr
          obtain ⟨v279, e280, hr⟩ := hr
          refine rr_rdI C dX3_rule_228 fl_X3_58 e280 ?_
          refine rr_iconst (v := 1) C dX3_rule_231 (by decide) ?_
          refine rr_iadd C dX3_rule_232 ?_
          replace hr := Option.bind_eq_some_iff.mp hr
          obtain ⟨h281, e282, hr⟩ := hr
          refine rr_wrF C dX3_rule_233 fp_X3_58 rfl rfl e282 ?_
          obtain rfl := Option.some.inj hr
          exact rr_vret C dX3_rule_236 rfl ⟨rfl, rfl, rfl, by omega⟩
  replace hr := (if_neg s22_2).symm.trans hr
  by_cases s22_3 : v3.1 = 3
  · replace hr := (if_pos s22_3).symm.trans hr
    refine rr_tabIn (off := 85) (tgt := 107) C dX3_rule_22 (by rw [s22_3]; decide) (by rw [s22_3]; decide) (by rw [s22_3]; rfl) (by decide) ?_
    refine rr_aload_n (i := 2) C dX3_rule_107 rfl rfl ?_
    refine rr_aload_n (i := 0) C dX3_rule_108 rfl rfl ?_
    refine rr_iconst (v := 0) C dX3_rule_109 (by decide) ?_
    refine rr_sipush (v := 500) C dX3_rule_110 (by decide) ?_
    replace hr := Option.bind_eq_some_iff.mp hr
    obtain ⟨u283, e284, hr⟩ := hr
    replace hr := Option.bind_eq_some_iff.mp hr
    obtain ⟨v285, e286, hr⟩ := hr
    refine rr_callVq (as := [.int 0, .int 500]) (st := [.ref n]) (mc' := 0) (ms' := 0) C dX3_rule_113 iv_X3_130 (by decide) e284 rfl (Nat.le_of_ble_eq_true rfl) (c_X3_number l0 0 500 (by omega) e286) (fun v_ h_ n_ q_ => ?_)
    obtain ⟨q1_, q2_, q3_⟩ := q_
    subst v_; subst h_; subst n_
    show WW W0 G 3 _ _ _ 116 [some (.ref l0), some (.int v3.1), some (.ref n)] [.int v285.1, .ref n] v285.2 (n + 1) _ _
    replace hr := Option.bind_eq_some_iff.mp hr
    obtain ⟨h287, e288, hr⟩ := hr
    refine rr_wrF C dX3_rule_116 fp_X3_133 rfl rfl e288 ?_
    refine rr_goto (tgt := 149) C dX3_rule_119 (by decide) ?_
    refine rr_aload_n (i := 0) C dX3_rule_149 rfl rfl ?_
    refine rr_ldcS (i := 4) C dX3_rule_150 (by decide) rfl ?_
    replace hr := Option.bind_eq_some_iff.mp hr
    obtain ⟨u289, e290, hr⟩ := hr
    replace hr := Option.bind_eq_some_iff.mp hr
    obtain ⟨v291, e292, hr⟩ := hr
    refine rr_callVq (as := [.ref 7]) (st := []) (mc' := 0) (ms' := 0) C dX3_rule_152 iv_X3_66 (by decide) e290 rfl (Nat.le_of_ble_eq_true rfl) (c_X3_isWord l0 (some 7) (by omega) e292) (fun v_ h_ n_ q_ => ?_)
    obtain ⟨q1_, q2_, q3_⟩ := q_
    subst v_; subst h_; subst n_
    show WW W0 G 3 _ _ _ 155 [some (.ref l0), some (.int v3.1), some (.ref n)] [.int v291] h287 (n + 1) _ _
    refine rr_if_eq (tgt := 190) C dX3_rule_155 (by decide) (fun c155_ => ?_) (fun c155_ => ?_)
    · replace hr := (if_pos c155_).symm.trans hr
      refine rr_aload_n (i := 0) C dX3_rule_190 rfl rfl ?_
      refine rr_bipush (v := 59) C dX3_rule_191 (by decide) ?_
      replace hr := Option.bind_eq_some_iff.mp hr
      obtain ⟨u293, e294, hr⟩ := hr
      replace hr := Option.bind_eq_some_iff.mp hr
      obtain ⟨v295, e296, hr⟩ := hr
      refine rr_callVq (as := [.int 59]) (st := []) (mc' := 0) (ms' := 0) C dX3_rule_193 iv_X3_70 (by decide) e294 rfl (Nat.le_of_ble_eq_true rfl) (c_X3_sign l0 59 (by omega) e296) (fun v_ h_ n_ q_ => ?_)
      obtain ⟨q1_, q2_, q3_⟩ := q_
      subst v_; subst h_; subst n_
      show WW W0 G 3 _ _ _ 196 [some (.ref l0), some (.int v3.1), some (.ref n)] [] v295 (n + 1) _ _
      refine rr_aload_n (i := 0) C dX3_rule_196 rfl rfl ?_
      replace hr := Option.bind_eq_some_iff.mp hr
      obtain ⟨v297, e298, hr⟩ := hr
      refine rr_rdI C dX3_rule_197 fl_X3_18 e298 ?_
      refine rr_iconst (v := (-1)) C dX3_rule_200 (by decide) ?_
      refine rr_icmp_ne (tgt := 236) C dX3_rule_201 (by decide) (fun c201_ => ?_) (fun c201_ => ?_)
      · replace hr := (if_neg c201_).symm.trans hr
        obtain rfl := Option.some.inj hr
        exact rr_vret C dX3_rule_236 rfl ⟨rfl, rfl, rfl, by omega⟩
      · replace hr := (if_pos c201_).symm.trans hr
        refine rr_aload_n (i := 0) C dX3_rule_204 rfl rfl ?_
        replace hr := Option.bind_eq_some_iff.mp hr
        obtain ⟨v299, e300, hr⟩ := hr
        refine rr_rdI C dX3_rule_205 fl_X3_58 e300 ?_
        refine rr_aload_n (i := 0) C dX3_rule_208 rfl rfl ?_
        replace hr := Option.bind_eq_some_iff.mp hr
        obtain ⟨v301, e302, hr⟩ := hr
        refine rr_rdR C dX3_rule_209 fl_X3_27 e302 ?_
        replace hr := Option.bind_eq_some_iff.mp hr
        obtain ⟨a303, e304, hr⟩ := hr
        subst e304
        replace hr := Option.bind_eq_some_iff.mp hr
        obtain ⟨v305, e306, hr⟩ := hr
        refine rr_lenA C dX3_rule_212 e306 ?_
        refine rr_icmp_ge (tgt := 236) C dX3_rule_213 (by decide) (fun c213_ => ?_) (fun c213_ => ?_)
        · replace hr := (if_pos c213_).symm.trans hr
          obtain rfl := Option.some.inj hr
          exact rr_vret C dX3_rule_236 rfl ⟨rfl, rfl, rfl, by omega⟩
        · replace hr := (if_neg c213_).symm.trans hr
          refine rr_aload_n (i := 0) C dX3_rule_216 rfl rfl ?_
          replace hr := Option.bind_eq_some_iff.mp hr
          obtain ⟨v307, e308, hr⟩ := hr
          refine rr_rdR C dX3_rule_217 fl_X3_27 e308 ?_
          refine rr_aload_n (i := 0) C dX3_rule_220 rfl rfl ?_
          replace hr := Option.bind_eq_some_iff.mp hr
          obtain ⟨v309, e310, hr⟩ := hr
          refine rr_rdI C dX3_rule_221 fl_X3_58 e310 ?_
          refine rr_aload_n (i := 2) C dX3_rule_224 rfl rfl ?_
          replace hr := Option.bind_eq_some_iff.mp hr
          obtain ⟨a311, e312, hr⟩ := hr
          subst e312
          replace hr := Option.bind_eq_some_iff.mp hr
          obtain ⟨h313, e314, hr⟩ := hr
          refine rr_stR C dX3_rule_225 (t0 := 4) (ci := 5) rfl rfl e314 ?_
          refine rr_aload_n (i := 0) C dX3_rule_226 rfl rfl ?_
          refine rr_dup C dX3_rule_227 rfl ?_
          replace hr := Option.bind_eq_some_iff.mp hr
          obtain ⟨v315, e316, hr⟩ := hr
          refine rr_rdI C dX3_rule_228 fl_X3_58 e316 ?_
          refine rr_iconst (v := 1) C dX3_rule_231 (by decide) ?_
          refine rr_iadd C dX3_rule_232 ?_
          replace hr := Option.bind_eq_some_iff.mp hr
          obtain ⟨h317, e318, hr⟩ := hr
          refine rr_wrF C dX3_rule_233 fp_X3_58 rfl rfl e318 ?_
          obtain rfl := Option.some.inj hr
          exact rr_vret C dX3_rule_236 rfl ⟨rfl, rfl, rfl, by omega⟩
    · replace hr := (if_neg c155_).symm.trans hr
      refine rr_aload_n (i := 0) C dX3_rule_158 rfl rfl ?_
      replace hr := Option.bind_eq_some_iff.mp hr
      obtain ⟨u319, e320, hr⟩ := hr
      replace hr := Option.bind_eq_some_iff.mp hr
      obtain ⟨v321, e322, hr⟩ := hr
      refine rr_callVq (as := []) (st := []) (mc' := 0) (ms' := 0) C dX3_rule_159 iv_X3_61 (by decide) e320 rfl (Nat.le_of_ble_eq_true rfl) (c_X3_step l0 (by omega) e322) (fun v_ h_ n_ q_ => ?_)
      obtain ⟨q1_, q2_, q3_⟩ := q_
      subst v_; subst h_; subst n_
      show WW W0 G 3 _ _ _ 162 [some (.ref l0), some (.int v3.1), some (.ref n)] [] v321 (n + 1) _ _
      refine rr_aload_n (i := 0) C dX3_rule_162 rfl rfl ?_
      refine rr_iconst (v := 0) C dX3_rule_163 (by decide) ?_
      replace hr := Option.bind_eq_some_iff.mp hr
      obtain ⟨u323, e324, hr⟩ := hr
      replace hr := Option.bind_eq_some_iff.mp hr
      obtain ⟨v325, e326, hr⟩ := hr
      refine rr_callVq (as := [.int 0]) (st := []) (mc' := 0) (ms' := 0) C dX3_rule_164 iv_X3_143 (by decide) e324 rfl (Nat.le_of_ble_eq_true rfl) (c_X3_any l0 0 (by omega) e326) (fun v_ h_ n_ q_ => ?_)
      obtain ⟨q1_, q2_, q3_⟩ := q_
      subst v_; subst h_; subst n_
      show WW W0 G 3 _ _ _ 167 [some (.ref l0), some (.int v3.1), some (.ref n)] [] v325 (n + 1) _ _
      refine rr_aload_n (i := 2) C dX3_rule_167 rfl rfl ?_
      refine rr_aload_n (i := 0) C dX3_rule_168 rfl rfl ?_
      replace hr := Option.bind_eq_some_iff.mp hr
      obtain ⟨v327, e328, hr⟩ := hr
      refine rr_rdR C dX3_rule_169 fl_X3_31 e328 ?_
      refine rr_aload_n (i := 0) C dX3_rule_172 rfl rfl ?_
      replace hr := Option.bind_eq_some_iff.mp hr
      obtain ⟨v329, e330, hr⟩ := hr
      refine rr_rdI C dX3_rule_173 fl_X3_119 e330 ?_
      refine rr_aload_n (i := 0) C dX3_rule_176 rfl rfl ?_
      replace hr := Option.bind_eq_some_iff.mp hr
      obtain ⟨v331, e332, hr⟩ := hr
      refine rr_rdR C dX3_rule_177 fl_X3_31 e332 ?_
      replace hr := Option.bind_eq_some_iff.mp hr
      obtain ⟨a333, e334, hr⟩ := hr
      subst e334
      replace hr := Option.bind_eq_some_iff.mp hr
      obtain ⟨v335, e336, hr⟩ := hr
      refine rr_lenA C dX3_rule_180 e336 ?_
      refine rr_mmin C dX3_rule_181 ma_X3_34 (by decide) (by rcases v327 with _ | _ <;> exact Nat.le_of_ble_eq_true rfl) ?_
      refine rr_cut C (kc' := 0 + 1) (ks' := 0 + 900) (by omega) (by omega) ?_
      replace hr := Option.bind_eq_some_iff.mp hr
      obtain ⟨⟨v339, h337, n338⟩, e340, hr⟩ := hr
      dsimp only at hr
      refine rr_callS (as := [va_rf v327, .int (i_min v329 v335)]) (st := [.ref n]) (mc' := 1) (ms' := 900) C dX3_rule_184 it_X3_146 (by decide) (Nat.le_of_ble_eq_true rfl) (c_J7_copyOf_59c91 v327 (i_min v329 v335) (by omega) e340) (fun v_ h_ n_ q_ => ?_)
      obtain ⟨q1_, q2_, q3_, b341⟩ := q_
      subst v_; subst h_; subst n_
      try dsimp only at b341
      show WW W0 G 3 _ _ _ 187 [some (.ref l0), some (.int v3.1), some (.ref n)] [va_rf v339, .ref n] h337 n338 _ _
      replace hr := Option.bind_eq_some_iff.mp hr
      obtain ⟨h342, e343, hr⟩ := hr
      refine rr_wrF C dX3_rule_187 fp_X3_150 (na_rf _ _) (fi_rf rfl _) e343 ?_
      refine rr_aload_n (i := 0) C dX3_rule_190 rfl rfl ?_
      refine rr_bipush (v := 59) C dX3_rule_191 (by decide) ?_
      replace hr := Option.bind_eq_some_iff.mp hr
      obtain ⟨u344, e345, hr⟩ := hr
      replace hr := Option.bind_eq_some_iff.mp hr
      obtain ⟨v346, e347, hr⟩ := hr
      refine rr_callVq (as := [.int 59]) (st := []) (mc' := 0) (ms' := 0) C dX3_rule_193 iv_X3_70 (by decide) e345 rfl (Nat.le_of_ble_eq_true rfl) (c_X3_sign l0 59 (by omega) e347) (fun v_ h_ n_ q_ => ?_)
      obtain ⟨q1_, q2_, q3_⟩ := q_
      subst v_; subst h_; subst n_
      show WW W0 G 3 _ _ _ 196 [some (.ref l0), some (.int v3.1), some (.ref n)] [] v346 n338 _ _
      refine rr_aload_n (i := 0) C dX3_rule_196 rfl rfl ?_
      replace hr := Option.bind_eq_some_iff.mp hr
      obtain ⟨v348, e349, hr⟩ := hr
      refine rr_rdI C dX3_rule_197 fl_X3_18 e349 ?_
      refine rr_iconst (v := (-1)) C dX3_rule_200 (by decide) ?_
      refine rr_icmp_ne (tgt := 236) C dX3_rule_201 (by decide) (fun c201_ => ?_) (fun c201_ => ?_)
      · replace hr := (if_neg c201_).symm.trans hr
        obtain rfl := Option.some.inj hr
        exact rr_vret C dX3_rule_236 rfl ⟨rfl, rfl, rfl, by omega⟩
      · replace hr := (if_pos c201_).symm.trans hr
        refine rr_aload_n (i := 0) C dX3_rule_204 rfl rfl ?_
        replace hr := Option.bind_eq_some_iff.mp hr
        obtain ⟨v350, e351, hr⟩ := hr
        refine rr_rdI C dX3_rule_205 fl_X3_58 e351 ?_
        refine rr_aload_n (i := 0) C dX3_rule_208 rfl rfl ?_
        replace hr := Option.bind_eq_some_iff.mp hr
        obtain ⟨v352, e353, hr⟩ := hr
        refine rr_rdR C dX3_rule_209 fl_X3_27 e353 ?_
        replace hr := Option.bind_eq_some_iff.mp hr
        obtain ⟨a354, e355, hr⟩ := hr
        subst e355
        replace hr := Option.bind_eq_some_iff.mp hr
        obtain ⟨v356, e357, hr⟩ := hr
        refine rr_lenA C dX3_rule_212 e357 ?_
        refine rr_icmp_ge (tgt := 236) C dX3_rule_213 (by decide) (fun c213_ => ?_) (fun c213_ => ?_)
        · replace hr := (if_pos c213_).symm.trans hr
          obtain rfl := Option.some.inj hr
          exact rr_vret C dX3_rule_236 rfl ⟨rfl, rfl, rfl, by omega⟩
        · replace hr := (if_neg c213_).symm.trans hr
          refine rr_aload_n (i := 0) C dX3_rule_216 rfl rfl ?_
          replace hr := Option.bind_eq_some_iff.mp hr
          obtain ⟨v358, e359, hr⟩ := hr
          refine rr_rdR C dX3_rule_217 fl_X3_27 e359 ?_
          refine rr_aload_n (i := 0) C dX3_rule_220 rfl rfl ?_
          replace hr := Option.bind_eq_some_iff.mp hr
          obtain ⟨v360, e361, hr⟩ := hr
          refine rr_rdI C dX3_rule_221 fl_X3_58 e361 ?_
          refine rr_aload_n (i := 2) C dX3_rule_224 rfl rfl ?_
          replace hr := Option.bind_eq_some_iff.mp hr
          obtain ⟨a362, e363, hr⟩ := hr
          subst e363
          replace hr := Option.bind_eq_some_iff.mp hr
          obtain ⟨h364, e365, hr⟩ := hr
          refine rr_stR C dX3_rule_225 (t0 := 4) (ci := 5) rfl rfl e365 ?_
          refine rr_aload_n (i := 0) C dX3_rule_226 rfl rfl ?_
          refine rr_dup C dX3_rule_227 rfl ?_
          replace hr := Option.bind_eq_some_iff.mp hr
          obtain ⟨v366, e367, hr⟩ := hr
          refine rr_rdI C dX3_rule_228 fl_X3_58 e367 ?_
          refine rr_iconst (v := 1) C dX3_rule_231 (by decide) ?_
          refine rr_iadd C dX3_rule_232 ?_
          replace hr := Option.bind_eq_some_iff.mp hr
          obtain ⟨h368, e369, hr⟩ := hr
          refine rr_wrF C dX3_rule_233 fp_X3_58 rfl rfl e369 ?_
          obtain rfl := Option.some.inj hr
          exact rr_vret C dX3_rule_236 rfl ⟨rfl, rfl, rfl, by omega⟩
  replace hr := (if_neg s22_3).symm.trans hr
  by_cases s22_4 : v3.1 = 4
  · replace hr := (if_pos s22_4).symm.trans hr
    refine rr_tabIn (off := 100) (tgt := 122) C dX3_rule_22 (by rw [s22_4]; decide) (by rw [s22_4]; decide) (by rw [s22_4]; rfl) (by decide) ?_
    refine rr_aload_n (i := 2) C dX3_rule_122 rfl rfl ?_
    refine rr_aload_n (i := 0) C dX3_rule_123 rfl rfl ?_
    refine rr_bipush (v := 50) C dX3_rule_124 (by decide) ?_
    refine rr_sipush (v := 150) C dX3_rule_126 (by decide) ?_
    replace hr := Option.bind_eq_some_iff.mp hr
    obtain ⟨u370, e371, hr⟩ := hr
    replace hr := Option.bind_eq_some_iff.mp hr
    obtain ⟨v372, e373, hr⟩ := hr
    refine rr_callVq (as := [.int 50, .int 150]) (st := [.ref n]) (mc' := 0) (ms' := 0) C dX3_rule_129 iv_X3_130 (by decide) e371 rfl (Nat.le_of_ble_eq_true rfl) (c_X3_number l0 50 150 (by omega) e373) (fun v_ h_ n_ q_ => ?_)
    obtain ⟨q1_, q2_, q3_⟩ := q_
    subst v_; subst h_; subst n_
    show WW W0 G 3 _ _ _ 132 [some (.ref l0), some (.int v3.1), some (.ref n)] [.int v372.1, .ref n] v372.2 (n + 1) _ _
    replace hr := Option.bind_eq_some_iff.mp hr
    obtain ⟨h374, e375, hr⟩ := hr
    refine rr_wrF C dX3_rule_132 fp_X3_133 rfl rfl e375 ?_
    refine rr_goto (tgt := 149) C dX3_rule_135 (by decide) ?_
    refine rr_aload_n (i := 0) C dX3_rule_149 rfl rfl ?_
    refine rr_ldcS (i := 4) C dX3_rule_150 (by decide) rfl ?_
    replace hr := Option.bind_eq_some_iff.mp hr
    obtain ⟨u376, e377, hr⟩ := hr
    replace hr := Option.bind_eq_some_iff.mp hr
    obtain ⟨v378, e379, hr⟩ := hr
    refine rr_callVq (as := [.ref 7]) (st := []) (mc' := 0) (ms' := 0) C dX3_rule_152 iv_X3_66 (by decide) e377 rfl (Nat.le_of_ble_eq_true rfl) (c_X3_isWord l0 (some 7) (by omega) e379) (fun v_ h_ n_ q_ => ?_)
    obtain ⟨q1_, q2_, q3_⟩ := q_
    subst v_; subst h_; subst n_
    show WW W0 G 3 _ _ _ 155 [some (.ref l0), some (.int v3.1), some (.ref n)] [.int v378] h374 (n + 1) _ _
    refine rr_if_eq (tgt := 190) C dX3_rule_155 (by decide) (fun c155_ => ?_) (fun c155_ => ?_)
    · replace hr := (if_pos c155_).symm.trans hr
      refine rr_aload_n (i := 0) C dX3_rule_190 rfl rfl ?_
      refine rr_bipush (v := 59) C dX3_rule_191 (by decide) ?_
      replace hr := Option.bind_eq_some_iff.mp hr
      obtain ⟨u380, e381, hr⟩ := hr
      replace hr := Option.bind_eq_some_iff.mp hr
      obtain ⟨v382, e383, hr⟩ := hr
      refine rr_callVq (as := [.int 59]) (st := []) (mc' := 0) (ms' := 0) C dX3_rule_193 iv_X3_70 (by decide) e381 rfl (Nat.le_of_ble_eq_true rfl) (c_X3_sign l0 59 (by omega) e383) (fun v_ h_ n_ q_ => ?_)
      obtain ⟨q1_, q2_, q3_⟩ := q_
      subst v_; subst h_; subst n_
      show WW W0 G 3 _ _ _ 196 [some (.ref l0), some (.int v3.1), some (.ref n)] [] v382 (n + 1) _ _
      refine rr_aload_n (i := 0) C dX3_rule_196 rfl rfl ?_
      replace hr := Option.bind_eq_some_iff.mp hr
      obtain ⟨v384, e385, hr⟩ := hr
      refine rr_rdI C dX3_rule_197 fl_X3_18 e385 ?_
      refine rr_iconst (v := (-1)) C dX3_rule_200 (by decide) ?_
      refine rr_icmp_ne (tgt := 236) C dX3_rule_201 (by decide) (fun c201_ => ?_) (fun c201_ => ?_)
      · replace hr := (if_neg c201_).symm.trans hr
        obtain rfl := Option.some.inj hr
        exact rr_vret C dX3_rule_236 rfl ⟨rfl, rfl, rfl, by omega⟩
      · replace hr := (if_pos c201_).symm.trans hr
        refine rr_aload_n (i := 0) C dX3_rule_204 rfl rfl ?_
        replace hr := Option.bind_eq_some_iff.mp hr
        obtain ⟨v386, e387, hr⟩ := hr
        refine rr_rdI C dX3_rule_205 fl_X3_58 e387 ?_
        refine rr_aload_n (i := 0) C dX3_rule_208 rfl rfl ?_
        replace hr := Option.bind_eq_some_iff.mp hr
        obtain ⟨v388, e389, hr⟩ := hr
        refine rr_rdR C dX3_rule_209 fl_X3_27 e389 ?_
        replace hr := Option.bind_eq_some_iff.mp hr
        obtain ⟨a390, e391, hr⟩ := hr
        subst e391
        replace hr := Option.bind_eq_some_iff.mp hr
        obtain ⟨v392, e393, hr⟩ := hr
        refine rr_lenA C dX3_rule_212 e393 ?_
        refine rr_icmp_ge (tgt := 236) C dX3_rule_213 (by decide) (fun c213_ => ?_) (fun c213_ => ?_)
        · replace hr := (if_pos c213_).symm.trans hr
          obtain rfl := Option.some.inj hr
          exact rr_vret C dX3_rule_236 rfl ⟨rfl, rfl, rfl, by omega⟩
        · replace hr := (if_neg c213_).symm.trans hr
          refine rr_aload_n (i := 0) C dX3_rule_216 rfl rfl ?_
          replace hr := Option.bind_eq_some_iff.mp hr
          obtain ⟨v394, e395, hr⟩ := hr
          refine rr_rdR C dX3_rule_217 fl_X3_27 e395 ?_
          refine rr_aload_n (i := 0) C dX3_rule_220 rfl rfl ?_
          replace hr := Option.bind_eq_some_iff.mp hr
          obtain ⟨v396, e397, hr⟩ := hr
          refine rr_rdI C dX3_rule_221 fl_X3_58 e397 ?_
          refine rr_aload_n (i := 2) C dX3_rule_224 rfl rfl ?_
          replace hr := Option.bind_eq_some_iff.mp hr
          obtain ⟨a398, e399, hr⟩ := hr
          subst e399
          replace hr := Option.bind_eq_some_iff.mp hr
          obtain ⟨h400, e401, hr⟩ := hr
          refine rr_stR C dX3_rule_225 (t0 := 4) (ci := 5) rfl rfl e401 ?_
          refine rr_aload_n (i := 0) C dX3_rule_226 rfl rfl ?_
          refine rr_dup C dX3_rule_227 rfl ?_
          replace hr := Option.bind_eq_some_iff.mp hr
          obtain ⟨v402, e403, hr⟩ := hr
          refine rr_rdI C dX3_rule_228 fl_X3_58 e403 ?_
          refine rr_iconst (v := 1) C dX3_rule_231 (by decide) ?_
          refine rr_iadd C dX3_rule_232 ?_
          replace hr := Option.bind_eq_some_iff.mp hr
          obtain ⟨h404, e405, hr⟩ := hr
          refine rr_wrF C dX3_rule_233 fp_X3_58 rfl rfl e405 ?_
          obtain rfl := Option.some.inj hr
          exact rr_vret C dX3_rule_236 rfl ⟨rfl, rfl, rfl, by omega⟩
    · replace hr := (if_neg c155_).symm.trans hr
      refine rr_aload_n (i := 0) C dX3_rule_158 rfl rfl ?_
      replace hr := Option.bind_eq_some_iff.mp hr
      obtain ⟨u406, e407, hr⟩ := hr
      replace hr := Option.bind_eq_some_iff.mp hr
      obtain ⟨v408, e409, hr⟩ := hr
      refine rr_callVq (as := []) (st := []) (mc' := 0) (ms' := 0) C dX3_rule_159 iv_X3_61 (by decide) e407 rfl (Nat.le_of_ble_eq_true rfl) (c_X3_step l0 (by omega) e409) (fun v_ h_ n_ q_ => ?_)
      obtain ⟨q1_, q2_, q3_⟩ := q_
      subst v_; subst h_; subst n_
      show WW W0 G 3 _ _ _ 162 [some (.ref l0), some (.int v3.1), some (.ref n)] [] v408 (n + 1) _ _
      refine rr_aload_n (i := 0) C dX3_rule_162 rfl rfl ?_
      refine rr_iconst (v := 0) C dX3_rule_163 (by decide) ?_
      replace hr := Option.bind_eq_some_iff.mp hr
      obtain ⟨u410, e411, hr⟩ := hr
      replace hr := Option.bind_eq_some_iff.mp hr
      obtain ⟨v412, e413, hr⟩ := hr
      refine rr_callVq (as := [.int 0]) (st := []) (mc' := 0) (ms' := 0) C dX3_rule_164 iv_X3_143 (by decide) e411 rfl (Nat.le_of_ble_eq_true rfl) (c_X3_any l0 0 (by omega) e413) (fun v_ h_ n_ q_ => ?_)
      obtain ⟨q1_, q2_, q3_⟩ := q_
      subst v_; subst h_; subst n_
      show WW W0 G 3 _ _ _ 167 [some (.ref l0), some (.int v3.1), some (.ref n)] [] v412 (n + 1) _ _
      refine rr_aload_n (i := 2) C dX3_rule_167 rfl rfl ?_
      refine rr_aload_n (i := 0) C dX3_rule_168 rfl rfl ?_
      replace hr := Option.bind_eq_some_iff.mp hr
      obtain ⟨v414, e415, hr⟩ := hr
      refine rr_rdR C dX3_rule_169 fl_X3_31 e415 ?_
      refine rr_aload_n (i := 0) C dX3_rule_172 rfl rfl ?_
      replace hr := Option.bind_eq_some_iff.mp hr
      obtain ⟨v416, e417, hr⟩ := hr
      refine rr_rdI C dX3_rule_173 fl_X3_119 e417 ?_
      refine rr_aload_n (i := 0) C dX3_rule_176 rfl rfl ?_
      replace hr := Option.bind_eq_some_iff.mp hr
      obtain ⟨v418, e419, hr⟩ := hr
      refine rr_rdR C dX3_rule_177 fl_X3_31 e419 ?_
      replace hr := Option.bind_eq_some_iff.mp hr
      obtain ⟨a420, e421, hr⟩ := hr
      subst e421
      replace hr := Option.bind_eq_some_iff.mp hr
      obtain ⟨v422, e423, hr⟩ := hr
      refine rr_lenA C dX3_rule_180 e423 ?_
      refine rr_mmin C dX3_rule_181 ma_X3_34 (by decide) (by rcases v414 with _ | _ <;> exact Nat.le_of_ble_eq_true rfl) ?_
      refine rr_cut C (kc' := 0 + 1) (ks' := 0 + 900) (by omega) (by omega) ?_
      replace hr := Option.bind_eq_some_iff.mp hr
      obtain ⟨⟨v426, h424, n425⟩, e427, hr⟩ := hr
      dsimp only at hr
      refine rr_callS (as := [va_rf v414, .int (i_min v416 v422)]) (st := [.ref n]) (mc' := 1) (ms' := 900) C dX3_rule_184 it_X3_146 (by decide) (Nat.le_of_ble_eq_true rfl) (c_J7_copyOf_59c91 v414 (i_min v416 v422) (by omega) e427) (fun v_ h_ n_ q_ => ?_)
      obtain ⟨q1_, q2_, q3_, b428⟩ := q_
      subst v_; subst h_; subst n_
      try dsimp only at b428
      show WW W0 G 3 _ _ _ 187 [some (.ref l0), some (.int v3.1), some (.ref n)] [va_rf v426, .ref n] h424 n425 _ _
      replace hr := Option.bind_eq_some_iff.mp hr
      obtain ⟨h429, e430, hr⟩ := hr
      refine rr_wrF C dX3_rule_187 fp_X3_150 (na_rf _ _) (fi_rf rfl _) e430 ?_
      refine rr_aload_n (i := 0) C dX3_rule_190 rfl rfl ?_
      refine rr_bipush (v := 59) C dX3_rule_191 (by decide) ?_
      replace hr := Option.bind_eq_some_iff.mp hr
      obtain ⟨u431, e432, hr⟩ := hr
      replace hr := Option.bind_eq_some_iff.mp hr
      obtain ⟨v433, e434, hr⟩ := hr
      refine rr_callVq (as := [.int 59]) (st := []) (mc' := 0) (ms' := 0) C dX3_rule_193 iv_X3_70 (by decide) e432 rfl (Nat.le_of_ble_eq_true rfl) (c_X3_sign l0 59 (by omega) e434) (fun v_ h_ n_ q_ => ?_)
      obtain ⟨q1_, q2_, q3_⟩ := q_
      subst v_; subst h_; subst n_
      show WW W0 G 3 _ _ _ 196 [some (.ref l0), some (.int v3.1), some (.ref n)] [] v433 n425 _ _
      refine rr_aload_n (i := 0) C dX3_rule_196 rfl rfl ?_
      replace hr := Option.bind_eq_some_iff.mp hr
      obtain ⟨v435, e436, hr⟩ := hr
      refine rr_rdI C dX3_rule_197 fl_X3_18 e436 ?_
      refine rr_iconst (v := (-1)) C dX3_rule_200 (by decide) ?_
      refine rr_icmp_ne (tgt := 236) C dX3_rule_201 (by decide) (fun c201_ => ?_) (fun c201_ => ?_)
      · replace hr := (if_neg c201_).symm.trans hr
        obtain rfl := Option.some.inj hr
        exact rr_vret C dX3_rule_236 rfl ⟨rfl, rfl, rfl, by omega⟩
      · replace hr := (if_pos c201_).symm.trans hr
        refine rr_aload_n (i := 0) C dX3_rule_204 rfl rfl ?_
        replace hr := Option.bind_eq_some_iff.mp hr
        obtain ⟨v437, e438, hr⟩ := hr
        refine rr_rdI C dX3_rule_205 fl_X3_58 e438 ?_
        refine rr_aload_n (i := 0) C dX3_rule_208 rfl rfl ?_
        replace hr := Option.bind_eq_some_iff.mp hr
        obtain ⟨v439, e440, hr⟩ := hr
        refine rr_rdR C dX3_rule_209 fl_X3_27 e440 ?_
        replace hr := Option.bind_eq_some_iff.mp hr
        obtain ⟨a441, e442, hr⟩ := hr
        subst e442
        replace hr := Option.bind_eq_some_iff.mp hr
        obtain ⟨v443, e444, hr⟩ := hr
        refine rr_lenA C dX3_rule_212 e444 ?_
        refine rr_icmp_ge (tgt := 236) C dX3_rule_213 (by decide) (fun c213_ => ?_) (fun c213_ => ?_)
        · replace hr := (if_pos c213_).symm.trans hr
          obtain rfl := Option.some.inj hr
          exact rr_vret C dX3_rule_236 rfl ⟨rfl, rfl, rfl, by omega⟩
        · replace hr := (if_neg c213_).symm.trans hr
          refine rr_aload_n (i := 0) C dX3_rule_216 rfl rfl ?_
          replace hr := Option.bind_eq_some_iff.mp hr
          obtain ⟨v445, e446, hr⟩ := hr
          refine rr_rdR C dX3_rule_217 fl_X3_27 e446 ?_
          refine rr_aload_n (i := 0) C dX3_rule_220 rfl rfl ?_
          replace hr := Option.bind_eq_some_iff.mp hr
          obtain ⟨v447, e448, hr⟩ := hr
          refine rr_rdI C dX3_rule_221 fl_X3_58 e448 ?_
          refine rr_aload_n (i := 2) C dX3_rule_224 rfl rfl ?_
          replace hr := Option.bind_eq_some_iff.mp hr
          obtain ⟨a449, e450, hr⟩ := hr
          subst e450
          replace hr := Option.bind_eq_some_iff.mp hr
          obtain ⟨h451, e452, hr⟩ := hr
          refine rr_stR C dX3_rule_225 (t0 := 4) (ci := 5) rfl rfl e452 ?_
          refine rr_aload_n (i := 0) C dX3_rule_226 rfl rfl ?_
          refine rr_dup C dX3_rule_227 rfl ?_
          replace hr := Option.bind_eq_some_iff.mp hr
          obtain ⟨v453, e454, hr⟩ := hr
          refine rr_rdI C dX3_rule_228 fl_X3_58 e454 ?_
          refine rr_iconst (v := 1) C dX3_rule_231 (by decide) ?_
          refine rr_iadd C dX3_rule_232 ?_
          replace hr := Option.bind_eq_some_iff.mp hr
          obtain ⟨h455, e456, hr⟩ := hr
          refine rr_wrF C dX3_rule_233 fp_X3_58 rfl rfl e456 ?_
          obtain rfl := Option.some.inj hr
          exact rr_vret C dX3_rule_236 rfl ⟨rfl, rfl, rfl, by omega⟩
  replace hr := (if_neg s22_4).symm.trans hr
  refine rr_tabOut (tgt := 138) C dX3_rule_22 (by have t0 : ¬ Int32.toInt v3.1 = 0 := (fun q => s22_0 (Int32.toInt_inj.mp (show Int32.toInt v3.1 = (0 : Int32).toInt from q))); have t1 : ¬ Int32.toInt v3.1 = 1 := (fun q => s22_1 (Int32.toInt_inj.mp (show Int32.toInt v3.1 = (1 : Int32).toInt from q))); have t2 : ¬ Int32.toInt v3.1 = 2 := (fun q => s22_2 (Int32.toInt_inj.mp (show Int32.toInt v3.1 = (2 : Int32).toInt from q))); have t3 : ¬ Int32.toInt v3.1 = 3 := (fun q => s22_3 (Int32.toInt_inj.mp (show Int32.toInt v3.1 = (3 : Int32).toInt from q))); have t4 : ¬ Int32.toInt v3.1 = 4 := (fun q => s22_4 (Int32.toInt_inj.mp (show Int32.toInt v3.1 = (4 : Int32).toInt from q))); omega) (by decide) ?_
  refine rr_aload_n (i := 2) C dX3_rule_138 rfl rfl ?_
  refine rr_aload_n (i := 0) C dX3_rule_139 rfl rfl ?_
  refine rr_iconst (v := 0) C dX3_rule_140 (by decide) ?_
  refine rr_bipush (v := 100) C dX3_rule_141 (by decide) ?_
  replace hr := Option.bind_eq_some_iff.mp hr
  obtain ⟨u457, e458, hr⟩ := hr
  replace hr := Option.bind_eq_some_iff.mp hr
  obtain ⟨v459, e460, hr⟩ := hr
  refine rr_callVq (as := [.int 0, .int 100]) (st := [.ref n]) (mc' := 0) (ms' := 0) C dX3_rule_143 iv_X3_130 (by decide) e458 rfl (Nat.le_of_ble_eq_true rfl) (c_X3_number l0 0 100 (by omega) e460) (fun v_ h_ n_ q_ => ?_)
  obtain ⟨q1_, q2_, q3_⟩ := q_
  subst v_; subst h_; subst n_
  show WW W0 G 3 _ _ _ 146 [some (.ref l0), some (.int v3.1), some (.ref n)] [.int v459.1, .ref n] v459.2 (n + 1) _ _
  replace hr := Option.bind_eq_some_iff.mp hr
  obtain ⟨h461, e462, hr⟩ := hr
  refine rr_wrF C dX3_rule_146 fp_X3_133 rfl rfl e462 ?_
  refine rr_aload_n (i := 0) C dX3_rule_149 rfl rfl ?_
  refine rr_ldcS (i := 4) C dX3_rule_150 (by decide) rfl ?_
  replace hr := Option.bind_eq_some_iff.mp hr
  obtain ⟨u463, e464, hr⟩ := hr
  replace hr := Option.bind_eq_some_iff.mp hr
  obtain ⟨v465, e466, hr⟩ := hr
  refine rr_callVq (as := [.ref 7]) (st := []) (mc' := 0) (ms' := 0) C dX3_rule_152 iv_X3_66 (by decide) e464 rfl (Nat.le_of_ble_eq_true rfl) (c_X3_isWord l0 (some 7) (by omega) e466) (fun v_ h_ n_ q_ => ?_)
  obtain ⟨q1_, q2_, q3_⟩ := q_
  subst v_; subst h_; subst n_
  show WW W0 G 3 _ _ _ 155 [some (.ref l0), some (.int v3.1), some (.ref n)] [.int v465] h461 (n + 1) _ _
  refine rr_if_eq (tgt := 190) C dX3_rule_155 (by decide) (fun c155_ => ?_) (fun c155_ => ?_)
  · replace hr := (if_pos c155_).symm.trans hr
    refine rr_aload_n (i := 0) C dX3_rule_190 rfl rfl ?_
    refine rr_bipush (v := 59) C dX3_rule_191 (by decide) ?_
    replace hr := Option.bind_eq_some_iff.mp hr
    obtain ⟨u467, e468, hr⟩ := hr
    replace hr := Option.bind_eq_some_iff.mp hr
    obtain ⟨v469, e470, hr⟩ := hr
    refine rr_callVq (as := [.int 59]) (st := []) (mc' := 0) (ms' := 0) C dX3_rule_193 iv_X3_70 (by decide) e468 rfl (Nat.le_of_ble_eq_true rfl) (c_X3_sign l0 59 (by omega) e470) (fun v_ h_ n_ q_ => ?_)
    obtain ⟨q1_, q2_, q3_⟩ := q_
    subst v_; subst h_; subst n_
    show WW W0 G 3 _ _ _ 196 [some (.ref l0), some (.int v3.1), some (.ref n)] [] v469 (n + 1) _ _
    refine rr_aload_n (i := 0) C dX3_rule_196 rfl rfl ?_
    replace hr := Option.bind_eq_some_iff.mp hr
    obtain ⟨v471, e472, hr⟩ := hr
    refine rr_rdI C dX3_rule_197 fl_X3_18 e472 ?_
    refine rr_iconst (v := (-1)) C dX3_rule_200 (by decide) ?_
    refine rr_icmp_ne (tgt := 236) C dX3_rule_201 (by decide) (fun c201_ => ?_) (fun c201_ => ?_)
    · replace hr := (if_neg c201_).symm.trans hr
      obtain rfl := Option.some.inj hr
      exact rr_vret C dX3_rule_236 rfl ⟨rfl, rfl, rfl, by omega⟩
    · replace hr := (if_pos c201_).symm.trans hr
      refine rr_aload_n (i := 0) C dX3_rule_204 rfl rfl ?_
      replace hr := Option.bind_eq_some_iff.mp hr
      obtain ⟨v473, e474, hr⟩ := hr
      refine rr_rdI C dX3_rule_205 fl_X3_58 e474 ?_
      refine rr_aload_n (i := 0) C dX3_rule_208 rfl rfl ?_
      replace hr := Option.bind_eq_some_iff.mp hr
      obtain ⟨v475, e476, hr⟩ := hr
      refine rr_rdR C dX3_rule_209 fl_X3_27 e476 ?_
      replace hr := Option.bind_eq_some_iff.mp hr
      obtain ⟨a477, e478, hr⟩ := hr
      subst e478
      replace hr := Option.bind_eq_some_iff.mp hr
      obtain ⟨v479, e480, hr⟩ := hr
      refine rr_lenA C dX3_rule_212 e480 ?_
      refine rr_icmp_ge (tgt := 236) C dX3_rule_213 (by decide) (fun c213_ => ?_) (fun c213_ => ?_)
      · replace hr := (if_pos c213_).symm.trans hr
        obtain rfl := Option.some.inj hr
        exact rr_vret C dX3_rule_236 rfl ⟨rfl, rfl, rfl, by omega⟩
      · replace hr := (if_neg c213_).symm.trans hr
        refine rr_aload_n (i := 0) C dX3_rule_216 rfl rfl ?_
        replace hr := Option.bind_eq_some_iff.mp hr
        obtain ⟨v481, e482, hr⟩ := hr
        refine rr_rdR C dX3_rule_217 fl_X3_27 e482 ?_
        refine rr_aload_n (i := 0) C dX3_rule_220 rfl rfl ?_
        replace hr := Option.bind_eq_some_iff.mp hr
        obtain ⟨v483, e484, hr⟩ := hr
        refine rr_rdI C dX3_rule_221 fl_X3_58 e484 ?_
        refine rr_aload_n (i := 2) C dX3_rule_224 rfl rfl ?_
        replace hr := Option.bind_eq_some_iff.mp hr
        obtain ⟨a485, e486, hr⟩ := hr
        subst e486
        replace hr := Option.bind_eq_some_iff.mp hr
        obtain ⟨h487, e488, hr⟩ := hr
        refine rr_stR C dX3_rule_225 (t0 := 4) (ci := 5) rfl rfl e488 ?_
        refine rr_aload_n (i := 0) C dX3_rule_226 rfl rfl ?_
        refine rr_dup C dX3_rule_227 rfl ?_
        replace hr := Option.bind_eq_some_iff.mp hr
        obtain ⟨v489, e490, hr⟩ := hr
        refine rr_rdI C dX3_rule_228 fl_X3_58 e490 ?_
        refine rr_iconst (v := 1) C dX3_rule_231 (by decide) ?_
        refine rr_iadd C dX3_rule_232 ?_
        replace hr := Option.bind_eq_some_iff.mp hr
        obtain ⟨h491, e492, hr⟩ := hr
        refine rr_wrF C dX3_rule_233 fp_X3_58 rfl rfl e492 ?_
        obtain rfl := Option.some.inj hr
        exact rr_vret C dX3_rule_236 rfl ⟨rfl, rfl, rfl, by omega⟩
  · replace hr := (if_neg c155_).symm.trans hr
    refine rr_aload_n (i := 0) C dX3_rule_158 rfl rfl ?_
    replace hr := Option.bind_eq_some_iff.mp hr
    obtain ⟨u493, e494, hr⟩ := hr
    replace hr := Option.bind_eq_some_iff.mp hr
    obtain ⟨v495, e496, hr⟩ := hr
    refine rr_callVq (as := []) (st := []) (mc' := 0) (ms' := 0) C dX3_rule_159 iv_X3_61 (by decide) e494 rfl (Nat.le_of_ble_eq_true rfl) (c_X3_step l0 (by omega) e496) (fun v_ h_ n_ q_ => ?_)
    obtain ⟨q1_, q2_, q3_⟩ := q_
    subst v_; subst h_; subst n_
    show WW W0 G 3 _ _ _ 162 [some (.ref l0), some (.int v3.1), some (.ref n)] [] v495 (n + 1) _ _
    refine rr_aload_n (i := 0) C dX3_rule_162 rfl rfl ?_
    refine rr_iconst (v := 0) C dX3_rule_163 (by decide) ?_
    replace hr := Option.bind_eq_some_iff.mp hr
    obtain ⟨u497, e498, hr⟩ := hr
    replace hr := Option.bind_eq_some_iff.mp hr
    obtain ⟨v499, e500, hr⟩ := hr
    refine rr_callVq (as := [.int 0]) (st := []) (mc' := 0) (ms' := 0) C dX3_rule_164 iv_X3_143 (by decide) e498 rfl (Nat.le_of_ble_eq_true rfl) (c_X3_any l0 0 (by omega) e500) (fun v_ h_ n_ q_ => ?_)
    obtain ⟨q1_, q2_, q3_⟩ := q_
    subst v_; subst h_; subst n_
    show WW W0 G 3 _ _ _ 167 [some (.ref l0), some (.int v3.1), some (.ref n)] [] v499 (n + 1) _ _
    refine rr_aload_n (i := 2) C dX3_rule_167 rfl rfl ?_
    refine rr_aload_n (i := 0) C dX3_rule_168 rfl rfl ?_
    replace hr := Option.bind_eq_some_iff.mp hr
    obtain ⟨v501, e502, hr⟩ := hr
    refine rr_rdR C dX3_rule_169 fl_X3_31 e502 ?_
    refine rr_aload_n (i := 0) C dX3_rule_172 rfl rfl ?_
    replace hr := Option.bind_eq_some_iff.mp hr
    obtain ⟨v503, e504, hr⟩ := hr
    refine rr_rdI C dX3_rule_173 fl_X3_119 e504 ?_
    refine rr_aload_n (i := 0) C dX3_rule_176 rfl rfl ?_
    replace hr := Option.bind_eq_some_iff.mp hr
    obtain ⟨v505, e506, hr⟩ := hr
    refine rr_rdR C dX3_rule_177 fl_X3_31 e506 ?_
    replace hr := Option.bind_eq_some_iff.mp hr
    obtain ⟨a507, e508, hr⟩ := hr
    subst e508
    replace hr := Option.bind_eq_some_iff.mp hr
    obtain ⟨v509, e510, hr⟩ := hr
    refine rr_lenA C dX3_rule_180 e510 ?_
    refine rr_mmin C dX3_rule_181 ma_X3_34 (by decide) (by rcases v501 with _ | _ <;> exact Nat.le_of_ble_eq_true rfl) ?_
    refine rr_cut C (kc' := 0 + 1) (ks' := 0 + 900) (by omega) (by omega) ?_
    replace hr := Option.bind_eq_some_iff.mp hr
    obtain ⟨⟨v513, h511, n512⟩, e514, hr⟩ := hr
    dsimp only at hr
    refine rr_callS (as := [va_rf v501, .int (i_min v503 v509)]) (st := [.ref n]) (mc' := 1) (ms' := 900) C dX3_rule_184 it_X3_146 (by decide) (Nat.le_of_ble_eq_true rfl) (c_J7_copyOf_59c91 v501 (i_min v503 v509) (by omega) e514) (fun v_ h_ n_ q_ => ?_)
    obtain ⟨q1_, q2_, q3_, b515⟩ := q_
    subst v_; subst h_; subst n_
    try dsimp only at b515
    show WW W0 G 3 _ _ _ 187 [some (.ref l0), some (.int v3.1), some (.ref n)] [va_rf v513, .ref n] h511 n512 _ _
    replace hr := Option.bind_eq_some_iff.mp hr
    obtain ⟨h516, e517, hr⟩ := hr
    refine rr_wrF C dX3_rule_187 fp_X3_150 (na_rf _ _) (fi_rf rfl _) e517 ?_
    refine rr_aload_n (i := 0) C dX3_rule_190 rfl rfl ?_
    refine rr_bipush (v := 59) C dX3_rule_191 (by decide) ?_
    replace hr := Option.bind_eq_some_iff.mp hr
    obtain ⟨u518, e519, hr⟩ := hr
    replace hr := Option.bind_eq_some_iff.mp hr
    obtain ⟨v520, e521, hr⟩ := hr
    refine rr_callVq (as := [.int 59]) (st := []) (mc' := 0) (ms' := 0) C dX3_rule_193 iv_X3_70 (by decide) e519 rfl (Nat.le_of_ble_eq_true rfl) (c_X3_sign l0 59 (by omega) e521) (fun v_ h_ n_ q_ => ?_)
    obtain ⟨q1_, q2_, q3_⟩ := q_
    subst v_; subst h_; subst n_
    show WW W0 G 3 _ _ _ 196 [some (.ref l0), some (.int v3.1), some (.ref n)] [] v520 n512 _ _
    refine rr_aload_n (i := 0) C dX3_rule_196 rfl rfl ?_
    replace hr := Option.bind_eq_some_iff.mp hr
    obtain ⟨v522, e523, hr⟩ := hr
    refine rr_rdI C dX3_rule_197 fl_X3_18 e523 ?_
    refine rr_iconst (v := (-1)) C dX3_rule_200 (by decide) ?_
    refine rr_icmp_ne (tgt := 236) C dX3_rule_201 (by decide) (fun c201_ => ?_) (fun c201_ => ?_)
    · replace hr := (if_neg c201_).symm.trans hr
      obtain rfl := Option.some.inj hr
      exact rr_vret C dX3_rule_236 rfl ⟨rfl, rfl, rfl, by omega⟩
    · replace hr := (if_pos c201_).symm.trans hr
      refine rr_aload_n (i := 0) C dX3_rule_204 rfl rfl ?_
      replace hr := Option.bind_eq_some_iff.mp hr
      obtain ⟨v524, e525, hr⟩ := hr
      refine rr_rdI C dX3_rule_205 fl_X3_58 e525 ?_
      refine rr_aload_n (i := 0) C dX3_rule_208 rfl rfl ?_
      replace hr := Option.bind_eq_some_iff.mp hr
      obtain ⟨v526, e527, hr⟩ := hr
      refine rr_rdR C dX3_rule_209 fl_X3_27 e527 ?_
      replace hr := Option.bind_eq_some_iff.mp hr
      obtain ⟨a528, e529, hr⟩ := hr
      subst e529
      replace hr := Option.bind_eq_some_iff.mp hr
      obtain ⟨v530, e531, hr⟩ := hr
      refine rr_lenA C dX3_rule_212 e531 ?_
      refine rr_icmp_ge (tgt := 236) C dX3_rule_213 (by decide) (fun c213_ => ?_) (fun c213_ => ?_)
      · replace hr := (if_pos c213_).symm.trans hr
        obtain rfl := Option.some.inj hr
        exact rr_vret C dX3_rule_236 rfl ⟨rfl, rfl, rfl, by omega⟩
      · replace hr := (if_neg c213_).symm.trans hr
        refine rr_aload_n (i := 0) C dX3_rule_216 rfl rfl ?_
        replace hr := Option.bind_eq_some_iff.mp hr
        obtain ⟨v532, e533, hr⟩ := hr
        refine rr_rdR C dX3_rule_217 fl_X3_27 e533 ?_
        refine rr_aload_n (i := 0) C dX3_rule_220 rfl rfl ?_
        replace hr := Option.bind_eq_some_iff.mp hr
        obtain ⟨v534, e535, hr⟩ := hr
        refine rr_rdI C dX3_rule_221 fl_X3_58 e535 ?_
        refine rr_aload_n (i := 2) C dX3_rule_224 rfl rfl ?_
        replace hr := Option.bind_eq_some_iff.mp hr
        obtain ⟨a536, e537, hr⟩ := hr
        subst e537
        replace hr := Option.bind_eq_some_iff.mp hr
        obtain ⟨h538, e539, hr⟩ := hr
        refine rr_stR C dX3_rule_225 (t0 := 4) (ci := 5) rfl rfl e539 ?_
        refine rr_aload_n (i := 0) C dX3_rule_226 rfl rfl ?_
        refine rr_dup C dX3_rule_227 rfl ?_
        replace hr := Option.bind_eq_some_iff.mp hr
        obtain ⟨v540, e541, hr⟩ := hr
        refine rr_rdI C dX3_rule_228 fl_X3_58 e541 ?_
        refine rr_iconst (v := 1) C dX3_rule_231 (by decide) ?_
        refine rr_iadd C dX3_rule_232 ?_
        replace hr := Option.bind_eq_some_iff.mp hr
        obtain ⟨h542, e543, hr⟩ := hr
        refine rr_wrF C dX3_rule_233 fp_X3_58 rfl rfl e543 ?_
        obtain rfl := Option.some.inj hr
        exact rr_vret C dX3_rule_236 rfl ⟨rfl, rfl, rfl, by omega⟩
def lp_X3_read_89 (K : Nat) (l0 : Nat) (l4 : Int32) (l5 : Option Nat) : Nat → Int32 → mm_H → Nat → Option (mm_H × Nat)
  | 0, _, _, _ => none
  | k_ + 1, l6, h, n =>
    if 30 ≤ l6 then
      some (h, n)
    else
    (rdI h n l0 3 2).bind fun v29 =>
    if v29 = 0 then
      some (h, n)
    else
    (rdI h n l0 3 5).bind fun v31 =>
    if v31 = (-1) then
      if l4 = 0 then
        (ckq h n l0 3).bind fun u33 =>
        (q_X3_rule K h n l0).bind fun (h35, n36) =>
        lp_X3_read_89 K l0 l4 l5 k_ (l6 + 1) h35 n36
      else
      (ckq h n l0 3).bind fun u40 =>
      (q_X3_isWord K h n l0 (some 4)).bind fun v42 =>
      if v42 = 0 then
        (ckq h n l0 3).bind fun u44 =>
        (q_X3_rule K h n l0).bind fun (h46, n47) =>
        lp_X3_read_89 K l0 l4 l5 k_ (l6 + 1) h46 n47
      else
      (ckq h n l0 3).bind fun u51 =>
      (q_X3_strike K h n l0 l5).bind fun v53 =>
      lp_X3_read_89 K l0 l4 l5 k_ (l6 + 1) v53 n
    else
    some (h, n)
def q_X3_read (K M : Nat) (h : mm_H) (n : Nat) (l0 : Nat) (l1 : Option Nat) (l2 : Int32) (l3 : Option Nat) : Option (Option Nat × mm_H × Nat) :=
  (wrF h n l0 3 0 (va_rf l1)).bind fun h1 =>
  l1.bind fun a3 =>
  (lenA h1 n a3 0).bind fun v5 =>
  (wrF h1 n l0 3 1 (.int (i_max 0 (i_min l2 v5)))).bind fun h7 =>
  (wrF h7 n l0 3 4 (.int 0)).bind fun h9 =>
  (wrF h9 n l0 3 5 (.int (-1))).bind fun h11 =>
  (wrF h11 n l0 3 7 (.int 0)).bind fun h13 =>
  (rdR h13 n l0 3 6).bind fun v15 =>
  (q_J7_fill_53178 K h13 n v15 0).bind fun v17 =>
  (wrF v17 n l0 3 9 (.int 0)).bind fun h19 =>
  (ckq h19 n l0 3).bind fun u21 =>
  (q_X3_step K h19 n l0).bind fun v23 =>
  (ckq v23 n l0 3).bind fun u25 =>
  (q_X3_isWord K v23 n l0 (some 3)).bind fun v27 =>
  if v27 = 0 then
    if v27 = 0 then
      (lp_X3_read_89 K l0 v27 none M 0 v23 n).bind fun v55 =>
      (rdI v55.1 v55.2 l0 3 2).bind fun v58 =>
      if v58 = 0 then
        (rdI v55.1 v55.2 l0 3 5).bind fun v60 =>
        if v60 = (-1) then
          (ckq v55.1 v55.2 l0 3).bind fun u62 =>
          (q_X3_together K v55.1 v55.2 l0 none).bind fun (v66, h64, n65) =>
          some (v66, h64, n65)
        else
        some (none, v55.1, v55.2)
      else
      (ckq v55.1 v55.2 l0 3).bind fun u69 =>
      (q_X3_fail K v55.1 v55.2 l0).bind fun v71 =>
      (rdI v71 v55.2 l0 3 5).bind fun v73 =>
      if v73 = (-1) then
        (ckq v71 v55.2 l0 3).bind fun u75 =>
        (q_X3_together K v71 v55.2 l0 none).bind fun (v79, h77, n78) =>
        some (v79, h77, n78)
      else
      some (none, v71, v55.2)
    else
    (lp_X3_read_89 K l0 v27 l3 M 0 v23 n).bind fun v82 =>
    (rdI v82.1 v82.2 l0 3 2).bind fun v85 =>
    if v85 = 0 then
      (rdI v82.1 v82.2 l0 3 5).bind fun v87 =>
      if v87 = (-1) then
        (ckq v82.1 v82.2 l0 3).bind fun u89 =>
        (q_X3_together K v82.1 v82.2 l0 l3).bind fun (v93, h91, n92) =>
        some (v93, h91, n92)
      else
      some (none, v82.1, v82.2)
    else
    (ckq v82.1 v82.2 l0 3).bind fun u96 =>
    (q_X3_fail K v82.1 v82.2 l0).bind fun v98 =>
    (rdI v98 v82.2 l0 3 5).bind fun v100 =>
    if v100 = (-1) then
      (ckq v98 v82.2 l0 3).bind fun u102 =>
      (q_X3_together K v98 v82.2 l0 l3).bind fun (v106, h104, n105) =>
      some (v106, h104, n105)
    else
    some (none, v98, v82.2)
  else
  (ckq v23 n l0 3).bind fun u109 =>
  (q_X3_step K v23 n l0).bind fun v111 =>
  (ckq v111 n l0 3).bind fun u113 =>
  (q_X3_sign K v111 n l0 59).bind fun v115 =>
  if v27 = 0 then
    (lp_X3_read_89 K l0 v27 none M 0 v115 n).bind fun v117 =>
    (rdI v117.1 v117.2 l0 3 2).bind fun v120 =>
    if v120 = 0 then
      (rdI v117.1 v117.2 l0 3 5).bind fun v122 =>
      if v122 = (-1) then
        (ckq v117.1 v117.2 l0 3).bind fun u124 =>
        (q_X3_together K v117.1 v117.2 l0 none).bind fun (v128, h126, n127) =>
        some (v128, h126, n127)
      else
      some (none, v117.1, v117.2)
    else
    (ckq v117.1 v117.2 l0 3).bind fun u131 =>
    (q_X3_fail K v117.1 v117.2 l0).bind fun v133 =>
    (rdI v133 v117.2 l0 3 5).bind fun v135 =>
    if v135 = (-1) then
      (ckq v133 v117.2 l0 3).bind fun u137 =>
      (q_X3_together K v133 v117.2 l0 none).bind fun (v141, h139, n140) =>
      some (v141, h139, n140)
    else
    some (none, v133, v117.2)
  else
  (lp_X3_read_89 K l0 v27 l3 M 0 v115 n).bind fun v144 =>
  (rdI v144.1 v144.2 l0 3 2).bind fun v147 =>
  if v147 = 0 then
    (rdI v144.1 v144.2 l0 3 5).bind fun v149 =>
    if v149 = (-1) then
      (ckq v144.1 v144.2 l0 3).bind fun u151 =>
      (q_X3_together K v144.1 v144.2 l0 l3).bind fun (v155, h153, n154) =>
      some (v155, h153, n154)
    else
    some (none, v144.1, v144.2)
  else
  (ckq v144.1 v144.2 l0 3).bind fun u158 =>
  (q_X3_fail K v144.1 v144.2 l0).bind fun v160 =>
  (rdI v160 v144.2 l0 3 5).bind fun v162 =>
  if v162 = (-1) then
    (ckq v160 v144.2 l0 3).bind fun u164 =>
    (q_X3_together K v160 v144.2 l0 l3).bind fun (v168, h166, n167) =>
    some (v168, h166, n167)
  else
  some (none, v160, v144.2)
set_option maxRecDepth 100000 in
set_option maxHeartbeats 4000000 in
theorem w_X3_read_89 {K : Nat} {W0 : mm_X} {G : mm_G} {mc ms kc ks : Nat} {Q_ : State → Prop} (C : mm_C W0 G cX3_read yX3_read.cls 7 mc ms (some (.object "WaterReview$RuleBook")) 57 yX3_read.name) (l0 : Nat) (l4 : Int32) (l5 : Option Nat) : ∀ (k_ : Nat) (l6 : Int32) (h : mm_H) (n : Nat) (hn : 48 ≤ n) {r_ : mm_H × Nat} (hr : lp_X3_read_89 K l0 l4 l5 k_ l6 h n = some r_) (hx0 : n ≤ r_.2 → WW W0 G 7 mc ms Q_ 144 [some (.ref l0), none, none, none, none, some (va_rf l5), none] [] r_.1 r_.2 kc ks), WW W0 G 7 mc ms Q_ 89 [some (.ref l0), none, none, none, some (.int l4), some (va_rf l5), some (.int l6)] [] h n (kc + 2 * k_) (ks + 911 * k_) := by
  intro k_
  induction k_ with
  | zero =>
    intro l6 h n hn r_ hr
    cases hr
  | succ k_ ih_ =>
    intro l6 h n hn r_ hr hx0
    unfold lp_X3_read_89 at hr
    refine rr_cut C (kc' := kc + 2 * k_ + 2) (ks' := ks + 911 * k_ + 911) (by omega) (by omega) ?_
    refine rr_iload C dX3_read_89 rfl ?_
    refine rr_bipush (v := 30) C dX3_read_91 (by decide) ?_
    refine rr_icmp_ge (tgt := 144) C dX3_read_93 (by decide) (fun c93_ => ?_) (fun c93_ => ?_)
    · replace hr := (if_pos c93_).symm.trans hr
      obtain rfl := Option.some.inj hr
      refine rr_cut C (kc' := kc) (ks' := ks) (by omega) (by omega) ?_
      exact rr_keep [true, false, false, false, false, true, false] (hx0 (show n ≤ n from by omega))
    · replace hr := (if_neg c93_).symm.trans hr
      refine rr_aload_n (i := 0) C dX3_read_96 rfl rfl ?_
      replace hr := Option.bind_eq_some_iff.mp hr
      obtain ⟨v29, e30, hr⟩ := hr
      refine rr_rdI C dX3_read_97 fl_X3_74 e30 ?_
      refine rr_if_eq (tgt := 144) C dX3_read_100 (by decide) (fun c100_ => ?_) (fun c100_ => ?_)
      · replace hr := (if_pos c100_).symm.trans hr
        obtain rfl := Option.some.inj hr
        refine rr_cut C (kc' := kc) (ks' := ks) (by omega) (by omega) ?_
        exact rr_keep [true, false, false, false, false, true, false] (hx0 (show n ≤ n from by omega))
      · replace hr := (if_neg c100_).symm.trans hr
        refine rr_aload_n (i := 0) C dX3_read_103 rfl rfl ?_
        replace hr := Option.bind_eq_some_iff.mp hr
        obtain ⟨v31, e32, hr⟩ := hr
        refine rr_rdI C dX3_read_104 fl_X3_18 e32 ?_
        refine rr_iconst (v := (-1)) C dX3_read_107 (by decide) ?_
        refine rr_icmp_ne (tgt := 144) C dX3_read_108 (by decide) (fun c108_ => ?_) (fun c108_ => ?_)
        · replace hr := (if_neg c108_).symm.trans hr
          obtain rfl := Option.some.inj hr
          refine rr_cut C (kc' := kc) (ks' := ks) (by omega) (by omega) ?_
          exact rr_keep [true, false, false, false, false, true, false] (hx0 (show n ≤ n from by omega))
        · replace hr := (if_pos c108_).symm.trans hr
          refine rr_iload C dX3_read_111 rfl ?_
          refine rr_if_eq (tgt := 134) C dX3_read_113 (by decide) (fun c113_ => ?_) (fun c113_ => ?_)
          · replace hr := (if_pos c113_).symm.trans hr
            refine rr_aload_n (i := 0) C dX3_read_134 rfl rfl ?_
            replace hr := Option.bind_eq_some_iff.mp hr
            obtain ⟨u33, e34, hr⟩ := hr
            refine rr_cut C (kc' := kc + 2 * k_ + 0 + 2) (ks' := ks + 911 * k_ + 0 + 911) (by omega) (by omega) ?_
            replace hr := Option.bind_eq_some_iff.mp hr
            obtain ⟨⟨h35, n36⟩, e38, hr⟩ := hr
            dsimp only at hr
            refine rr_callVq (as := []) (st := []) (mc' := 2) (ms' := 911) C dX3_read_135 iv_X3_82 (by decide) e34 rfl (Nat.le_of_ble_eq_true rfl) (c_X3_rule l0 (by omega) e38) (fun v_ h_ n_ q_ => ?_)
            obtain ⟨q1_, q2_, q3_, b39⟩ := q_
            subst v_; subst h_; subst n_
            try dsimp only at b39
            show WW W0 G 7 _ _ _ 138 [some (.ref l0), none, none, none, some (.int l4), some (va_rf l5), some (.int l6)] [] h35 n36 _ _
            refine rr_iinc (v := l6 + 1) C dX3_read_138 rfl rfl ?_
            rw [mm_set1_rf (i := 5) (r := l5) rfl]
            show WW W0 G 7 _ _ _ 141 [some (.ref l0), none, none, none, some (.int l4), some (va_rf l5), some (.int (l6 + 1))] [] h35 n36 _ _
            refine rr_goto (tgt := 89) C dX3_read_141 (by decide) ?_
            refine rr_cut C (kc' := kc + 2 * k_) (ks' := ks + 911 * k_) (by omega) (by omega) ?_
            exact rr_keep [true, false, false, false, true, true, true] (ih_ _ _ n36 (by omega) hr (fun q_ => hx0 (by omega)))
          · replace hr := (if_neg c113_).symm.trans hr
            refine rr_aload_n (i := 0) C dX3_read_116 rfl rfl ?_
            refine rr_ldcS (i := 1) C dX3_read_117 (by decide) rfl ?_
            replace hr := Option.bind_eq_some_iff.mp hr
            obtain ⟨u40, e41, hr⟩ := hr
            replace hr := Option.bind_eq_some_iff.mp hr
            obtain ⟨v42, e43, hr⟩ := hr
            refine rr_callVq (as := [.ref 4]) (st := []) (mc' := 0) (ms' := 0) (kc := kc + 2 * k_ + 2) (ks := ks + 911 * k_ + 911) C dX3_read_119 iv_X3_66 (by decide) e41 rfl (Nat.le_of_ble_eq_true rfl) (c_X3_isWord l0 (some 4) (by omega) e43) (fun v_ h_ n_ q_ => ?_)
            obtain ⟨q1_, q2_, q3_⟩ := q_
            subst v_; subst h_; subst n_
            show WW W0 G 7 _ _ _ 122 [some (.ref l0), none, none, none, some (.int l4), some (va_rf l5), some (.int l6)] [.int v42] h n _ _
            refine rr_if_eq (tgt := 134) C dX3_read_122 (by decide) (fun c122_ => ?_) (fun c122_ => ?_)
            · replace hr := (if_pos c122_).symm.trans hr
              refine rr_aload_n (i := 0) C dX3_read_134 rfl rfl ?_
              replace hr := Option.bind_eq_some_iff.mp hr
              obtain ⟨u44, e45, hr⟩ := hr
              refine rr_cut C (kc' := kc + 2 * k_ + 0 + 2) (ks' := ks + 911 * k_ + 0 + 911) (by omega) (by omega) ?_
              replace hr := Option.bind_eq_some_iff.mp hr
              obtain ⟨⟨h46, n47⟩, e49, hr⟩ := hr
              dsimp only at hr
              refine rr_callVq (as := []) (st := []) (mc' := 2) (ms' := 911) C dX3_read_135 iv_X3_82 (by decide) e45 rfl (Nat.le_of_ble_eq_true rfl) (c_X3_rule l0 (by omega) e49) (fun v_ h_ n_ q_ => ?_)
              obtain ⟨q1_, q2_, q3_, b50⟩ := q_
              subst v_; subst h_; subst n_
              try dsimp only at b50
              show WW W0 G 7 _ _ _ 138 [some (.ref l0), none, none, none, some (.int l4), some (va_rf l5), some (.int l6)] [] h46 n47 _ _
              refine rr_iinc (v := l6 + 1) C dX3_read_138 rfl rfl ?_
              rw [mm_set1_rf (i := 5) (r := l5) rfl]
              show WW W0 G 7 _ _ _ 141 [some (.ref l0), none, none, none, some (.int l4), some (va_rf l5), some (.int (l6 + 1))] [] h46 n47 _ _
              refine rr_goto (tgt := 89) C dX3_read_141 (by decide) ?_
              refine rr_cut C (kc' := kc + 2 * k_) (ks' := ks + 911 * k_) (by omega) (by omega) ?_
              exact rr_keep [true, false, false, false, true, true, true] (ih_ _ _ n47 (by omega) hr (fun q_ => hx0 (by omega)))
            · replace hr := (if_neg c122_).symm.trans hr
              refine rr_aload_n (i := 0) C dX3_read_125 rfl rfl ?_
              refine rr_aloadO C dX3_read_126 rfl ?_
              replace hr := Option.bind_eq_some_iff.mp hr
              obtain ⟨u51, e52, hr⟩ := hr
              replace hr := Option.bind_eq_some_iff.mp hr
              obtain ⟨v53, e54, hr⟩ := hr
              refine rr_callVq (as := [va_rf l5]) (st := []) (mc' := 0) (ms' := 0) (kc := kc + 2 * k_ + 2) (ks := ks + 911 * k_ + 911) C dX3_read_128 iv_X3_79 (by decide) e52 rfl (Nat.le_of_ble_eq_true rfl) (c_X3_strike l0 l5 (by omega) e54) (fun v_ h_ n_ q_ => ?_)
              obtain ⟨q1_, q2_, q3_⟩ := q_
              subst v_; subst h_; subst n_
              show WW W0 G 7 _ _ _ 131 [some (.ref l0), none, none, none, some (.int l4), some (va_rf l5), some (.int l6)] [] v53 n _ _
              refine rr_goto (tgt := 138) C dX3_read_131 (by decide) ?_
              refine rr_iinc (v := l6 + 1) C dX3_read_138 rfl rfl ?_
              rw [mm_set1_rf (i := 5) (r := l5) rfl]
              show WW W0 G 7 _ _ _ 141 [some (.ref l0), none, none, none, some (.int l4), some (va_rf l5), some (.int (l6 + 1))] [] v53 n _ _
              refine rr_goto (tgt := 89) C dX3_read_141 (by decide) ?_
              refine rr_cut C (kc' := kc + 2 * k_) (ks' := ks + 911 * k_) (by omega) (by omega) ?_
              exact rr_keep [true, false, false, false, true, true, true] (ih_ _ _ n (by omega) hr (fun q_ => hx0 (by omega)))
set_option maxRecDepth 100000 in
set_option maxHeartbeats 4000000 in
theorem c_X3_read {K M : Nat} {G : mm_G} {l : Launch} {h : mm_H} {n : Nat} (l0 : Nat) (l1 : Option Nat) (l2 : Int32) (l3 : Option Nat) {r_ : Option Nat × mm_H × Nat} (hn : 48 ≤ n) (hr : q_X3_read K M h n l0 l1 l2 l3 = some r_) : Sp G l yX3_read cX3_read 7 (some (.object "WaterReview$RuleBook")) 57 (2 * M + 2) (911 * M + 304) [.ref l0, va_rf l1, .int l2, va_rf l3] h n (fun v h' n' => v = some (va_rf r_.1) ∧ h' = r_.2.1 ∧ n' = r_.2.2 ∧ n ≤ n') := by
  refine Sp_of (by decide +kernel) (by rcases l1 with _ | _ <;> rcases l3 with _ | _ <;> exact Nat.le_of_ble_eq_true rfl) hn ?_
  intro W0 hwl C
  subst hwl
  unfold q_X3_read at hr
  rw [show mm_en 7 [.ref l0, va_rf l1, .int l2, va_rf l3] = [some (.ref l0), some (va_rf l1), some (.int l2), some (va_rf l3), none, none, none] from by rcases l1 with _ | _ <;> rcases l3 with _ | _ <;> rfl]
  show WW W0 G 7 (2 * M + 2) (911 * M + 304) _ 0 [some (.ref l0), some (va_rf l1), some (.int l2), some (va_rf l3), none, none, none] [] h n (2 * M + 2) (911 * M + 304)
  refine rr_aload_n (i := 0) C dX3_read_0 rfl rfl ?_
  refine rr_aload_nO (i := 1) C dX3_read_1 rfl rfl ?_
  replace hr := Option.bind_eq_some_iff.mp hr
  obtain ⟨h1, e2, hr⟩ := hr
  refine rr_wrF C dX3_read_2 fp_X3_13 (na_rf _ _) (fi_rf rfl _) e2 ?_
  refine rr_aload_n (i := 0) C dX3_read_5 rfl rfl ?_
  refine rr_iconst (v := 0) C dX3_read_6 (by decide) ?_
  refine rr_iload_n (i := 2) C dX3_read_7 rfl rfl ?_
  refine rr_aload_nO (i := 1) C dX3_read_8 rfl rfl ?_
  replace hr := Option.bind_eq_some_iff.mp hr
  obtain ⟨a3, e4, hr⟩ := hr
  subst e4
  replace hr := Option.bind_eq_some_iff.mp hr
  obtain ⟨v5, e6, hr⟩ := hr
  refine rr_lenA C dX3_read_9 e6 ?_
  refine rr_mmin C dX3_read_10 ma_X3_34 (by decide) (Nat.le_of_ble_eq_true rfl) ?_
  refine rr_mmax C dX3_read_13 ma_X3_40 (by decide) (Nat.le_of_ble_eq_true rfl) ?_
  replace hr := Option.bind_eq_some_iff.mp hr
  obtain ⟨h7, e8, hr⟩ := hr
  refine rr_wrF C dX3_read_16 fp_X3_43 rfl rfl e8 ?_
  refine rr_aload_n (i := 0) C dX3_read_19 rfl rfl ?_
  refine rr_iconst (v := 0) C dX3_read_20 (by decide) ?_
  replace hr := Option.bind_eq_some_iff.mp hr
  obtain ⟨h9, e10, hr⟩ := hr
  refine rr_wrF C dX3_read_21 fp_X3_46 rfl rfl e10 ?_
  refine rr_aload_n (i := 0) C dX3_read_24 rfl rfl ?_
  refine rr_iconst (v := (-1)) C dX3_read_25 (by decide) ?_
  replace hr := Option.bind_eq_some_iff.mp hr
  obtain ⟨h11, e12, hr⟩ := hr
  refine rr_wrF C dX3_read_26 fp_X3_18 rfl rfl e12 ?_
  refine rr_aload_n (i := 0) C dX3_read_29 rfl rfl ?_
  refine rr_iconst (v := 0) C dX3_read_30 (by decide) ?_
  replace hr := Option.bind_eq_some_iff.mp hr
  obtain ⟨h13, e14, hr⟩ := hr
  refine rr_wrF C dX3_read_31 fp_X3_49 rfl rfl e14 ?_
  refine rr_aload_n (i := 0) C dX3_read_34 rfl rfl ?_
  replace hr := Option.bind_eq_some_iff.mp hr
  obtain ⟨v15, e16, hr⟩ := hr
  refine rr_rdR C dX3_read_35 fl_X3_22 e16 ?_
  refine rr_iconst (v := 0) C dX3_read_38 (by decide) ?_
  replace hr := Option.bind_eq_some_iff.mp hr
  obtain ⟨v17, e18, hr⟩ := hr
  refine rr_callS (as := [va_rf v15, .int 0]) (st := []) (mc' := 0) (ms' := 0) C dX3_read_39 it_X3_52 (by decide) (Nat.le_of_ble_eq_true rfl) (c_J7_fill_53178 v15 0 (by omega) e18) (fun v_ h_ n_ q_ => ?_)
  obtain ⟨q1_, q2_, q3_⟩ := q_
  subst v_; subst h_; subst n_
  show WW W0 G 7 _ _ _ 42 [some (.ref l0), some (.ref a3), some (.int l2), some (va_rf l3), none, none, none] [] v17 n _ _
  refine rr_aload_n (i := 0) C dX3_read_42 rfl rfl ?_
  refine rr_iconst (v := 0) C dX3_read_43 (by decide) ?_
  replace hr := Option.bind_eq_some_iff.mp hr
  obtain ⟨h19, e20, hr⟩ := hr
  refine rr_wrF C dX3_read_44 fp_X3_58 rfl rfl e20 ?_
  refine rr_aload_n (i := 0) C dX3_read_47 rfl rfl ?_
  replace hr := Option.bind_eq_some_iff.mp hr
  obtain ⟨u21, e22, hr⟩ := hr
  replace hr := Option.bind_eq_some_iff.mp hr
  obtain ⟨v23, e24, hr⟩ := hr
  refine rr_callVq (as := []) (st := []) (mc' := 0) (ms' := 0) C dX3_read_48 iv_X3_61 (by decide) e22 rfl (Nat.le_of_ble_eq_true rfl) (c_X3_step l0 (by omega) e24) (fun v_ h_ n_ q_ => ?_)
  obtain ⟨q1_, q2_, q3_⟩ := q_
  subst v_; subst h_; subst n_
  show WW W0 G 7 _ _ _ 51 [some (.ref l0), some (.ref a3), some (.int l2), some (va_rf l3), none, none, none] [] v23 n _ _
  refine rr_aload_n (i := 0) C dX3_read_51 rfl rfl ?_
  refine rr_ldcS (i := 0) C dX3_read_52 (by decide) rfl ?_
  replace hr := Option.bind_eq_some_iff.mp hr
  obtain ⟨u25, e26, hr⟩ := hr
  replace hr := Option.bind_eq_some_iff.mp hr
  obtain ⟨v27, e28, hr⟩ := hr
  refine rr_callVq (as := [.ref 3]) (st := []) (mc' := 0) (ms' := 0) C dX3_read_54 iv_X3_66 (by decide) e26 rfl (Nat.le_of_ble_eq_true rfl) (c_X3_isWord l0 (some 3) (by omega) e28) (fun v_ h_ n_ q_ => ?_)
  obtain ⟨q1_, q2_, q3_⟩ := q_
  subst v_; subst h_; subst n_
  show WW W0 G 7 _ _ _ 57 [some (.ref l0), some (.ref a3), some (.int l2), some (va_rf l3), none, none, none] [.int v27] v23 n _ _
  refine rr_istore C dX3_read_57 (by decide) ?_
  rw [mm_set1_rf (i := 3) (r := l3) rfl]
  show WW W0 G 7 _ _ _ 59 [some (.ref l0), some (.ref a3), some (.int l2), some (va_rf l3), some (.int v27), none, none] [] v23 n _ _
  refine rr_iload C dX3_read_59 rfl ?_
  refine rr_if_eq (tgt := 74) C dX3_read_61 (by decide) (fun c61_ => ?_) (fun c61_ => ?_)
  · replace hr := (if_pos c61_).symm.trans hr
    refine rr_iload C dX3_read_74 rfl ?_
    refine rr_if_eq (tgt := 83) C dX3_read_76 (by decide) (fun c76_ => ?_) (fun c76_ => ?_)
    · replace hr := (if_pos c76_).symm.trans hr
      refine rr_null C dX3_read_83 ?_
      refine rr_astoreN C dX3_read_84 (by decide) ?_
      show WW W0 G 7 _ _ _ 86 [some (.ref l0), some (.ref a3), some (.int l2), some (va_rf l3), some (.int v27), some (.null), none] [] v23 n _ _
      refine rr_iconst (v := 0) C dX3_read_86 (by decide) ?_
      refine rr_istore C dX3_read_87 (by decide) ?_
      show WW W0 G 7 _ _ _ 89 [some (.ref l0), some (.ref a3), some (.int l2), some (va_rf l3), some (.int v27), some (.null), some (.int 0)] [] v23 n _ _
      replace hr := Option.bind_eq_some_iff.mp hr
      obtain ⟨v55, e56, hr⟩ := hr
      refine rr_cut C (kc' := 2 + 2 * M) (ks' := 304 + 911 * M) (by omega) (by omega) ?_
      refine rr_keep [true, false, false, false, true, true, true] (w_X3_read_89 (kc := 2) (ks := 304) C l0 v27 none M 0 v23 n (by omega) e56 (fun b57 => ?_))
      show WW W0 G 7 _ _ _ 144 [some (.ref l0), none, none, none, none, some (.null), none] [] v55.1 v55.2 _ _
      refine rr_aload_n (i := 0) C dX3_read_144 rfl rfl ?_
      replace hr := Option.bind_eq_some_iff.mp hr
      obtain ⟨v58, e59, hr⟩ := hr
      refine rr_rdI C dX3_read_145 fl_X3_74 e59 ?_
      refine rr_if_eq (tgt := 155) C dX3_read_148 (by decide) (fun c148_ => ?_) (fun c148_ => ?_)
      · replace hr := (if_pos c148_).symm.trans hr
        refine rr_aload_n (i := 0) C dX3_read_155 rfl rfl ?_
        replace hr := Option.bind_eq_some_iff.mp hr
        obtain ⟨v60, e61, hr⟩ := hr
        refine rr_rdI C dX3_read_156 fl_X3_18 e61 ?_
        refine rr_iconst (v := (-1)) C dX3_read_159 (by decide) ?_
        refine rr_icmp_ne (tgt := 172) C dX3_read_160 (by decide) (fun c160_ => ?_) (fun c160_ => ?_)
        · replace hr := (if_neg c160_).symm.trans hr
          refine rr_null C dX3_read_172 ?_
          obtain rfl := Option.some.inj hr
          exact rr_aret (r := none) C dX3_read_173 rfl (Or.inl ⟨_, rfl⟩) ⟨rfl, rfl, rfl, by omega⟩
        · replace hr := (if_pos c160_).symm.trans hr
          refine rr_aload_n (i := 0) C dX3_read_163 rfl rfl ?_
          refine rr_aloadN C dX3_read_164 rfl ?_
          replace hr := Option.bind_eq_some_iff.mp hr
          obtain ⟨u62, e63, hr⟩ := hr
          refine rr_cut C (kc' := 0 + 2) (ks' := 0 + 304) (by omega) (by omega) ?_
          replace hr := Option.bind_eq_some_iff.mp hr
          obtain ⟨⟨v66, h64, n65⟩, e67, hr⟩ := hr
          dsimp only at hr
          refine rr_callVq (as := [.null]) (st := []) (mc' := 2) (ms' := 304) C dX3_read_166 iv_X3_88 (by decide) e63 rfl (Nat.le_of_ble_eq_true rfl) (c_X3_together l0 none (by omega) e67) (fun v_ h_ n_ q_ => ?_)
          obtain ⟨q1_, q2_, q3_, b68⟩ := q_
          subst v_; subst h_; subst n_
          try dsimp only at b68
          show WW W0 G 7 _ _ _ 169 [some (.ref l0), none, none, none, none, some (.null), none] [va_rf v66] h64 n65 _ _
          refine rr_goto (tgt := 173) C dX3_read_169 (by decide) ?_
          obtain rfl := Option.some.inj hr
          exact rr_aret (r := v66) C dX3_read_173 rfl (Or.inl ⟨_, rfl⟩) ⟨rfl, rfl, rfl, by omega⟩
      · replace hr := (if_neg c148_).symm.trans hr
        refine rr_aload_n (i := 0) C dX3_read_151 rfl rfl ?_
        replace hr := Option.bind_eq_some_iff.mp hr
        obtain ⟨u69, e70, hr⟩ := hr
        replace hr := Option.bind_eq_some_iff.mp hr
        obtain ⟨v71, e72, hr⟩ := hr
        refine rr_callVq (as := []) (st := []) (mc' := 0) (ms' := 0) C dX3_read_152 iv_X3_85 (by decide) e70 rfl (Nat.le_of_ble_eq_true rfl) (c_X3_fail l0 (by omega) e72) (fun v_ h_ n_ q_ => ?_)
        obtain ⟨q1_, q2_, q3_⟩ := q_
        subst v_; subst h_; subst n_
        show WW W0 G 7 _ _ _ 155 [some (.ref l0), none, none, none, none, some (.null), none] [] v71 v55.2 _ _
        refine rr_aload_n (i := 0) C dX3_read_155 rfl rfl ?_
        replace hr := Option.bind_eq_some_iff.mp hr
        obtain ⟨v73, e74, hr⟩ := hr
        refine rr_rdI C dX3_read_156 fl_X3_18 e74 ?_
        refine rr_iconst (v := (-1)) C dX3_read_159 (by decide) ?_
        refine rr_icmp_ne (tgt := 172) C dX3_read_160 (by decide) (fun c160_ => ?_) (fun c160_ => ?_)
        · replace hr := (if_neg c160_).symm.trans hr
          refine rr_null C dX3_read_172 ?_
          obtain rfl := Option.some.inj hr
          exact rr_aret (r := none) C dX3_read_173 rfl (Or.inl ⟨_, rfl⟩) ⟨rfl, rfl, rfl, by omega⟩
        · replace hr := (if_pos c160_).symm.trans hr
          refine rr_aload_n (i := 0) C dX3_read_163 rfl rfl ?_
          refine rr_aloadN C dX3_read_164 rfl ?_
          replace hr := Option.bind_eq_some_iff.mp hr
          obtain ⟨u75, e76, hr⟩ := hr
          refine rr_cut C (kc' := 0 + 2) (ks' := 0 + 304) (by omega) (by omega) ?_
          replace hr := Option.bind_eq_some_iff.mp hr
          obtain ⟨⟨v79, h77, n78⟩, e80, hr⟩ := hr
          dsimp only at hr
          refine rr_callVq (as := [.null]) (st := []) (mc' := 2) (ms' := 304) C dX3_read_166 iv_X3_88 (by decide) e76 rfl (Nat.le_of_ble_eq_true rfl) (c_X3_together l0 none (by omega) e80) (fun v_ h_ n_ q_ => ?_)
          obtain ⟨q1_, q2_, q3_, b81⟩ := q_
          subst v_; subst h_; subst n_
          try dsimp only at b81
          show WW W0 G 7 _ _ _ 169 [some (.ref l0), none, none, none, none, some (.null), none] [va_rf v79] h77 n78 _ _
          refine rr_goto (tgt := 173) C dX3_read_169 (by decide) ?_
          obtain rfl := Option.some.inj hr
          exact rr_aret (r := v79) C dX3_read_173 rfl (Or.inl ⟨_, rfl⟩) ⟨rfl, rfl, rfl, by omega⟩
    · replace hr := (if_neg c76_).symm.trans hr
      refine rr_aload_nO (i := 3) C dX3_read_79 rfl rfl ?_
      refine rr_goto (tgt := 84) C dX3_read_80 (by decide) ?_
      refine rr_astoreO C dX3_read_84 (by decide) ?_
      show WW W0 G 7 _ _ _ 86 [some (.ref l0), some (.ref a3), some (.int l2), some (va_rf l3), some (.int v27), some (va_rf l3), none] [] v23 n _ _
      refine rr_iconst (v := 0) C dX3_read_86 (by decide) ?_
      refine rr_istore C dX3_read_87 (by decide) ?_
      rw [mm_set1_rf (i := 5) (r := l3) rfl]
      show WW W0 G 7 _ _ _ 89 [some (.ref l0), some (.ref a3), some (.int l2), some (va_rf l3), some (.int v27), some (va_rf l3), some (.int 0)] [] v23 n _ _
      replace hr := Option.bind_eq_some_iff.mp hr
      obtain ⟨v82, e83, hr⟩ := hr
      refine rr_cut C (kc' := 2 + 2 * M) (ks' := 304 + 911 * M) (by omega) (by omega) ?_
      refine rr_keep [true, false, false, false, true, true, true] (w_X3_read_89 (kc := 2) (ks := 304) C l0 v27 l3 M 0 v23 n (by omega) e83 (fun b84 => ?_))
      show WW W0 G 7 _ _ _ 144 [some (.ref l0), none, none, none, none, some (va_rf l3), none] [] v82.1 v82.2 _ _
      refine rr_aload_n (i := 0) C dX3_read_144 rfl rfl ?_
      replace hr := Option.bind_eq_some_iff.mp hr
      obtain ⟨v85, e86, hr⟩ := hr
      refine rr_rdI C dX3_read_145 fl_X3_74 e86 ?_
      refine rr_if_eq (tgt := 155) C dX3_read_148 (by decide) (fun c148_ => ?_) (fun c148_ => ?_)
      · replace hr := (if_pos c148_).symm.trans hr
        refine rr_aload_n (i := 0) C dX3_read_155 rfl rfl ?_
        replace hr := Option.bind_eq_some_iff.mp hr
        obtain ⟨v87, e88, hr⟩ := hr
        refine rr_rdI C dX3_read_156 fl_X3_18 e88 ?_
        refine rr_iconst (v := (-1)) C dX3_read_159 (by decide) ?_
        refine rr_icmp_ne (tgt := 172) C dX3_read_160 (by decide) (fun c160_ => ?_) (fun c160_ => ?_)
        · replace hr := (if_neg c160_).symm.trans hr
          refine rr_null C dX3_read_172 ?_
          obtain rfl := Option.some.inj hr
          exact rr_aret (r := none) C dX3_read_173 rfl (Or.inl ⟨_, rfl⟩) ⟨rfl, rfl, rfl, by omega⟩
        · replace hr := (if_pos c160_).symm.trans hr
          refine rr_aload_n (i := 0) C dX3_read_163 rfl rfl ?_
          refine rr_aloadO C dX3_read_164 rfl ?_
          replace hr := Option.bind_eq_some_iff.mp hr
          obtain ⟨u89, e90, hr⟩ := hr
          refine rr_cut C (kc' := 0 + 2) (ks' := 0 + 304) (by omega) (by omega) ?_
          replace hr := Option.bind_eq_some_iff.mp hr
          obtain ⟨⟨v93, h91, n92⟩, e94, hr⟩ := hr
          dsimp only at hr
          refine rr_callVq (as := [va_rf l3]) (st := []) (mc' := 2) (ms' := 304) C dX3_read_166 iv_X3_88 (by decide) e90 rfl (Nat.le_of_ble_eq_true rfl) (c_X3_together l0 l3 (by omega) e94) (fun v_ h_ n_ q_ => ?_)
          obtain ⟨q1_, q2_, q3_, b95⟩ := q_
          subst v_; subst h_; subst n_
          try dsimp only at b95
          show WW W0 G 7 _ _ _ 169 [some (.ref l0), none, none, none, none, some (va_rf l3), none] [va_rf v93] h91 n92 _ _
          refine rr_goto (tgt := 173) C dX3_read_169 (by decide) ?_
          obtain rfl := Option.some.inj hr
          exact rr_aret (r := v93) C dX3_read_173 rfl (Or.inl ⟨_, rfl⟩) ⟨rfl, rfl, rfl, by omega⟩
      · replace hr := (if_neg c148_).symm.trans hr
        refine rr_aload_n (i := 0) C dX3_read_151 rfl rfl ?_
        replace hr := Option.bind_eq_some_iff.mp hr
        obtain ⟨u96, e97, hr⟩ := hr
        replace hr := Option.bind_eq_some_iff.mp hr
        obtain ⟨v98, e99, hr⟩ := hr
        refine rr_callVq (as := []) (st := []) (mc' := 0) (ms' := 0) C dX3_read_152 iv_X3_85 (by decide) e97 rfl (Nat.le_of_ble_eq_true rfl) (c_X3_fail l0 (by omega) e99) (fun v_ h_ n_ q_ => ?_)
        obtain ⟨q1_, q2_, q3_⟩ := q_
        subst v_; subst h_; subst n_
        show WW W0 G 7 _ _ _ 155 [some (.ref l0), none, none, none, none, some (va_rf l3), none] [] v98 v82.2 _ _
        refine rr_aload_n (i := 0) C dX3_read_155 rfl rfl ?_
        replace hr := Option.bind_eq_some_iff.mp hr
        obtain ⟨v100, e101, hr⟩ := hr
        refine rr_rdI C dX3_read_156 fl_X3_18 e101 ?_
        refine rr_iconst (v := (-1)) C dX3_read_159 (by decide) ?_
        refine rr_icmp_ne (tgt := 172) C dX3_read_160 (by decide) (fun c160_ => ?_) (fun c160_ => ?_)
        · replace hr := (if_neg c160_).symm.trans hr
          refine rr_null C dX3_read_172 ?_
          obtain rfl := Option.some.inj hr
          exact rr_aret (r := none) C dX3_read_173 rfl (Or.inl ⟨_, rfl⟩) ⟨rfl, rfl, rfl, by omega⟩
        · replace hr := (if_pos c160_).symm.trans hr
          refine rr_aload_n (i := 0) C dX3_read_163 rfl rfl ?_
          refine rr_aloadO C dX3_read_164 rfl ?_
          replace hr := Option.bind_eq_some_iff.mp hr
          obtain ⟨u102, e103, hr⟩ := hr
          refine rr_cut C (kc' := 0 + 2) (ks' := 0 + 304) (by omega) (by omega) ?_
          replace hr := Option.bind_eq_some_iff.mp hr
          obtain ⟨⟨v106, h104, n105⟩, e107, hr⟩ := hr
          dsimp only at hr
          refine rr_callVq (as := [va_rf l3]) (st := []) (mc' := 2) (ms' := 304) C dX3_read_166 iv_X3_88 (by decide) e103 rfl (Nat.le_of_ble_eq_true rfl) (c_X3_together l0 l3 (by omega) e107) (fun v_ h_ n_ q_ => ?_)
          obtain ⟨q1_, q2_, q3_, b108⟩ := q_
          subst v_; subst h_; subst n_
          try dsimp only at b108
          show WW W0 G 7 _ _ _ 169 [some (.ref l0), none, none, none, none, some (va_rf l3), none] [va_rf v106] h104 n105 _ _
          refine rr_goto (tgt := 173) C dX3_read_169 (by decide) ?_
          obtain rfl := Option.some.inj hr
          exact rr_aret (r := v106) C dX3_read_173 rfl (Or.inl ⟨_, rfl⟩) ⟨rfl, rfl, rfl, by omega⟩
  · replace hr := (if_neg c61_).symm.trans hr
    refine rr_aload_n (i := 0) C dX3_read_64 rfl rfl ?_
    replace hr := Option.bind_eq_some_iff.mp hr
    obtain ⟨u109, e110, hr⟩ := hr
    replace hr := Option.bind_eq_some_iff.mp hr
    obtain ⟨v111, e112, hr⟩ := hr
    refine rr_callVq (as := []) (st := []) (mc' := 0) (ms' := 0) C dX3_read_65 iv_X3_61 (by decide) e110 rfl (Nat.le_of_ble_eq_true rfl) (c_X3_step l0 (by omega) e112) (fun v_ h_ n_ q_ => ?_)
    obtain ⟨q1_, q2_, q3_⟩ := q_
    subst v_; subst h_; subst n_
    show WW W0 G 7 _ _ _ 68 [some (.ref l0), some (.ref a3), some (.int l2), some (va_rf l3), some (.int v27), none, none] [] v111 n _ _
    refine rr_aload_n (i := 0) C dX3_read_68 rfl rfl ?_
    refine rr_bipush (v := 59) C dX3_read_69 (by decide) ?_
    replace hr := Option.bind_eq_some_iff.mp hr
    obtain ⟨u113, e114, hr⟩ := hr
    replace hr := Option.bind_eq_some_iff.mp hr
    obtain ⟨v115, e116, hr⟩ := hr
    refine rr_callVq (as := [.int 59]) (st := []) (mc' := 0) (ms' := 0) C dX3_read_71 iv_X3_70 (by decide) e114 rfl (Nat.le_of_ble_eq_true rfl) (c_X3_sign l0 59 (by omega) e116) (fun v_ h_ n_ q_ => ?_)
    obtain ⟨q1_, q2_, q3_⟩ := q_
    subst v_; subst h_; subst n_
    show WW W0 G 7 _ _ _ 74 [some (.ref l0), some (.ref a3), some (.int l2), some (va_rf l3), some (.int v27), none, none] [] v115 n _ _
    refine rr_iload C dX3_read_74 rfl ?_
    refine rr_if_eq (tgt := 83) C dX3_read_76 (by decide) (fun c76_ => ?_) (fun c76_ => ?_)
    · replace hr := (if_pos c76_).symm.trans hr
      refine rr_null C dX3_read_83 ?_
      refine rr_astoreN C dX3_read_84 (by decide) ?_
      show WW W0 G 7 _ _ _ 86 [some (.ref l0), some (.ref a3), some (.int l2), some (va_rf l3), some (.int v27), some (.null), none] [] v115 n _ _
      refine rr_iconst (v := 0) C dX3_read_86 (by decide) ?_
      refine rr_istore C dX3_read_87 (by decide) ?_
      show WW W0 G 7 _ _ _ 89 [some (.ref l0), some (.ref a3), some (.int l2), some (va_rf l3), some (.int v27), some (.null), some (.int 0)] [] v115 n _ _
      replace hr := Option.bind_eq_some_iff.mp hr
      obtain ⟨v117, e118, hr⟩ := hr
      refine rr_cut C (kc' := 2 + 2 * M) (ks' := 304 + 911 * M) (by omega) (by omega) ?_
      refine rr_keep [true, false, false, false, true, true, true] (w_X3_read_89 (kc := 2) (ks := 304) C l0 v27 none M 0 v115 n (by omega) e118 (fun b119 => ?_))
      show WW W0 G 7 _ _ _ 144 [some (.ref l0), none, none, none, none, some (.null), none] [] v117.1 v117.2 _ _
      refine rr_aload_n (i := 0) C dX3_read_144 rfl rfl ?_
      replace hr := Option.bind_eq_some_iff.mp hr
      obtain ⟨v120, e121, hr⟩ := hr
      refine rr_rdI C dX3_read_145 fl_X3_74 e121 ?_
      refine rr_if_eq (tgt := 155) C dX3_read_148 (by decide) (fun c148_ => ?_) (fun c148_ => ?_)
      · replace hr := (if_pos c148_).symm.trans hr
        refine rr_aload_n (i := 0) C dX3_read_155 rfl rfl ?_
        replace hr := Option.bind_eq_some_iff.mp hr
        obtain ⟨v122, e123, hr⟩ := hr
        refine rr_rdI C dX3_read_156 fl_X3_18 e123 ?_
        refine rr_iconst (v := (-1)) C dX3_read_159 (by decide) ?_
        refine rr_icmp_ne (tgt := 172) C dX3_read_160 (by decide) (fun c160_ => ?_) (fun c160_ => ?_)
        · replace hr := (if_neg c160_).symm.trans hr
          refine rr_null C dX3_read_172 ?_
          obtain rfl := Option.some.inj hr
          exact rr_aret (r := none) C dX3_read_173 rfl (Or.inl ⟨_, rfl⟩) ⟨rfl, rfl, rfl, by omega⟩
        · replace hr := (if_pos c160_).symm.trans hr
          refine rr_aload_n (i := 0) C dX3_read_163 rfl rfl ?_
          refine rr_aloadN C dX3_read_164 rfl ?_
          replace hr := Option.bind_eq_some_iff.mp hr
          obtain ⟨u124, e125, hr⟩ := hr
          refine rr_cut C (kc' := 0 + 2) (ks' := 0 + 304) (by omega) (by omega) ?_
          replace hr := Option.bind_eq_some_iff.mp hr
          obtain ⟨⟨v128, h126, n127⟩, e129, hr⟩ := hr
          dsimp only at hr
          refine rr_callVq (as := [.null]) (st := []) (mc' := 2) (ms' := 304) C dX3_read_166 iv_X3_88 (by decide) e125 rfl (Nat.le_of_ble_eq_true rfl) (c_X3_together l0 none (by omega) e129) (fun v_ h_ n_ q_ => ?_)
          obtain ⟨q1_, q2_, q3_, b130⟩ := q_
          subst v_; subst h_; subst n_
          try dsimp only at b130
          show WW W0 G 7 _ _ _ 169 [some (.ref l0), none, none, none, none, some (.null), none] [va_rf v128] h126 n127 _ _
          refine rr_goto (tgt := 173) C dX3_read_169 (by decide) ?_
          obtain rfl := Option.some.inj hr
          exact rr_aret (r := v128) C dX3_read_173 rfl (Or.inl ⟨_, rfl⟩) ⟨rfl, rfl, rfl, by omega⟩
      · replace hr := (if_neg c148_).symm.trans hr
        refine rr_aload_n (i := 0) C dX3_read_151 rfl rfl ?_
        replace hr := Option.bind_eq_some_iff.mp hr
        obtain ⟨u131, e132, hr⟩ := hr
        replace hr := Option.bind_eq_some_iff.mp hr
        obtain ⟨v133, e134, hr⟩ := hr
        refine rr_callVq (as := []) (st := []) (mc' := 0) (ms' := 0) C dX3_read_152 iv_X3_85 (by decide) e132 rfl (Nat.le_of_ble_eq_true rfl) (c_X3_fail l0 (by omega) e134) (fun v_ h_ n_ q_ => ?_)
        obtain ⟨q1_, q2_, q3_⟩ := q_
        subst v_; subst h_; subst n_
        show WW W0 G 7 _ _ _ 155 [some (.ref l0), none, none, none, none, some (.null), none] [] v133 v117.2 _ _
        refine rr_aload_n (i := 0) C dX3_read_155 rfl rfl ?_
        replace hr := Option.bind_eq_some_iff.mp hr
        obtain ⟨v135, e136, hr⟩ := hr
        refine rr_rdI C dX3_read_156 fl_X3_18 e136 ?_
        refine rr_iconst (v := (-1)) C dX3_read_159 (by decide) ?_
        refine rr_icmp_ne (tgt := 172) C dX3_read_160 (by decide) (fun c160_ => ?_) (fun c160_ => ?_)
        · replace hr := (if_neg c160_).symm.trans hr
          refine rr_null C dX3_read_172 ?_
          obtain rfl := Option.some.inj hr
          exact rr_aret (r := none) C dX3_read_173 rfl (Or.inl ⟨_, rfl⟩) ⟨rfl, rfl, rfl, by omega⟩
        · replace hr := (if_pos c160_).symm.trans hr
          refine rr_aload_n (i := 0) C dX3_read_163 rfl rfl ?_
          refine rr_aloadN C dX3_read_164 rfl ?_
          replace hr := Option.bind_eq_some_iff.mp hr
          obtain ⟨u137, e138, hr⟩ := hr
          refine rr_cut C (kc' := 0 + 2) (ks' := 0 + 304) (by omega) (by omega) ?_
          replace hr := Option.bind_eq_some_iff.mp hr
          obtain ⟨⟨v141, h139, n140⟩, e142, hr⟩ := hr
          dsimp only at hr
          refine rr_callVq (as := [.null]) (st := []) (mc' := 2) (ms' := 304) C dX3_read_166 iv_X3_88 (by decide) e138 rfl (Nat.le_of_ble_eq_true rfl) (c_X3_together l0 none (by omega) e142) (fun v_ h_ n_ q_ => ?_)
          obtain ⟨q1_, q2_, q3_, b143⟩ := q_
          subst v_; subst h_; subst n_
          try dsimp only at b143
          show WW W0 G 7 _ _ _ 169 [some (.ref l0), none, none, none, none, some (.null), none] [va_rf v141] h139 n140 _ _
          refine rr_goto (tgt := 173) C dX3_read_169 (by decide) ?_
          obtain rfl := Option.some.inj hr
          exact rr_aret (r := v141) C dX3_read_173 rfl (Or.inl ⟨_, rfl⟩) ⟨rfl, rfl, rfl, by omega⟩
    · replace hr := (if_neg c76_).symm.trans hr
      refine rr_aload_nO (i := 3) C dX3_read_79 rfl rfl ?_
      refine rr_goto (tgt := 84) C dX3_read_80 (by decide) ?_
      refine rr_astoreO C dX3_read_84 (by decide) ?_
      show WW W0 G 7 _ _ _ 86 [some (.ref l0), some (.ref a3), some (.int l2), some (va_rf l3), some (.int v27), some (va_rf l3), none] [] v115 n _ _
      refine rr_iconst (v := 0) C dX3_read_86 (by decide) ?_
      refine rr_istore C dX3_read_87 (by decide) ?_
      rw [mm_set1_rf (i := 5) (r := l3) rfl]
      show WW W0 G 7 _ _ _ 89 [some (.ref l0), some (.ref a3), some (.int l2), some (va_rf l3), some (.int v27), some (va_rf l3), some (.int 0)] [] v115 n _ _
      replace hr := Option.bind_eq_some_iff.mp hr
      obtain ⟨v144, e145, hr⟩ := hr
      refine rr_cut C (kc' := 2 + 2 * M) (ks' := 304 + 911 * M) (by omega) (by omega) ?_
      refine rr_keep [true, false, false, false, true, true, true] (w_X3_read_89 (kc := 2) (ks := 304) C l0 v27 l3 M 0 v115 n (by omega) e145 (fun b146 => ?_))
      show WW W0 G 7 _ _ _ 144 [some (.ref l0), none, none, none, none, some (va_rf l3), none] [] v144.1 v144.2 _ _
      refine rr_aload_n (i := 0) C dX3_read_144 rfl rfl ?_
      replace hr := Option.bind_eq_some_iff.mp hr
      obtain ⟨v147, e148, hr⟩ := hr
      refine rr_rdI C dX3_read_145 fl_X3_74 e148 ?_
      refine rr_if_eq (tgt := 155) C dX3_read_148 (by decide) (fun c148_ => ?_) (fun c148_ => ?_)
      · replace hr := (if_pos c148_).symm.trans hr
        refine rr_aload_n (i := 0) C dX3_read_155 rfl rfl ?_
        replace hr := Option.bind_eq_some_iff.mp hr
        obtain ⟨v149, e150, hr⟩ := hr
        refine rr_rdI C dX3_read_156 fl_X3_18 e150 ?_
        refine rr_iconst (v := (-1)) C dX3_read_159 (by decide) ?_
        refine rr_icmp_ne (tgt := 172) C dX3_read_160 (by decide) (fun c160_ => ?_) (fun c160_ => ?_)
        · replace hr := (if_neg c160_).symm.trans hr
          refine rr_null C dX3_read_172 ?_
          obtain rfl := Option.some.inj hr
          exact rr_aret (r := none) C dX3_read_173 rfl (Or.inl ⟨_, rfl⟩) ⟨rfl, rfl, rfl, by omega⟩
        · replace hr := (if_pos c160_).symm.trans hr
          refine rr_aload_n (i := 0) C dX3_read_163 rfl rfl ?_
          refine rr_aloadO C dX3_read_164 rfl ?_
          replace hr := Option.bind_eq_some_iff.mp hr
          obtain ⟨u151, e152, hr⟩ := hr
          refine rr_cut C (kc' := 0 + 2) (ks' := 0 + 304) (by omega) (by omega) ?_
          replace hr := Option.bind_eq_some_iff.mp hr
          obtain ⟨⟨v155, h153, n154⟩, e156, hr⟩ := hr
          dsimp only at hr
          refine rr_callVq (as := [va_rf l3]) (st := []) (mc' := 2) (ms' := 304) C dX3_read_166 iv_X3_88 (by decide) e152 rfl (Nat.le_of_ble_eq_true rfl) (c_X3_together l0 l3 (by omega) e156) (fun v_ h_ n_ q_ => ?_)
          obtain ⟨q1_, q2_, q3_, b157⟩ := q_
          subst v_; subst h_; subst n_
          try dsimp only at b157
          show WW W0 G 7 _ _ _ 169 [some (.ref l0), none, none, none, none, some (va_rf l3), none] [va_rf v155] h153 n154 _ _
          refine rr_goto (tgt := 173) C dX3_read_169 (by decide) ?_
          obtain rfl := Option.some.inj hr
          exact rr_aret (r := v155) C dX3_read_173 rfl (Or.inl ⟨_, rfl⟩) ⟨rfl, rfl, rfl, by omega⟩
      · replace hr := (if_neg c148_).symm.trans hr
        refine rr_aload_n (i := 0) C dX3_read_151 rfl rfl ?_
        replace hr := Option.bind_eq_some_iff.mp hr
        obtain ⟨u158, e159, hr⟩ := hr
        replace hr := Option.bind_eq_some_iff.mp hr
        obtain ⟨v160, e161, hr⟩ := hr
        refine rr_callVq (as := []) (st := []) (mc' := 0) (ms' := 0) C dX3_read_152 iv_X3_85 (by decide) e159 rfl (Nat.le_of_ble_eq_true rfl) (c_X3_fail l0 (by omega) e161) (fun v_ h_ n_ q_ => ?_)
        obtain ⟨q1_, q2_, q3_⟩ := q_
        subst v_; subst h_; subst n_
        show WW W0 G 7 _ _ _ 155 [some (.ref l0), none, none, none, none, some (va_rf l3), none] [] v160 v144.2 _ _
        refine rr_aload_n (i := 0) C dX3_read_155 rfl rfl ?_
        replace hr := Option.bind_eq_some_iff.mp hr
        obtain ⟨v162, e163, hr⟩ := hr
        refine rr_rdI C dX3_read_156 fl_X3_18 e163 ?_
        refine rr_iconst (v := (-1)) C dX3_read_159 (by decide) ?_
        refine rr_icmp_ne (tgt := 172) C dX3_read_160 (by decide) (fun c160_ => ?_) (fun c160_ => ?_)
        · replace hr := (if_neg c160_).symm.trans hr
          refine rr_null C dX3_read_172 ?_
          obtain rfl := Option.some.inj hr
          exact rr_aret (r := none) C dX3_read_173 rfl (Or.inl ⟨_, rfl⟩) ⟨rfl, rfl, rfl, by omega⟩
        · replace hr := (if_pos c160_).symm.trans hr
          refine rr_aload_n (i := 0) C dX3_read_163 rfl rfl ?_
          refine rr_aloadO C dX3_read_164 rfl ?_
          replace hr := Option.bind_eq_some_iff.mp hr
          obtain ⟨u164, e165, hr⟩ := hr
          refine rr_cut C (kc' := 0 + 2) (ks' := 0 + 304) (by omega) (by omega) ?_
          replace hr := Option.bind_eq_some_iff.mp hr
          obtain ⟨⟨v168, h166, n167⟩, e169, hr⟩ := hr
          dsimp only at hr
          refine rr_callVq (as := [va_rf l3]) (st := []) (mc' := 2) (ms' := 304) C dX3_read_166 iv_X3_88 (by decide) e165 rfl (Nat.le_of_ble_eq_true rfl) (c_X3_together l0 l3 (by omega) e169) (fun v_ h_ n_ q_ => ?_)
          obtain ⟨q1_, q2_, q3_, b170⟩ := q_
          subst v_; subst h_; subst n_
          try dsimp only at b170
          show WW W0 G 7 _ _ _ 169 [some (.ref l0), none, none, none, none, some (va_rf l3), none] [va_rf v168] h166 n167 _ _
          refine rr_goto (tgt := 173) C dX3_read_169 (by decide) ?_
          obtain rfl := Option.some.inj hr
          exact rr_aret (r := v168) C dX3_read_173 rfl (Or.inl ⟨_, rfl⟩) ⟨rfl, rfl, rfl, by omega⟩
def q_X10_rules (K M : Nat) (h : mm_H) (n : Nat) (l0 : Nat) (l1 : Int32) (l2 : Int32) : Option (Int32 × mm_H × Nat) :=
  if l1 < 0 then
    some ((-2), h, n)
  else
  (rdI h n l0 9 5).bind fun v1 =>
  if v1 < l1 then
    some ((-2), h, n)
  else
  (q_X10_isReview K h n l2).bind fun v3 =>
  if v3 = 0 then
    some ((-2), h, n)
  else
  (rdI h n l0 9 7).bind fun v5 =>
  if v5 < 8 then
    (rdR h n l0 9 3).bind fun v7 =>
    (rdR h n l0 9 4).bind fun v9 =>
    (rdR h n l0 9 0).bind fun v11 =>
    v11.bind fun a13 =>
    (rdI h n a13 4 6).bind fun v15 =>
    (ckq h n l0 9).bind fun u17 =>
    (q_X10_takenOf K h n l0 l2 v15).bind fun v19 =>
    (ckq h n l0 9).bind fun u21 =>
    (q_X10_takenAt K h n l0 v19).bind fun v23 =>
    v7.bind fun a25 =>
    (ckq h n a25 3).bind fun u27 =>
    (q_X3_read K M h n a25 v9 l1 v23).bind fun (v31, h29, n30) =>
    (wrF h29 n30 l0 9 5 (.int 0)).bind fun h34 =>
    match v31 with
    | none =>
      some ((-1), h34, n30)
    | some a36 =>
      (wrF h34 n30 a36 6 2 (.int l2)).bind fun h37 =>
      (rdR h37 n30 l0 9 0).bind fun v39 =>
      v39.bind fun a41 =>
      (rdI h37 n30 a41 4 6).bind fun v43 =>
      (wrF h37 n30 a36 6 3 (.int v43)).bind fun h45 =>
      (rdR h45 n30 l0 9 6).bind fun v47 =>
      (rdI h45 n30 l0 9 7).bind fun v49 =>
      v47.bind fun a51 =>
      (stR h45 n30 a51 5 6 v49 a36).bind fun h53 =>
      (rdI h53 n30 l0 9 7).bind fun v55 =>
      (wrF h53 n30 l0 9 7 (.int (v55 + 1))).bind fun h57 =>
      (rdI h57 n30 l0 9 7).bind fun v59 =>
      some (v59 - 1, h57, n30)
  else
  some ((-3), h, n)
set_option maxRecDepth 100000 in
set_option maxHeartbeats 4000000 in
theorem c_X10_rules {K M : Nat} {G : mm_G} {l : Launch} {h : mm_H} {n : Nat} (l0 : Nat) (l1 : Int32) (l2 : Int32) {r_ : Int32 × mm_H × Nat} (hn : 48 ≤ n) (hr : q_X10_rules K M h n l0 l1 l2 = some r_) : Sp G l yX10_rules cX10_rules 4 (some .int) 58 (2 * M + 2) (911 * M + 304) [.ref l0, .int l1, .int l2] h n (fun v h' n' => v = some (.int r_.1) ∧ h' = r_.2.1 ∧ n' = r_.2.2 ∧ n ≤ n') := by
  refine Sp_of (by decide +kernel) (Nat.le_of_ble_eq_true rfl) hn ?_
  intro W0 hwl C
  subst hwl
  unfold q_X10_rules at hr
  show WW W0 G 4 (2 * M + 2) (911 * M + 304) _ 0 [some (.ref l0), some (.int l1), some (.int l2), none] [] h n (2 * M + 2) (911 * M + 304)
  refine rr_iload_n (i := 1) C dX10_rules_0 rfl rfl ?_
  refine rr_if_lt (tgt := 19) C dX10_rules_1 (by decide) (fun c1_ => ?_) (fun c1_ => ?_)
  · replace hr := (if_pos c1_).symm.trans hr
    refine rr_bipush (v := (-2)) C dX10_rules_19 (by decide) ?_
    obtain rfl := Option.some.inj hr
    exact rr_iret (ty := .int) C dX10_rules_21 rfl rfl ⟨rfl, rfl, rfl, by omega⟩
  · replace hr := (if_neg c1_).symm.trans hr
    refine rr_iload_n (i := 1) C dX10_rules_4 rfl rfl ?_
    refine rr_aload_n (i := 0) C dX10_rules_5 rfl rfl ?_
    replace hr := Option.bind_eq_some_iff.mp hr
    obtain ⟨v1, e2, hr⟩ := hr
    refine rr_rdI C dX10_rules_6 fl_X10_119 e2 ?_
    refine rr_icmp_gt (tgt := 19) C dX10_rules_9 (by decide) (fun c9_ => ?_) (fun c9_ => ?_)
    · replace hr := (if_pos c9_).symm.trans hr
      refine rr_bipush (v := (-2)) C dX10_rules_19 (by decide) ?_
      obtain rfl := Option.some.inj hr
      exact rr_iret (ty := .int) C dX10_rules_21 rfl rfl ⟨rfl, rfl, rfl, by omega⟩
    · replace hr := (if_neg c9_).symm.trans hr
      refine rr_iload_n (i := 2) C dX10_rules_12 rfl rfl ?_
      replace hr := Option.bind_eq_some_iff.mp hr
      obtain ⟨v3, e4, hr⟩ := hr
      refine rr_callS (as := [.int l2]) (st := []) (mc' := 0) (ms' := 0) C dX10_rules_13 it_X10_126 (by decide) (Nat.le_of_ble_eq_true rfl) (c_X10_isReview l2 (by omega) e4) (fun v_ h_ n_ q_ => ?_)
      obtain ⟨q1_, q2_, q3_⟩ := q_
      subst v_; subst h_; subst n_
      show WW W0 G 4 _ _ _ 16 [some (.ref l0), some (.int l1), some (.int l2), none] [.int v3] h n _ _
      refine rr_if_ne (tgt := 22) C dX10_rules_16 (by decide) (fun c16_ => ?_) (fun c16_ => ?_)
      · replace hr := (if_neg c16_).symm.trans hr
        refine rr_aload_n (i := 0) C dX10_rules_22 rfl rfl ?_
        replace hr := Option.bind_eq_some_iff.mp hr
        obtain ⟨v5, e6, hr⟩ := hr
        refine rr_rdI C dX10_rules_23 fl_X10_129 e6 ?_
        refine rr_bipush (v := 8) C dX10_rules_26 (by decide) ?_
        refine rr_icmp_lt (tgt := 34) C dX10_rules_28 (by decide) (fun c28_ => ?_) (fun c28_ => ?_)
        · replace hr := (if_pos c28_).symm.trans hr
          refine rr_aload_n (i := 0) C dX10_rules_34 rfl rfl ?_
          replace hr := Option.bind_eq_some_iff.mp hr
          obtain ⟨v7, e8, hr⟩ := hr
          refine rr_rdR C dX10_rules_35 fl_X10_35 e8 ?_
          refine rr_aload_n (i := 0) C dX10_rules_38 rfl rfl ?_
          replace hr := Option.bind_eq_some_iff.mp hr
          obtain ⟨v9, e10, hr⟩ := hr
          refine rr_rdR C dX10_rules_39 fl_X10_39 e10 ?_
          refine rr_iload_n (i := 1) C dX10_rules_42 rfl rfl ?_
          refine rr_aload_n (i := 0) C dX10_rules_43 rfl rfl ?_
          refine rr_aload_n (i := 0) C dX10_rules_44 rfl rfl ?_
          refine rr_iload_n (i := 2) C dX10_rules_45 rfl rfl ?_
          refine rr_aload_n (i := 0) C dX10_rules_46 rfl rfl ?_
          replace hr := Option.bind_eq_some_iff.mp hr
          obtain ⟨v11, e12, hr⟩ := hr
          refine rr_rdR C dX10_rules_47 fl_X10_12 e12 ?_
          replace hr := Option.bind_eq_some_iff.mp hr
          obtain ⟨a13, e14, hr⟩ := hr
          subst e14
          replace hr := Option.bind_eq_some_iff.mp hr
          obtain ⟨v15, e16, hr⟩ := hr
          refine rr_rdI C dX10_rules_50 fl_X10_55 e16 ?_
          replace hr := Option.bind_eq_some_iff.mp hr
          obtain ⟨u17, e18, hr⟩ := hr
          replace hr := Option.bind_eq_some_iff.mp hr
          obtain ⟨v19, e20, hr⟩ := hr
          refine rr_callVq (as := [.int l2, .int v15]) (st := [.ref l0, .int l1, va_rf v9, va_rf v7]) (mc' := 0) (ms' := 0) C dX10_rules_53 iv_X10_132 (by decide) e18 rfl (by rcases v7 with _ | _ <;> rcases v9 with _ | _ <;> exact Nat.le_of_ble_eq_true rfl) (c_X10_takenOf l0 l2 v15 (by omega) e20) (fun v_ h_ n_ q_ => ?_)
          obtain ⟨q1_, q2_, q3_⟩ := q_
          subst v_; subst h_; subst n_
          show WW W0 G 4 _ _ _ 56 [some (.ref l0), some (.int l1), some (.int l2), none] [.int v19, .ref l0, .int l1, va_rf v9, va_rf v7] h n _ _
          replace hr := Option.bind_eq_some_iff.mp hr
          obtain ⟨u21, e22, hr⟩ := hr
          replace hr := Option.bind_eq_some_iff.mp hr
          obtain ⟨v23, e24, hr⟩ := hr
          refine rr_callVq (as := [.int v19]) (st := [.int l1, va_rf v9, va_rf v7]) (mc' := 0) (ms' := 0) C dX10_rules_56 iv_X10_136 (by decide) e22 rfl (by rcases v7 with _ | _ <;> rcases v9 with _ | _ <;> exact Nat.le_of_ble_eq_true rfl) (c_X10_takenAt l0 v19 (by omega) e24) (fun v_ h_ n_ q_ => ?_)
          obtain ⟨q1_, q2_, q3_⟩ := q_
          subst v_; subst h_; subst n_
          show WW W0 G 4 _ _ _ 59 [some (.ref l0), some (.int l1), some (.int l2), none] [va_rf v23, .int l1, va_rf v9, va_rf v7] h n _ _
          replace hr := Option.bind_eq_some_iff.mp hr
          obtain ⟨a25, e26, hr⟩ := hr
          subst e26
          replace hr := Option.bind_eq_some_iff.mp hr
          obtain ⟨u27, e28, hr⟩ := hr
          refine rr_cut C (kc' := 0 + (2 * M + 2)) (ks' := 0 + (911 * M + 304)) (by omega) (by omega) ?_
          replace hr := Option.bind_eq_some_iff.mp hr
          obtain ⟨⟨v31, h29, n30⟩, e32, hr⟩ := hr
          dsimp only at hr
          refine rr_callVq (as := [va_rf v9, .int l1, va_rf v23]) (st := []) (mc' := 2 * M + 2) (ms' := 911 * M + 304) C dX10_rules_59 iv_X10_140 (by decide) e28 rfl (Nat.le_of_ble_eq_true rfl) (c_X3_read a25 v9 l1 v23 (by omega) e32) (fun v_ h_ n_ q_ => ?_)
          obtain ⟨q1_, q2_, q3_, b33⟩ := q_
          subst v_; subst h_; subst n_
          try dsimp only at b33
          show WW W0 G 4 _ _ _ 62 [some (.ref l0), some (.int l1), some (.int l2), none] [va_rf v31] h29 n30 _ _
          refine rr_astore_nO (i := 3) C dX10_rules_62 rfl (by decide) ?_
          show WW W0 G 4 _ _ _ 63 [some (.ref l0), some (.int l1), some (.int l2), some (va_rf v31)] [] h29 n30 _ _
          refine rr_aload_n (i := 0) C dX10_rules_63 rfl rfl ?_
          refine rr_iconst (v := 0) C dX10_rules_64 (by decide) ?_
          replace hr := Option.bind_eq_some_iff.mp hr
          obtain ⟨h34, e35, hr⟩ := hr
          refine rr_wrF C dX10_rules_65 fp_X10_119 rfl rfl e35 ?_
          refine rr_aload_nO (i := 3) C dX10_rules_68 rfl rfl ?_
          rcases v31 with _ | a36
          · dsimp only at hr
            refine rr_ifnonnullN C dX10_rules_69 ?_
            refine rr_iconst (v := (-1)) C dX10_rules_72 (by decide) ?_
            obtain rfl := Option.some.inj hr
            exact rr_iret (ty := .int) C dX10_rules_73 rfl rfl ⟨rfl, rfl, rfl, by omega⟩
          · dsimp only at hr
            refine rr_ifnonnull (tgt := 74) C dX10_rules_69 (by decide) ?_
            refine rr_aload_n (i := 3) C dX10_rules_74 rfl rfl ?_
            refine rr_iload_n (i := 2) C dX10_rules_75 rfl rfl ?_
            replace hr := Option.bind_eq_some_iff.mp hr
            obtain ⟨h37, e38, hr⟩ := hr
            refine rr_wrF C dX10_rules_76 fp_X10_144 rfl rfl e38 ?_
            refine rr_aload_n (i := 3) C dX10_rules_79 rfl rfl ?_
            refine rr_aload_n (i := 0) C dX10_rules_80 rfl rfl ?_
            replace hr := Option.bind_eq_some_iff.mp hr
            obtain ⟨v39, e40, hr⟩ := hr
            refine rr_rdR C dX10_rules_81 fl_X10_12 e40 ?_
            replace hr := Option.bind_eq_some_iff.mp hr
            obtain ⟨a41, e42, hr⟩ := hr
            subst e42
            replace hr := Option.bind_eq_some_iff.mp hr
            obtain ⟨v43, e44, hr⟩ := hr
            refine rr_rdI C dX10_rules_84 fl_X10_55 e44 ?_
            replace hr := Option.bind_eq_some_iff.mp hr
            obtain ⟨h45, e46, hr⟩ := hr
            refine rr_wrF C dX10_rules_87 fp_X10_147 rfl rfl e46 ?_
            refine rr_aload_n (i := 0) C dX10_rules_90 rfl rfl ?_
            replace hr := Option.bind_eq_some_iff.mp hr
            obtain ⟨v47, e48, hr⟩ := hr
            refine rr_rdR C dX10_rules_91 fl_X10_45 e48 ?_
            refine rr_aload_n (i := 0) C dX10_rules_94 rfl rfl ?_
            replace hr := Option.bind_eq_some_iff.mp hr
            obtain ⟨v49, e50, hr⟩ := hr
            refine rr_rdI C dX10_rules_95 fl_X10_129 e50 ?_
            refine rr_aload_n (i := 3) C dX10_rules_98 rfl rfl ?_
            replace hr := Option.bind_eq_some_iff.mp hr
            obtain ⟨a51, e52, hr⟩ := hr
            subst e52
            replace hr := Option.bind_eq_some_iff.mp hr
            obtain ⟨h53, e54, hr⟩ := hr
            refine rr_stR C dX10_rules_99 (t0 := 5) (ci := 6) rfl rfl e54 ?_
            refine rr_aload_n (i := 0) C dX10_rules_100 rfl rfl ?_
            refine rr_dup C dX10_rules_101 rfl ?_
            replace hr := Option.bind_eq_some_iff.mp hr
            obtain ⟨v55, e56, hr⟩ := hr
            refine rr_rdI C dX10_rules_102 fl_X10_129 e56 ?_
            refine rr_iconst (v := 1) C dX10_rules_105 (by decide) ?_
            refine rr_iadd C dX10_rules_106 ?_
            replace hr := Option.bind_eq_some_iff.mp hr
            obtain ⟨h57, e58, hr⟩ := hr
            refine rr_wrF C dX10_rules_107 fp_X10_129 rfl rfl e58 ?_
            refine rr_aload_n (i := 0) C dX10_rules_110 rfl rfl ?_
            replace hr := Option.bind_eq_some_iff.mp hr
            obtain ⟨v59, e60, hr⟩ := hr
            refine rr_rdI C dX10_rules_111 fl_X10_129 e60 ?_
            refine rr_iconst (v := 1) C dX10_rules_114 (by decide) ?_
            refine rr_isub C dX10_rules_115 ?_
            obtain rfl := Option.some.inj hr
            exact rr_iret (ty := .int) C dX10_rules_116 rfl rfl ⟨rfl, rfl, rfl, by omega⟩
        · replace hr := (if_neg c28_).symm.trans hr
          refine rr_bipush (v := (-3)) C dX10_rules_31 (by decide) ?_
          obtain rfl := Option.some.inj hr
          exact rr_iret (ty := .int) C dX10_rules_33 rfl rfl ⟨rfl, rfl, rfl, by omega⟩
      · replace hr := (if_pos c16_).symm.trans hr
        refine rr_bipush (v := (-2)) C dX10_rules_19 (by decide) ?_
        obtain rfl := Option.some.inj hr
        exact rr_iret (ty := .int) C dX10_rules_21 rfl rfl ⟨rfl, rfl, rfl, by omega⟩
def q_X7_init (K : Nat) (h : mm_H) (n : Nat) (l0 : Nat) (l1 : Option Nat) : Option (mm_H × Nat) :=
  (newA h n (.object "WaterReview$RuleBook") 3 3).bind fun h1 =>
  (wrF h1 (n + 1) l0 7 2 (.ref n)).bind fun h3 =>
  (newMI h3 (n + 1) 15 17).bind fun h5 =>
  (wrF h5 (n + 17) l0 7 3 (.ref (n + 1))).bind fun h7 =>
  (newMI h7 (n + 17) 15 9).bind fun h9 =>
  (wrF h9 (n + 33) l0 7 4 (.ref (n + 17))).bind fun h11 =>
  (newJ h11 (n + 33) 16 16).bind fun h13 =>
  (wrF h13 (n + 34) l0 7 5 (.ref (n + 33))).bind fun h15 =>
  (newMJ h15 (n + 34) 15 4).bind fun h17 =>
  (wrF h17 (n + 50) l0 7 6 (.ref (n + 34))).bind fun h19 =>
  (newMJ h19 (n + 50) 15 15).bind fun h21 =>
  (wrF h21 (n + 66) l0 7 7 (.ref (n + 50))).bind fun h23 =>
  (newJ h23 (n + 66) 15 15).bind fun h25 =>
  (wrF h25 (n + 67) l0 7 8 (.ref (n + 66))).bind fun h27 =>
  (newJ h27 (n + 67) 15 15).bind fun h29 =>
  (wrF h29 (n + 68) l0 7 9 (.ref (n + 67))).bind fun h31 =>
  (newJ h31 (n + 68) 5 5).bind fun h33 =>
  (wrF h33 (n + 69) l0 7 10 (.ref (n + 68))).bind fun h35 =>
  (wrF h35 (n + 69) l0 7 0 (va_rf l1)).bind fun h37 =>
  (newO h37 (n + 69) 2 [.null, .null, .null, .null, .int 0, .long 0, .long 0, .long 0, .long 0, .long 0]).bind fun h39 =>
  (q_X2_init K h39 (n + 70) (n + 69) l1).bind fun (h41, n42) =>
  (wrF h41 n42 l0 7 1 (.ref (n + 69))).bind fun h46 =>
  some (h46, n42)
set_option maxRecDepth 100000 in
set_option maxHeartbeats 4000000 in
theorem c_X7_init {K : Nat} {G : mm_G} {l : Launch} {h : mm_H} {n : Nat} (l0 : Nat) (l1 : Option Nat) {r_ : mm_H × Nat} (hn : 48 ≤ n) (hr : q_X7_init K h n l0 l1 = some r_) : Sp G l yX7_init cX7_init 2 none 2 98 1000 [.ref l0, va_rf l1] h n (fun v h' n' => v = none ∧ h' = r_.1 ∧ n' = r_.2 ∧ n ≤ n') := by
  refine Sp_of (by decide +kernel) (by rcases l1 with _ | _ <;> exact Nat.le_of_ble_eq_true rfl) hn ?_
  intro W0 hwl C
  subst hwl
  unfold q_X7_init at hr
  rw [show mm_en 2 [.ref l0, va_rf l1] = [some (.ref l0), some (va_rf l1)] from by rcases l1 with _ | _ <;> rfl]
  show WW W0 G 2 98 1000 _ 0 [some (.ref l0), some (va_rf l1)] [] h n 98 1000
  refine rr_aload_n (i := 0) C dX7_init_0 rfl rfl ?_
  refine rr_obj C dX7_init_1 oi_X7 (by decide) (Nat.le_of_ble_eq_true rfl) ?_
  refine rr_aload_n (i := 0) C dX7_init_4 rfl rfl ?_
  refine rr_iconst (v := 3) C dX7_init_5 (by decide) ?_
  refine rr_cut C (kc' := 97 + 1) (ks' := 997 + 3) (by omega) (by omega) ?_
  replace hr := Option.bind_eq_some_iff.mp hr
  obtain ⟨h1, e2, hr⟩ := hr
  refine rr_newAq C dX7_init_6 (t0 := 5) rfl an_X7_9 (fun U_ o_ => o_.2.2.2.2.2.2.2.2.2.1) (N := 3) (by decide) e2 ?_
  show WW W0 G 2 _ _ _ 9 [some (.ref l0), some (va_rf l1)] [.ref n, .ref l0] h1 (n + 1) _ _
  replace hr := Option.bind_eq_some_iff.mp hr
  obtain ⟨h3, e4, hr⟩ := hr
  refine rr_wrFF C dX7_init_9 fp_X7_11 rfl rfl e4 ?_
  refine rr_aload_n (i := 0) C dX7_init_12 rfl rfl ?_
  refine rr_bipush (v := 15) C dX7_init_13 (by decide) ?_
  refine rr_bipush (v := 17) C dX7_init_15 (by decide) ?_
  refine rr_cut C (kc' := 81 + 16) (ks' := 727 + 270) (by omega) (by omega) ?_
  replace hr := Option.bind_eq_some_iff.mp hr
  obtain ⟨h5, e6, hr⟩ := hr
  refine rr_newMIq C dX7_init_17 an_X7_17 (by decide) (by decide) (by decide) (by decide) (by decide) (by decide) (by decide) e6 ?_
  show WW W0 G 2 _ _ _ 21 [some (.ref l0), some (va_rf l1)] [.ref (n + 1), .ref l0] h5 (n + 17) _ _
  replace hr := Option.bind_eq_some_iff.mp hr
  obtain ⟨h7, e8, hr⟩ := hr
  refine rr_wrFF C dX7_init_21 fp_X7_19 rfl rfl e8 ?_
  refine rr_aload_n (i := 0) C dX7_init_24 rfl rfl ?_
  refine rr_bipush (v := 15) C dX7_init_25 (by decide) ?_
  refine rr_bipush (v := 9) C dX7_init_27 (by decide) ?_
  refine rr_cut C (kc' := 65 + 16) (ks' := 577 + 150) (by omega) (by omega) ?_
  replace hr := Option.bind_eq_some_iff.mp hr
  obtain ⟨h9, e10, hr⟩ := hr
  refine rr_newMIq C dX7_init_29 an_X7_17 (by decide) (by decide) (by decide) (by decide) (by decide) (by decide) (by decide) e10 ?_
  show WW W0 G 2 _ _ _ 33 [some (.ref l0), some (va_rf l1)] [.ref (n + 17), .ref l0] h9 (n + 33) _ _
  replace hr := Option.bind_eq_some_iff.mp hr
  obtain ⟨h11, e12, hr⟩ := hr
  refine rr_wrFF C dX7_init_33 fp_X7_22 rfl rfl e12 ?_
  refine rr_aload_n (i := 0) C dX7_init_36 rfl rfl ?_
  refine rr_bipush (v := 16) C dX7_init_37 (by decide) ?_
  refine rr_cut C (kc' := 64 + 1) (ks' := 561 + 16) (by omega) (by omega) ?_
  replace hr := Option.bind_eq_some_iff.mp hr
  obtain ⟨h13, e14, hr⟩ := hr
  refine rr_newJq C dX7_init_39 ac_long (N := 16) (by decide) e14 ?_
  show WW W0 G 2 _ _ _ 41 [some (.ref l0), some (va_rf l1)] [.ref (n + 33), .ref l0] h13 (n + 34) _ _
  replace hr := Option.bind_eq_some_iff.mp hr
  obtain ⟨h15, e16, hr⟩ := hr
  refine rr_wrFF C dX7_init_41 fp_X7_25 rfl rfl e16 ?_
  refine rr_aload_n (i := 0) C dX7_init_44 rfl rfl ?_
  refine rr_bipush (v := 15) C dX7_init_45 (by decide) ?_
  refine rr_iconst (v := 4) C dX7_init_47 (by decide) ?_
  refine rr_cut C (kc' := 48 + 16) (ks' := 486 + 75) (by omega) (by omega) ?_
  replace hr := Option.bind_eq_some_iff.mp hr
  obtain ⟨h17, e18, hr⟩ := hr
  refine rr_newMJq C dX7_init_48 an_X7_29 (by decide) (by decide) (by decide) (by decide) (by decide) (by decide) (by decide) e18 ?_
  show WW W0 G 2 _ _ _ 52 [some (.ref l0), some (va_rf l1)] [.ref (n + 34), .ref l0] h17 (n + 50) _ _
  replace hr := Option.bind_eq_some_iff.mp hr
  obtain ⟨h19, e20, hr⟩ := hr
  refine rr_wrFF C dX7_init_52 fp_X7_31 rfl rfl e20 ?_
  refine rr_aload_n (i := 0) C dX7_init_55 rfl rfl ?_
  refine rr_bipush (v := 15) C dX7_init_56 (by decide) ?_
  refine rr_bipush (v := 15) C dX7_init_58 (by decide) ?_
  refine rr_cut C (kc' := 32 + 16) (ks' := 246 + 240) (by omega) (by omega) ?_
  replace hr := Option.bind_eq_some_iff.mp hr
  obtain ⟨h21, e22, hr⟩ := hr
  refine rr_newMJq C dX7_init_60 an_X7_29 (by decide) (by decide) (by decide) (by decide) (by decide) (by decide) (by decide) e22 ?_
  show WW W0 G 2 _ _ _ 64 [some (.ref l0), some (va_rf l1)] [.ref (n + 50), .ref l0] h21 (n + 66) _ _
  replace hr := Option.bind_eq_some_iff.mp hr
  obtain ⟨h23, e24, hr⟩ := hr
  refine rr_wrFF C dX7_init_64 fp_X7_34 rfl rfl e24 ?_
  refine rr_aload_n (i := 0) C dX7_init_67 rfl rfl ?_
  refine rr_bipush (v := 15) C dX7_init_68 (by decide) ?_
  refine rr_cut C (kc' := 31 + 1) (ks' := 231 + 15) (by omega) (by omega) ?_
  replace hr := Option.bind_eq_some_iff.mp hr
  obtain ⟨h25, e26, hr⟩ := hr
  refine rr_newJq C dX7_init_70 ac_long (N := 15) (by decide) e26 ?_
  show WW W0 G 2 _ _ _ 72 [some (.ref l0), some (va_rf l1)] [.ref (n + 66), .ref l0] h25 (n + 67) _ _
  replace hr := Option.bind_eq_some_iff.mp hr
  obtain ⟨h27, e28, hr⟩ := hr
  refine rr_wrFF C dX7_init_72 fp_X7_37 rfl rfl e28 ?_
  refine rr_aload_n (i := 0) C dX7_init_75 rfl rfl ?_
  refine rr_bipush (v := 15) C dX7_init_76 (by decide) ?_
  refine rr_cut C (kc' := 30 + 1) (ks' := 216 + 15) (by omega) (by omega) ?_
  replace hr := Option.bind_eq_some_iff.mp hr
  obtain ⟨h29, e30, hr⟩ := hr
  refine rr_newJq C dX7_init_78 ac_long (N := 15) (by decide) e30 ?_
  show WW W0 G 2 _ _ _ 80 [some (.ref l0), some (va_rf l1)] [.ref (n + 67), .ref l0] h29 (n + 68) _ _
  replace hr := Option.bind_eq_some_iff.mp hr
  obtain ⟨h31, e32, hr⟩ := hr
  refine rr_wrFF C dX7_init_80 fp_X7_40 rfl rfl e32 ?_
  refine rr_aload_n (i := 0) C dX7_init_83 rfl rfl ?_
  refine rr_iconst (v := 5) C dX7_init_84 (by decide) ?_
  refine rr_cut C (kc' := 29 + 1) (ks' := 211 + 5) (by omega) (by omega) ?_
  replace hr := Option.bind_eq_some_iff.mp hr
  obtain ⟨h33, e34, hr⟩ := hr
  refine rr_newJq C dX7_init_85 ac_long (N := 5) (by decide) e34 ?_
  show WW W0 G 2 _ _ _ 87 [some (.ref l0), some (va_rf l1)] [.ref (n + 68), .ref l0] h33 (n + 69) _ _
  replace hr := Option.bind_eq_some_iff.mp hr
  obtain ⟨h35, e36, hr⟩ := hr
  refine rr_wrFF C dX7_init_87 fp_X7_43 rfl rfl e36 ?_
  refine rr_aload_n (i := 0) C dX7_init_90 rfl rfl ?_
  refine rr_aload_nO (i := 1) C dX7_init_91 rfl rfl ?_
  replace hr := Option.bind_eq_some_iff.mp hr
  obtain ⟨h37, e38, hr⟩ := hr
  refine rr_wrFF C dX7_init_92 fp_X7_46 (na_rf _ _) (fi_rf rfl _) e38 ?_
  refine rr_aload_n (i := 0) C dX7_init_95 rfl rfl ?_
  refine rr_cut C (kc' := 28 + 1) (ks' := 201 + 10) (by omega) (by omega) ?_
  replace hr := Option.bind_eq_some_iff.mp hr
  obtain ⟨h39, e40, hr⟩ := hr
  refine rr_newq C dX7_init_96 nw_X7_50 e40 ?_
  show WW W0 G 2 _ _ _ 99 [some (.ref l0), some (va_rf l1)] [.ref (n + 69), .ref l0] h39 (n + 70) _ _
  refine rr_dup C dX7_init_99 rfl ?_
  refine rr_aload_nO (i := 1) C dX7_init_100 rfl rfl ?_
  refine rr_cut C (kc' := 25 + 3) (ks' := 51 + 150) (by omega) (by omega) ?_
  replace hr := Option.bind_eq_some_iff.mp hr
  obtain ⟨⟨h41, n42⟩, e44, hr⟩ := hr
  dsimp only at hr
  refine rr_callI (as := [va_rf l1]) (st := [.ref (n + 69), .ref l0]) (mc' := 3) (ms' := 150) C dX7_init_101 ii_X7_52 (by decide) (Nat.le_of_ble_eq_true rfl) (c_X2_init (n + 69) l1 (by omega) e44) (fun v_ h_ n_ q_ => ?_)
  obtain ⟨q1_, q2_, q3_, b45⟩ := q_
  subst v_; subst h_; subst n_
  try dsimp only at b45
  show WW W0 G 2 _ _ _ 104 [some (.ref l0), some (va_rf l1)] [.ref (n + 69), .ref l0] h41 n42 _ _
  replace hr := Option.bind_eq_some_iff.mp hr
  obtain ⟨h46, e47, hr⟩ := hr
  refine rr_wrFF C dX7_init_104 fp_X7_55 rfl rfl e47 ?_
  obtain rfl := Option.some.inj hr
  exact rr_vret C dX7_init_107 rfl ⟨rfl, rfl, rfl, by omega⟩
def q_X10_init (K : Nat) (h : mm_H) (n : Nat) (l0 : Nat) : Option (mm_H × Nat) :=
  (newO h n 4 [.null, .null, .null, .null, .null, .int 0, .int 0]).bind fun h1 =>
  (q_X4_init K h1 (n + 1) n).bind fun (h3, n4) =>
  (wrF h3 n4 l0 9 0 (.ref n)).bind fun h8 =>
  (newO h8 n4 7 [.null, .null, .null, .null, .null, .null, .null, .null, .null, .null, .null, .int 0, .int 0]).bind fun h10 =>
  (rdR h10 (n4 + 1) l0 9 0).bind fun v12 =>
  (q_X7_init K h10 (n4 + 1) n4 v12).bind fun (h14, n15) =>
  (wrF h14 n15 l0 9 1 (.ref n4)).bind fun h19 =>
  (newO h19 n15 2 [.null, .null, .null, .null, .int 0, .long 0, .long 0, .long 0, .long 0, .long 0]).bind fun h21 =>
  (rdR h21 (n15 + 1) l0 9 0).bind fun v23 =>
  (q_X2_init K h21 (n15 + 1) n15 v23).bind fun (h25, n26) =>
  (wrF h25 n26 l0 9 2 (.ref n15)).bind fun h30 =>
  (newO h30 n26 3 [.null, .int 0, .int 0, .int 0, .int 0, .int 0, .null, .int 0, .null, .int 0, .null, .int 0]).bind fun h32 =>
  (q_X3_init K h32 (n26 + 1) n26).bind fun (h34, n35) =>
  (wrF h34 n35 l0 9 3 (.ref n26)).bind fun h39 =>
  (newI h39 n35 .int 900 900).bind fun h41 =>
  (wrF h41 (n35 + 1) l0 9 4 (.ref n35)).bind fun h43 =>
  (newA h43 (n35 + 1) (.object "WaterReview$RuleBook") 8 8).bind fun h45 =>
  (wrF h45 (n35 + 2) l0 9 6 (.ref (n35 + 1))).bind fun h47 =>
  (newA h47 (n35 + 2) (.object "WaterReview$RuleBook") 4 4).bind fun h49 =>
  (wrF h49 (n35 + 3) l0 9 9 (.ref (n35 + 2))).bind fun h51 =>
  (newI h51 (n35 + 3) .int 15 15).bind fun h53 =>
  (wrF h53 (n35 + 4) l0 9 11 (.ref (n35 + 3))).bind fun h55 =>
  some (h55, n35 + 4)
set_option maxRecDepth 100000 in
set_option maxHeartbeats 4000000 in
theorem c_X10_init {K : Nat} {G : mm_G} {l : Launch} {h : mm_H} {n : Nat} (l0 : Nat) {r_ : mm_H × Nat} (hn : 48 ≤ n) (hr : q_X10_init K h n l0 = some r_) : Sp G l yX10_init cX10_init 1 none 3 135 8018 [.ref l0] h n (fun v h' n' => v = none ∧ h' = r_.1 ∧ n' = r_.2 ∧ n ≤ n') := by
  refine Sp_of (by decide +kernel) (Nat.le_of_ble_eq_true rfl) hn ?_
  intro W0 hwl C
  subst hwl
  unfold q_X10_init at hr
  show WW W0 G 1 135 8018 _ 0 [some (.ref l0)] [] h n 135 8018
  refine rr_aload_n (i := 0) C dX10_init_0 rfl rfl ?_
  refine rr_obj C dX10_init_1 oi_X10 (by decide) (Nat.le_of_ble_eq_true rfl) ?_
  refine rr_aload_n (i := 0) C dX10_init_4 rfl rfl ?_
  refine rr_cut C (kc' := 134 + 1) (ks' := 8011 + 7) (by omega) (by omega) ?_
  replace hr := Option.bind_eq_some_iff.mp hr
  obtain ⟨h1, e2, hr⟩ := hr
  refine rr_newq C dX10_init_5 nw_X10_9 e2 ?_
  show WW W0 G 1 _ _ _ 8 [some (.ref l0)] [.ref n, .ref l0] h1 (n + 1) _ _
  refine rr_dup C dX10_init_8 rfl ?_
  refine rr_cut C (kc' := 111 + 23) (ks' := 3312 + 4699) (by omega) (by omega) ?_
  replace hr := Option.bind_eq_some_iff.mp hr
  obtain ⟨⟨h3, n4⟩, e6, hr⟩ := hr
  dsimp only at hr
  refine rr_callI (as := []) (st := [.ref n, .ref l0]) (mc' := 23) (ms' := 4699) C dX10_init_9 ii_X10_11 (by decide) (Nat.le_of_ble_eq_true rfl) (c_X4_init n (by omega) e6) (fun v_ h_ n_ q_ => ?_)
  obtain ⟨q1_, q2_, q3_, b7⟩ := q_
  subst v_; subst h_; subst n_
  try dsimp only at b7
  show WW W0 G 1 _ _ _ 12 [some (.ref l0)] [.ref n, .ref l0] h3 n4 _ _
  replace hr := Option.bind_eq_some_iff.mp hr
  obtain ⟨h8, e9, hr⟩ := hr
  refine rr_wrFF C dX10_init_12 fp_X10_12 rfl rfl e9 ?_
  refine rr_aload_n (i := 0) C dX10_init_15 rfl rfl ?_
  refine rr_cut C (kc' := 110 + 1) (ks' := 3299 + 13) (by omega) (by omega) ?_
  replace hr := Option.bind_eq_some_iff.mp hr
  obtain ⟨h10, e11, hr⟩ := hr
  refine rr_newq C dX10_init_16 nw_X10_16 e11 ?_
  show WW W0 G 1 _ _ _ 19 [some (.ref l0)] [.ref n4, .ref l0] h10 (n4 + 1) _ _
  refine rr_dup C dX10_init_19 rfl ?_
  refine rr_aload_n (i := 0) C dX10_init_20 rfl rfl ?_
  replace hr := Option.bind_eq_some_iff.mp hr
  obtain ⟨v12, e13, hr⟩ := hr
  refine rr_rdR C dX10_init_21 fl_X10_12 e13 ?_
  refine rr_cut C (kc' := 12 + 98) (ks' := 2299 + 1000) (by omega) (by omega) ?_
  replace hr := Option.bind_eq_some_iff.mp hr
  obtain ⟨⟨h14, n15⟩, e17, hr⟩ := hr
  dsimp only at hr
  refine rr_callI (as := [va_rf v12]) (st := [.ref n4, .ref l0]) (mc' := 98) (ms' := 1000) C dX10_init_24 ii_X10_18 (by decide) (Nat.le_of_ble_eq_true rfl) (c_X7_init n4 v12 (by omega) e17) (fun v_ h_ n_ q_ => ?_)
  obtain ⟨q1_, q2_, q3_, b18⟩ := q_
  subst v_; subst h_; subst n_
  try dsimp only at b18
  show WW W0 G 1 _ _ _ 27 [some (.ref l0)] [.ref n4, .ref l0] h14 n15 _ _
  replace hr := Option.bind_eq_some_iff.mp hr
  obtain ⟨h19, e20, hr⟩ := hr
  refine rr_wrFF C dX10_init_27 fp_X10_21 rfl rfl e20 ?_
  refine rr_aload_n (i := 0) C dX10_init_30 rfl rfl ?_
  refine rr_cut C (kc' := 11 + 1) (ks' := 2289 + 10) (by omega) (by omega) ?_
  replace hr := Option.bind_eq_some_iff.mp hr
  obtain ⟨h21, e22, hr⟩ := hr
  refine rr_newq C dX10_init_31 nw_X10_25 e22 ?_
  show WW W0 G 1 _ _ _ 34 [some (.ref l0)] [.ref n15, .ref l0] h21 (n15 + 1) _ _
  refine rr_dup C dX10_init_34 rfl ?_
  refine rr_aload_n (i := 0) C dX10_init_35 rfl rfl ?_
  replace hr := Option.bind_eq_some_iff.mp hr
  obtain ⟨v23, e24, hr⟩ := hr
  refine rr_rdR C dX10_init_36 fl_X10_12 e24 ?_
  refine rr_cut C (kc' := 8 + 3) (ks' := 2139 + 150) (by omega) (by omega) ?_
  replace hr := Option.bind_eq_some_iff.mp hr
  obtain ⟨⟨h25, n26⟩, e28, hr⟩ := hr
  dsimp only at hr
  refine rr_callI (as := [va_rf v23]) (st := [.ref n15, .ref l0]) (mc' := 3) (ms' := 150) C dX10_init_39 ii_X10_27 (by decide) (Nat.le_of_ble_eq_true rfl) (c_X2_init n15 v23 (by omega) e28) (fun v_ h_ n_ q_ => ?_)
  obtain ⟨q1_, q2_, q3_, b29⟩ := q_
  subst v_; subst h_; subst n_
  try dsimp only at b29
  show WW W0 G 1 _ _ _ 42 [some (.ref l0)] [.ref n15, .ref l0] h25 n26 _ _
  replace hr := Option.bind_eq_some_iff.mp hr
  obtain ⟨h30, e31, hr⟩ := hr
  refine rr_wrFF C dX10_init_42 fp_X10_28 rfl rfl e31 ?_
  refine rr_aload_n (i := 0) C dX10_init_45 rfl rfl ?_
  refine rr_cut C (kc' := 7 + 1) (ks' := 2127 + 12) (by omega) (by omega) ?_
  replace hr := Option.bind_eq_some_iff.mp hr
  obtain ⟨h32, e33, hr⟩ := hr
  refine rr_newq C dX10_init_46 nw_X10_32 e33 ?_
  show WW W0 G 1 _ _ _ 49 [some (.ref l0)] [.ref n26, .ref l0] h32 (n26 + 1) _ _
  refine rr_dup C dX10_init_49 rfl ?_
  refine rr_cut C (kc' := 4 + 3) (ks' := 927 + 1200) (by omega) (by omega) ?_
  replace hr := Option.bind_eq_some_iff.mp hr
  obtain ⟨⟨h34, n35⟩, e37, hr⟩ := hr
  dsimp only at hr
  refine rr_callI (as := []) (st := [.ref n26, .ref l0]) (mc' := 3) (ms' := 1200) C dX10_init_50 ii_X10_34 (by decide) (Nat.le_of_ble_eq_true rfl) (c_X3_init n26 (by omega) e37) (fun v_ h_ n_ q_ => ?_)
  obtain ⟨q1_, q2_, q3_, b38⟩ := q_
  subst v_; subst h_; subst n_
  try dsimp only at b38
  show WW W0 G 1 _ _ _ 53 [some (.ref l0)] [.ref n26, .ref l0] h34 n35 _ _
  replace hr := Option.bind_eq_some_iff.mp hr
  obtain ⟨h39, e40, hr⟩ := hr
  refine rr_wrFF C dX10_init_53 fp_X10_35 rfl rfl e40 ?_
  refine rr_aload_n (i := 0) C dX10_init_56 rfl rfl ?_
  refine rr_sipush (v := 900) C dX10_init_57 (by decide) ?_
  refine rr_cut C (kc' := 3 + 1) (ks' := 27 + 900) (by omega) (by omega) ?_
  replace hr := Option.bind_eq_some_iff.mp hr
  obtain ⟨h41, e42, hr⟩ := hr
  refine rr_newIq C dX10_init_60 (t0 := 0) rfl rfl (by decide) rfl ac_int (N := 900) (by decide) e42 ?_
  show WW W0 G 1 _ _ _ 62 [some (.ref l0)] [.ref n35, .ref l0] h41 (n35 + 1) _ _
  replace hr := Option.bind_eq_some_iff.mp hr
  obtain ⟨h43, e44, hr⟩ := hr
  refine rr_wrFF C dX10_init_62 fp_X10_39 rfl rfl e44 ?_
  refine rr_aload_n (i := 0) C dX10_init_65 rfl rfl ?_
  refine rr_bipush (v := 8) C dX10_init_66 (by decide) ?_
  refine rr_cut C (kc' := 2 + 1) (ks' := 19 + 8) (by omega) (by omega) ?_
  replace hr := Option.bind_eq_some_iff.mp hr
  obtain ⟨h45, e46, hr⟩ := hr
  refine rr_newAq C dX10_init_68 (t0 := 5) rfl an_X10_43 (fun U_ o_ => o_.2.2.2.2.2.2.2.2.2.1) (N := 8) (by decide) e46 ?_
  show WW W0 G 1 _ _ _ 71 [some (.ref l0)] [.ref (n35 + 1), .ref l0] h45 (n35 + 2) _ _
  replace hr := Option.bind_eq_some_iff.mp hr
  obtain ⟨h47, e48, hr⟩ := hr
  refine rr_wrFF C dX10_init_71 fp_X10_45 rfl rfl e48 ?_
  refine rr_aload_n (i := 0) C dX10_init_74 rfl rfl ?_
  refine rr_iconst (v := 4) C dX10_init_75 (by decide) ?_
  refine rr_cut C (kc' := 1 + 1) (ks' := 15 + 4) (by omega) (by omega) ?_
  replace hr := Option.bind_eq_some_iff.mp hr
  obtain ⟨h49, e50, hr⟩ := hr
  refine rr_newAq C dX10_init_76 (t0 := 5) rfl an_X10_43 (fun U_ o_ => o_.2.2.2.2.2.2.2.2.2.1) (N := 4) (by decide) e50 ?_
  show WW W0 G 1 _ _ _ 79 [some (.ref l0)] [.ref (n35 + 2), .ref l0] h49 (n35 + 3) _ _
  replace hr := Option.bind_eq_some_iff.mp hr
  obtain ⟨h51, e52, hr⟩ := hr
  refine rr_wrFF C dX10_init_79 fp_X10_49 rfl rfl e52 ?_
  refine rr_aload_n (i := 0) C dX10_init_82 rfl rfl ?_
  refine rr_bipush (v := 15) C dX10_init_83 (by decide) ?_
  refine rr_cut C (kc' := 0 + 1) (ks' := 0 + 15) (by omega) (by omega) ?_
  replace hr := Option.bind_eq_some_iff.mp hr
  obtain ⟨h53, e54, hr⟩ := hr
  refine rr_newIq C dX10_init_85 (t0 := 0) rfl rfl (by decide) rfl ac_int (N := 15) (by decide) e54 ?_
  show WW W0 G 1 _ _ _ 87 [some (.ref l0)] [.ref (n35 + 3), .ref l0] h53 (n35 + 4) _ _
  replace hr := Option.bind_eq_some_iff.mp hr
  obtain ⟨h55, e56, hr⟩ := hr
  refine rr_wrFF C dX10_init_87 fp_X10_52 rfl rfl e56 ?_
  obtain rfl := Option.some.inj hr
  exact rr_vret C dX10_init_90 rfl ⟨rfl, rfl, rfl, by omega⟩

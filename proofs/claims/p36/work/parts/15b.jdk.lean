def q_J5_init_d00df (K : Nat) (h : mm_H) (n : Nat) (l0 : Nat) (l1 : Int32) : Option (mm_H × Nat) :=
  (newI h n .byte 16 l1).bind fun h1 =>
  (wrF h1 (n + 1) l0 11 0 (.ref n)).bind fun h3 =>
  (wrF h3 (n + 1) l0 11 1 (.int 0)).bind fun h5 =>
  some (h5, n + 1)
set_option maxRecDepth 100000 in
set_option maxHeartbeats 4000000 in
theorem c_J5_init_d00df {K : Nat} {G : mm_G} {l : Launch} {h : mm_H} {n : Nat} (l0 : Nat) (l1 : Int32) {r_ : mm_H × Nat} (hn : 48 ≤ n) (hr : q_J5_init_d00df K h n l0 l1 = some r_) : Sp G l yJ5_init_d00df cJ5_init_d00df 2 none 1 1 16 [.ref l0, .int l1] h n (fun v h' n' => v = none ∧ h' = r_.1 ∧ n' = r_.2 ∧ n ≤ n') := by
  refine Sp_of (by decide +kernel) (Nat.le_of_ble_eq_true rfl) hn ?_
  intro W0 hwl C
  subst hwl
  unfold q_J5_init_d00df at hr
  show WW W0 G 2 1 16 _ 0 [some (.ref l0), some (.int l1)] [] h n 1 16
  refine rr_aload_n (i := 0) C dJ5_init_d00df_0 rfl rfl ?_
  refine rr_obj C dJ5_init_d00df_1 oi_J5 (by decide) (Nat.le_of_ble_eq_true rfl) ?_
  refine rr_getsC C dJ5_init_d00df_4 sl_J5_18 ?_
  refine rr_if_eq (tgt := 25) C dJ5_init_d00df_7 (by decide) (fun q_ => absurd q_ (by decide)) (fun _ => ?_)
  refine rr_aload_n (i := 0) C dJ5_init_d00df_10 rfl rfl ?_
  refine rr_iload_n (i := 1) C dJ5_init_d00df_11 rfl rfl ?_
  refine rr_cut C (kc' := 0 + 1) (ks' := 0 + 16) (by omega) (by omega) ?_
  replace hr := Option.bind_eq_some_iff.mp hr
  obtain ⟨h1, e2, hr⟩ := hr
  refine rr_newIq C dJ5_init_d00df_12 (t0 := 2) rfl rfl (by decide) rfl ac_byte (N := 16) (by decide) e2 ?_
  show WW W0 G 2 _ _ _ 14 [some (.ref l0), some (.int l1)] [.ref n, .ref l0] h1 (n + 1) _ _
  replace hr := Option.bind_eq_some_iff.mp hr
  obtain ⟨h3, e4, hr⟩ := hr
  refine rr_wrF C dJ5_init_d00df_14 fp_J5_15 rfl rfl e4 ?_
  refine rr_aload_n (i := 0) C dJ5_init_d00df_17 rfl rfl ?_
  refine rr_iconst (v := 0) C dJ5_init_d00df_18 (by decide) ?_
  replace hr := Option.bind_eq_some_iff.mp hr
  obtain ⟨h5, e6, hr⟩ := hr
  refine rr_wrF C dJ5_init_d00df_19 fp_J5_22 rfl rfl e6 ?_
  refine rr_goto (tgt := 38) C dJ5_init_d00df_22 (by decide) ?_
  obtain rfl := Option.some.inj hr
  exact rr_vret C dJ5_init_d00df_38 rfl ⟨rfl, rfl, rfl, by omega⟩
def q_J4_init_da8c8 (K : Nat) (h : mm_H) (n : Nat) (l0 : Nat) : Option (mm_H × Nat) :=
  (q_J5_init_d00df K h n l0 16).bind fun (h1, n2) =>
  some (h1, n2)
set_option maxRecDepth 100000 in
set_option maxHeartbeats 4000000 in
theorem c_J4_init_da8c8 {K : Nat} {G : mm_G} {l : Launch} {h : mm_H} {n : Nat} (l0 : Nat) {r_ : mm_H × Nat} (hn : 48 ≤ n) (hr : q_J4_init_da8c8 K h n l0 = some r_) : Sp G l yJ4_init_da8c8 cJ4_init_da8c8 1 none 2 1 16 [.ref l0] h n (fun v h' n' => v = none ∧ h' = r_.1 ∧ n' = r_.2 ∧ n ≤ n') := by
  refine Sp_of (by decide +kernel) (Nat.le_of_ble_eq_true rfl) hn ?_
  intro W0 hwl C
  subst hwl
  unfold q_J4_init_da8c8 at hr
  show WW W0 G 1 1 16 _ 0 [some (.ref l0)] [] h n 1 16
  refine rr_aload_n (i := 0) C dJ4_init_da8c8_0 rfl rfl ?_
  refine rr_bipush (v := 16) C dJ4_init_da8c8_1 (by decide) ?_
  refine rr_cut C (kc' := 0 + 1) (ks' := 0 + 16) (by omega) (by omega) ?_
  replace hr := Option.bind_eq_some_iff.mp hr
  obtain ⟨⟨h1, n2⟩, e4, hr⟩ := hr
  dsimp only at hr
  refine rr_callI (as := [.int 16]) (st := []) (mc' := 1) (ms' := 16) C dJ4_init_da8c8_3 ii_J4_1 (by decide) (Nat.le_of_ble_eq_true rfl) (c_J5_init_d00df l0 16 (by omega) e4) (fun v_ h_ n_ q_ => ?_)
  obtain ⟨q1_, q2_, q3_, b5⟩ := q_
  subst v_; subst h_; subst n_
  try dsimp only at b5
  show WW W0 G 1 _ _ _ 6 [some (.ref l0)] [] h1 n2 _ _
  obtain rfl := Option.some.inj hr
  exact rr_vret C dJ4_init_da8c8_6 rfl ⟨rfl, rfl, rfl, by omega⟩
def q_J7_copyOf_9075b (K : Nat) (h : mm_H) (n : Nat) (l0 : Option Nat) (l1 : Int32) : Option (Option Nat × mm_H × Nat) :=
  l0.bind fun a1 =>
  (lenA h n a1 2).bind fun v3 =>
  if l1 = v3 then
    (clB h n a1 300).bind fun h5 =>
    (ckB h5 (n + 1) n).bind fun u7 =>
    some ((some n), h5, n + 1)
  else
  (newI h n .byte 300 l1).bind fun h9 =>
  (lenA h9 (n + 1) a1 2).bind fun v11 =>
  (cpB h9 (n + 1) a1 0 n 0 (i_min v11 l1)).bind fun h13 =>
  some ((some n), h13, n + 1)
set_option maxRecDepth 100000 in
set_option maxHeartbeats 4000000 in
theorem c_J7_copyOf_9075b {K : Nat} {G : mm_G} {l : Launch} {h : mm_H} {n : Nat} (l0 : Option Nat) (l1 : Int32) {r_ : Option Nat × mm_H × Nat} (hn : 48 ≤ n) (hr : q_J7_copyOf_9075b K h n l0 l1 = some r_) : Sp G l yJ7_copyOf_9075b cJ7_copyOf_9075b 3 (some (.array .byte)) 1 1 300 [va_rf l0, .int l1] h n (fun v h' n' => v = some (va_rf r_.1) ∧ h' = r_.2.1 ∧ n' = r_.2.2 ∧ n ≤ n') := by
  refine Sp_of (by decide +kernel) (by rcases l0 with _ | _ <;> exact Nat.le_of_ble_eq_true rfl) hn ?_
  intro W0 hwl C
  subst hwl
  unfold q_J7_copyOf_9075b at hr
  rw [show mm_en 3 [va_rf l0, .int l1] = [some (va_rf l0), some (.int l1), none] from by rcases l0 with _ | _ <;> rfl]
  show WW W0 G 3 1 300 _ 0 [some (va_rf l0), some (.int l1), none] [] h n 1 300
  refine rr_iload_n (i := 1) C dJ7_copyOf_9075b_0 rfl rfl ?_
  refine rr_aload_nO (i := 0) C dJ7_copyOf_9075b_1 rfl rfl ?_
  replace hr := Option.bind_eq_some_iff.mp hr
  obtain ⟨a1, e2, hr⟩ := hr
  subst e2
  replace hr := Option.bind_eq_some_iff.mp hr
  obtain ⟨v3, e4, hr⟩ := hr
  refine rr_lenA C dJ7_copyOf_9075b_2 e4 ?_
  refine rr_icmp_ne (tgt := 14) C dJ7_copyOf_9075b_3 (by decide) (fun c3_ => ?_) (fun c3_ => ?_)
  · replace hr := (if_neg c3_).symm.trans hr
    refine rr_iload_n (i := 1) C dJ7_copyOf_9075b_14 rfl rfl ?_
    refine rr_cut C (kc' := 0 + 1) (ks' := 0 + 300) (by omega) (by omega) ?_
    replace hr := Option.bind_eq_some_iff.mp hr
    obtain ⟨h9, e10, hr⟩ := hr
    refine rr_newIq C dJ7_copyOf_9075b_15 (t0 := 2) rfl rfl (by decide) rfl ac_byte (N := 300) (by decide) e10 ?_
    show WW W0 G 3 _ _ _ 17 [some (.ref a1), some (.int l1), none] [.ref n] h9 (n + 1) _ _
    refine rr_astore_n (i := 2) C dJ7_copyOf_9075b_17 rfl (by decide) ?_
    show WW W0 G 3 _ _ _ 18 [some (.ref a1), some (.int l1), some (.ref n)] [] h9 (n + 1) _ _
    refine rr_aload_n (i := 0) C dJ7_copyOf_9075b_18 rfl rfl ?_
    refine rr_iconst (v := 0) C dJ7_copyOf_9075b_19 (by decide) ?_
    refine rr_aload_n (i := 2) C dJ7_copyOf_9075b_20 rfl rfl ?_
    refine rr_iconst (v := 0) C dJ7_copyOf_9075b_21 (by decide) ?_
    refine rr_aload_n (i := 0) C dJ7_copyOf_9075b_22 rfl rfl ?_
    replace hr := Option.bind_eq_some_iff.mp hr
    obtain ⟨v11, e12, hr⟩ := hr
    refine rr_lenA C dJ7_copyOf_9075b_23 e12 ?_
    refine rr_iload_n (i := 1) C dJ7_copyOf_9075b_24 rfl rfl ?_
    refine rr_mmin C dJ7_copyOf_9075b_25 ma_J7_304 (by decide) (Nat.le_of_ble_eq_true rfl) ?_
    replace hr := Option.bind_eq_some_iff.mp hr
    obtain ⟨h13, e14, hr⟩ := hr
    refine rr_acopybq C dJ7_copyOf_9075b_28 kl_150 (by decide) (Nat.le_of_ble_eq_true rfl) e14 ?_
    show WW W0 G 3 _ _ _ 31 [some (.ref a1), some (.int l1), some (.ref n)] [] h13 (n + 1) _ _
    refine rr_aload_n (i := 2) C dJ7_copyOf_9075b_31 rfl rfl ?_
    obtain rfl := Option.some.inj hr
    exact rr_aret (r := (some n)) C dJ7_copyOf_9075b_32 rfl (Or.inr ⟨_, rfl⟩) ⟨rfl, rfl, rfl, by omega⟩
  · replace hr := (if_pos c3_).symm.trans hr
    refine rr_aload_n (i := 0) C dJ7_copyOf_9075b_6 rfl rfl ?_
    refine rr_cut C (kc' := 0 + 1) (ks' := 0 + 300) (by omega) (by omega) ?_
    replace hr := Option.bind_eq_some_iff.mp hr
    obtain ⟨h5, e6, hr⟩ := hr
    refine rr_clonebq C dJ7_copyOf_9075b_7 kl_310 (by decide) (Nat.le_of_ble_eq_true rfl) e6 ?_
    show WW W0 G 3 _ _ _ 10 [some (.ref a1), some (.int l1), none] [.ref n] h5 (n + 1) _ _
    replace hr := Option.bind_eq_some_iff.mp hr
    obtain ⟨u7, e8, hr⟩ := hr
    refine rr_castbq C dJ7_copyOf_9075b_10 kl_311 e8 ?_
    obtain rfl := Option.some.inj hr
    exact rr_aret (r := (some n)) C dJ7_copyOf_9075b_13 rfl (Or.inr ⟨_, rfl⟩) ⟨rfl, rfl, rfl, by omega⟩
def q_J5_ensureCapacityInternal_d00df (K : Nat) (h : mm_H) (n : Nat) (l0 : Nat) (l1 : Int32) : Option (mm_H × Nat) :=
  (rdR h n l0 11 0).bind fun v1 =>
  v1.bind fun a3 =>
  (lenA h n a3 2).bind fun v5 =>
  (rdI h n l0 11 1).bind fun v7 =>
  if (l1 - (v5 >>> (v7 &&& 31))) ≤ 0 then
    some (h, n)
  else
  (rdR h n l0 11 0).bind fun v10 =>
  (ckq h n l0 11).bind fun u12 =>
  (q_J5_newCapacity_0f7a4 K h n l0 l1).bind fun v14 =>
  (rdI h n l0 11 1).bind fun v16 =>
  (q_J7_copyOf_9075b K h n v10 (v14 <<< (v16 &&& 31))).bind fun (v20, h18, n19) =>
  (wrF h18 n19 l0 11 0 (va_rf v20)).bind fun h23 =>
  some (h23, n19)
set_option maxRecDepth 100000 in
set_option maxHeartbeats 4000000 in
theorem c_J5_ensureCapacityInternal_d00df {K : Nat} {G : mm_G} {l : Launch} {h : mm_H} {n : Nat} (l0 : Nat) (l1 : Int32) {r_ : mm_H × Nat} (hn : 48 ≤ n) (hr : q_J5_ensureCapacityInternal_d00df K h n l0 l1 = some r_) : Sp G l yJ5_ensureCapacityInternal_d00df cJ5_ensureCapacityInternal_d00df 3 none 3 1 300 [.ref l0, .int l1] h n (fun v h' n' => v = none ∧ h' = r_.1 ∧ n' = r_.2 ∧ n ≤ n') := by
  refine Sp_of (by decide +kernel) (Nat.le_of_ble_eq_true rfl) hn ?_
  intro W0 hwl C
  subst hwl
  unfold q_J5_ensureCapacityInternal_d00df at hr
  show WW W0 G 3 1 300 _ 0 [some (.ref l0), some (.int l1), none] [] h n 1 300
  refine rr_aload_n (i := 0) C dJ5_ensureCapacityInternal_d00df_0 rfl rfl ?_
  replace hr := Option.bind_eq_some_iff.mp hr
  obtain ⟨v1, e2, hr⟩ := hr
  refine rr_rdR C dJ5_ensureCapacityInternal_d00df_1 fl_J5_15 e2 ?_
  replace hr := Option.bind_eq_some_iff.mp hr
  obtain ⟨a3, e4, hr⟩ := hr
  subst e4
  replace hr := Option.bind_eq_some_iff.mp hr
  obtain ⟨v5, e6, hr⟩ := hr
  refine rr_lenA C dJ5_ensureCapacityInternal_d00df_4 e6 ?_
  refine rr_aload_n (i := 0) C dJ5_ensureCapacityInternal_d00df_5 rfl rfl ?_
  replace hr := Option.bind_eq_some_iff.mp hr
  obtain ⟨v7, e8, hr⟩ := hr
  refine rr_rdI C dJ5_ensureCapacityInternal_d00df_6 fl_J5_22 e8 ?_
  refine rr_ishr C dJ5_ensureCapacityInternal_d00df_9 ?_
  refine rr_istore_n (i := 2) C dJ5_ensureCapacityInternal_d00df_10 rfl (by decide) ?_
  show WW W0 G 3 _ _ _ 11 [some (.ref l0), some (.int l1), some (.int (v5 >>> (v7 &&& 31)))] [] h n _ _
  refine rr_iload_n (i := 1) C dJ5_ensureCapacityInternal_d00df_11 rfl rfl ?_
  refine rr_iload_n (i := 2) C dJ5_ensureCapacityInternal_d00df_12 rfl rfl ?_
  refine rr_isub C dJ5_ensureCapacityInternal_d00df_13 ?_
  refine rr_if_le (tgt := 38) C dJ5_ensureCapacityInternal_d00df_14 (by decide) (fun c14_ => ?_) (fun c14_ => ?_)
  · replace hr := (if_pos c14_).symm.trans hr
    obtain rfl := Option.some.inj hr
    exact rr_vret C dJ5_ensureCapacityInternal_d00df_38 rfl ⟨rfl, rfl, rfl, by omega⟩
  · replace hr := (if_neg c14_).symm.trans hr
    refine rr_aload_n (i := 0) C dJ5_ensureCapacityInternal_d00df_17 rfl rfl ?_
    refine rr_aload_n (i := 0) C dJ5_ensureCapacityInternal_d00df_18 rfl rfl ?_
    replace hr := Option.bind_eq_some_iff.mp hr
    obtain ⟨v10, e11, hr⟩ := hr
    refine rr_rdR C dJ5_ensureCapacityInternal_d00df_19 fl_J5_15 e11 ?_
    refine rr_aload_n (i := 0) C dJ5_ensureCapacityInternal_d00df_22 rfl rfl ?_
    refine rr_iload_n (i := 1) C dJ5_ensureCapacityInternal_d00df_23 rfl rfl ?_
    replace hr := Option.bind_eq_some_iff.mp hr
    obtain ⟨u12, e13, hr⟩ := hr
    replace hr := Option.bind_eq_some_iff.mp hr
    obtain ⟨v14, e15, hr⟩ := hr
    refine rr_callVU (as := [.int l1]) (st := [va_rf v10, .ref l0]) (mc' := 0) (ms' := 0) C dJ5_ensureCapacityInternal_d00df_24 iu_J5_104 (by decide) e13 (by rcases v10 with _ | _ <;> exact Nat.le_of_ble_eq_true rfl) (c_J5_newCapacity_0f7a4 l0 l1 (by omega) e15) (fun v_ h_ n_ q_ => ?_)
    obtain ⟨q1_, q2_, q3_⟩ := q_
    subst v_; subst h_; subst n_
    show WW W0 G 3 _ _ _ 27 [some (.ref l0), some (.int l1), some (.int (v5 >>> (v7 &&& 31)))] [.int v14, va_rf v10, .ref l0] h n _ _
    refine rr_aload_n (i := 0) C dJ5_ensureCapacityInternal_d00df_27 rfl rfl ?_
    replace hr := Option.bind_eq_some_iff.mp hr
    obtain ⟨v16, e17, hr⟩ := hr
    refine rr_rdI C dJ5_ensureCapacityInternal_d00df_28 fl_J5_22 e17 ?_
    refine rr_ishl C dJ5_ensureCapacityInternal_d00df_31 ?_
    refine rr_cut C (kc' := 0 + 1) (ks' := 0 + 300) (by omega) (by omega) ?_
    replace hr := Option.bind_eq_some_iff.mp hr
    obtain ⟨⟨v20, h18, n19⟩, e21, hr⟩ := hr
    dsimp only at hr
    refine rr_callS (as := [va_rf v10, .int (v14 <<< (v16 &&& 31))]) (st := [.ref l0]) (mc' := 1) (ms' := 300) C dJ5_ensureCapacityInternal_d00df_32 it_J5_108 (by decide) (Nat.le_of_ble_eq_true rfl) (c_J7_copyOf_9075b v10 (v14 <<< (v16 &&& 31)) (by omega) e21) (fun v_ h_ n_ q_ => ?_)
    obtain ⟨q1_, q2_, q3_, b22⟩ := q_
    subst v_; subst h_; subst n_
    try dsimp only at b22
    show WW W0 G 3 _ _ _ 35 [some (.ref l0), some (.int l1), some (.int (v5 >>> (v7 &&& 31)))] [va_rf v20, .ref l0] h18 n19 _ _
    replace hr := Option.bind_eq_some_iff.mp hr
    obtain ⟨h23, e24, hr⟩ := hr
    refine rr_wrF C dJ5_ensureCapacityInternal_d00df_35 fp_J5_15 (na_rf _ _) (fi_rf rfl _) e24 ?_
    obtain rfl := Option.some.inj hr
    exact rr_vret C dJ5_ensureCapacityInternal_d00df_38 rfl ⟨rfl, rfl, rfl, by omega⟩
def q_J0_getBytes_840e7 (K : Nat) (h : mm_H) (n : Nat) (l0 : Nat) (l1 : Option Nat) (l2 : Int32) (l3 : Int32) : Option (mm_H) :=
  (ckS h n l0).bind fun u1 =>
  (q_J0_coder_7d493 K h n l0).bind fun v3 =>
  if v3 = l3 then
    (strV h n l0).bind fun v5 =>
    (strV h n l0).bind fun v7 =>
    (lenA h n v7 2).bind fun v9 =>
    l1.bind fun a11 =>
    (cpB h n v5 0 a11 (l2 <<< (l3 &&& 31)) v9).bind fun h13 =>
    some h13
  else
  (strV h n l0).bind fun v15 =>
  (strV h n l0).bind fun v17 =>
  (lenA h n v17 2).bind fun v19 =>
  none
set_option maxRecDepth 100000 in
set_option maxHeartbeats 4000000 in
theorem c_J0_getBytes_840e7 {K : Nat} {G : mm_G} {l : Launch} {h : mm_H} {n : Nat} (l0 : Nat) (l1 : Option Nat) (l2 : Int32) (l3 : Int32) {r_ : mm_H} (hn : 48 ≤ n) (hr : q_J0_getBytes_840e7 K h n l0 l1 l2 l3 = some r_) : Sp G l yJ0_getBytes_840e7 cJ0_getBytes_840e7 4 none 1 0 0 [.ref l0, va_rf l1, .int l2, .int l3] h n (fun v h' n' => v = none ∧ h' = r_ ∧ n' = n) := by
  refine Sp_of (by decide +kernel) (by rcases l1 with _ | _ <;> exact Nat.le_of_ble_eq_true rfl) hn ?_
  intro W0 hwl C
  subst hwl
  unfold q_J0_getBytes_840e7 at hr
  rw [show mm_en 4 [.ref l0, va_rf l1, .int l2, .int l3] = [some (.ref l0), some (va_rf l1), some (.int l2), some (.int l3)] from by rcases l1 with _ | _ <;> rfl]
  show WW W0 G 4 0 0 _ 0 [some (.ref l0), some (va_rf l1), some (.int l2), some (.int l3)] [] h n 0 0
  refine rr_aload_n (i := 0) C dJ0_getBytes_840e7_0 rfl rfl ?_
  replace hr := Option.bind_eq_some_iff.mp hr
  obtain ⟨u1, e2, hr⟩ := hr
  replace hr := Option.bind_eq_some_iff.mp hr
  obtain ⟨v3, e4, hr⟩ := hr
  refine rr_callVS (as := []) (st := []) (mc' := 0) (ms' := 0) C dJ0_getBytes_840e7_1 iv_J0_335 rfl (by decide) e2 (Nat.le_of_ble_eq_true rfl) (c_J0_coder_7d493 l0 (by omega) e4) (fun v_ h_ n_ q_ => ?_)
  obtain ⟨q1_, q2_, q3_⟩ := q_
  subst v_; subst h_; subst n_
  show WW W0 G 4 _ _ _ 4 [some (.ref l0), some (va_rf l1), some (.int l2), some (.int l3)] [.int v3] h n _ _
  refine rr_iload_n (i := 3) C dJ0_getBytes_840e7_4 rfl rfl ?_
  refine rr_icmp_ne (tgt := 28) C dJ0_getBytes_840e7_5 (by decide) (fun c5_ => ?_) (fun c5_ => ?_)
  · replace hr := (if_neg c5_).symm.trans hr
    refine rr_aload_n (i := 0) C dJ0_getBytes_840e7_28 rfl rfl ?_
    replace hr := Option.bind_eq_some_iff.mp hr
    obtain ⟨v15, e16, hr⟩ := hr
    refine rr_strV C dJ0_getBytes_840e7_29 sl_J0_9 e16 ?_
    refine rr_iconst (v := 0) C dJ0_getBytes_840e7_32 (by decide) ?_
    refine rr_aload_nO (i := 1) C dJ0_getBytes_840e7_33 rfl rfl ?_
    refine rr_iload_n (i := 2) C dJ0_getBytes_840e7_34 rfl rfl ?_
    refine rr_aload_n (i := 0) C dJ0_getBytes_840e7_35 rfl rfl ?_
    replace hr := Option.bind_eq_some_iff.mp hr
    obtain ⟨v17, e18, hr⟩ := hr
    refine rr_strV C dJ0_getBytes_840e7_36 sl_J0_9 e18 ?_
    replace hr := Option.bind_eq_some_iff.mp hr
    obtain ⟨v19, e20, hr⟩ := hr
    refine rr_lenA C dJ0_getBytes_840e7_39 e20 ?_
    cases hr
  · replace hr := (if_pos c5_).symm.trans hr
    refine rr_aload_n (i := 0) C dJ0_getBytes_840e7_8 rfl rfl ?_
    replace hr := Option.bind_eq_some_iff.mp hr
    obtain ⟨v5, e6, hr⟩ := hr
    refine rr_strV C dJ0_getBytes_840e7_9 sl_J0_9 e6 ?_
    refine rr_iconst (v := 0) C dJ0_getBytes_840e7_12 (by decide) ?_
    refine rr_aload_nO (i := 1) C dJ0_getBytes_840e7_13 rfl rfl ?_
    refine rr_iload_n (i := 2) C dJ0_getBytes_840e7_14 rfl rfl ?_
    refine rr_iload_n (i := 3) C dJ0_getBytes_840e7_15 rfl rfl ?_
    refine rr_ishl C dJ0_getBytes_840e7_16 ?_
    refine rr_aload_n (i := 0) C dJ0_getBytes_840e7_17 rfl rfl ?_
    replace hr := Option.bind_eq_some_iff.mp hr
    obtain ⟨v7, e8, hr⟩ := hr
    refine rr_strV C dJ0_getBytes_840e7_18 sl_J0_9 e8 ?_
    replace hr := Option.bind_eq_some_iff.mp hr
    obtain ⟨v9, e10, hr⟩ := hr
    refine rr_lenA C dJ0_getBytes_840e7_21 e10 ?_
    replace hr := Option.bind_eq_some_iff.mp hr
    obtain ⟨a11, e12, hr⟩ := hr
    subst e12
    replace hr := Option.bind_eq_some_iff.mp hr
    obtain ⟨h13, e14, hr⟩ := hr
    refine rr_acopybq C dJ0_getBytes_840e7_22 kl_J0_212 (by decide) (Nat.le_of_ble_eq_true rfl) e14 ?_
    show WW W0 G 4 _ _ _ 25 [some (.ref l0), some (.ref a11), some (.int l2), some (.int l3)] [] h13 n _ _
    refine rr_goto (tgt := 43) C dJ0_getBytes_840e7_25 (by decide) ?_
    obtain rfl := Option.some.inj hr
    exact rr_vret C dJ0_getBytes_840e7_43 rfl ⟨rfl, rfl, rfl⟩
def q_J5_putStringAt_47b60 (K : Nat) (h : mm_H) (n : Nat) (l0 : Nat) (l1 : Int32) (l2 : Option Nat) : Option (mm_H) :=
  (ckq h n l0 11).bind fun u1 =>
  (q_J5_inflateIfNeededFor_a7421 K h n l0 l2).bind fun v3 =>
  (rdR h n l0 11 0).bind fun v5 =>
  (rdI h n l0 11 1).bind fun v7 =>
  l2.bind fun a9 =>
  (ckS h n a9).bind fun u11 =>
  (q_J0_getBytes_840e7 K h n a9 v5 l1 v7).bind fun v13 =>
  some v13
set_option maxRecDepth 100000 in
set_option maxHeartbeats 4000000 in
theorem c_J5_putStringAt_47b60 {K : Nat} {G : mm_G} {l : Launch} {h : mm_H} {n : Nat} (l0 : Nat) (l1 : Int32) (l2 : Option Nat) {r_ : mm_H} (hn : 48 ≤ n) (hr : q_J5_putStringAt_47b60 K h n l0 l1 l2 = some r_) : Sp G l yJ5_putStringAt_47b60 cJ5_putStringAt_47b60 3 none 2 0 0 [.ref l0, .int l1, va_rf l2] h n (fun v h' n' => v = none ∧ h' = r_ ∧ n' = n) := by
  refine Sp_of (by decide +kernel) (by rcases l2 with _ | _ <;> exact Nat.le_of_ble_eq_true rfl) hn ?_
  intro W0 hwl C
  subst hwl
  unfold q_J5_putStringAt_47b60 at hr
  rw [show mm_en 3 [.ref l0, .int l1, va_rf l2] = [some (.ref l0), some (.int l1), some (va_rf l2)] from by rcases l2 with _ | _ <;> rfl]
  show WW W0 G 3 0 0 _ 0 [some (.ref l0), some (.int l1), some (va_rf l2)] [] h n 0 0
  refine rr_aload_n (i := 0) C dJ5_putStringAt_47b60_0 rfl rfl ?_
  refine rr_aload_nO (i := 2) C dJ5_putStringAt_47b60_1 rfl rfl ?_
  replace hr := Option.bind_eq_some_iff.mp hr
  obtain ⟨u1, e2, hr⟩ := hr
  replace hr := Option.bind_eq_some_iff.mp hr
  obtain ⟨v3, e4, hr⟩ := hr
  refine rr_callVU (as := [va_rf l2]) (st := []) (mc' := 0) (ms' := 0) C dJ5_putStringAt_47b60_2 iu_J5_397 (by decide) e2 (Nat.le_of_ble_eq_true rfl) (c_J5_inflateIfNeededFor_a7421 l0 l2 (by omega) e4) (fun v_ h_ n_ q_ => ?_)
  obtain ⟨q1_, q2_, q3_⟩ := q_
  subst v_; subst h_; subst n_
  show WW W0 G 3 _ _ _ 5 [some (.ref l0), some (.int l1), some (va_rf l2)] [] h n _ _
  refine rr_aload_nO (i := 2) C dJ5_putStringAt_47b60_5 rfl rfl ?_
  refine rr_aload_n (i := 0) C dJ5_putStringAt_47b60_6 rfl rfl ?_
  replace hr := Option.bind_eq_some_iff.mp hr
  obtain ⟨v5, e6, hr⟩ := hr
  refine rr_rdR C dJ5_putStringAt_47b60_7 fl_J5_15 e6 ?_
  refine rr_iload_n (i := 1) C dJ5_putStringAt_47b60_10 rfl rfl ?_
  refine rr_aload_n (i := 0) C dJ5_putStringAt_47b60_11 rfl rfl ?_
  replace hr := Option.bind_eq_some_iff.mp hr
  obtain ⟨v7, e8, hr⟩ := hr
  refine rr_rdI C dJ5_putStringAt_47b60_12 fl_J5_22 e8 ?_
  replace hr := Option.bind_eq_some_iff.mp hr
  obtain ⟨a9, e10, hr⟩ := hr
  subst e10
  replace hr := Option.bind_eq_some_iff.mp hr
  obtain ⟨u11, e12, hr⟩ := hr
  replace hr := Option.bind_eq_some_iff.mp hr
  obtain ⟨v13, e14, hr⟩ := hr
  refine rr_callVS (as := [va_rf v5, .int l1, .int v7]) (st := []) (mc' := 0) (ms' := 0) C dJ5_putStringAt_47b60_15 iv_J5_399 rfl (by decide) e12 (Nat.le_of_ble_eq_true rfl) (c_J0_getBytes_840e7 a9 v5 l1 v7 (by omega) e14) (fun v_ h_ n_ q_ => ?_)
  obtain ⟨q1_, q2_, q3_⟩ := q_
  subst v_; subst h_; subst n_
  show WW W0 G 3 _ _ _ 18 [some (.ref l0), some (.int l1), some (.ref a9)] [] v13 n _ _
  obtain rfl := Option.some.inj hr
  exact rr_vret C dJ5_putStringAt_47b60_18 rfl ⟨rfl, rfl, rfl⟩
def q_J5_append_cf1ce (K : Nat) (h : mm_H) (n : Nat) (l0 : Nat) (l1 : Option Nat) : Option (Option Nat × mm_H × Nat) :=
  match l1 with
  | none =>
    none
  | some a1 =>
    (ckS h n a1).bind fun u2 =>
    (q_J0_length_8abf5 K h n a1).bind fun v4 =>
    (rdI h n l0 11 3).bind fun v6 =>
    (ckq h n l0 11).bind fun u8 =>
    (q_J5_ensureCapacityInternal_d00df K h n l0 (v6 + v4)).bind fun (h10, n11) =>
    (rdI h10 n11 l0 11 3).bind fun v15 =>
    (ckq h10 n11 l0 11).bind fun u17 =>
    (q_J5_putStringAt_47b60 K h10 n11 l0 v15 (some a1)).bind fun v19 =>
    (rdI v19 n11 l0 11 3).bind fun v21 =>
    (wrF v19 n11 l0 11 3 (.int (v21 + v4))).bind fun h23 =>
    some ((some l0), h23, n11)
set_option maxRecDepth 100000 in
set_option maxHeartbeats 4000000 in
theorem c_J5_append_cf1ce {K : Nat} {G : mm_G} {l : Launch} {h : mm_H} {n : Nat} (l0 : Nat) (l1 : Option Nat) {r_ : Option Nat × mm_H × Nat} (hn : 48 ≤ n) (hr : q_J5_append_cf1ce K h n l0 l1 = some r_) : Sp G l yJ5_append_cf1ce cJ5_append_cf1ce 3 (some (.object "java/lang/AbstractStringBuilder")) 4 1 300 [.ref l0, va_rf l1] h n (fun v h' n' => v = some (va_rf r_.1) ∧ h' = r_.2.1 ∧ n' = r_.2.2 ∧ n ≤ n') := by
  refine Sp_of (by decide +kernel) (by rcases l1 with _ | _ <;> exact Nat.le_of_ble_eq_true rfl) hn ?_
  intro W0 hwl C
  subst hwl
  unfold q_J5_append_cf1ce at hr
  rw [show mm_en 3 [.ref l0, va_rf l1] = [some (.ref l0), some (va_rf l1), none] from by rcases l1 with _ | _ <;> rfl]
  show WW W0 G 3 1 300 _ 0 [some (.ref l0), some (va_rf l1), none] [] h n 1 300
  refine rr_aload_nO (i := 1) C dJ5_append_cf1ce_0 rfl rfl ?_
  rcases l1 with _ | a1
  · dsimp only at hr
    refine rr_ifnonnullN C dJ5_append_cf1ce_1 ?_
    refine rr_aload_n (i := 0) C dJ5_append_cf1ce_4 rfl rfl ?_
    cases hr
  · dsimp only at hr
    refine rr_ifnonnull (tgt := 9) C dJ5_append_cf1ce_1 (by decide) ?_
    refine rr_aload_n (i := 1) C dJ5_append_cf1ce_9 rfl rfl ?_
    replace hr := Option.bind_eq_some_iff.mp hr
    obtain ⟨u2, e3, hr⟩ := hr
    replace hr := Option.bind_eq_some_iff.mp hr
    obtain ⟨v4, e5, hr⟩ := hr
    refine rr_callVS (as := []) (st := []) (mc' := 0) (ms' := 0) C dJ5_append_cf1ce_10 iv_J5_32 rfl (by decide) e3 (Nat.le_of_ble_eq_true rfl) (c_J0_length_8abf5 a1 (by omega) e5) (fun v_ h_ n_ q_ => ?_)
    obtain ⟨q1_, q2_, q3_⟩ := q_
    subst v_; subst h_; subst n_
    show WW W0 G 3 _ _ _ 13 [some (.ref l0), some (.ref a1), none] [.int v4] h n _ _
    refine rr_istore_n (i := 2) C dJ5_append_cf1ce_13 rfl (by decide) ?_
    show WW W0 G 3 _ _ _ 14 [some (.ref l0), some (.ref a1), some (.int v4)] [] h n _ _
    refine rr_aload_n (i := 0) C dJ5_append_cf1ce_14 rfl rfl ?_
    refine rr_aload_n (i := 0) C dJ5_append_cf1ce_15 rfl rfl ?_
    replace hr := Option.bind_eq_some_iff.mp hr
    obtain ⟨v6, e7, hr⟩ := hr
    refine rr_rdI C dJ5_append_cf1ce_16 fl_J5_79 e7 ?_
    refine rr_iload_n (i := 2) C dJ5_append_cf1ce_19 rfl rfl ?_
    refine rr_iadd C dJ5_append_cf1ce_20 ?_
    replace hr := Option.bind_eq_some_iff.mp hr
    obtain ⟨u8, e9, hr⟩ := hr
    refine rr_cut C (kc' := 0 + 1) (ks' := 0 + 300) (by omega) (by omega) ?_
    replace hr := Option.bind_eq_some_iff.mp hr
    obtain ⟨⟨h10, n11⟩, e13, hr⟩ := hr
    dsimp only at hr
    refine rr_callVU (as := [.int (v6 + v4)]) (st := []) (mc' := 1) (ms' := 300) C dJ5_append_cf1ce_21 iu_J5_100 (by decide) e9 (Nat.le_of_ble_eq_true rfl) (c_J5_ensureCapacityInternal_d00df l0 (v6 + v4) (by omega) e13) (fun v_ h_ n_ q_ => ?_)
    obtain ⟨q1_, q2_, q3_, b14⟩ := q_
    subst v_; subst h_; subst n_
    try dsimp only at b14
    show WW W0 G 3 _ _ _ 24 [some (.ref l0), some (.ref a1), some (.int v4)] [] h10 n11 _ _
    refine rr_aload_n (i := 0) C dJ5_append_cf1ce_24 rfl rfl ?_
    refine rr_aload_n (i := 0) C dJ5_append_cf1ce_25 rfl rfl ?_
    replace hr := Option.bind_eq_some_iff.mp hr
    obtain ⟨v15, e16, hr⟩ := hr
    refine rr_rdI C dJ5_append_cf1ce_26 fl_J5_79 e16 ?_
    refine rr_aload_n (i := 1) C dJ5_append_cf1ce_29 rfl rfl ?_
    replace hr := Option.bind_eq_some_iff.mp hr
    obtain ⟨u17, e18, hr⟩ := hr
    replace hr := Option.bind_eq_some_iff.mp hr
    obtain ⟨v19, e20, hr⟩ := hr
    refine rr_callVU (as := [.int v15, .ref a1]) (st := []) (mc' := 0) (ms' := 0) C dJ5_append_cf1ce_30 iu_J5_208 (by decide) e18 (Nat.le_of_ble_eq_true rfl) (c_J5_putStringAt_47b60 l0 v15 (some a1) (by omega) e20) (fun v_ h_ n_ q_ => ?_)
    obtain ⟨q1_, q2_, q3_⟩ := q_
    subst v_; subst h_; subst n_
    show WW W0 G 3 _ _ _ 33 [some (.ref l0), some (.ref a1), some (.int v4)] [] v19 n11 _ _
    refine rr_aload_n (i := 0) C dJ5_append_cf1ce_33 rfl rfl ?_
    refine rr_dup C dJ5_append_cf1ce_34 rfl ?_
    replace hr := Option.bind_eq_some_iff.mp hr
    obtain ⟨v21, e22, hr⟩ := hr
    refine rr_rdI C dJ5_append_cf1ce_35 fl_J5_79 e22 ?_
    refine rr_iload_n (i := 2) C dJ5_append_cf1ce_38 rfl rfl ?_
    refine rr_iadd C dJ5_append_cf1ce_39 ?_
    replace hr := Option.bind_eq_some_iff.mp hr
    obtain ⟨h23, e24, hr⟩ := hr
    refine rr_wrF C dJ5_append_cf1ce_40 fp_J5_79 rfl rfl e24 ?_
    refine rr_aload_n (i := 0) C dJ5_append_cf1ce_43 rfl rfl ?_
    obtain rfl := Option.some.inj hr
    exact rr_aret (r := (some l0)) C dJ5_append_cf1ce_44 rfl (Or.inl ⟨_, rfl⟩) ⟨rfl, rfl, rfl, by omega⟩
def q_J5_append_c97b9 (K : Nat) (h : mm_H) (n : Nat) (l0 : Nat) (l1 : Int32) : Option (Option Nat × mm_H × Nat) :=
  (rdI h n l0 11 3).bind fun v1 =>
  (q_J6_stringSize_0f7a4 K h n l1).bind fun v3 =>
  (ckq h n l0 11).bind fun u6 =>
  (q_J5_ensureCapacityInternal_d00df K h n l0 (v1 + v3)).bind fun (h8, n9) =>
  (ckq h8 n9 l0 11).bind fun u13 =>
  (q_J5_isLatin1_aae02 K h8 n9 l0).bind fun v15 =>
  if v15 = 0 then
    (rdR h8 n9 l0 11 0).bind fun v17 =>
    none
  else
  (rdR h8 n9 l0 11 0).bind fun v19 =>
  (q_J6_getChars_ba4f3 K h8 n9 l1 (v1 + v3) v19).bind fun v21 =>
  (wrF v21.2 n9 l0 11 3 (.int (v1 + v3))).bind fun h23 =>
  some ((some l0), h23, n9)
set_option maxRecDepth 100000 in
set_option maxHeartbeats 4000000 in
theorem c_J5_append_c97b9 {K : Nat} {G : mm_G} {l : Launch} {h : mm_H} {n : Nat} (l0 : Nat) (l1 : Int32) {r_ : Option Nat × mm_H × Nat} (hn : 48 ≤ n) (hr : q_J5_append_c97b9 K h n l0 l1 = some r_) : Sp G l yJ5_append_c97b9 cJ5_append_c97b9 4 (some (.object "java/lang/AbstractStringBuilder")) 4 1 300 [.ref l0, .int l1] h n (fun v h' n' => v = some (va_rf r_.1) ∧ h' = r_.2.1 ∧ n' = r_.2.2 ∧ n ≤ n') := by
  refine Sp_of (by decide +kernel) (Nat.le_of_ble_eq_true rfl) hn ?_
  intro W0 hwl C
  subst hwl
  unfold q_J5_append_c97b9 at hr
  show WW W0 G 4 1 300 _ 0 [some (.ref l0), some (.int l1), none, none] [] h n 1 300
  refine rr_aload_n (i := 0) C dJ5_append_c97b9_0 rfl rfl ?_
  replace hr := Option.bind_eq_some_iff.mp hr
  obtain ⟨v1, e2, hr⟩ := hr
  refine rr_rdI C dJ5_append_c97b9_1 fl_J5_79 e2 ?_
  refine rr_istore_n (i := 2) C dJ5_append_c97b9_4 rfl (by decide) ?_
  show WW W0 G 4 _ _ _ 5 [some (.ref l0), some (.int l1), some (.int v1), none] [] h n _ _
  refine rr_iload_n (i := 2) C dJ5_append_c97b9_5 rfl rfl ?_
  refine rr_iload_n (i := 1) C dJ5_append_c97b9_6 rfl rfl ?_
  replace hr := Option.bind_eq_some_iff.mp hr
  obtain ⟨v3, e4, hr⟩ := hr
  refine rr_callS (as := [.int l1]) (st := [.int v1]) (mc' := 0) (ms' := 0) C dJ5_append_c97b9_7 it_J5_245 (by decide) (Nat.le_of_ble_eq_true rfl) (c_J6_stringSize_0f7a4 l1 (by omega) e4) (fun v_ h_ n_ q_ => ?_)
  obtain ⟨q1_, q2_, q3_⟩ := q_
  subst v_; subst h_; subst n_
  show WW W0 G 4 _ _ _ 10 [some (.ref l0), some (.int l1), some (.int v1), none] [.int v3, .int v1] h n _ _
  refine rr_iadd C dJ5_append_c97b9_10 ?_
  refine rr_istore_n (i := 3) C dJ5_append_c97b9_11 rfl (by decide) ?_
  show WW W0 G 4 _ _ _ 12 [some (.ref l0), some (.int l1), some (.int v1), some (.int (v1 + v3))] [] h n _ _
  refine rr_aload_n (i := 0) C dJ5_append_c97b9_12 rfl rfl ?_
  refine rr_iload_n (i := 3) C dJ5_append_c97b9_13 rfl rfl ?_
  replace hr := Option.bind_eq_some_iff.mp hr
  obtain ⟨u6, e7, hr⟩ := hr
  refine rr_cut C (kc' := 0 + 1) (ks' := 0 + 300) (by omega) (by omega) ?_
  replace hr := Option.bind_eq_some_iff.mp hr
  obtain ⟨⟨h8, n9⟩, e11, hr⟩ := hr
  dsimp only at hr
  refine rr_callVU (as := [.int (v1 + v3)]) (st := []) (mc' := 1) (ms' := 300) C dJ5_append_c97b9_14 iu_J5_100 (by decide) e7 (Nat.le_of_ble_eq_true rfl) (c_J5_ensureCapacityInternal_d00df l0 (v1 + v3) (by omega) e11) (fun v_ h_ n_ q_ => ?_)
  obtain ⟨q1_, q2_, q3_, b12⟩ := q_
  subst v_; subst h_; subst n_
  try dsimp only at b12
  show WW W0 G 4 _ _ _ 17 [some (.ref l0), some (.int l1), some (.int v1), some (.int (v1 + v3))] [] h8 n9 _ _
  refine rr_aload_n (i := 0) C dJ5_append_c97b9_17 rfl rfl ?_
  replace hr := Option.bind_eq_some_iff.mp hr
  obtain ⟨u13, e14, hr⟩ := hr
  replace hr := Option.bind_eq_some_iff.mp hr
  obtain ⟨v15, e16, hr⟩ := hr
  refine rr_callVU (as := []) (st := []) (mc' := 0) (ms' := 0) C dJ5_append_c97b9_18 iu_J5_83 (by decide) e14 (Nat.le_of_ble_eq_true rfl) (c_J5_isLatin1_aae02 l0 (by omega) e16) (fun v_ h_ n_ q_ => ?_)
  obtain ⟨q1_, q2_, q3_⟩ := q_
  subst v_; subst h_; subst n_
  show WW W0 G 4 _ _ _ 21 [some (.ref l0), some (.int l1), some (.int v1), some (.int (v1 + v3))] [.int v15] h8 n9 _ _
  refine rr_if_eq (tgt := 37) C dJ5_append_c97b9_21 (by decide) (fun c21_ => ?_) (fun c21_ => ?_)
  · replace hr := (if_pos c21_).symm.trans hr
    refine rr_iload_n (i := 1) C dJ5_append_c97b9_37 rfl rfl ?_
    refine rr_iload_n (i := 2) C dJ5_append_c97b9_38 rfl rfl ?_
    refine rr_iload_n (i := 3) C dJ5_append_c97b9_39 rfl rfl ?_
    refine rr_aload_n (i := 0) C dJ5_append_c97b9_40 rfl rfl ?_
    replace hr := Option.bind_eq_some_iff.mp hr
    obtain ⟨v17, e18, hr⟩ := hr
    refine rr_rdR C dJ5_append_c97b9_41 fl_J5_15 e18 ?_
    cases hr
  · replace hr := (if_neg c21_).symm.trans hr
    refine rr_iload_n (i := 1) C dJ5_append_c97b9_24 rfl rfl ?_
    refine rr_iload_n (i := 3) C dJ5_append_c97b9_25 rfl rfl ?_
    refine rr_aload_n (i := 0) C dJ5_append_c97b9_26 rfl rfl ?_
    replace hr := Option.bind_eq_some_iff.mp hr
    obtain ⟨v19, e20, hr⟩ := hr
    refine rr_rdR C dJ5_append_c97b9_27 fl_J5_15 e20 ?_
    replace hr := Option.bind_eq_some_iff.mp hr
    obtain ⟨v21, e22, hr⟩ := hr
    refine rr_callS (as := [.int l1, .int (v1 + v3), va_rf v19]) (st := []) (mc' := 0) (ms' := 0) C dJ5_append_c97b9_30 it_J5_248 (by decide) (Nat.le_of_ble_eq_true rfl) (c_J6_getChars_ba4f3 l1 (v1 + v3) v19 (by omega) e22) (fun v_ h_ n_ q_ => ?_)
    obtain ⟨q1_, q2_, q3_⟩ := q_
    subst v_; subst h_; subst n_
    show WW W0 G 4 _ _ _ 33 [some (.ref l0), some (.int l1), some (.int v1), some (.int (v1 + v3))] [.int v21.1] v21.2 n9 _ _
    refine rr_pop C dJ5_append_c97b9_33 rfl ?_
    refine rr_goto (tgt := 48) C dJ5_append_c97b9_34 (by decide) ?_
    refine rr_aload_n (i := 0) C dJ5_append_c97b9_48 rfl rfl ?_
    refine rr_iload_n (i := 3) C dJ5_append_c97b9_49 rfl rfl ?_
    replace hr := Option.bind_eq_some_iff.mp hr
    obtain ⟨h23, e24, hr⟩ := hr
    refine rr_wrF C dJ5_append_c97b9_50 fp_J5_79 rfl rfl e24 ?_
    refine rr_aload_n (i := 0) C dJ5_append_c97b9_53 rfl rfl ?_
    obtain rfl := Option.some.inj hr
    exact rr_aret (r := (some l0)) C dJ5_append_c97b9_54 rfl (Or.inl ⟨_, rfl⟩) ⟨rfl, rfl, rfl, by omega⟩
def q_J4_append_15ec4 (K : Nat) (h : mm_H) (n : Nat) (l0 : Nat) (l1 : Option Nat) : Option (Option Nat × mm_H × Nat) :=
  (ckq h n l0 11).bind fun u1 =>
  (q_J5_append_cf1ce K h n l0 l1).bind fun (v5, h3, n4) =>
  some ((some l0), h3, n4)
set_option maxRecDepth 100000 in
set_option maxHeartbeats 4000000 in
theorem c_J4_append_15ec4 {K : Nat} {G : mm_G} {l : Launch} {h : mm_H} {n : Nat} (l0 : Nat) (l1 : Option Nat) {r_ : Option Nat × mm_H × Nat} (hn : 48 ≤ n) (hr : q_J4_append_15ec4 K h n l0 l1 = some r_) : Sp G l yJ4_append_15ec4 cJ4_append_15ec4 2 (some (.object "java/lang/StringBuilder")) 5 1 300 [.ref l0, va_rf l1] h n (fun v h' n' => v = some (va_rf r_.1) ∧ h' = r_.2.1 ∧ n' = r_.2.2 ∧ n ≤ n') := by
  refine Sp_of (by decide +kernel) (by rcases l1 with _ | _ <;> exact Nat.le_of_ble_eq_true rfl) hn ?_
  intro W0 hwl C
  subst hwl
  unfold q_J4_append_15ec4 at hr
  rw [show mm_en 2 [.ref l0, va_rf l1] = [some (.ref l0), some (va_rf l1)] from by rcases l1 with _ | _ <;> rfl]
  show WW W0 G 2 1 300 _ 0 [some (.ref l0), some (va_rf l1)] [] h n 1 300
  refine rr_aload_n (i := 0) C dJ4_append_15ec4_0 rfl rfl ?_
  refine rr_aload_nO (i := 1) C dJ4_append_15ec4_1 rfl rfl ?_
  replace hr := Option.bind_eq_some_iff.mp hr
  obtain ⟨u1, e2, hr⟩ := hr
  refine rr_cut C (kc' := 0 + 1) (ks' := 0 + 300) (by omega) (by omega) ?_
  replace hr := Option.bind_eq_some_iff.mp hr
  obtain ⟨⟨v5, h3, n4⟩, e6, hr⟩ := hr
  dsimp only at hr
  refine rr_callSU (as := [va_rf l1]) (st := []) (mc' := 1) (ms' := 300) C dJ4_append_15ec4_2 is_J4_29 (by decide) e2 (Nat.le_of_ble_eq_true rfl) (c_J5_append_cf1ce l0 l1 (by omega) e6) (fun v_ h_ n_ q_ => ?_)
  obtain ⟨q1_, q2_, q3_, b7⟩ := q_
  subst v_; subst h_; subst n_
  try dsimp only at b7
  show WW W0 G 2 _ _ _ 5 [some (.ref l0), some (va_rf l1)] [va_rf v5] h3 n4 _ _
  refine rr_pop C dJ4_append_15ec4_5 (rf_cat _) ?_
  refine rr_aload_n (i := 0) C dJ4_append_15ec4_6 rfl rfl ?_
  obtain rfl := Option.some.inj hr
  exact rr_aret (r := (some l0)) C dJ4_append_15ec4_7 rfl (Or.inl ⟨_, rfl⟩) ⟨rfl, rfl, rfl, by omega⟩
def q_J4_append_bf812 (K : Nat) (h : mm_H) (n : Nat) (l0 : Nat) (l1 : Int32) : Option (Option Nat × mm_H × Nat) :=
  (ckq h n l0 11).bind fun u1 =>
  (q_J5_append_c97b9 K h n l0 l1).bind fun (v5, h3, n4) =>
  some ((some l0), h3, n4)
set_option maxRecDepth 100000 in
set_option maxHeartbeats 4000000 in
theorem c_J4_append_bf812 {K : Nat} {G : mm_G} {l : Launch} {h : mm_H} {n : Nat} (l0 : Nat) (l1 : Int32) {r_ : Option Nat × mm_H × Nat} (hn : 48 ≤ n) (hr : q_J4_append_bf812 K h n l0 l1 = some r_) : Sp G l yJ4_append_bf812 cJ4_append_bf812 2 (some (.object "java/lang/StringBuilder")) 5 1 300 [.ref l0, .int l1] h n (fun v h' n' => v = some (va_rf r_.1) ∧ h' = r_.2.1 ∧ n' = r_.2.2 ∧ n ≤ n') := by
  refine Sp_of (by decide +kernel) (Nat.le_of_ble_eq_true rfl) hn ?_
  intro W0 hwl C
  subst hwl
  unfold q_J4_append_bf812 at hr
  show WW W0 G 2 1 300 _ 0 [some (.ref l0), some (.int l1)] [] h n 1 300
  refine rr_aload_n (i := 0) C dJ4_append_bf812_0 rfl rfl ?_
  refine rr_iload_n (i := 1) C dJ4_append_bf812_1 rfl rfl ?_
  replace hr := Option.bind_eq_some_iff.mp hr
  obtain ⟨u1, e2, hr⟩ := hr
  refine rr_cut C (kc' := 0 + 1) (ks' := 0 + 300) (by omega) (by omega) ?_
  replace hr := Option.bind_eq_some_iff.mp hr
  obtain ⟨⟨v5, h3, n4⟩, e6, hr⟩ := hr
  dsimp only at hr
  refine rr_callSU (as := [.int l1]) (st := []) (mc' := 1) (ms' := 300) C dJ4_append_bf812_2 is_J4_53 (by decide) e2 (Nat.le_of_ble_eq_true rfl) (c_J5_append_c97b9 l0 l1 (by omega) e6) (fun v_ h_ n_ q_ => ?_)
  obtain ⟨q1_, q2_, q3_, b7⟩ := q_
  subst v_; subst h_; subst n_
  try dsimp only at b7
  show WW W0 G 2 _ _ _ 5 [some (.ref l0), some (.int l1)] [va_rf v5] h3 n4 _ _
  refine rr_pop C dJ4_append_bf812_5 (rf_cat _) ?_
  refine rr_aload_n (i := 0) C dJ4_append_bf812_6 rfl rfl ?_
  obtain rfl := Option.some.inj hr
  exact rr_aret (r := (some l0)) C dJ4_append_bf812_7 rfl (Or.inl ⟨_, rfl⟩) ⟨rfl, rfl, rfl, by omega⟩
def q_J7_copyOfRangeByte_39247 (K : Nat) (h : mm_H) (n : Nat) (l0 : Option Nat) (l1 : Int32) (l2 : Int32) : Option (Option Nat × mm_H × Nat) :=
  (q_J7_checkLength_df160 K h n l1 l2).bind fun v1 =>
  (newI h n .byte 300 (l2 - l1)).bind fun h4 =>
  l0.bind fun a6 =>
  (lenA h4 (n + 1) a6 2).bind fun v8 =>
  (cpB h4 (n + 1) a6 l1 n 0 (i_min (v8 - l1) (l2 - l1))).bind fun h10 =>
  some ((some n), h10, n + 1)
set_option maxRecDepth 100000 in
set_option maxHeartbeats 4000000 in
theorem c_J7_copyOfRangeByte_39247 {K : Nat} {G : mm_G} {l : Launch} {h : mm_H} {n : Nat} (l0 : Option Nat) (l1 : Int32) (l2 : Int32) {r_ : Option Nat × mm_H × Nat} (hn : 48 ≤ n) (hr : q_J7_copyOfRangeByte_39247 K h n l0 l1 l2 = some r_) : Sp G l yJ7_copyOfRangeByte_39247 cJ7_copyOfRangeByte_39247 5 (some (.array .byte)) 1 1 300 [va_rf l0, .int l1, .int l2] h n (fun v h' n' => v = some (va_rf r_.1) ∧ h' = r_.2.1 ∧ n' = r_.2.2 ∧ n ≤ n') := by
  refine Sp_of (by decide +kernel) (by rcases l0 with _ | _ <;> exact Nat.le_of_ble_eq_true rfl) hn ?_
  intro W0 hwl C
  subst hwl
  unfold q_J7_copyOfRangeByte_39247 at hr
  rw [show mm_en 5 [va_rf l0, .int l1, .int l2] = [some (va_rf l0), some (.int l1), some (.int l2), none, none] from by rcases l0 with _ | _ <;> rfl]
  show WW W0 G 5 1 300 _ 0 [some (va_rf l0), some (.int l1), some (.int l2), none, none] [] h n 1 300
  refine rr_iload_n (i := 1) C dJ7_copyOfRangeByte_39247_0 rfl rfl ?_
  refine rr_iload_n (i := 2) C dJ7_copyOfRangeByte_39247_1 rfl rfl ?_
  replace hr := Option.bind_eq_some_iff.mp hr
  obtain ⟨v1, e2, hr⟩ := hr
  refine rr_callS (as := [.int l1, .int l2]) (st := []) (mc' := 0) (ms' := 0) C dJ7_copyOfRangeByte_39247_2 it_J7_343 (by decide) (Nat.le_of_ble_eq_true rfl) (c_J7_checkLength_df160 l1 l2 (by omega) e2) (fun v_ h_ n_ q_ => ?_)
  obtain ⟨q1_, q2_, q3_⟩ := q_
  subst v_; subst h_; subst n_
  show WW W0 G 5 _ _ _ 5 [some (va_rf l0), some (.int l1), some (.int l2), none, none] [] h n _ _
  refine rr_iload_n (i := 2) C dJ7_copyOfRangeByte_39247_5 rfl rfl ?_
  refine rr_iload_n (i := 1) C dJ7_copyOfRangeByte_39247_6 rfl rfl ?_
  refine rr_isub C dJ7_copyOfRangeByte_39247_7 ?_
  refine rr_istore_n (i := 3) C dJ7_copyOfRangeByte_39247_8 rfl (by decide) ?_
  show WW W0 G 5 _ _ _ 9 [some (va_rf l0), some (.int l1), some (.int l2), some (.int (l2 - l1)), none] [] h n _ _
  refine rr_iload_n (i := 3) C dJ7_copyOfRangeByte_39247_9 rfl rfl ?_
  refine rr_cut C (kc' := 0 + 1) (ks' := 0 + 300) (by omega) (by omega) ?_
  replace hr := Option.bind_eq_some_iff.mp hr
  obtain ⟨h4, e5, hr⟩ := hr
  refine rr_newIq C dJ7_copyOfRangeByte_39247_10 (t0 := 2) rfl rfl (by decide) rfl ac_byte (N := 300) (by decide) e5 ?_
  show WW W0 G 5 _ _ _ 12 [some (va_rf l0), some (.int l1), some (.int l2), some (.int (l2 - l1)), none] [.ref n] h4 (n + 1) _ _
  refine rr_astore C dJ7_copyOfRangeByte_39247_12 (by decide) ?_
  show WW W0 G 5 _ _ _ 14 [some (va_rf l0), some (.int l1), some (.int l2), some (.int (l2 - l1)), some (.ref n)] [] h4 (n + 1) _ _
  refine rr_aload_nO (i := 0) C dJ7_copyOfRangeByte_39247_14 rfl rfl ?_
  refine rr_iload_n (i := 1) C dJ7_copyOfRangeByte_39247_15 rfl rfl ?_
  refine rr_aload C dJ7_copyOfRangeByte_39247_16 rfl ?_
  refine rr_iconst (v := 0) C dJ7_copyOfRangeByte_39247_18 (by decide) ?_
  refine rr_aload_nO (i := 0) C dJ7_copyOfRangeByte_39247_19 rfl rfl ?_
  replace hr := Option.bind_eq_some_iff.mp hr
  obtain ⟨a6, e7, hr⟩ := hr
  subst e7
  replace hr := Option.bind_eq_some_iff.mp hr
  obtain ⟨v8, e9, hr⟩ := hr
  refine rr_lenA C dJ7_copyOfRangeByte_39247_20 e9 ?_
  refine rr_iload_n (i := 1) C dJ7_copyOfRangeByte_39247_21 rfl rfl ?_
  refine rr_isub C dJ7_copyOfRangeByte_39247_22 ?_
  refine rr_iload_n (i := 3) C dJ7_copyOfRangeByte_39247_23 rfl rfl ?_
  refine rr_mmin C dJ7_copyOfRangeByte_39247_24 ma_J7_304 (by decide) (Nat.le_of_ble_eq_true rfl) ?_
  replace hr := Option.bind_eq_some_iff.mp hr
  obtain ⟨h10, e11, hr⟩ := hr
  refine rr_acopybq C dJ7_copyOfRangeByte_39247_27 kl_150 (by decide) (Nat.le_of_ble_eq_true rfl) e11 ?_
  show WW W0 G 5 _ _ _ 30 [some (.ref a6), some (.int l1), some (.int l2), some (.int (l2 - l1)), some (.ref n)] [] h10 (n + 1) _ _
  refine rr_aload C dJ7_copyOfRangeByte_39247_30 rfl ?_
  obtain rfl := Option.some.inj hr
  exact rr_aret (r := (some n)) C dJ7_copyOfRangeByte_39247_32 rfl (Or.inr ⟨_, rfl⟩) ⟨rfl, rfl, rfl, by omega⟩
def q_J7_copyOfRange_39247 (K : Nat) (h : mm_H) (n : Nat) (l0 : Option Nat) (l1 : Int32) (l2 : Int32) : Option (Option Nat × mm_H × Nat) :=
  if l1 = 0 then
    l0.bind fun a1 =>
    (lenA h n a1 2).bind fun v3 =>
    if l2 = v3 then
      (clB h n a1 300).bind fun h5 =>
      (ckB h5 (n + 1) n).bind fun u7 =>
      some ((some n), h5, n + 1)
    else
    (q_J7_copyOfRangeByte_39247 K h n (some a1) l1 l2).bind fun (v11, h9, n10) =>
    some (v11, h9, n10)
  else
  (q_J7_copyOfRangeByte_39247 K h n l0 l1 l2).bind fun (v16, h14, n15) =>
  some (v16, h14, n15)
set_option maxRecDepth 100000 in
set_option maxHeartbeats 4000000 in
theorem c_J7_copyOfRange_39247 {K : Nat} {G : mm_G} {l : Launch} {h : mm_H} {n : Nat} (l0 : Option Nat) (l1 : Int32) (l2 : Int32) {r_ : Option Nat × mm_H × Nat} (hn : 48 ≤ n) (hr : q_J7_copyOfRange_39247 K h n l0 l1 l2 = some r_) : Sp G l yJ7_copyOfRange_39247 cJ7_copyOfRange_39247 3 (some (.array .byte)) 2 1 300 [va_rf l0, .int l1, .int l2] h n (fun v h' n' => v = some (va_rf r_.1) ∧ h' = r_.2.1 ∧ n' = r_.2.2 ∧ n ≤ n') := by
  refine Sp_of (by decide +kernel) (by rcases l0 with _ | _ <;> exact Nat.le_of_ble_eq_true rfl) hn ?_
  intro W0 hwl C
  subst hwl
  unfold q_J7_copyOfRange_39247 at hr
  rw [show mm_en 3 [va_rf l0, .int l1, .int l2] = [some (va_rf l0), some (.int l1), some (.int l2)] from by rcases l0 with _ | _ <;> rfl]
  show WW W0 G 3 1 300 _ 0 [some (va_rf l0), some (.int l1), some (.int l2)] [] h n 1 300
  refine rr_iload_n (i := 1) C dJ7_copyOfRange_39247_0 rfl rfl ?_
  refine rr_if_ne (tgt := 10) C dJ7_copyOfRange_39247_1 (by decide) (fun c1_ => ?_) (fun c1_ => ?_)
  · replace hr := (if_neg c1_).symm.trans hr
    refine rr_aload_nO (i := 0) C dJ7_copyOfRange_39247_10 rfl rfl ?_
    refine rr_iload_n (i := 1) C dJ7_copyOfRange_39247_11 rfl rfl ?_
    refine rr_iload_n (i := 2) C dJ7_copyOfRange_39247_12 rfl rfl ?_
    refine rr_cut C (kc' := 0 + 1) (ks' := 0 + 300) (by omega) (by omega) ?_
    replace hr := Option.bind_eq_some_iff.mp hr
    obtain ⟨⟨v16, h14, n15⟩, e17, hr⟩ := hr
    dsimp only at hr
    refine rr_callS (as := [va_rf l0, .int l1, .int l2]) (st := []) (mc' := 1) (ms' := 300) C dJ7_copyOfRange_39247_13 it_J7_339 (by decide) (Nat.le_of_ble_eq_true rfl) (c_J7_copyOfRangeByte_39247 l0 l1 l2 (by omega) e17) (fun v_ h_ n_ q_ => ?_)
    obtain ⟨q1_, q2_, q3_, b18⟩ := q_
    subst v_; subst h_; subst n_
    try dsimp only at b18
    show WW W0 G 3 _ _ _ 16 [some (va_rf l0), some (.int l1), some (.int l2)] [va_rf v16] h14 n15 _ _
    obtain rfl := Option.some.inj hr
    exact rr_aret (r := v16) C dJ7_copyOfRange_39247_16 rfl (Or.inr ⟨_, rfl⟩) ⟨rfl, rfl, rfl, by omega⟩
  · replace hr := (if_pos c1_).symm.trans hr
    refine rr_iload_n (i := 2) C dJ7_copyOfRange_39247_4 rfl rfl ?_
    refine rr_aload_nO (i := 0) C dJ7_copyOfRange_39247_5 rfl rfl ?_
    replace hr := Option.bind_eq_some_iff.mp hr
    obtain ⟨a1, e2, hr⟩ := hr
    subst e2
    replace hr := Option.bind_eq_some_iff.mp hr
    obtain ⟨v3, e4, hr⟩ := hr
    refine rr_lenA C dJ7_copyOfRange_39247_6 e4 ?_
    refine rr_icmp_eq (tgt := 17) C dJ7_copyOfRange_39247_7 (by decide) (fun c7_ => ?_) (fun c7_ => ?_)
    · replace hr := (if_pos c7_).symm.trans hr
      refine rr_aload_n (i := 0) C dJ7_copyOfRange_39247_17 rfl rfl ?_
      refine rr_cut C (kc' := 0 + 1) (ks' := 0 + 300) (by omega) (by omega) ?_
      replace hr := Option.bind_eq_some_iff.mp hr
      obtain ⟨h5, e6, hr⟩ := hr
      refine rr_clonebq C dJ7_copyOfRange_39247_18 kl_310 (by decide) (Nat.le_of_ble_eq_true rfl) e6 ?_
      show WW W0 G 3 _ _ _ 21 [some (.ref a1), some (.int l1), some (.int l2)] [.ref n] h5 (n + 1) _ _
      replace hr := Option.bind_eq_some_iff.mp hr
      obtain ⟨u7, e8, hr⟩ := hr
      refine rr_castbq C dJ7_copyOfRange_39247_21 kl_311 e8 ?_
      obtain rfl := Option.some.inj hr
      exact rr_aret (r := (some n)) C dJ7_copyOfRange_39247_24 rfl (Or.inr ⟨_, rfl⟩) ⟨rfl, rfl, rfl, by omega⟩
    · replace hr := (if_neg c7_).symm.trans hr
      refine rr_aload_n (i := 0) C dJ7_copyOfRange_39247_10 rfl rfl ?_
      refine rr_iload_n (i := 1) C dJ7_copyOfRange_39247_11 rfl rfl ?_
      refine rr_iload_n (i := 2) C dJ7_copyOfRange_39247_12 rfl rfl ?_
      refine rr_cut C (kc' := 0 + 1) (ks' := 0 + 300) (by omega) (by omega) ?_
      replace hr := Option.bind_eq_some_iff.mp hr
      obtain ⟨⟨v11, h9, n10⟩, e12, hr⟩ := hr
      dsimp only at hr
      refine rr_callS (as := [.ref a1, .int l1, .int l2]) (st := []) (mc' := 1) (ms' := 300) C dJ7_copyOfRange_39247_13 it_J7_339 (by decide) (Nat.le_of_ble_eq_true rfl) (c_J7_copyOfRangeByte_39247 (some a1) l1 l2 (by omega) e12) (fun v_ h_ n_ q_ => ?_)
      obtain ⟨q1_, q2_, q3_, b13⟩ := q_
      subst v_; subst h_; subst n_
      try dsimp only at b13
      show WW W0 G 3 _ _ _ 16 [some (.ref a1), some (.int l1), some (.int l2)] [va_rf v11] h9 n10 _ _
      obtain rfl := Option.some.inj hr
      exact rr_aret (r := v11) C dJ7_copyOfRange_39247_16 rfl (Or.inr ⟨_, rfl⟩) ⟨rfl, rfl, rfl, by omega⟩
def q_J0_init_db425 (K : Nat) (h : mm_H) (n : Nat) (l0 : Nat) (l1 : Option Nat) (l2 : Option Nat) : Option (mm_H × Nat) :=
  l1.bind fun a1 =>
  (ckq h n a1 11).bind fun u3 =>
  (q_J5_getValue_6d5f1 K h n a1).bind fun v5 =>
  (ckq h n a1 11).bind fun u7 =>
  (q_J4_length_8abf5 K h n a1).bind fun v9 =>
  (ckq h n a1 11).bind fun u11 =>
  (q_J5_isLatin1_aae02 K h n a1).bind fun v13 =>
  if v13 = 0 then
    (rdI h n a1 11 2).bind fun v15 =>
    if v15 = 0 then
      (wrF h n l0 10 1 (.int 1)).bind fun h17 =>
      (q_J7_copyOfRange_39247 K h17 n v5 0 (v9 <<< (1 &&& 31))).bind fun (v21, h19, n20) =>
      (wrF h19 n20 l0 10 0 (va_rf v21)).bind fun h24 =>
      some (h24, n20)
    else
    none
  else
  (wrF h n l0 10 1 (.int 0)).bind fun h26 =>
  (q_J7_copyOfRange_39247 K h26 n v5 0 v9).bind fun (v30, h28, n29) =>
  (wrF h28 n29 l0 10 0 (va_rf v30)).bind fun h33 =>
  some (h33, n29)
set_option maxRecDepth 100000 in
set_option maxHeartbeats 4000000 in
theorem c_J0_init_db425 {K : Nat} {G : mm_G} {l : Launch} {h : mm_H} {n : Nat} (l0 : Nat) (l1 : Option Nat) (l2 : Option Nat) {r_ : mm_H × Nat} (hn : 48 ≤ n) (hr : q_J0_init_db425 K h n l0 l1 l2 = some r_) : Sp G l yJ0_init_db425 cJ0_init_db425 5 none 3 2 600 [.ref l0, va_rf l1, va_rf l2] h n (fun v h' n' => v = none ∧ h' = r_.1 ∧ n' = r_.2 ∧ n ≤ n') := by
  refine Sp_of (by decide +kernel) (by rcases l1 with _ | _ <;> rcases l2 with _ | _ <;> exact Nat.le_of_ble_eq_true rfl) hn ?_
  intro W0 hwl C
  subst hwl
  unfold q_J0_init_db425 at hr
  rw [show mm_en 5 [.ref l0, va_rf l1, va_rf l2] = [some (.ref l0), some (va_rf l1), some (va_rf l2), none, none] from by rcases l1 with _ | _ <;> rcases l2 with _ | _ <;> rfl]
  show WW W0 G 5 2 600 _ 0 [some (.ref l0), some (va_rf l1), some (va_rf l2), none, none] [] h n 2 600
  refine rr_aload_n (i := 0) C dJ0_init_db425_0 rfl rfl ?_
  refine rr_obj C dJ0_init_db425_1 oi_J0 (by decide) (Nat.le_of_ble_eq_true rfl) ?_
  refine rr_aload_nO (i := 1) C dJ0_init_db425_4 rfl rfl ?_
  replace hr := Option.bind_eq_some_iff.mp hr
  obtain ⟨a1, e2, hr⟩ := hr
  subst e2
  replace hr := Option.bind_eq_some_iff.mp hr
  obtain ⟨u3, e4, hr⟩ := hr
  replace hr := Option.bind_eq_some_iff.mp hr
  obtain ⟨v5, e6, hr⟩ := hr
  refine rr_callVU (as := []) (st := []) (mc' := 0) (ms' := 0) C dJ0_init_db425_5 iu_J0_552 (by decide) e4 (Nat.le_of_ble_eq_true rfl) (c_J5_getValue_6d5f1 a1 (by omega) e6) (fun v_ h_ n_ q_ => ?_)
  obtain ⟨q1_, q2_, q3_⟩ := q_
  subst v_; subst h_; subst n_
  show WW W0 G 5 _ _ _ 8 [some (.ref l0), some (.ref a1), some (va_rf l2), none, none] [va_rf v5] h n _ _
  refine rr_astore_nO (i := 3) C dJ0_init_db425_8 rfl (by decide) ?_
  rw [mm_set1_rf (i := 2) (r := l2) rfl]
  show WW W0 G 5 _ _ _ 9 [some (.ref l0), some (.ref a1), some (va_rf l2), some (va_rf v5), none] [] h n _ _
  refine rr_aload_n (i := 1) C dJ0_init_db425_9 rfl rfl ?_
  replace hr := Option.bind_eq_some_iff.mp hr
  obtain ⟨u7, e8, hr⟩ := hr
  replace hr := Option.bind_eq_some_iff.mp hr
  obtain ⟨v9, e10, hr⟩ := hr
  refine rr_callVO (as := []) (st := []) (mc' := 0) (ms' := 0) C dJ0_init_db425_10 io_J0_549 (by decide) e8 (Nat.le_of_ble_eq_true rfl) (c_J4_length_8abf5 a1 (by omega) e10) (fun v_ h_ n_ q_ => ?_)
  obtain ⟨q1_, q2_, q3_⟩ := q_
  subst v_; subst h_; subst n_
  show WW W0 G 5 _ _ _ 13 [some (.ref l0), some (.ref a1), some (va_rf l2), some (va_rf v5), none] [.int v9] h n _ _
  refine rr_istore C dJ0_init_db425_13 (by decide) ?_
  rw [mm_set1_rf (i := 3) (r := v5) rfl]
  show WW W0 G 5 _ _ _ 15 [some (.ref l0), some (.ref a1), some (va_rf l2), some (va_rf v5), some (.int v9)] [] h n _ _
  refine rr_aload_n (i := 1) C dJ0_init_db425_15 rfl rfl ?_
  replace hr := Option.bind_eq_some_iff.mp hr
  obtain ⟨u11, e12, hr⟩ := hr
  replace hr := Option.bind_eq_some_iff.mp hr
  obtain ⟨v13, e14, hr⟩ := hr
  refine rr_callVU (as := []) (st := []) (mc' := 0) (ms' := 0) C dJ0_init_db425_16 iu_J0_1047 (by decide) e12 (Nat.le_of_ble_eq_true rfl) (c_J5_isLatin1_aae02 a1 (by omega) e14) (fun v_ h_ n_ q_ => ?_)
  obtain ⟨q1_, q2_, q3_⟩ := q_
  subst v_; subst h_; subst n_
  show WW W0 G 5 _ _ _ 19 [some (.ref l0), some (.ref a1), some (va_rf l2), some (va_rf v5), some (.int v9)] [.int v13] h n _ _
  refine rr_if_eq (tgt := 41) C dJ0_init_db425_19 (by decide) (fun c19_ => ?_) (fun c19_ => ?_)
  · replace hr := (if_pos c19_).symm.trans hr
    refine rr_getsC C dJ0_init_db425_41 sl_J0_38 ?_
    refine rr_if_eq (tgt := 79) C dJ0_init_db425_44 (by decide) (fun q_ => absurd q_ (by decide)) (fun _ => ?_)
    refine rr_aload_n (i := 1) C dJ0_init_db425_47 rfl rfl ?_
    replace hr := Option.bind_eq_some_iff.mp hr
    obtain ⟨v15, e16, hr⟩ := hr
    refine rr_rdI C dJ0_init_db425_48 fl_J0_1048 e16 ?_
    refine rr_if_eq (tgt := 79) C dJ0_init_db425_51 (by decide) (fun c51_ => ?_) (fun c51_ => ?_)
    · replace hr := (if_pos c51_).symm.trans hr
      refine rr_aload_n (i := 0) C dJ0_init_db425_79 rfl rfl ?_
      refine rr_iconst (v := 1) C dJ0_init_db425_80 (by decide) ?_
      replace hr := Option.bind_eq_some_iff.mp hr
      obtain ⟨h17, e18, hr⟩ := hr
      refine rr_wrFF C dJ0_init_db425_81 fp_J0_15 rfl rfl e18 ?_
      refine rr_aload_n (i := 0) C dJ0_init_db425_84 rfl rfl ?_
      refine rr_aload_nO (i := 3) C dJ0_init_db425_85 rfl rfl ?_
      refine rr_iconst (v := 0) C dJ0_init_db425_86 (by decide) ?_
      refine rr_iload C dJ0_init_db425_87 rfl ?_
      refine rr_iconst (v := 1) C dJ0_init_db425_89 (by decide) ?_
      refine rr_ishl C dJ0_init_db425_90 ?_
      refine rr_cut C (kc' := 1 + 1) (ks' := 300 + 300) (by omega) (by omega) ?_
      replace hr := Option.bind_eq_some_iff.mp hr
      obtain ⟨⟨v21, h19, n20⟩, e22, hr⟩ := hr
      dsimp only at hr
      refine rr_callS (as := [va_rf v5, .int 0, .int (v9 <<< (1 &&& 31))]) (st := [.ref l0]) (mc' := 1) (ms' := 300) C dJ0_init_db425_91 it_J0_54 (by decide) (Nat.le_of_ble_eq_true rfl) (c_J7_copyOfRange_39247 v5 0 (v9 <<< (1 &&& 31)) (by omega) e22) (fun v_ h_ n_ q_ => ?_)
      obtain ⟨q1_, q2_, q3_, b23⟩ := q_
      subst v_; subst h_; subst n_
      try dsimp only at b23
      show WW W0 G 5 _ _ _ 94 [some (.ref l0), some (.ref a1), some (va_rf l2), some (va_rf v5), some (.int v9)] [va_rf v21, .ref l0] h19 n20 _ _
      replace hr := Option.bind_eq_some_iff.mp hr
      obtain ⟨h24, e25, hr⟩ := hr
      refine rr_wrFF C dJ0_init_db425_94 fp_J0_9 (na_rf _ _) (fi_rf rfl _) e25 ?_
      obtain rfl := Option.some.inj hr
      exact rr_vret C dJ0_init_db425_97 rfl ⟨rfl, rfl, rfl, by omega⟩
    · replace hr := (if_neg c51_).symm.trans hr
      refine rr_aload_n (i := 0) C dJ0_init_db425_54 rfl rfl ?_
      refine rr_aload_nO (i := 3) C dJ0_init_db425_55 rfl rfl ?_
      refine rr_iconst (v := 0) C dJ0_init_db425_56 (by decide) ?_
      refine rr_iload C dJ0_init_db425_57 rfl ?_
      cases hr
  · replace hr := (if_neg c19_).symm.trans hr
    refine rr_aload_n (i := 0) C dJ0_init_db425_22 rfl rfl ?_
    refine rr_iconst (v := 0) C dJ0_init_db425_23 (by decide) ?_
    replace hr := Option.bind_eq_some_iff.mp hr
    obtain ⟨h26, e27, hr⟩ := hr
    refine rr_wrFF C dJ0_init_db425_24 fp_J0_15 rfl rfl e27 ?_
    refine rr_aload_n (i := 0) C dJ0_init_db425_27 rfl rfl ?_
    refine rr_aload_nO (i := 3) C dJ0_init_db425_28 rfl rfl ?_
    refine rr_iconst (v := 0) C dJ0_init_db425_29 (by decide) ?_
    refine rr_iload C dJ0_init_db425_30 rfl ?_
    refine rr_cut C (kc' := 1 + 1) (ks' := 300 + 300) (by omega) (by omega) ?_
    replace hr := Option.bind_eq_some_iff.mp hr
    obtain ⟨⟨v30, h28, n29⟩, e31, hr⟩ := hr
    dsimp only at hr
    refine rr_callS (as := [va_rf v5, .int 0, .int v9]) (st := [.ref l0]) (mc' := 1) (ms' := 300) C dJ0_init_db425_32 it_J0_54 (by decide) (Nat.le_of_ble_eq_true rfl) (c_J7_copyOfRange_39247 v5 0 v9 (by omega) e31) (fun v_ h_ n_ q_ => ?_)
    obtain ⟨q1_, q2_, q3_, b32⟩ := q_
    subst v_; subst h_; subst n_
    try dsimp only at b32
    show WW W0 G 5 _ _ _ 35 [some (.ref l0), some (.ref a1), some (va_rf l2), some (va_rf v5), some (.int v9)] [va_rf v30, .ref l0] h28 n29 _ _
    replace hr := Option.bind_eq_some_iff.mp hr
    obtain ⟨h33, e34, hr⟩ := hr
    refine rr_wrFF C dJ0_init_db425_35 fp_J0_9 (na_rf _ _) (fi_rf rfl _) e34 ?_
    refine rr_goto (tgt := 97) C dJ0_init_db425_38 (by decide) ?_
    obtain rfl := Option.some.inj hr
    exact rr_vret C dJ0_init_db425_97 rfl ⟨rfl, rfl, rfl, by omega⟩
def q_J0_init_81219 (K : Nat) (h : mm_H) (n : Nat) (l0 : Nat) (l1 : Option Nat) : Option (mm_H × Nat) :=
  (q_J0_init_db425 K h n l0 l1 none).bind fun (h1, n2) =>
  some (h1, n2)
set_option maxRecDepth 100000 in
set_option maxHeartbeats 4000000 in
theorem c_J0_init_81219 {K : Nat} {G : mm_G} {l : Launch} {h : mm_H} {n : Nat} (l0 : Nat) (l1 : Option Nat) {r_ : mm_H × Nat} (hn : 48 ≤ n) (hr : q_J0_init_81219 K h n l0 l1 = some r_) : Sp G l yJ0_init_81219 cJ0_init_81219 2 none 4 2 600 [.ref l0, va_rf l1] h n (fun v h' n' => v = none ∧ h' = r_.1 ∧ n' = r_.2 ∧ n ≤ n') := by
  refine Sp_of (by decide +kernel) (by rcases l1 with _ | _ <;> exact Nat.le_of_ble_eq_true rfl) hn ?_
  intro W0 hwl C
  subst hwl
  unfold q_J0_init_81219 at hr
  rw [show mm_en 2 [.ref l0, va_rf l1] = [some (.ref l0), some (va_rf l1)] from by rcases l1 with _ | _ <;> rfl]
  show WW W0 G 2 2 600 _ 0 [some (.ref l0), some (va_rf l1)] [] h n 2 600
  refine rr_aload_n (i := 0) C dJ0_init_81219_0 rfl rfl ?_
  refine rr_aload_nO (i := 1) C dJ0_init_81219_1 rfl rfl ?_
  refine rr_null C dJ0_init_81219_2 ?_
  refine rr_cut C (kc' := 0 + 2) (ks' := 0 + 600) (by omega) (by omega) ?_
  replace hr := Option.bind_eq_some_iff.mp hr
  obtain ⟨⟨h1, n2⟩, e4, hr⟩ := hr
  dsimp only at hr
  refine rr_callI (as := [va_rf l1, .null]) (st := []) (mc' := 2) (ms' := 600) C dJ0_init_81219_3 ii_J0_489 (by decide) (Nat.le_of_ble_eq_true rfl) (c_J0_init_db425 l0 l1 none (by omega) e4) (fun v_ h_ n_ q_ => ?_)
  obtain ⟨q1_, q2_, q3_, b5⟩ := q_
  subst v_; subst h_; subst n_
  try dsimp only at b5
  show WW W0 G 2 _ _ _ 6 [some (.ref l0), some (va_rf l1)] [] h1 n2 _ _
  obtain rfl := Option.some.inj hr
  exact rr_vret C dJ0_init_81219_6 rfl ⟨rfl, rfl, rfl, by omega⟩
def q_J4_toString_0e30d (K : Nat) (h : mm_H) (n : Nat) (l0 : Nat) : Option (Option Nat × mm_H × Nat) :=
  (newO h n 10 [.null, .int 0, .int 0, .int 0]).bind fun h1 =>
  (q_J0_init_81219 K h1 (n + 1) n (some l0)).bind fun (h3, n4) =>
  some ((some n), h3, n4)
set_option maxRecDepth 100000 in
set_option maxHeartbeats 4000000 in
theorem c_J4_toString_0e30d {K : Nat} {G : mm_G} {l : Launch} {h : mm_H} {n : Nat} (l0 : Nat) {r_ : Option Nat × mm_H × Nat} (hn : 48 ≤ n) (hr : q_J4_toString_0e30d K h n l0 = some r_) : Sp G l yJ4_toString_0e30d cJ4_toString_0e30d 1 (some (.object "java/lang/String")) 5 3 604 [.ref l0] h n (fun v h' n' => v = some (va_rf r_.1) ∧ h' = r_.2.1 ∧ n' = r_.2.2 ∧ n ≤ n') := by
  refine Sp_of (by decide +kernel) (Nat.le_of_ble_eq_true rfl) hn ?_
  intro W0 hwl C
  subst hwl
  unfold q_J4_toString_0e30d at hr
  show WW W0 G 1 3 604 _ 0 [some (.ref l0)] [] h n 3 604
  refine rr_cut C (kc' := 2 + 1) (ks' := 600 + 4) (by omega) (by omega) ?_
  replace hr := Option.bind_eq_some_iff.mp hr
  obtain ⟨h1, e2, hr⟩ := hr
  refine rr_newq C dJ4_toString_0e30d_0 nw_J4_18 e2 ?_
  show WW W0 G 1 _ _ _ 3 [some (.ref l0)] [.ref n] h1 (n + 1) _ _
  refine rr_dup C dJ4_toString_0e30d_3 rfl ?_
  refine rr_aload_n (i := 0) C dJ4_toString_0e30d_4 rfl rfl ?_
  refine rr_cut C (kc' := 0 + 2) (ks' := 0 + 600) (by omega) (by omega) ?_
  replace hr := Option.bind_eq_some_iff.mp hr
  obtain ⟨⟨h3, n4⟩, e6, hr⟩ := hr
  dsimp only at hr
  refine rr_callI (as := [.ref l0]) (st := [.ref n]) (mc' := 2) (ms' := 600) C dJ4_toString_0e30d_5 ii_J4_137 (by decide) (Nat.le_of_ble_eq_true rfl) (c_J0_init_81219 n (some l0) (by omega) e6) (fun v_ h_ n_ q_ => ?_)
  obtain ⟨q1_, q2_, q3_, b7⟩ := q_
  subst v_; subst h_; subst n_
  try dsimp only at b7
  show WW W0 G 1 _ _ _ 8 [some (.ref l0)] [.ref n] h3 n4 _ _
  obtain rfl := Option.some.inj hr
  exact rr_aret (r := (some n)) C dJ4_toString_0e30d_8 rfl (Or.inl ⟨_, rfl⟩) ⟨rfl, rfl, rfl, by omega⟩

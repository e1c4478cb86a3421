def q_X3_comparison (K : Nat) (h : mm_H) (n : Nat) (l0 : Nat) : Option (mm_H) :=
  (ckq h n l0 3).bind fun u1 =>
  (q_X3_pick K h n l0 (some 17)).bind fun v3 =>
  (ckq v3.2 n l0 3).bind fun u6 =>
  (q_X3_isSign K v3.2 n l0 60).bind fun v8 =>
  if v8 = 0 then
    (ckq v3.2 n l0 3).bind fun u10 =>
    (q_X3_isSign K v3.2 n l0 62).bind fun v12 =>
    if v12 = 0 then
      (ckq v3.2 n l0 3).bind fun u14 =>
      (q_X3_isSign K v3.2 n l0 61).bind fun v16 =>
      if v16 = 0 then
        (ckq v3.2 n l0 3).bind fun u18 =>
        (q_X3_fail K v3.2 n l0).bind fun v20 =>
        some v20
      else
      (ckq v3.2 n l0 3).bind fun u22 =>
      (q_X3_step K v3.2 n l0).bind fun v24 =>
      (ckq v24 n l0 3).bind fun u26 =>
      (q_X3_number K v24 n l0 0 99999).bind fun v28 =>
      (q_X5_comparison K v28.2 n v3.1 2 v28.1).bind fun v30 =>
      (ckq v28.2 n l0 3).bind fun u32 =>
      (q_X3_write K v28.2 n l0 v30).bind fun v34 =>
      some v34
    else
    (ckq v3.2 n l0 3).bind fun u36 =>
    (q_X3_step K v3.2 n l0).bind fun v38 =>
    (ckq v38 n l0 3).bind fun u40 =>
    (q_X3_number K v38 n l0 0 99999).bind fun v42 =>
    (q_X5_comparison K v42.2 n v3.1 1 v42.1).bind fun v44 =>
    (ckq v42.2 n l0 3).bind fun u46 =>
    (q_X3_write K v42.2 n l0 v44).bind fun v48 =>
    some v48
  else
  (ckq v3.2 n l0 3).bind fun u50 =>
  (q_X3_step K v3.2 n l0).bind fun v52 =>
  (ckq v52 n l0 3).bind fun u54 =>
  (q_X3_number K v52 n l0 0 99999).bind fun v56 =>
  (q_X5_comparison K v56.2 n v3.1 0 v56.1).bind fun v58 =>
  (ckq v56.2 n l0 3).bind fun u60 =>
  (q_X3_write K v56.2 n l0 v58).bind fun v62 =>
  some v62
set_option maxRecDepth 100000 in
set_option maxHeartbeats 4000000 in
theorem c_X3_comparison {K : Nat} {G : mm_G} {l : Launch} {h : mm_H} {n : Nat} (l0 : Nat) {r_ : mm_H} (hn : 48 ≤ n) (hr : q_X3_comparison K h n l0 = some r_) : Sp G l yX3_comparison cX3_comparison 3 none 6 0 0 [.ref l0] h n (fun v h' n' => v = none ∧ h' = r_ ∧ n' = n) := by
  refine Sp_of (by decide +kernel) (Nat.le_of_ble_eq_true rfl) hn ?_
  intro W0 hwl C
  subst hwl
  unfold q_X3_comparison at hr
  show WW W0 G 3 0 0 _ 0 [some (.ref l0), none, none] [] h n 0 0
  refine rr_aload_n (i := 0) C dX3_comparison_0 rfl rfl ?_
  refine rr_ldcS (i := 14) C dX3_comparison_1 (by decide) rfl ?_
  replace hr := Option.bind_eq_some_iff.mp hr
  obtain ⟨u1, e2, hr⟩ := hr
  replace hr := Option.bind_eq_some_iff.mp hr
  obtain ⟨v3, e4, hr⟩ := hr
  refine rr_callVq (as := [.ref 17]) (st := []) (mc' := 0) (ms' := 0) C dX3_comparison_3 iv_X3_114 (by decide) e2 rfl (Nat.le_of_ble_eq_true rfl) (c_X3_pick l0 (some 17) (by omega) e4) (fun v_ h_ n_ q_ => ?_)
  obtain ⟨q1_, q2_, q3_⟩ := q_
  subst v_; subst h_; subst n_
  show WW W0 G 3 _ _ _ 6 [some (.ref l0), none, none] [.int v3.1] v3.2 n _ _
  refine rr_istore_n (i := 1) C dX3_comparison_6 rfl (by decide) ?_
  show WW W0 G 3 _ _ _ 7 [some (.ref l0), some (.int v3.1), none] [] v3.2 n _ _
  refine rr_aload_n (i := 0) C dX3_comparison_7 rfl rfl ?_
  refine rr_bipush (v := 60) C dX3_comparison_8 (by decide) ?_
  replace hr := Option.bind_eq_some_iff.mp hr
  obtain ⟨u6, e7, hr⟩ := hr
  replace hr := Option.bind_eq_some_iff.mp hr
  obtain ⟨v8, e9, hr⟩ := hr
  refine rr_callVq (as := [.int 60]) (st := []) (mc' := 0) (ms' := 0) C dX3_comparison_10 iv_X3_193 (by decide) e7 rfl (Nat.le_of_ble_eq_true rfl) (c_X3_isSign l0 60 (by omega) e9) (fun v_ h_ n_ q_ => ?_)
  obtain ⟨q1_, q2_, q3_⟩ := q_
  subst v_; subst h_; subst n_
  show WW W0 G 3 _ _ _ 13 [some (.ref l0), some (.int v3.1), none] [.int v8] v3.2 n _ _
  refine rr_if_eq (tgt := 20) C dX3_comparison_13 (by decide) (fun c13_ => ?_) (fun c13_ => ?_)
  · replace hr := (if_pos c13_).symm.trans hr
    refine rr_aload_n (i := 0) C dX3_comparison_20 rfl rfl ?_
    refine rr_bipush (v := 62) C dX3_comparison_21 (by decide) ?_
    replace hr := Option.bind_eq_some_iff.mp hr
    obtain ⟨u10, e11, hr⟩ := hr
    replace hr := Option.bind_eq_some_iff.mp hr
    obtain ⟨v12, e13, hr⟩ := hr
    refine rr_callVq (as := [.int 62]) (st := []) (mc' := 0) (ms' := 0) C dX3_comparison_23 iv_X3_193 (by decide) e11 rfl (Nat.le_of_ble_eq_true rfl) (c_X3_isSign l0 62 (by omega) e13) (fun v_ h_ n_ q_ => ?_)
    obtain ⟨q1_, q2_, q3_⟩ := q_
    subst v_; subst h_; subst n_
    show WW W0 G 3 _ _ _ 26 [some (.ref l0), some (.int v3.1), none] [.int v12] v3.2 n _ _
    refine rr_if_eq (tgt := 33) C dX3_comparison_26 (by decide) (fun c26_ => ?_) (fun c26_ => ?_)
    · replace hr := (if_pos c26_).symm.trans hr
      refine rr_aload_n (i := 0) C dX3_comparison_33 rfl rfl ?_
      refine rr_bipush (v := 61) C dX3_comparison_34 (by decide) ?_
      replace hr := Option.bind_eq_some_iff.mp hr
      obtain ⟨u14, e15, hr⟩ := hr
      replace hr := Option.bind_eq_some_iff.mp hr
      obtain ⟨v16, e17, hr⟩ := hr
      refine rr_callVq (as := [.int 61]) (st := []) (mc' := 0) (ms' := 0) C dX3_comparison_36 iv_X3_193 (by decide) e15 rfl (Nat.le_of_ble_eq_true rfl) (c_X3_isSign l0 61 (by omega) e17) (fun v_ h_ n_ q_ => ?_)
      obtain ⟨q1_, q2_, q3_⟩ := q_
      subst v_; subst h_; subst n_
      show WW W0 G 3 _ _ _ 39 [some (.ref l0), some (.int v3.1), none] [.int v16] v3.2 n _ _
      refine rr_if_eq (tgt := 46) C dX3_comparison_39 (by decide) (fun c39_ => ?_) (fun c39_ => ?_)
      · replace hr := (if_pos c39_).symm.trans hr
        refine rr_iconst (v := (-1)) C dX3_comparison_46 (by decide) ?_
        refine rr_istore_n (i := 2) C dX3_comparison_47 rfl (by decide) ?_
        show WW W0 G 3 _ _ _ 48 [some (.ref l0), some (.int v3.1), some (.int (-1))] [] v3.2 n _ _
        refine rr_iload_n (i := 2) C dX3_comparison_48 rfl rfl ?_
        refine rr_iconst (v := (-1)) C dX3_comparison_49 (by decide) ?_
        refine rr_icmp_ne (tgt := 58) C dX3_comparison_50 (by decide) (fun q_ => absurd (by decide) q_) (fun _ => ?_)
        refine rr_aload_n (i := 0) C dX3_comparison_53 rfl rfl ?_
        replace hr := Option.bind_eq_some_iff.mp hr
        obtain ⟨u18, e19, hr⟩ := hr
        replace hr := Option.bind_eq_some_iff.mp hr
        obtain ⟨v20, e21, hr⟩ := hr
        refine rr_callVq (as := []) (st := []) (mc' := 0) (ms' := 0) C dX3_comparison_54 iv_X3_85 (by decide) e19 rfl (Nat.le_of_ble_eq_true rfl) (c_X3_fail l0 (by omega) e21) (fun v_ h_ n_ q_ => ?_)
        obtain ⟨q1_, q2_, q3_⟩ := q_
        subst v_; subst h_; subst n_
        show WW W0 G 3 _ _ _ 57 [some (.ref l0), some (.int v3.1), some (.int (-1))] [] v20 n _ _
        obtain rfl := Option.some.inj hr
        exact rr_vret C dX3_comparison_57 rfl ⟨rfl, rfl, rfl⟩
      · replace hr := (if_neg c39_).symm.trans hr
        refine rr_iconst (v := 2) C dX3_comparison_42 (by decide) ?_
        refine rr_goto (tgt := 47) C dX3_comparison_43 (by decide) ?_
        refine rr_istore_n (i := 2) C dX3_comparison_47 rfl (by decide) ?_
        show WW W0 G 3 _ _ _ 48 [some (.ref l0), some (.int v3.1), some (.int 2)] [] v3.2 n _ _
        refine rr_iload_n (i := 2) C dX3_comparison_48 rfl rfl ?_
        refine rr_iconst (v := (-1)) C dX3_comparison_49 (by decide) ?_
        refine rr_icmp_ne (tgt := 58) C dX3_comparison_50 (by decide) (fun _ => ?_) (fun q_ => absurd q_ (by decide))
        refine rr_aload_n (i := 0) C dX3_comparison_58 rfl rfl ?_
        replace hr := Option.bind_eq_some_iff.mp hr
        obtain ⟨u22, e23, hr⟩ := hr
        replace hr := Option.bind_eq_some_iff.mp hr
        obtain ⟨v24, e25, hr⟩ := hr
        refine rr_callVq (as := []) (st := []) (mc' := 0) (ms' := 0) C dX3_comparison_59 iv_X3_61 (by decide) e23 rfl (Nat.le_of_ble_eq_true rfl) (c_X3_step l0 (by omega) e25) (fun v_ h_ n_ q_ => ?_)
        obtain ⟨q1_, q2_, q3_⟩ := q_
        subst v_; subst h_; subst n_
        show WW W0 G 3 _ _ _ 62 [some (.ref l0), some (.int v3.1), some (.int 2)] [] v24 n _ _
        refine rr_aload_n (i := 0) C dX3_comparison_62 rfl rfl ?_
        refine rr_iload_n (i := 1) C dX3_comparison_63 rfl rfl ?_
        refine rr_iload_n (i := 2) C dX3_comparison_64 rfl rfl ?_
        refine rr_aload_n (i := 0) C dX3_comparison_65 rfl rfl ?_
        refine rr_iconst (v := 0) C dX3_comparison_66 (by decide) ?_
        refine rr_ldc C dX3_comparison_67 ct_X3_162 ?_
        replace hr := Option.bind_eq_some_iff.mp hr
        obtain ⟨u26, e27, hr⟩ := hr
        replace hr := Option.bind_eq_some_iff.mp hr
        obtain ⟨v28, e29, hr⟩ := hr
        refine rr_callVq (as := [.int 0, .int 99999]) (st := [.int 2, .int v3.1, .ref l0]) (mc' := 0) (ms' := 0) C dX3_comparison_69 iv_X3_130 (by decide) e27 rfl (Nat.le_of_ble_eq_true rfl) (c_X3_number l0 0 99999 (by omega) e29) (fun v_ h_ n_ q_ => ?_)
        obtain ⟨q1_, q2_, q3_⟩ := q_
        subst v_; subst h_; subst n_
        show WW W0 G 3 _ _ _ 72 [some (.ref l0), some (.int v3.1), some (.int 2)] [.int v28.1, .int 2, .int v3.1, .ref l0] v28.2 n _ _
        replace hr := Option.bind_eq_some_iff.mp hr
        obtain ⟨v30, e31, hr⟩ := hr
        refine rr_callS (as := [.int v3.1, .int 2, .int v28.1]) (st := [.ref l0]) (mc' := 0) (ms' := 0) C dX3_comparison_72 it_X3_202 (by decide) (Nat.le_of_ble_eq_true rfl) (c_X5_comparison v3.1 2 v28.1 (by omega) e31) (fun v_ h_ n_ q_ => ?_)
        obtain ⟨q1_, q2_, q3_⟩ := q_
        subst v_; subst h_; subst n_
        show WW W0 G 3 _ _ _ 75 [some (.ref l0), some (.int v3.1), some (.int 2)] [.int v30, .ref l0] v28.2 n _ _
        replace hr := Option.bind_eq_some_iff.mp hr
        obtain ⟨u32, e33, hr⟩ := hr
        replace hr := Option.bind_eq_some_iff.mp hr
        obtain ⟨v34, e35, hr⟩ := hr
        refine rr_callVq (as := [.int v30]) (st := []) (mc' := 0) (ms' := 0) C dX3_comparison_75 iv_X3_183 (by decide) e33 rfl (Nat.le_of_ble_eq_true rfl) (c_X3_write l0 v30 (by omega) e35) (fun v_ h_ n_ q_ => ?_)
        obtain ⟨q1_, q2_, q3_⟩ := q_
        subst v_; subst h_; subst n_
        show WW W0 G 3 _ _ _ 78 [some (.ref l0), some (.int v3.1), some (.int 2)] [] v34 n _ _
        obtain rfl := Option.some.inj hr
        exact rr_vret C dX3_comparison_78 rfl ⟨rfl, rfl, rfl⟩
    · replace hr := (if_neg c26_).symm.trans hr
      refine rr_iconst (v := 1) C dX3_comparison_29 (by decide) ?_
      refine rr_goto (tgt := 47) C dX3_comparison_30 (by decide) ?_
      refine rr_istore_n (i := 2) C dX3_comparison_47 rfl (by decide) ?_
      show WW W0 G 3 _ _ _ 48 [some (.ref l0), some (.int v3.1), some (.int 1)] [] v3.2 n _ _
      refine rr_iload_n (i := 2) C dX3_comparison_48 rfl rfl ?_
      refine rr_iconst (v := (-1)) C dX3_comparison_49 (by decide) ?_
      refine rr_icmp_ne (tgt := 58) C dX3_comparison_50 (by decide) (fun _ => ?_) (fun q_ => absurd q_ (by decide))
      refine rr_aload_n (i := 0) C dX3_comparison_58 rfl rfl ?_
      replace hr := Option.bind_eq_some_iff.mp hr
      obtain ⟨u36, e37, hr⟩ := hr
      replace hr := Option.bind_eq_some_iff.mp hr
      obtain ⟨v38, e39, hr⟩ := hr
      refine rr_callVq (as := []) (st := []) (mc' := 0) (ms' := 0) C dX3_comparison_59 iv_X3_61 (by decide) e37 rfl (Nat.le_of_ble_eq_true rfl) (c_X3_step l0 (by omega) e39) (fun v_ h_ n_ q_ => ?_)
      obtain ⟨q1_, q2_, q3_⟩ := q_
      subst v_; subst h_; subst n_
      show WW W0 G 3 _ _ _ 62 [some (.ref l0), some (.int v3.1), some (.int 1)] [] v38 n _ _
      refine rr_aload_n (i := 0) C dX3_comparison_62 rfl rfl ?_
      refine rr_iload_n (i := 1) C dX3_comparison_63 rfl rfl ?_
      refine rr_iload_n (i := 2) C dX3_comparison_64 rfl rfl ?_
      refine rr_aload_n (i := 0) C dX3_comparison_65 rfl rfl ?_
      refine rr_iconst (v := 0) C dX3_comparison_66 (by decide) ?_
      refine rr_ldc C dX3_comparison_67 ct_X3_162 ?_
      replace hr := Option.bind_eq_some_iff.mp hr
      obtain ⟨u40, e41, hr⟩ := hr
      replace hr := Option.bind_eq_some_iff.mp hr
      obtain ⟨v42, e43, hr⟩ := hr
      refine rr_callVq (as := [.int 0, .int 99999]) (st := [.int 1, .int v3.1, .ref l0]) (mc' := 0) (ms' := 0) C dX3_comparison_69 iv_X3_130 (by decide) e41 rfl (Nat.le_of_ble_eq_true rfl) (c_X3_number l0 0 99999 (by omega) e43) (fun v_ h_ n_ q_ => ?_)
      obtain ⟨q1_, q2_, q3_⟩ := q_
      subst v_; subst h_; subst n_
      show WW W0 G 3 _ _ _ 72 [some (.ref l0), some (.int v3.1), some (.int 1)] [.int v42.1, .int 1, .int v3.1, .ref l0] v42.2 n _ _
      replace hr := Option.bind_eq_some_iff.mp hr
      obtain ⟨v44, e45, hr⟩ := hr
      refine rr_callS (as := [.int v3.1, .int 1, .int v42.1]) (st := [.ref l0]) (mc' := 0) (ms' := 0) C dX3_comparison_72 it_X3_202 (by decide) (Nat.le_of_ble_eq_true rfl) (c_X5_comparison v3.1 1 v42.1 (by omega) e45) (fun v_ h_ n_ q_ => ?_)
      obtain ⟨q1_, q2_, q3_⟩ := q_
      subst v_; subst h_; subst n_
      show WW W0 G 3 _ _ _ 75 [some (.ref l0), some (.int v3.1), some (.int 1)] [.int v44, .ref l0] v42.2 n _ _
      replace hr := Option.bind_eq_some_iff.mp hr
      obtain ⟨u46, e47, hr⟩ := hr
      replace hr := Option.bind_eq_some_iff.mp hr
      obtain ⟨v48, e49, hr⟩ := hr
      refine rr_callVq (as := [.int v44]) (st := []) (mc' := 0) (ms' := 0) C dX3_comparison_75 iv_X3_183 (by decide) e47 rfl (Nat.le_of_ble_eq_true rfl) (c_X3_write l0 v44 (by omega) e49) (fun v_ h_ n_ q_ => ?_)
      obtain ⟨q1_, q2_, q3_⟩ := q_
      subst v_; subst h_; subst n_
      show WW W0 G 3 _ _ _ 78 [some (.ref l0), some (.int v3.1), some (.int 1)] [] v48 n _ _
      obtain rfl := Option.some.inj hr
      exact rr_vret C dX3_comparison_78 rfl ⟨rfl, rfl, rfl⟩
  · replace hr := (if_neg c13_).symm.trans hr
    refine rr_iconst (v := 0) C dX3_comparison_16 (by decide) ?_
    refine rr_goto (tgt := 47) C dX3_comparison_17 (by decide) ?_
    refine rr_istore_n (i := 2) C dX3_comparison_47 rfl (by decide) ?_
    show WW W0 G 3 _ _ _ 48 [some (.ref l0), some (.int v3.1), some (.int 0)] [] v3.2 n _ _
    refine rr_iload_n (i := 2) C dX3_comparison_48 rfl rfl ?_
    refine rr_iconst (v := (-1)) C dX3_comparison_49 (by decide) ?_
    refine rr_icmp_ne (tgt := 58) C dX3_comparison_50 (by decide) (fun _ => ?_) (fun q_ => absurd q_ (by decide))
    refine rr_aload_n (i := 0) C dX3_comparison_58 rfl rfl ?_
    replace hr := Option.bind_eq_some_iff.mp hr
    obtain ⟨u50, e51, hr⟩ := hr
    replace hr := Option.bind_eq_some_iff.mp hr
    obtain ⟨v52, e53, hr⟩ := hr
    refine rr_callVq (as := []) (st := []) (mc' := 0) (ms' := 0) C dX3_comparison_59 iv_X3_61 (by decide) e51 rfl (Nat.le_of_ble_eq_true rfl) (c_X3_step l0 (by omega) e53) (fun v_ h_ n_ q_ => ?_)
    obtain ⟨q1_, q2_, q3_⟩ := q_
    subst v_; subst h_; subst n_
    show WW W0 G 3 _ _ _ 62 [some (.ref l0), some (.int v3.1), some (.int 0)] [] v52 n _ _
    refine rr_aload_n (i := 0) C dX3_comparison_62 rfl rfl ?_
    refine rr_iload_n (i := 1) C dX3_comparison_63 rfl rfl ?_
    refine rr_iload_n (i := 2) C dX3_comparison_64 rfl rfl ?_
    refine rr_aload_n (i := 0) C dX3_comparison_65 rfl rfl ?_
    refine rr_iconst (v := 0) C dX3_comparison_66 (by decide) ?_
    refine rr_ldc C dX3_comparison_67 ct_X3_162 ?_
    replace hr := Option.bind_eq_some_iff.mp hr
    obtain ⟨u54, e55, hr⟩ := hr
    replace hr := Option.bind_eq_some_iff.mp hr
    obtain ⟨v56, e57, hr⟩ := hr
    refine rr_callVq (as := [.int 0, .int 99999]) (st := [.int 0, .int v3.1, .ref l0]) (mc' := 0) (ms' := 0) C dX3_comparison_69 iv_X3_130 (by decide) e55 rfl (Nat.le_of_ble_eq_true rfl) (c_X3_number l0 0 99999 (by omega) e57) (fun v_ h_ n_ q_ => ?_)
    obtain ⟨q1_, q2_, q3_⟩ := q_
    subst v_; subst h_; subst n_
    show WW W0 G 3 _ _ _ 72 [some (.ref l0), some (.int v3.1), some (.int 0)] [.int v56.1, .int 0, .int v3.1, .ref l0] v56.2 n _ _
    replace hr := Option.bind_eq_some_iff.mp hr
    obtain ⟨v58, e59, hr⟩ := hr
    refine rr_callS (as := [.int v3.1, .int 0, .int v56.1]) (st := [.ref l0]) (mc' := 0) (ms' := 0) C dX3_comparison_72 it_X3_202 (by decide) (Nat.le_of_ble_eq_true rfl) (c_X5_comparison v3.1 0 v56.1 (by omega) e59) (fun v_ h_ n_ q_ => ?_)
    obtain ⟨q1_, q2_, q3_⟩ := q_
    subst v_; subst h_; subst n_
    show WW W0 G 3 _ _ _ 75 [some (.ref l0), some (.int v3.1), some (.int 0)] [.int v58, .ref l0] v56.2 n _ _
    replace hr := Option.bind_eq_some_iff.mp hr
    obtain ⟨u60, e61, hr⟩ := hr
    replace hr := Option.bind_eq_some_iff.mp hr
    obtain ⟨v62, e63, hr⟩ := hr
    refine rr_callVq (as := [.int v58]) (st := []) (mc' := 0) (ms' := 0) C dX3_comparison_75 iv_X3_183 (by decide) e61 rfl (Nat.le_of_ble_eq_true rfl) (c_X3_write l0 v58 (by omega) e63) (fun v_ h_ n_ q_ => ?_)
    obtain ⟨q1_, q2_, q3_⟩ := q_
    subst v_; subst h_; subst n_
    show WW W0 G 3 _ _ _ 78 [some (.ref l0), some (.int v3.1), some (.int 0)] [] v62 n _ _
    obtain rfl := Option.some.inj hr
    exact rr_vret C dX3_comparison_78 rfl ⟨rfl, rfl, rfl⟩
def lp_X3_any_7 (K : Nat) (F_ : (mm_H → Nat → Nat → Int32 → Option (mm_H)) × (mm_H → Nat → Nat → Int32 → Option (mm_H)) × (mm_H → Nat → Nat → Int32 → Option (mm_H))) (n : Nat) (l0 : Nat) (l1 : Int32) : Nat → Int32 → mm_H → Option (mm_H)
  | 0, _, _ => none
  | k_ + 1, l2, h =>
    if 900 ≤ l2 then
      some (h)
    else
    (ckq h n l0 3).bind fun u5 =>
    (q_X3_isWord K h n l0 (some 14)).bind fun v7 =>
    if v7 = 0 then
      some (h)
    else
    (ckq h n l0 3).bind fun u9 =>
    (q_X3_step K h n l0).bind fun v11 =>
    (ckq v11 n l0 3).bind fun u13 =>
    (F_.2.1 v11 n l0 l1).bind fun v15 =>
    (ckq v15 n l0 3).bind fun u17 =>
    (q_X3_write K v15 n l0 (-3)).bind fun v19 =>
    lp_X3_any_7 K F_ n l0 l1 k_ (l2 + 1) v19
def b_X3_any (K : Nat) (F_ : (mm_H → Nat → Nat → Int32 → Option (mm_H)) × (mm_H → Nat → Nat → Int32 → Option (mm_H)) × (mm_H → Nat → Nat → Int32 → Option (mm_H))) (h : mm_H) (n : Nat) (l0 : Nat) (l1 : Int32) : Option (mm_H) :=
  (ckq h n l0 3).bind fun u1 =>
  (F_.2.1 h n l0 l1).bind fun v3 =>
  (lp_X3_any_7 K F_ n l0 l1 K 0 v3).bind fun v21 =>
  some v21
def lp_X3_all_7 (K : Nat) (F_ : (mm_H → Nat → Nat → Int32 → Option (mm_H)) × (mm_H → Nat → Nat → Int32 → Option (mm_H)) × (mm_H → Nat → Nat → Int32 → Option (mm_H))) (n : Nat) (l0 : Nat) (l1 : Int32) : Nat → Int32 → mm_H → Option (mm_H)
  | 0, _, _ => none
  | k_ + 1, l2, h =>
    if 900 ≤ l2 then
      some (h)
    else
    (ckq h n l0 3).bind fun u5 =>
    (q_X3_isWord K h n l0 (some 15)).bind fun v7 =>
    if v7 = 0 then
      some (h)
    else
    (ckq h n l0 3).bind fun u9 =>
    (q_X3_step K h n l0).bind fun v11 =>
    (ckq v11 n l0 3).bind fun u13 =>
    (F_.2.2 v11 n l0 l1).bind fun v15 =>
    (ckq v15 n l0 3).bind fun u17 =>
    (q_X3_write K v15 n l0 (-2)).bind fun v19 =>
    lp_X3_all_7 K F_ n l0 l1 k_ (l2 + 1) v19
def b_X3_all (K : Nat) (F_ : (mm_H → Nat → Nat → Int32 → Option (mm_H)) × (mm_H → Nat → Nat → Int32 → Option (mm_H)) × (mm_H → Nat → Nat → Int32 → Option (mm_H))) (h : mm_H) (n : Nat) (l0 : Nat) (l1 : Int32) : Option (mm_H) :=
  (ckq h n l0 3).bind fun u1 =>
  (F_.2.2 h n l0 l1).bind fun v3 =>
  (lp_X3_all_7 K F_ n l0 l1 K 0 v3).bind fun v21 =>
  some v21
def b_X3_one (K : Nat) (F_ : (mm_H → Nat → Nat → Int32 → Option (mm_H)) × (mm_H → Nat → Nat → Int32 → Option (mm_H)) × (mm_H → Nat → Nat → Int32 → Option (mm_H))) (h : mm_H) (n : Nat) (l0 : Nat) (l1 : Int32) : Option (mm_H) :=
  (ckq h n l0 3).bind fun u1 =>
  (q_X3_isWord K h n l0 (some 16)).bind fun v3 =>
  if v3 = 0 then
    (ckq h n l0 3).bind fun u5 =>
    (q_X3_isSign K h n l0 40).bind fun v7 =>
    if v7 = 0 then
      (ckq h n l0 3).bind fun u9 =>
      (q_X3_comparison K h n l0).bind fun v11 =>
      some v11
    else
    if l1 < 10 then
      (ckq h n l0 3).bind fun u13 =>
      (q_X3_step K h n l0).bind fun v15 =>
      if v3 = 0 then
        (ckq v15 n l0 3).bind fun u17 =>
        (F_.1 v15 n l0 (l1 + 1)).bind fun v19 =>
        (ckq v19 n l0 3).bind fun u21 =>
        (q_X3_sign K v19 n l0 41).bind fun v23 =>
        some v23
      else
      (ckq v15 n l0 3).bind fun u25 =>
      (F_.2.2 v15 n l0 (l1 + 1)).bind fun v27 =>
      (ckq v27 n l0 3).bind fun u29 =>
      (q_X3_write K v27 n l0 (-1)).bind fun v31 =>
      some v31
    else
    (ckq h n l0 3).bind fun u33 =>
    (q_X3_fail K h n l0).bind fun v35 =>
    some v35
  else
  if l1 < 10 then
    (ckq h n l0 3).bind fun u37 =>
    (q_X3_step K h n l0).bind fun v39 =>
    if v3 = 0 then
      (ckq v39 n l0 3).bind fun u41 =>
      (F_.1 v39 n l0 (l1 + 1)).bind fun v43 =>
      (ckq v43 n l0 3).bind fun u45 =>
      (q_X3_sign K v43 n l0 41).bind fun v47 =>
      some v47
    else
    (ckq v39 n l0 3).bind fun u49 =>
    (F_.2.2 v39 n l0 (l1 + 1)).bind fun v51 =>
    (ckq v51 n l0 3).bind fun u53 =>
    (q_X3_write K v51 n l0 (-1)).bind fun v55 =>
    some v55
  else
  (ckq h n l0 3).bind fun u57 =>
  (q_X3_fail K h n l0).bind fun v59 =>
  some v59
def g_X3_expr (K : Nat) : Nat → (mm_H → Nat → Nat → Int32 → Option (mm_H)) × (mm_H → Nat → Nat → Int32 → Option (mm_H)) × (mm_H → Nat → Nat → Int32 → Option (mm_H))
  | 0 => (fun _ _ _ _ => none, fun _ _ _ _ => none, fun _ _ _ _ => none)
  | d + 1 => (b_X3_any K (g_X3_expr K d), b_X3_all K (g_X3_expr K d), b_X3_one K (g_X3_expr K d))
def q_X3_any (K : Nat) (h : mm_H) (n : Nat) (l0 : Nat) (l1 : Int32) : Option (mm_H) := (g_X3_expr K 48).1 h n l0 l1
def q_X3_all (K : Nat) (h : mm_H) (n : Nat) (l0 : Nat) (l1 : Int32) : Option (mm_H) := (g_X3_expr K 48).2.1 h n l0 l1
def q_X3_one (K : Nat) (h : mm_H) (n : Nat) (l0 : Nat) (l1 : Int32) : Option (mm_H) := (g_X3_expr K 48).2.2 h n l0 l1
set_option maxRecDepth 100000 in
set_option maxHeartbeats 4000000 in
theorem w_X3_any_7 {K : Nat} {W0 : mm_X} {G : mm_G} {D_ : Nat} {F_ : (mm_H → Nat → Nat → Int32 → Option (mm_H)) × (mm_H → Nat → Nat → Int32 → Option (mm_H)) × (mm_H → Nat → Nat → Int32 → Option (mm_H))} (hd_ : 7 ≤ D_) (hF0 : ∀ {l : Launch} {h : mm_H} {n : Nat} (l0 : Nat) (l1 : Int32) {r_ : mm_H}, 48 ≤ n → F_.1 h n l0 l1 = some r_ → Sp G l yX3_any cX3_any 3 none D_ 0 0 [.ref l0, .int l1] h n (fun v h' n' => v = none ∧ h' = r_ ∧ n' = n)) (hF1 : ∀ {l : Launch} {h : mm_H} {n : Nat} (l0 : Nat) (l1 : Int32) {r_ : mm_H}, 48 ≤ n → F_.2.1 h n l0 l1 = some r_ → Sp G l yX3_all cX3_all 3 none D_ 0 0 [.ref l0, .int l1] h n (fun v h' n' => v = none ∧ h' = r_ ∧ n' = n)) (hF2 : ∀ {l : Launch} {h : mm_H} {n : Nat} (l0 : Nat) (l1 : Int32) {r_ : mm_H}, 48 ≤ n → F_.2.2 h n l0 l1 = some r_ → Sp G l yX3_one cX3_one 3 none D_ 0 0 [.ref l0, .int l1] h n (fun v h' n' => v = none ∧ h' = r_ ∧ n' = n)) {mc ms kc ks : Nat} {Q_ : State → Prop} {n : Nat} (C : mm_C W0 G cX3_any yX3_any.cls 3 mc ms none (D_ + 1) yX3_any.name) (hn : 48 ≤ n) (l0 : Nat) (l1 : Int32) : ∀ (k_ : Nat) (l2 : Int32) (h : mm_H) {r_ : mm_H} (hr : lp_X3_any_7 K F_ n l0 l1 k_ l2 h = some r_) (hx0 : WW W0 G 3 mc ms Q_ 44 [none, none, none] [] r_ n kc ks), WW W0 G 3 mc ms Q_ 7 [some (.ref l0), some (.int l1), some (.int l2)] [] h n kc ks := by
  intro k_
  induction k_ with
  | zero =>
    intro l2 h r_ hr
    cases hr
  | succ k_ ih_ =>
    intro l2 h r_ hr hx0
    unfold lp_X3_any_7 at hr
    refine rr_iload_n (i := 2) C dX3_any_7 rfl rfl ?_
    refine rr_sipush (v := 900) C dX3_any_8 (by decide) ?_
    refine rr_icmp_ge (tgt := 44) C dX3_any_11 (by decide) (fun c11_ => ?_) (fun c11_ => ?_)
    · replace hr := (if_pos c11_).symm.trans hr
      obtain rfl := Option.some.inj hr
      exact rr_keep [false, false, false] (hx0)
    · replace hr := (if_neg c11_).symm.trans hr
      refine rr_aload_n (i := 0) C dX3_any_14 rfl rfl ?_
      refine rr_ldcS (i := 11) C dX3_any_15 (by decide) rfl ?_
      replace hr := Option.bind_eq_some_iff.mp hr
      obtain ⟨u5, e6, hr⟩ := hr
      replace hr := Option.bind_eq_some_iff.mp hr
      obtain ⟨v7, e8, hr⟩ := hr
      refine rr_callVq (as := [.ref 14]) (st := []) (mc' := 0) (ms' := 0) C dX3_any_17 iv_X3_66 (by omega) e6 rfl (Nat.le_of_ble_eq_true rfl) (c_X3_isWord l0 (some 14) (by omega) e8) (fun v_ h_ n_ q_ => ?_)
      obtain ⟨q1_, q2_, q3_⟩ := q_
      subst v_; subst h_; subst n_
      show WW W0 G 3 _ _ _ 20 [some (.ref l0), some (.int l1), some (.int l2)] [.int v7] h n _ _
      refine rr_if_eq (tgt := 44) C dX3_any_20 (by decide) (fun c20_ => ?_) (fun c20_ => ?_)
      · replace hr := (if_pos c20_).symm.trans hr
        obtain rfl := Option.some.inj hr
        exact rr_keep [false, false, false] (hx0)
      · replace hr := (if_neg c20_).symm.trans hr
        refine rr_aload_n (i := 0) C dX3_any_23 rfl rfl ?_
        replace hr := Option.bind_eq_some_iff.mp hr
        obtain ⟨u9, e10, hr⟩ := hr
        replace hr := Option.bind_eq_some_iff.mp hr
        obtain ⟨v11, e12, hr⟩ := hr
        refine rr_callVq (as := []) (st := []) (mc' := 0) (ms' := 0) C dX3_any_24 iv_X3_61 (by omega) e10 rfl (Nat.le_of_ble_eq_true rfl) (c_X3_step l0 (by omega) e12) (fun v_ h_ n_ q_ => ?_)
        obtain ⟨q1_, q2_, q3_⟩ := q_
        subst v_; subst h_; subst n_
        show WW W0 G 3 _ _ _ 27 [some (.ref l0), some (.int l1), some (.int l2)] [] v11 n _ _
        refine rr_aload_n (i := 0) C dX3_any_27 rfl rfl ?_
        refine rr_iload_n (i := 1) C dX3_any_28 rfl rfl ?_
        replace hr := Option.bind_eq_some_iff.mp hr
        obtain ⟨u13, e14, hr⟩ := hr
        replace hr := Option.bind_eq_some_iff.mp hr
        obtain ⟨v15, e16, hr⟩ := hr
        refine rr_callVq (as := [.int l1]) (st := []) (mc' := 0) (ms' := 0) C dX3_any_29 iv_X3_178 (by omega) e14 rfl (Nat.le_of_ble_eq_true rfl) (hF1 l0 l1 (by omega) e16) (fun v_ h_ n_ q_ => ?_)
        obtain ⟨q1_, q2_, q3_⟩ := q_
        subst v_; subst h_; subst n_
        show WW W0 G 3 _ _ _ 32 [some (.ref l0), some (.int l1), some (.int l2)] [] v15 n _ _
        refine rr_aload_n (i := 0) C dX3_any_32 rfl rfl ?_
        refine rr_bipush (v := (-3)) C dX3_any_33 (by decide) ?_
        replace hr := Option.bind_eq_some_iff.mp hr
        obtain ⟨u17, e18, hr⟩ := hr
        replace hr := Option.bind_eq_some_iff.mp hr
        obtain ⟨v19, e20, hr⟩ := hr
        refine rr_callVq (as := [.int (-3)]) (st := []) (mc' := 0) (ms' := 0) C dX3_any_35 iv_X3_183 (by omega) e18 rfl (Nat.le_of_ble_eq_true rfl) (c_X3_write l0 (-3) (by omega) e20) (fun v_ h_ n_ q_ => ?_)
        obtain ⟨q1_, q2_, q3_⟩ := q_
        subst v_; subst h_; subst n_
        show WW W0 G 3 _ _ _ 38 [some (.ref l0), some (.int l1), some (.int l2)] [] v19 n _ _
        refine rr_iinc (v := l2 + 1) C dX3_any_38 rfl rfl ?_
        show WW W0 G 3 _ _ _ 41 [some (.ref l0), some (.int l1), some (.int (l2 + 1))] [] v19 n _ _
        refine rr_goto (tgt := 7) C dX3_any_41 (by decide) ?_
        exact rr_keep [true, true, true] (ih_ _ _ hr hx0)
set_option maxRecDepth 100000 in
set_option maxHeartbeats 4000000 in
theorem cb_X3_any {K : Nat} {G : mm_G} {D_ : Nat} {F_ : (mm_H → Nat → Nat → Int32 → Option (mm_H)) × (mm_H → Nat → Nat → Int32 → Option (mm_H)) × (mm_H → Nat → Nat → Int32 → Option (mm_H))} (hd_ : 7 ≤ D_) (hF0 : ∀ {l : Launch} {h : mm_H} {n : Nat} (l0 : Nat) (l1 : Int32) {r_ : mm_H}, 48 ≤ n → F_.1 h n l0 l1 = some r_ → Sp G l yX3_any cX3_any 3 none D_ 0 0 [.ref l0, .int l1] h n (fun v h' n' => v = none ∧ h' = r_ ∧ n' = n)) (hF1 : ∀ {l : Launch} {h : mm_H} {n : Nat} (l0 : Nat) (l1 : Int32) {r_ : mm_H}, 48 ≤ n → F_.2.1 h n l0 l1 = some r_ → Sp G l yX3_all cX3_all 3 none D_ 0 0 [.ref l0, .int l1] h n (fun v h' n' => v = none ∧ h' = r_ ∧ n' = n)) (hF2 : ∀ {l : Launch} {h : mm_H} {n : Nat} (l0 : Nat) (l1 : Int32) {r_ : mm_H}, 48 ≤ n → F_.2.2 h n l0 l1 = some r_ → Sp G l yX3_one cX3_one 3 none D_ 0 0 [.ref l0, .int l1] h n (fun v h' n' => v = none ∧ h' = r_ ∧ n' = n)) {l : Launch} {h : mm_H} {n : Nat} (l0 : Nat) (l1 : Int32) {r_ : mm_H} (hn : 48 ≤ n) (hr : b_X3_any K F_ h n l0 l1 = some r_) : Sp G l yX3_any cX3_any 3 none (D_ + 1) 0 0 [.ref l0, .int l1] h n (fun v h' n' => v = none ∧ h' = r_ ∧ n' = n) := by
  refine Sp_of (by decide +kernel) (Nat.le_of_ble_eq_true rfl) hn ?_
  intro W0 hwl C
  subst hwl
  unfold b_X3_any at hr
  show WW W0 G 3 0 0 _ 0 [some (.ref l0), some (.int l1), none] [] h n 0 0
  refine rr_aload_n (i := 0) C dX3_any_0 rfl rfl ?_
  refine rr_iload_n (i := 1) C dX3_any_1 rfl rfl ?_
  replace hr := Option.bind_eq_some_iff.mp hr
  obtain ⟨u1, e2, hr⟩ := hr
  replace hr := Option.bind_eq_some_iff.mp hr
  obtain ⟨v3, e4, hr⟩ := hr
  refine rr_callVq (as := [.int l1]) (st := []) (mc' := 0) (ms' := 0) C dX3_any_2 iv_X3_178 (by omega) e2 rfl (Nat.le_of_ble_eq_true rfl) (hF1 l0 l1 (by omega) e4) (fun v_ h_ n_ q_ => ?_)
  obtain ⟨q1_, q2_, q3_⟩ := q_
  subst v_; subst h_; subst n_
  show WW W0 G 3 _ _ _ 5 [some (.ref l0), some (.int l1), none] [] v3 n _ _
  refine rr_iconst (v := 0) C dX3_any_5 (by decide) ?_
  refine rr_istore_n (i := 2) C dX3_any_6 rfl (by decide) ?_
  show WW W0 G 3 _ _ _ 7 [some (.ref l0), some (.int l1), some (.int 0)] [] v3 n _ _
  replace hr := Option.bind_eq_some_iff.mp hr
  obtain ⟨v21, e22, hr⟩ := hr
  refine rr_keep [true, true, true] (w_X3_any_7 hd_ hF0 hF1 hF2 C (by omega) l0 l1 K 0 v3 e22 ?_)
  show WW W0 G 3 _ _ _ 44 [none, none, none] [] v21 n _ _
  obtain rfl := Option.some.inj hr
  exact rr_vret C dX3_any_44 rfl ⟨rfl, rfl, rfl⟩
set_option maxRecDepth 100000 in
set_option maxHeartbeats 4000000 in
theorem w_X3_all_7 {K : Nat} {W0 : mm_X} {G : mm_G} {D_ : Nat} {F_ : (mm_H → Nat → Nat → Int32 → Option (mm_H)) × (mm_H → Nat → Nat → Int32 → Option (mm_H)) × (mm_H → Nat → Nat → Int32 → Option (mm_H))} (hd_ : 7 ≤ D_) (hF0 : ∀ {l : Launch} {h : mm_H} {n : Nat} (l0 : Nat) (l1 : Int32) {r_ : mm_H}, 48 ≤ n → F_.1 h n l0 l1 = some r_ → Sp G l yX3_any cX3_any 3 none D_ 0 0 [.ref l0, .int l1] h n (fun v h' n' => v = none ∧ h' = r_ ∧ n' = n)) (hF1 : ∀ {l : Launch} {h : mm_H} {n : Nat} (l0 : Nat) (l1 : Int32) {r_ : mm_H}, 48 ≤ n → F_.2.1 h n l0 l1 = some r_ → Sp G l yX3_all cX3_all 3 none D_ 0 0 [.ref l0, .int l1] h n (fun v h' n' => v = none ∧ h' = r_ ∧ n' = n)) (hF2 : ∀ {l : Launch} {h : mm_H} {n : Nat} (l0 : Nat) (l1 : Int32) {r_ : mm_H}, 48 ≤ n → F_.2.2 h n l0 l1 = some r_ → Sp G l yX3_one cX3_one 3 none D_ 0 0 [.ref l0, .int l1] h n (fun v h' n' => v = none ∧ h' = r_ ∧ n' = n)) {mc ms kc ks : Nat} {Q_ : State → Prop} {n : Nat} (C : mm_C W0 G cX3_all yX3_all.cls 3 mc ms none (D_ + 1) yX3_all.name) (hn : 48 ≤ n) (l0 : Nat) (l1 : Int32) : ∀ (k_ : Nat) (l2 : Int32) (h : mm_H) {r_ : mm_H} (hr : lp_X3_all_7 K F_ n l0 l1 k_ l2 h = some r_) (hx0 : WW W0 G 3 mc ms Q_ 44 [none, none, none] [] r_ n kc ks), WW W0 G 3 mc ms Q_ 7 [some (.ref l0), some (.int l1), some (.int l2)] [] h n kc ks := by
  intro k_
  induction k_ with
  | zero =>
    intro l2 h r_ hr
    cases hr
  | succ k_ ih_ =>
    intro l2 h r_ hr hx0
    unfold lp_X3_all_7 at hr
    refine rr_iload_n (i := 2) C dX3_all_7 rfl rfl ?_
    refine rr_sipush (v := 900) C dX3_all_8 (by decide) ?_
    refine rr_icmp_ge (tgt := 44) C dX3_all_11 (by decide) (fun c11_ => ?_) (fun c11_ => ?_)
    · replace hr := (if_pos c11_).symm.trans hr
      obtain rfl := Option.some.inj hr
      exact rr_keep [false, false, false] (hx0)
    · replace hr := (if_neg c11_).symm.trans hr
      refine rr_aload_n (i := 0) C dX3_all_14 rfl rfl ?_
      refine rr_ldcS (i := 12) C dX3_all_15 (by decide) rfl ?_
      replace hr := Option.bind_eq_some_iff.mp hr
      obtain ⟨u5, e6, hr⟩ := hr
      replace hr := Option.bind_eq_some_iff.mp hr
      obtain ⟨v7, e8, hr⟩ := hr
      refine rr_callVq (as := [.ref 15]) (st := []) (mc' := 0) (ms' := 0) C dX3_all_17 iv_X3_66 (by omega) e6 rfl (Nat.le_of_ble_eq_true rfl) (c_X3_isWord l0 (some 15) (by omega) e8) (fun v_ h_ n_ q_ => ?_)
      obtain ⟨q1_, q2_, q3_⟩ := q_
      subst v_; subst h_; subst n_
      show WW W0 G 3 _ _ _ 20 [some (.ref l0), some (.int l1), some (.int l2)] [.int v7] h n _ _
      refine rr_if_eq (tgt := 44) C dX3_all_20 (by decide) (fun c20_ => ?_) (fun c20_ => ?_)
      · replace hr := (if_pos c20_).symm.trans hr
        obtain rfl := Option.some.inj hr
        exact rr_keep [false, false, false] (hx0)
      · replace hr := (if_neg c20_).symm.trans hr
        refine rr_aload_n (i := 0) C dX3_all_23 rfl rfl ?_
        replace hr := Option.bind_eq_some_iff.mp hr
        obtain ⟨u9, e10, hr⟩ := hr
        replace hr := Option.bind_eq_some_iff.mp hr
        obtain ⟨v11, e12, hr⟩ := hr
        refine rr_callVq (as := []) (st := []) (mc' := 0) (ms' := 0) C dX3_all_24 iv_X3_61 (by omega) e10 rfl (Nat.le_of_ble_eq_true rfl) (c_X3_step l0 (by omega) e12) (fun v_ h_ n_ q_ => ?_)
        obtain ⟨q1_, q2_, q3_⟩ := q_
        subst v_; subst h_; subst n_
        show WW W0 G 3 _ _ _ 27 [some (.ref l0), some (.int l1), some (.int l2)] [] v11 n _ _
        refine rr_aload_n (i := 0) C dX3_all_27 rfl rfl ?_
        refine rr_iload_n (i := 1) C dX3_all_28 rfl rfl ?_
        replace hr := Option.bind_eq_some_iff.mp hr
        obtain ⟨u13, e14, hr⟩ := hr
        replace hr := Option.bind_eq_some_iff.mp hr
        obtain ⟨v15, e16, hr⟩ := hr
        refine rr_callVq (as := [.int l1]) (st := []) (mc' := 0) (ms' := 0) C dX3_all_29 iv_X3_186 (by omega) e14 rfl (Nat.le_of_ble_eq_true rfl) (hF2 l0 l1 (by omega) e16) (fun v_ h_ n_ q_ => ?_)
        obtain ⟨q1_, q2_, q3_⟩ := q_
        subst v_; subst h_; subst n_
        show WW W0 G 3 _ _ _ 32 [some (.ref l0), some (.int l1), some (.int l2)] [] v15 n _ _
        refine rr_aload_n (i := 0) C dX3_all_32 rfl rfl ?_
        refine rr_bipush (v := (-2)) C dX3_all_33 (by decide) ?_
        replace hr := Option.bind_eq_some_iff.mp hr
        obtain ⟨u17, e18, hr⟩ := hr
        replace hr := Option.bind_eq_some_iff.mp hr
        obtain ⟨v19, e20, hr⟩ := hr
        refine rr_callVq (as := [.int (-2)]) (st := []) (mc' := 0) (ms' := 0) C dX3_all_35 iv_X3_183 (by omega) e18 rfl (Nat.le_of_ble_eq_true rfl) (c_X3_write l0 (-2) (by omega) e20) (fun v_ h_ n_ q_ => ?_)
        obtain ⟨q1_, q2_, q3_⟩ := q_
        subst v_; subst h_; subst n_
        show WW W0 G 3 _ _ _ 38 [some (.ref l0), some (.int l1), some (.int l2)] [] v19 n _ _
        refine rr_iinc (v := l2 + 1) C dX3_all_38 rfl rfl ?_
        show WW W0 G 3 _ _ _ 41 [some (.ref l0), some (.int l1), some (.int (l2 + 1))] [] v19 n _ _
        refine rr_goto (tgt := 7) C dX3_all_41 (by decide) ?_
        exact rr_keep [true, true, true] (ih_ _ _ hr hx0)
set_option maxRecDepth 100000 in
set_option maxHeartbeats 4000000 in
theorem cb_X3_all {K : Nat} {G : mm_G} {D_ : Nat} {F_ : (mm_H → Nat → Nat → Int32 → Option (mm_H)) × (mm_H → Nat → Nat → Int32 → Option (mm_H)) × (mm_H → Nat → Nat → Int32 → Option (mm_H))} (hd_ : 7 ≤ D_) (hF0 : ∀ {l : Launch} {h : mm_H} {n : Nat} (l0 : Nat) (l1 : Int32) {r_ : mm_H}, 48 ≤ n → F_.1 h n l0 l1 = some r_ → Sp G l yX3_any cX3_any 3 none D_ 0 0 [.ref l0, .int l1] h n (fun v h' n' => v = none ∧ h' = r_ ∧ n' = n)) (hF1 : ∀ {l : Launch} {h : mm_H} {n : Nat} (l0 : Nat) (l1 : Int32) {r_ : mm_H}, 48 ≤ n → F_.2.1 h n l0 l1 = some r_ → Sp G l yX3_all cX3_all 3 none D_ 0 0 [.ref l0, .int l1] h n (fun v h' n' => v = none ∧ h' = r_ ∧ n' = n)) (hF2 : ∀ {l : Launch} {h : mm_H} {n : Nat} (l0 : Nat) (l1 : Int32) {r_ : mm_H}, 48 ≤ n → F_.2.2 h n l0 l1 = some r_ → Sp G l yX3_one cX3_one 3 none D_ 0 0 [.ref l0, .int l1] h n (fun v h' n' => v = none ∧ h' = r_ ∧ n' = n)) {l : Launch} {h : mm_H} {n : Nat} (l0 : Nat) (l1 : Int32) {r_ : mm_H} (hn : 48 ≤ n) (hr : b_X3_all K F_ h n l0 l1 = some r_) : Sp G l yX3_all cX3_all 3 none (D_ + 1) 0 0 [.ref l0, .int l1] h n (fun v h' n' => v = none ∧ h' = r_ ∧ n' = n) := by
  refine Sp_of (by decide +kernel) (Nat.le_of_ble_eq_true rfl) hn ?_
  intro W0 hwl C
  subst hwl
  unfold b_X3_all at hr
  show WW W0 G 3 0 0 _ 0 [some (.ref l0), some (.int l1), none] [] h n 0 0
  refine rr_aload_n (i := 0) C dX3_all_0 rfl rfl ?_
  refine rr_iload_n (i := 1) C dX3_all_1 rfl rfl ?_
  replace hr := Option.bind_eq_some_iff.mp hr
  obtain ⟨u1, e2, hr⟩ := hr
  replace hr := Option.bind_eq_some_iff.mp hr
  obtain ⟨v3, e4, hr⟩ := hr
  refine rr_callVq (as := [.int l1]) (st := []) (mc' := 0) (ms' := 0) C dX3_all_2 iv_X3_186 (by omega) e2 rfl (Nat.le_of_ble_eq_true rfl) (hF2 l0 l1 (by omega) e4) (fun v_ h_ n_ q_ => ?_)
  obtain ⟨q1_, q2_, q3_⟩ := q_
  subst v_; subst h_; subst n_
  show WW W0 G 3 _ _ _ 5 [some (.ref l0), some (.int l1), none] [] v3 n _ _
  refine rr_iconst (v := 0) C dX3_all_5 (by decide) ?_
  refine rr_istore_n (i := 2) C dX3_all_6 rfl (by decide) ?_
  show WW W0 G 3 _ _ _ 7 [some (.ref l0), some (.int l1), some (.int 0)] [] v3 n _ _
  replace hr := Option.bind_eq_some_iff.mp hr
  obtain ⟨v21, e22, hr⟩ := hr
  refine rr_keep [true, true, true] (w_X3_all_7 hd_ hF0 hF1 hF2 C (by omega) l0 l1 K 0 v3 e22 ?_)
  show WW W0 G 3 _ _ _ 44 [none, none, none] [] v21 n _ _
  obtain rfl := Option.some.inj hr
  exact rr_vret C dX3_all_44 rfl ⟨rfl, rfl, rfl⟩
set_option maxRecDepth 100000 in
set_option maxHeartbeats 4000000 in
theorem cb_X3_one {K : Nat} {G : mm_G} {D_ : Nat} {F_ : (mm_H → Nat → Nat → Int32 → Option (mm_H)) × (mm_H → Nat → Nat → Int32 → Option (mm_H)) × (mm_H → Nat → Nat → Int32 → Option (mm_H))} (hd_ : 7 ≤ D_) (hF0 : ∀ {l : Launch} {h : mm_H} {n : Nat} (l0 : Nat) (l1 : Int32) {r_ : mm_H}, 48 ≤ n → F_.1 h n l0 l1 = some r_ → Sp G l yX3_any cX3_any 3 none D_ 0 0 [.ref l0, .int l1] h n (fun v h' n' => v = none ∧ h' = r_ ∧ n' = n)) (hF1 : ∀ {l : Launch} {h : mm_H} {n : Nat} (l0 : Nat) (l1 : Int32) {r_ : mm_H}, 48 ≤ n → F_.2.1 h n l0 l1 = some r_ → Sp G l yX3_all cX3_all 3 none D_ 0 0 [.ref l0, .int l1] h n (fun v h' n' => v = none ∧ h' = r_ ∧ n' = n)) (hF2 : ∀ {l : Launch} {h : mm_H} {n : Nat} (l0 : Nat) (l1 : Int32) {r_ : mm_H}, 48 ≤ n → F_.2.2 h n l0 l1 = some r_ → Sp G l yX3_one cX3_one 3 none D_ 0 0 [.ref l0, .int l1] h n (fun v h' n' => v = none ∧ h' = r_ ∧ n' = n)) {l : Launch} {h : mm_H} {n : Nat} (l0 : Nat) (l1 : Int32) {r_ : mm_H} (hn : 48 ≤ n) (hr : b_X3_one K F_ h n l0 l1 = some r_) : Sp G l yX3_one cX3_one 3 none (D_ + 1) 0 0 [.ref l0, .int l1] h n (fun v h' n' => v = none ∧ h' = r_ ∧ n' = n) := by
  refine Sp_of (by decide +kernel) (Nat.le_of_ble_eq_true rfl) hn ?_
  intro W0 hwl C
  subst hwl
  unfold b_X3_one at hr
  show WW W0 G 3 0 0 _ 0 [some (.ref l0), some (.int l1), none] [] h n 0 0
  refine rr_aload_n (i := 0) C dX3_one_0 rfl rfl ?_
  refine rr_ldcS (i := 13) C dX3_one_1 (by decide) rfl ?_
  replace hr := Option.bind_eq_some_iff.mp hr
  obtain ⟨u1, e2, hr⟩ := hr
  replace hr := Option.bind_eq_some_iff.mp hr
  obtain ⟨v3, e4, hr⟩ := hr
  refine rr_callVq (as := [.ref 16]) (st := []) (mc' := 0) (ms' := 0) C dX3_one_3 iv_X3_66 (by omega) e2 rfl (Nat.le_of_ble_eq_true rfl) (c_X3_isWord l0 (some 16) (by omega) e4) (fun v_ h_ n_ q_ => ?_)
  obtain ⟨q1_, q2_, q3_⟩ := q_
  subst v_; subst h_; subst n_
  show WW W0 G 3 _ _ _ 6 [some (.ref l0), some (.int l1), none] [.int v3] h n _ _
  refine rr_istore_n (i := 2) C dX3_one_6 rfl (by decide) ?_
  show WW W0 G 3 _ _ _ 7 [some (.ref l0), some (.int l1), some (.int v3)] [] h n _ _
  refine rr_iload_n (i := 2) C dX3_one_7 rfl rfl ?_
  refine rr_if_ne (tgt := 25) C dX3_one_8 (by decide) (fun c8_ => ?_) (fun c8_ => ?_)
  · replace hr := (if_neg c8_).symm.trans hr
    refine rr_iload_n (i := 1) C dX3_one_25 rfl rfl ?_
    refine rr_bipush (v := 10) C dX3_one_26 (by decide) ?_
    refine rr_icmp_lt (tgt := 36) C dX3_one_28 (by decide) (fun c28_ => ?_) (fun c28_ => ?_)
    · replace hr := (if_pos c28_).symm.trans hr
      refine rr_aload_n (i := 0) C dX3_one_36 rfl rfl ?_
      replace hr := Option.bind_eq_some_iff.mp hr
      obtain ⟨u37, e38, hr⟩ := hr
      replace hr := Option.bind_eq_some_iff.mp hr
      obtain ⟨v39, e40, hr⟩ := hr
      refine rr_callVq (as := []) (st := []) (mc' := 0) (ms' := 0) C dX3_one_37 iv_X3_61 (by omega) e38 rfl (Nat.le_of_ble_eq_true rfl) (c_X3_step l0 (by omega) e40) (fun v_ h_ n_ q_ => ?_)
      obtain ⟨q1_, q2_, q3_⟩ := q_
      subst v_; subst h_; subst n_
      show WW W0 G 3 _ _ _ 40 [some (.ref l0), some (.int l1), some (.int v3)] [] v39 n _ _
      refine rr_iload_n (i := 2) C dX3_one_40 rfl rfl ?_
      refine rr_if_eq (tgt := 59) C dX3_one_41 (by decide) (fun c41_ => ?_) (fun c41_ => ?_)
      · replace hr := (if_pos c41_).symm.trans hr
        refine rr_aload_n (i := 0) C dX3_one_59 rfl rfl ?_
        refine rr_iload_n (i := 1) C dX3_one_60 rfl rfl ?_
        refine rr_iconst (v := 1) C dX3_one_61 (by decide) ?_
        refine rr_iadd C dX3_one_62 ?_
        replace hr := Option.bind_eq_some_iff.mp hr
        obtain ⟨u41, e42, hr⟩ := hr
        replace hr := Option.bind_eq_some_iff.mp hr
        obtain ⟨v43, e44, hr⟩ := hr
        refine rr_callVq (as := [.int (l1 + 1)]) (st := []) (mc' := 0) (ms' := 0) C dX3_one_63 iv_X3_143 (by omega) e42 rfl (Nat.le_of_ble_eq_true rfl) (hF0 l0 (l1 + 1) (by omega) e44) (fun v_ h_ n_ q_ => ?_)
        obtain ⟨q1_, q2_, q3_⟩ := q_
        subst v_; subst h_; subst n_
        show WW W0 G 3 _ _ _ 66 [some (.ref l0), some (.int l1), some (.int v3)] [] v43 n _ _
        refine rr_aload_n (i := 0) C dX3_one_66 rfl rfl ?_
        refine rr_bipush (v := 41) C dX3_one_67 (by decide) ?_
        replace hr := Option.bind_eq_some_iff.mp hr
        obtain ⟨u45, e46, hr⟩ := hr
        replace hr := Option.bind_eq_some_iff.mp hr
        obtain ⟨v47, e48, hr⟩ := hr
        refine rr_callVq (as := [.int 41]) (st := []) (mc' := 0) (ms' := 0) C dX3_one_69 iv_X3_70 (by omega) e46 rfl (Nat.le_of_ble_eq_true rfl) (c_X3_sign l0 41 (by omega) e48) (fun v_ h_ n_ q_ => ?_)
        obtain ⟨q1_, q2_, q3_⟩ := q_
        subst v_; subst h_; subst n_
        show WW W0 G 3 _ _ _ 72 [some (.ref l0), some (.int l1), some (.int v3)] [] v47 n _ _
        obtain rfl := Option.some.inj hr
        exact rr_vret C dX3_one_72 rfl ⟨rfl, rfl, rfl⟩
      · replace hr := (if_neg c41_).symm.trans hr
        refine rr_aload_n (i := 0) C dX3_one_44 rfl rfl ?_
        refine rr_iload_n (i := 1) C dX3_one_45 rfl rfl ?_
        refine rr_iconst (v := 1) C dX3_one_46 (by decide) ?_
        refine rr_iadd C dX3_one_47 ?_
        replace hr := Option.bind_eq_some_iff.mp hr
        obtain ⟨u49, e50, hr⟩ := hr
        replace hr := Option.bind_eq_some_iff.mp hr
        obtain ⟨v51, e52, hr⟩ := hr
        refine rr_callVq (as := [.int (l1 + 1)]) (st := []) (mc' := 0) (ms' := 0) C dX3_one_48 iv_X3_186 (by omega) e50 rfl (Nat.le_of_ble_eq_true rfl) (hF2 l0 (l1 + 1) (by omega) e52) (fun v_ h_ n_ q_ => ?_)
        obtain ⟨q1_, q2_, q3_⟩ := q_
        subst v_; subst h_; subst n_
        show WW W0 G 3 _ _ _ 51 [some (.ref l0), some (.int l1), some (.int v3)] [] v51 n _ _
        refine rr_aload_n (i := 0) C dX3_one_51 rfl rfl ?_
        refine rr_iconst (v := (-1)) C dX3_one_52 (by decide) ?_
        replace hr := Option.bind_eq_some_iff.mp hr
        obtain ⟨u53, e54, hr⟩ := hr
        replace hr := Option.bind_eq_some_iff.mp hr
        obtain ⟨v55, e56, hr⟩ := hr
        refine rr_callVq (as := [.int (-1)]) (st := []) (mc' := 0) (ms' := 0) C dX3_one_53 iv_X3_183 (by omega) e54 rfl (Nat.le_of_ble_eq_true rfl) (c_X3_write l0 (-1) (by omega) e56) (fun v_ h_ n_ q_ => ?_)
        obtain ⟨q1_, q2_, q3_⟩ := q_
        subst v_; subst h_; subst n_
        show WW W0 G 3 _ _ _ 56 [some (.ref l0), some (.int l1), some (.int v3)] [] v55 n _ _
        refine rr_goto (tgt := 72) C dX3_one_56 (by decide) ?_
        obtain rfl := Option.some.inj hr
        exact rr_vret C dX3_one_72 rfl ⟨rfl, rfl, rfl⟩
    · replace hr := (if_neg c28_).symm.trans hr
      refine rr_aload_n (i := 0) C dX3_one_31 rfl rfl ?_
      replace hr := Option.bind_eq_some_iff.mp hr
      obtain ⟨u57, e58, hr⟩ := hr
      replace hr := Option.bind_eq_some_iff.mp hr
      obtain ⟨v59, e60, hr⟩ := hr
      refine rr_callVq (as := []) (st := []) (mc' := 0) (ms' := 0) C dX3_one_32 iv_X3_85 (by omega) e58 rfl (Nat.le_of_ble_eq_true rfl) (c_X3_fail l0 (by omega) e60) (fun v_ h_ n_ q_ => ?_)
      obtain ⟨q1_, q2_, q3_⟩ := q_
      subst v_; subst h_; subst n_
      show WW W0 G 3 _ _ _ 35 [some (.ref l0), some (.int l1), some (.int v3)] [] v59 n _ _
      obtain rfl := Option.some.inj hr
      exact rr_vret C dX3_one_35 rfl ⟨rfl, rfl, rfl⟩
  · replace hr := (if_pos c8_).symm.trans hr
    refine rr_aload_n (i := 0) C dX3_one_11 rfl rfl ?_
    refine rr_bipush (v := 40) C dX3_one_12 (by decide) ?_
    replace hr := Option.bind_eq_some_iff.mp hr
    obtain ⟨u5, e6, hr⟩ := hr
    replace hr := Option.bind_eq_some_iff.mp hr
    obtain ⟨v7, e8, hr⟩ := hr
    refine rr_callVq (as := [.int 40]) (st := []) (mc' := 0) (ms' := 0) C dX3_one_14 iv_X3_193 (by omega) e6 rfl (Nat.le_of_ble_eq_true rfl) (c_X3_isSign l0 40 (by omega) e8) (fun v_ h_ n_ q_ => ?_)
    obtain ⟨q1_, q2_, q3_⟩ := q_
    subst v_; subst h_; subst n_
    show WW W0 G 3 _ _ _ 17 [some (.ref l0), some (.int l1), some (.int v3)] [.int v7] h n _ _
    refine rr_if_ne (tgt := 25) C dX3_one_17 (by decide) (fun c17_ => ?_) (fun c17_ => ?_)
    · replace hr := (if_neg c17_).symm.trans hr
      refine rr_iload_n (i := 1) C dX3_one_25 rfl rfl ?_
      refine rr_bipush (v := 10) C dX3_one_26 (by decide) ?_
      refine rr_icmp_lt (tgt := 36) C dX3_one_28 (by decide) (fun c28_ => ?_) (fun c28_ => ?_)
      · replace hr := (if_pos c28_).symm.trans hr
        refine rr_aload_n (i := 0) C dX3_one_36 rfl rfl ?_
        replace hr := Option.bind_eq_some_iff.mp hr
        obtain ⟨u13, e14, hr⟩ := hr
        replace hr := Option.bind_eq_some_iff.mp hr
        obtain ⟨v15, e16, hr⟩ := hr
        refine rr_callVq (as := []) (st := []) (mc' := 0) (ms' := 0) C dX3_one_37 iv_X3_61 (by omega) e14 rfl (Nat.le_of_ble_eq_true rfl) (c_X3_step l0 (by omega) e16) (fun v_ h_ n_ q_ => ?_)
        obtain ⟨q1_, q2_, q3_⟩ := q_
        subst v_; subst h_; subst n_
        show WW W0 G 3 _ _ _ 40 [some (.ref l0), some (.int l1), some (.int v3)] [] v15 n _ _
        refine rr_iload_n (i := 2) C dX3_one_40 rfl rfl ?_
        refine rr_if_eq (tgt := 59) C dX3_one_41 (by decide) (fun c41_ => ?_) (fun c41_ => ?_)
        · replace hr := (if_pos c41_).symm.trans hr
          refine rr_aload_n (i := 0) C dX3_one_59 rfl rfl ?_
          refine rr_iload_n (i := 1) C dX3_one_60 rfl rfl ?_
          refine rr_iconst (v := 1) C dX3_one_61 (by decide) ?_
          refine rr_iadd C dX3_one_62 ?_
          replace hr := Option.bind_eq_some_iff.mp hr
          obtain ⟨u17, e18, hr⟩ := hr
          replace hr := Option.bind_eq_some_iff.mp hr
          obtain ⟨v19, e20, hr⟩ := hr
          refine rr_callVq (as := [.int (l1 + 1)]) (st := []) (mc' := 0) (ms' := 0) C dX3_one_63 iv_X3_143 (by omega) e18 rfl (Nat.le_of_ble_eq_true rfl) (hF0 l0 (l1 + 1) (by omega) e20) (fun v_ h_ n_ q_ => ?_)
          obtain ⟨q1_, q2_, q3_⟩ := q_
          subst v_; subst h_; subst n_
          show WW W0 G 3 _ _ _ 66 [some (.ref l0), some (.int l1), some (.int v3)] [] v19 n _ _
          refine rr_aload_n (i := 0) C dX3_one_66 rfl rfl ?_
          refine rr_bipush (v := 41) C dX3_one_67 (by decide) ?_
          replace hr := Option.bind_eq_some_iff.mp hr
          obtain ⟨u21, e22, hr⟩ := hr
          replace hr := Option.bind_eq_some_iff.mp hr
          obtain ⟨v23, e24, hr⟩ := hr
          refine rr_callVq (as := [.int 41]) (st := []) (mc' := 0) (ms' := 0) C dX3_one_69 iv_X3_70 (by omega) e22 rfl (Nat.le_of_ble_eq_true rfl) (c_X3_sign l0 41 (by omega) e24) (fun v_ h_ n_ q_ => ?_)
          obtain ⟨q1_, q2_, q3_⟩ := q_
          subst v_; subst h_; subst n_
          show WW W0 G 3 _ _ _ 72 [some (.ref l0), some (.int l1), some (.int v3)] [] v23 n _ _
          obtain rfl := Option.some.inj hr
          exact rr_vret C dX3_one_72 rfl ⟨rfl, rfl, rfl⟩
        · replace hr := (if_neg c41_).symm.trans hr
          refine rr_aload_n (i := 0) C dX3_one_44 rfl rfl ?_
          refine rr_iload_n (i := 1) C dX3_one_45 rfl rfl ?_
          refine rr_iconst (v := 1) C dX3_one_46 (by decide) ?_
          refine rr_iadd C dX3_one_47 ?_
          replace hr := Option.bind_eq_some_iff.mp hr
          obtain ⟨u25, e26, hr⟩ := hr
          replace hr := Option.bind_eq_some_iff.mp hr
          obtain ⟨v27, e28, hr⟩ := hr
          refine rr_callVq (as := [.int (l1 + 1)]) (st := []) (mc' := 0) (ms' := 0) C dX3_one_48 iv_X3_186 (by omega) e26 rfl (Nat.le_of_ble_eq_true rfl) (hF2 l0 (l1 + 1) (by omega) e28) (fun v_ h_ n_ q_ => ?_)
          obtain ⟨q1_, q2_, q3_⟩ := q_
          subst v_; subst h_; subst n_
          show WW W0 G 3 _ _ _ 51 [some (.ref l0), some (.int l1), some (.int v3)] [] v27 n _ _
          refine rr_aload_n (i := 0) C dX3_one_51 rfl rfl ?_
          refine rr_iconst (v := (-1)) C dX3_one_52 (by decide) ?_
          replace hr := Option.bind_eq_some_iff.mp hr
          obtain ⟨u29, e30, hr⟩ := hr
          replace hr := Option.bind_eq_some_iff.mp hr
          obtain ⟨v31, e32, hr⟩ := hr
          refine rr_callVq (as := [.int (-1)]) (st := []) (mc' := 0) (ms' := 0) C dX3_one_53 iv_X3_183 (by omega) e30 rfl (Nat.le_of_ble_eq_true rfl) (c_X3_write l0 (-1) (by omega) e32) (fun v_ h_ n_ q_ => ?_)
          obtain ⟨q1_, q2_, q3_⟩ := q_
          subst v_; subst h_; subst n_
          show WW W0 G 3 _ _ _ 56 [some (.ref l0), some (.int l1), some (.int v3)] [] v31 n _ _
          refine rr_goto (tgt := 72) C dX3_one_56 (by decide) ?_
          obtain rfl := Option.some.inj hr
          exact rr_vret C dX3_one_72 rfl ⟨rfl, rfl, rfl⟩
      · replace hr := (if_neg c28_).symm.trans hr
        refine rr_aload_n (i := 0) C dX3_one_31 rfl rfl ?_
        replace hr := Option.bind_eq_some_iff.mp hr
        obtain ⟨u33, e34, hr⟩ := hr
        replace hr := Option.bind_eq_some_iff.mp hr
        obtain ⟨v35, e36, hr⟩ := hr
        refine rr_callVq (as := []) (st := []) (mc' := 0) (ms' := 0) C dX3_one_32 iv_X3_85 (by omega) e34 rfl (Nat.le_of_ble_eq_true rfl) (c_X3_fail l0 (by omega) e36) (fun v_ h_ n_ q_ => ?_)
        obtain ⟨q1_, q2_, q3_⟩ := q_
        subst v_; subst h_; subst n_
        show WW W0 G 3 _ _ _ 35 [some (.ref l0), some (.int l1), some (.int v3)] [] v35 n _ _
        obtain rfl := Option.some.inj hr
        exact rr_vret C dX3_one_35 rfl ⟨rfl, rfl, rfl⟩
    · replace hr := (if_pos c17_).symm.trans hr
      refine rr_aload_n (i := 0) C dX3_one_20 rfl rfl ?_
      replace hr := Option.bind_eq_some_iff.mp hr
      obtain ⟨u9, e10, hr⟩ := hr
      replace hr := Option.bind_eq_some_iff.mp hr
      obtain ⟨v11, e12, hr⟩ := hr
      refine rr_callVq (as := []) (st := []) (mc' := 0) (ms' := 0) C dX3_one_21 iv_X3_197 (by omega) e10 rfl (Nat.le_of_ble_eq_true rfl) (c_X3_comparison l0 (by omega) e12) (fun v_ h_ n_ q_ => ?_)
      obtain ⟨q1_, q2_, q3_⟩ := q_
      subst v_; subst h_; subst n_
      show WW W0 G 3 _ _ _ 24 [some (.ref l0), some (.int l1), some (.int v3)] [] v11 n _ _
      obtain rfl := Option.some.inj hr
      exact rr_vret C dX3_one_24 rfl ⟨rfl, rfl, rfl⟩
set_option maxHeartbeats 4000000 in
theorem cg_X3_expr {K : Nat} {G : mm_G} : ∀ d : Nat, (∀ {l : Launch} {h : mm_H} {n : Nat} (l0 : Nat) (l1 : Int32) {r_ : mm_H}, 48 ≤ n → ((g_X3_expr K d).1) h n l0 l1 = some r_ → Sp G l yX3_any cX3_any 3 none (7 + d) 0 0 [.ref l0, .int l1] h n (fun v h' n' => v = none ∧ h' = r_ ∧ n' = n)) ∧ (∀ {l : Launch} {h : mm_H} {n : Nat} (l0 : Nat) (l1 : Int32) {r_ : mm_H}, 48 ≤ n → ((g_X3_expr K d).2.1) h n l0 l1 = some r_ → Sp G l yX3_all cX3_all 3 none (7 + d) 0 0 [.ref l0, .int l1] h n (fun v h' n' => v = none ∧ h' = r_ ∧ n' = n)) ∧ (∀ {l : Launch} {h : mm_H} {n : Nat} (l0 : Nat) (l1 : Int32) {r_ : mm_H}, 48 ≤ n → ((g_X3_expr K d).2.2) h n l0 l1 = some r_ → Sp G l yX3_one cX3_one 3 none (7 + d) 0 0 [.ref l0, .int l1] h n (fun v h' n' => v = none ∧ h' = r_ ∧ n' = n)) := by
  intro d
  induction d with
  | zero =>
    exact ⟨(by intro l h n l0 l1 r_ _ hr; cases hr), (by intro l h n l0 l1 r_ _ hr; cases hr), (by intro l h n l0 l1 r_ _ hr; cases hr)⟩
  | succ d ih =>
    obtain ⟨i0, i1, i2⟩ := ih
    exact ⟨(by intro l h n l0 l1 r_ hn hr; exact cb_X3_any (D_ := 7 + d) (F_ := g_X3_expr K d) (by omega) i0 i1 i2 l0 l1 hn hr), (by intro l h n l0 l1 r_ hn hr; exact cb_X3_all (D_ := 7 + d) (F_ := g_X3_expr K d) (by omega) i0 i1 i2 l0 l1 hn hr), (by intro l h n l0 l1 r_ hn hr; exact cb_X3_one (D_ := 7 + d) (F_ := g_X3_expr K d) (by omega) i0 i1 i2 l0 l1 hn hr)⟩
theorem c_X3_any {K : Nat} {G : mm_G} : ∀ {l : Launch} {h : mm_H} {n : Nat} (l0 : Nat) (l1 : Int32) {r_ : mm_H}, 48 ≤ n → q_X3_any K h n l0 l1 = some r_ → Sp G l yX3_any cX3_any 3 none 55 0 0 [.ref l0, .int l1] h n (fun v h' n' => v = none ∧ h' = r_ ∧ n' = n) := (cg_X3_expr (K := K) (G := G) 48).1
theorem c_X3_all {K : Nat} {G : mm_G} : ∀ {l : Launch} {h : mm_H} {n : Nat} (l0 : Nat) (l1 : Int32) {r_ : mm_H}, 48 ≤ n → q_X3_all K h n l0 l1 = some r_ → Sp G l yX3_all cX3_all 3 none 55 0 0 [.ref l0, .int l1] h n (fun v h' n' => v = none ∧ h' = r_ ∧ n' = n) := (cg_X3_expr (K := K) (G := G) 48).2.1
theorem c_X3_one {K : Nat} {G : mm_G} : ∀ {l : Launch} {h : mm_H} {n : Nat} (l0 : Nat) (l1 : Int32) {r_ : mm_H}, 48 ≤ n → q_X3_one K h n l0 l1 = some r_ → Sp G l yX3_one cX3_one 3 none 55 0 0 [.ref l0, .int l1] h n (fun v h' n' => v = none ∧ h' = r_ ∧ n' = n) := (cg_X3_expr (K := K) (G := G) 48).2.2
def q_X4_takeFirm (K : Nat) (h : mm_H) (n : Nat) (l0 : Nat) (l1 : Int32) : Option (Int32 × mm_H) :=
  (rdI h n l0 4 5).bind fun v1 =>
  if v1 < 11 then
    (rdR h n l0 4 0).bind fun v3 =>
    (rdI h n l0 4 5).bind fun v5 =>
    v3.bind fun a7 =>
    (stI h n a7 v5 l1).bind fun h9 =>
    (rdI h9 n l0 4 5).bind fun v11 =>
    (wrF h9 n l0 4 5 (.int (v11 + 1))).bind fun h13 =>
    (rdI h13 n l0 4 5).bind fun v15 =>
    some (v15 - 1, h13)
  else
  some ((-1), h)
set_option maxRecDepth 100000 in
set_option maxHeartbeats 4000000 in
theorem c_X4_takeFirm {K : Nat} {G : mm_G} {l : Launch} {h : mm_H} {n : Nat} (l0 : Nat) (l1 : Int32) {r_ : Int32 × mm_H} (hn : 48 ≤ n) (hr : q_X4_takeFirm K h n l0 l1 = some r_) : Sp G l yX4_takeFirm cX4_takeFirm 2 (some .int) 0 0 0 [.ref l0, .int l1] h n (fun v h' n' => v = some (.int r_.1) ∧ h' = r_.2 ∧ n' = n) := by
  refine Sp_of (by decide +kernel) (Nat.le_of_ble_eq_true rfl) hn ?_
  intro W0 hwl C
  subst hwl
  unfold q_X4_takeFirm at hr
  show WW W0 G 2 0 0 _ 0 [some (.ref l0), some (.int l1)] [] h n 0 0
  refine rr_aload_n (i := 0) C dX4_takeFirm_0 rfl rfl ?_
  replace hr := Option.bind_eq_some_iff.mp hr
  obtain ⟨v1, e2, hr⟩ := hr
  refine rr_rdI C dX4_takeFirm_1 fl_X4_39 e2 ?_
  refine rr_bipush (v := 11) C dX4_takeFirm_4 (by decide) ?_
  refine rr_icmp_lt (tgt := 11) C dX4_takeFirm_6 (by decide) (fun c6_ => ?_) (fun c6_ => ?_)
  · replace hr := (if_pos c6_).symm.trans hr
    refine rr_aload_n (i := 0) C dX4_takeFirm_11 rfl rfl ?_
    replace hr := Option.bind_eq_some_iff.mp hr
    obtain ⟨v3, e4, hr⟩ := hr
    refine rr_rdR C dX4_takeFirm_12 fl_X4_9 e4 ?_
    refine rr_aload_n (i := 0) C dX4_takeFirm_15 rfl rfl ?_
    replace hr := Option.bind_eq_some_iff.mp hr
    obtain ⟨v5, e6, hr⟩ := hr
    refine rr_rdI C dX4_takeFirm_16 fl_X4_39 e6 ?_
    refine rr_iload_n (i := 1) C dX4_takeFirm_19 rfl rfl ?_
    replace hr := Option.bind_eq_some_iff.mp hr
    obtain ⟨a7, e8, hr⟩ := hr
    subst e8
    replace hr := Option.bind_eq_some_iff.mp hr
    obtain ⟨h9, e10, hr⟩ := hr
    refine rr_stI C dX4_takeFirm_20 e10 ?_
    refine rr_aload_n (i := 0) C dX4_takeFirm_21 rfl rfl ?_
    refine rr_dup C dX4_takeFirm_22 rfl ?_
    replace hr := Option.bind_eq_some_iff.mp hr
    obtain ⟨v11, e12, hr⟩ := hr
    refine rr_rdI C dX4_takeFirm_23 fl_X4_39 e12 ?_
    refine rr_iconst (v := 1) C dX4_takeFirm_26 (by decide) ?_
    refine rr_iadd C dX4_takeFirm_27 ?_
    replace hr := Option.bind_eq_some_iff.mp hr
    obtain ⟨h13, e14, hr⟩ := hr
    refine rr_wrF C dX4_takeFirm_28 fp_X4_39 rfl rfl e14 ?_
    refine rr_aload_n (i := 0) C dX4_takeFirm_31 rfl rfl ?_
    replace hr := Option.bind_eq_some_iff.mp hr
    obtain ⟨v15, e16, hr⟩ := hr
    refine rr_rdI C dX4_takeFirm_32 fl_X4_39 e16 ?_
    refine rr_iconst (v := 1) C dX4_takeFirm_35 (by decide) ?_
    refine rr_isub C dX4_takeFirm_36 ?_
    obtain rfl := Option.some.inj hr
    exact rr_iret (ty := .int) C dX4_takeFirm_37 rfl rfl ⟨rfl, rfl, rfl⟩
  · replace hr := (if_neg c6_).symm.trans hr
    refine rr_iconst (v := (-1)) C dX4_takeFirm_9 (by decide) ?_
    obtain rfl := Option.some.inj hr
    exact rr_iret (ty := .int) C dX4_takeFirm_10 rfl rfl ⟨rfl, rfl, rfl⟩
def q_X4_firstWorthOf (K : Nat) (h : mm_H) (n : Nat) (l0 : Nat) (l1 : Int32) : Option (Int32) :=
  if l1 < 0 then
    some 0
  else
  if 11 ≤ l1 then
    some 0
  else
  (rdR h n l0 4 0).bind fun v1 =>
  v1.bind fun a3 =>
  (ldI h n a3 l1).bind fun v5 =>
  some v5
set_option maxRecDepth 100000 in
set_option maxHeartbeats 4000000 in
theorem c_X4_firstWorthOf {K : Nat} {G : mm_G} {l : Launch} {h : mm_H} {n : Nat} (l0 : Nat) (l1 : Int32) {r_ : Int32} (hn : 48 ≤ n) (hr : q_X4_firstWorthOf K h n l0 l1 = some r_) : Sp G l yX4_firstWorthOf cX4_firstWorthOf 2 (some .int) 0 0 0 [.ref l0, .int l1] h n (fun v h' n' => v = some (.int r_) ∧ h' = h ∧ n' = n) := by
  refine Sp_of (by decide +kernel) (Nat.le_of_ble_eq_true rfl) hn ?_
  intro W0 hwl C
  subst hwl
  unfold q_X4_firstWorthOf at hr
  show WW W0 G 2 0 0 _ 0 [some (.ref l0), some (.int l1)] [] h n 0 0
  refine rr_iload_n (i := 1) C dX4_firstWorthOf_0 rfl rfl ?_
  refine rr_if_lt (tgt := 19) C dX4_firstWorthOf_1 (by decide) (fun c1_ => ?_) (fun c1_ => ?_)
  · replace hr := (if_pos c1_).symm.trans hr
    refine rr_iconst (v := 0) C dX4_firstWorthOf_19 (by decide) ?_
    obtain rfl := Option.some.inj hr
    exact rr_iret (ty := .int) C dX4_firstWorthOf_20 rfl rfl ⟨rfl, rfl, rfl⟩
  · replace hr := (if_neg c1_).symm.trans hr
    refine rr_iload_n (i := 1) C dX4_firstWorthOf_4 rfl rfl ?_
    refine rr_bipush (v := 11) C dX4_firstWorthOf_5 (by decide) ?_
    refine rr_icmp_ge (tgt := 19) C dX4_firstWorthOf_7 (by decide) (fun c7_ => ?_) (fun c7_ => ?_)
    · replace hr := (if_pos c7_).symm.trans hr
      refine rr_iconst (v := 0) C dX4_firstWorthOf_19 (by decide) ?_
      obtain rfl := Option.some.inj hr
      exact rr_iret (ty := .int) C dX4_firstWorthOf_20 rfl rfl ⟨rfl, rfl, rfl⟩
    · replace hr := (if_neg c7_).symm.trans hr
      refine rr_aload_n (i := 0) C dX4_firstWorthOf_10 rfl rfl ?_
      replace hr := Option.bind_eq_some_iff.mp hr
      obtain ⟨v1, e2, hr⟩ := hr
      refine rr_rdR C dX4_firstWorthOf_11 fl_X4_9 e2 ?_
      refine rr_iload_n (i := 1) C dX4_firstWorthOf_14 rfl rfl ?_
      replace hr := Option.bind_eq_some_iff.mp hr
      obtain ⟨a3, e4, hr⟩ := hr
      subst e4
      replace hr := Option.bind_eq_some_iff.mp hr
      obtain ⟨v5, e6, hr⟩ := hr
      refine rr_ldI C dX4_firstWorthOf_15 e6 ?_
      refine rr_goto (tgt := 20) C dX4_firstWorthOf_16 (by decide) ?_
      obtain rfl := Option.some.inj hr
      exact rr_iret (ty := .int) C dX4_firstWorthOf_20 rfl rfl ⟨rfl, rfl, rfl⟩
def q_X4_homesOf (K : Nat) (h : mm_H) (n : Nat) (l0 : Nat) (l1 : Int32) (l2 : Int32) (l3 : Int32) (l4 : Int32) : Option (Int32) :=
  (rdR h n l0 4 1).bind fun v1 =>
  v1.bind fun a3 =>
  (ckq h n a3 0).bind fun u5 =>
  (q_X0_knownBy K h n a3 l2 l3 (11 + l1) l4).bind fun v7 =>
  some (i_max 0 v7)
set_option maxRecDepth 100000 in
set_option maxHeartbeats 4000000 in
theorem c_X4_homesOf {K : Nat} {G : mm_G} {l : Launch} {h : mm_H} {n : Nat} (l0 : Nat) (l1 : Int32) (l2 : Int32) (l3 : Int32) (l4 : Int32) {r_ : Int32} (hn : 48 ≤ n) (hr : q_X4_homesOf K h n l0 l1 l2 l3 l4 = some r_) : Sp G l yX4_homesOf cX4_homesOf 5 (some .int) 2 0 0 [.ref l0, .int l1, .int l2, .int l3, .int l4] h n (fun v h' n' => v = some (.int r_) ∧ h' = h ∧ n' = n) := by
  refine Sp_of (by decide +kernel) (Nat.le_of_ble_eq_true rfl) hn ?_
  intro W0 hwl C
  subst hwl
  unfold q_X4_homesOf at hr
  show WW W0 G 5 0 0 _ 0 [some (.ref l0), some (.int l1), some (.int l2), some (.int l3), some (.int l4)] [] h n 0 0
  refine rr_iconst (v := 0) C dX4_homesOf_0 (by decide) ?_
  refine rr_aload_n (i := 0) C dX4_homesOf_1 rfl rfl ?_
  replace hr := Option.bind_eq_some_iff.mp hr
  obtain ⟨v1, e2, hr⟩ := hr
  refine rr_rdR C dX4_homesOf_2 fl_X4_18 e2 ?_
  refine rr_iload_n (i := 2) C dX4_homesOf_5 rfl rfl ?_
  refine rr_iload_n (i := 3) C dX4_homesOf_6 rfl rfl ?_
  refine rr_bipush (v := 11) C dX4_homesOf_7 (by decide) ?_
  refine rr_iload_n (i := 1) C dX4_homesOf_9 rfl rfl ?_
  refine rr_iadd C dX4_homesOf_10 ?_
  refine rr_iload C dX4_homesOf_11 rfl ?_
  replace hr := Option.bind_eq_some_iff.mp hr
  obtain ⟨a3, e4, hr⟩ := hr
  subst e4
  replace hr := Option.bind_eq_some_iff.mp hr
  obtain ⟨u5, e6, hr⟩ := hr
  replace hr := Option.bind_eq_some_iff.mp hr
  obtain ⟨v7, e8, hr⟩ := hr
  refine rr_callVq (as := [.int l2, .int l3, .int (11 + l1), .int l4]) (st := [.int 0]) (mc' := 0) (ms' := 0) C dX4_homesOf_13 iv_X4_43 (by decide) e6 rfl (Nat.le_of_ble_eq_true rfl) (c_X0_knownBy a3 l2 l3 (11 + l1) l4 (by omega) e8) (fun v_ h_ n_ q_ => ?_)
  obtain ⟨q1_, q2_, q3_⟩ := q_
  subst v_; subst h_; subst n_
  show WW W0 G 5 _ _ _ 16 [some (.ref l0), some (.int l1), some (.int l2), some (.int l3), some (.int l4)] [.int v7, .int 0] h n _ _
  refine rr_mmax C dX4_homesOf_16 ma_X4_47 (by decide) (Nat.le_of_ble_eq_true rfl) ?_
  obtain rfl := Option.some.inj hr
  exact rr_iret (ty := .int) C dX4_homesOf_19 rfl rfl ⟨rfl, rfl, rfl⟩
def q_X4_partsOf (K : Nat) (h : mm_H) (n : Nat) (l0 : Nat) (l1 : Int32) : Option (Int64) :=
  if l1 < 0 then
    some 0
  else
  (lenA h n 1 0).bind fun v1 =>
  if v1 ≤ l1 then
    some 0
  else
  (ldI h n 1 l1).bind fun v3 =>
  some (Int32.toInt64 v3)
set_option maxRecDepth 100000 in
set_option maxHeartbeats 4000000 in
theorem c_X4_partsOf {K : Nat} {G : mm_G} {l : Launch} {h : mm_H} {n : Nat} (l0 : Nat) (l1 : Int32) {r_ : Int64} (hn : 48 ≤ n) (hr : q_X4_partsOf K h n l0 l1 = some r_) : Sp G l yX4_partsOf cX4_partsOf 2 (some .long) 0 0 0 [.ref l0, .int l1] h n (fun v h' n' => v = some (.long r_) ∧ h' = h ∧ n' = n) := by
  refine Sp_of (by decide +kernel) (Nat.le_of_ble_eq_true rfl) hn ?_
  intro W0 hwl C
  subst hwl
  unfold q_X4_partsOf at hr
  show WW W0 G 2 0 0 _ 0 [some (.ref l0), some (.int l1)] [] h n 0 0
  refine rr_iload_n (i := 1) C dX4_partsOf_0 rfl rfl ?_
  refine rr_if_lt (tgt := 21) C dX4_partsOf_1 (by decide) (fun c1_ => ?_) (fun c1_ => ?_)
  · replace hr := (if_pos c1_).symm.trans hr
    refine rr_lconst (v := 0) C dX4_partsOf_21 (by decide) ?_
    obtain rfl := Option.some.inj hr
    exact rr_lret C dX4_partsOf_22 rfl ⟨rfl, rfl, rfl⟩
  · replace hr := (if_neg c1_).symm.trans hr
    refine rr_iload_n (i := 1) C dX4_partsOf_4 rfl rfl ?_
    refine rr_getsP C dX4_partsOf_5 ns_X4_66 ?_
    replace hr := Option.bind_eq_some_iff.mp hr
    obtain ⟨v1, e2, hr⟩ := hr
    refine rr_lenA C dX4_partsOf_8 e2 ?_
    refine rr_icmp_ge (tgt := 21) C dX4_partsOf_9 (by decide) (fun c9_ => ?_) (fun c9_ => ?_)
    · replace hr := (if_pos c9_).symm.trans hr
      refine rr_lconst (v := 0) C dX4_partsOf_21 (by decide) ?_
      obtain rfl := Option.some.inj hr
      exact rr_lret C dX4_partsOf_22 rfl ⟨rfl, rfl, rfl⟩
    · replace hr := (if_neg c9_).symm.trans hr
      refine rr_getsP C dX4_partsOf_12 ns_X4_66 ?_
      refine rr_iload_n (i := 1) C dX4_partsOf_15 rfl rfl ?_
      replace hr := Option.bind_eq_some_iff.mp hr
      obtain ⟨v3, e4, hr⟩ := hr
      refine rr_ldI C dX4_partsOf_16 e4 ?_
      refine rr_i2l C dX4_partsOf_17 ?_
      refine rr_goto (tgt := 22) C dX4_partsOf_18 (by decide) ?_
      obtain rfl := Option.some.inj hr
      exact rr_lret C dX4_partsOf_22 rfl ⟨rfl, rfl, rfl⟩
def q_X8_cut (K : Nat) (h : mm_H) (n : Nat) (l0 : Int64) (l2 : Int64) : Option (Int64) :=
  if (lg_cmp l2 0) = 0 then
    some 0
  else
  if l2 = 0 then none else
  some (l0 / l2)
set_option maxRecDepth 100000 in
set_option maxHeartbeats 4000000 in
theorem c_X8_cut {K : Nat} {G : mm_G} {l : Launch} {h : mm_H} {n : Nat} (l0 : Int64) (l2 : Int64) {r_ : Int64} (hn : 48 ≤ n) (hr : q_X8_cut K h n l0 l2 = some r_) : Sp G l yX8_cut cX8_cut 4 (some .long) 0 0 0 [.long l0, .long l2] h n (fun v h' n' => v = some (.long r_) ∧ h' = h ∧ n' = n) := by
  refine Sp_of (by decide +kernel) (Nat.le_of_ble_eq_true rfl) hn ?_
  intro W0 hwl C
  subst hwl
  unfold q_X8_cut at hr
  show WW W0 G 4 0 0 _ 0 [some (.long l0), none, some (.long l2), none] [] h n 0 0
  refine rr_lload_n (i := 2) C dX8_cut_0 rfl rfl ?_
  refine rr_lconst (v := 0) C dX8_cut_1 (by decide) ?_
  refine rr_lcmp C dX8_cut_2 ?_
  refine rr_if_ne (tgt := 10) C dX8_cut_3 (by decide) (fun c3_ => ?_) (fun c3_ => ?_)
  · replace hr := (if_neg c3_).symm.trans hr
    refine rr_lload_n (i := 0) C dX8_cut_10 rfl rfl ?_
    refine rr_lload_n (i := 2) C dX8_cut_11 rfl rfl ?_
    by_cases z1 : l2 = 0
    · replace hr := (if_pos z1).symm.trans hr
      cases hr
    replace hr := (if_neg z1).symm.trans hr
    refine rr_ldiv C dX8_cut_12 z1 ?_
    obtain rfl := Option.some.inj hr
    exact rr_lret C dX8_cut_13 rfl ⟨rfl, rfl, rfl⟩
  · replace hr := (if_pos c3_).symm.trans hr
    refine rr_lconst (v := 0) C dX8_cut_6 (by decide) ?_
    refine rr_goto (tgt := 13) C dX8_cut_7 (by decide) ?_
    obtain rfl := Option.some.inj hr
    exact rr_lret C dX8_cut_13 rfl ⟨rfl, rfl, rfl⟩
def lp_X4_partOf_6 (K : Nat) (h : mm_H) (n : Nat) (l0 : Nat) (l1 : Int64) (l3 : Int32) (l4 : Int32) (l5 : Int32) (l6 : Int32) : Nat → Int64 → Int32 → Option (Int64)
  | 0, _, _ => none
  | k_ + 1, l7, l9 =>
    if 3 ≤ l9 then
      some (l7)
    else
    (ckq h n l0 4).bind fun u1 =>
    (q_X4_partsOf K h n l0 l9).bind fun v3 =>
    (ckq h n l0 4).bind fun u5 =>
    (q_X4_homesOf K h n l0 l9 l4 l5 l6).bind fun v7 =>
    lp_X4_partOf_6 K h n l0 l1 l3 l4 l5 l6 k_ (l7 + (v3 * (Int32.toInt64 v7))) (l9 + 1)
def q_X4_partOf (K : Nat) (h : mm_H) (n : Nat) (l0 : Nat) (l1 : Int64) (l3 : Int32) (l4 : Int32) (l5 : Int32) (l6 : Int32) : Option (Int64) :=
  (lp_X4_partOf_6 K h n l0 l1 l3 l4 l5 l6 K 0 0).bind fun v10 =>
  (ckq h n l0 4).bind fun u12 =>
  (q_X4_partsOf K h n l0 l3).bind fun v14 =>
  (q_X8_cut K h n (l1 * v14) v10).bind fun v16 =>
  some v16
set_option maxRecDepth 100000 in
set_option maxHeartbeats 4000000 in
theorem w_X4_partOf_6 {K : Nat} {W0 : mm_X} {G : mm_G} {mc ms kc ks : Nat} {Q_ : State → Prop} {h : mm_H} {n : Nat} (C : mm_C W0 G cX4_partOf yX4_partOf.cls 10 mc ms (some .long) 3 yX4_partOf.name) (hn : 48 ≤ n) (l0 : Nat) (l1 : Int64) (l3 : Int32) (l4 : Int32) (l5 : Int32) (l6 : Int32) : ∀ (k_ : Nat) (l7 : Int64) (l9 : Int32) {r_ : Int64} (hr : lp_X4_partOf_6 K h n l0 l1 l3 l4 l5 l6 k_ l7 l9 = some r_) (hx0 : WW W0 G 10 mc ms Q_ 43 [some (.ref l0), some (.long l1), none, some (.int l3), none, none, none, some (.long r_), none, none] [] h n kc ks), WW W0 G 10 mc ms Q_ 6 [some (.ref l0), some (.long l1), none, some (.int l3), some (.int l4), some (.int l5), some (.int l6), some (.long l7), none, some (.int l9)] [] h n kc ks := by
  intro k_
  induction k_ with
  | zero =>
    intro l7 l9 r_ hr
    cases hr
  | succ k_ ih_ =>
    intro l7 l9 r_ hr hx0
    unfold lp_X4_partOf_6 at hr
    refine rr_iload C dX4_partOf_6 rfl ?_
    refine rr_iconst (v := 3) C dX4_partOf_8 (by decide) ?_
    refine rr_icmp_ge (tgt := 43) C dX4_partOf_9 (by decide) (fun c9_ => ?_) (fun c9_ => ?_)
    · replace hr := (if_pos c9_).symm.trans hr
      obtain rfl := Option.some.inj hr
      exact rr_keep [true, true, false, true, false, false, false, true, false, false] (hx0)
    · replace hr := (if_neg c9_).symm.trans hr
      refine rr_lload C dX4_partOf_12 rfl ?_
      refine rr_aload_n (i := 0) C dX4_partOf_14 rfl rfl ?_
      refine rr_iload C dX4_partOf_15 rfl ?_
      replace hr := Option.bind_eq_some_iff.mp hr
      obtain ⟨u1, e2, hr⟩ := hr
      replace hr := Option.bind_eq_some_iff.mp hr
      obtain ⟨v3, e4, hr⟩ := hr
      refine rr_callVq (as := [.int l9]) (st := [.long l7]) (mc' := 0) (ms' := 0) C dX4_partOf_17 iv_X4_53 (by decide) e2 rfl (Nat.le_of_ble_eq_true rfl) (c_X4_partsOf l0 l9 (by omega) e4) (fun v_ h_ n_ q_ => ?_)
      obtain ⟨q1_, q2_, q3_⟩ := q_
      subst v_; subst h_; subst n_
      show WW W0 G 10 _ _ _ 20 [some (.ref l0), some (.long l1), none, some (.int l3), some (.int l4), some (.int l5), some (.int l6), some (.long l7), none, some (.int l9)] [.long v3, .long l7] h n _ _
      refine rr_aload_n (i := 0) C dX4_partOf_20 rfl rfl ?_
      refine rr_iload C dX4_partOf_21 rfl ?_
      refine rr_iload C dX4_partOf_23 rfl ?_
      refine rr_iload C dX4_partOf_25 rfl ?_
      refine rr_iload C dX4_partOf_27 rfl ?_
      replace hr := Option.bind_eq_some_iff.mp hr
      obtain ⟨u5, e6, hr⟩ := hr
      replace hr := Option.bind_eq_some_iff.mp hr
      obtain ⟨v7, e8, hr⟩ := hr
      refine rr_callVq (as := [.int l9, .int l4, .int l5, .int l6]) (st := [.long v3, .long l7]) (mc' := 0) (ms' := 0) C dX4_partOf_29 iv_X4_57 (by decide) e6 rfl (Nat.le_of_ble_eq_true rfl) (c_X4_homesOf l0 l9 l4 l5 l6 (by omega) e8) (fun v_ h_ n_ q_ => ?_)
      obtain ⟨q1_, q2_, q3_⟩ := q_
      subst v_; subst h_; subst n_
      show WW W0 G 10 _ _ _ 32 [some (.ref l0), some (.long l1), none, some (.int l3), some (.int l4), some (.int l5), some (.int l6), some (.long l7), none, some (.int l9)] [.int v7, .long v3, .long l7] h n _ _
      refine rr_i2l C dX4_partOf_32 ?_
      refine rr_lmul C dX4_partOf_33 ?_
      refine rr_ladd C dX4_partOf_34 ?_
      refine rr_lstore C dX4_partOf_35 (by decide) ?_
      show WW W0 G 10 _ _ _ 37 [some (.ref l0), some (.long l1), none, some (.int l3), some (.int l4), some (.int l5), some (.int l6), some (.long (l7 + (v3 * (Int32.toInt64 v7)))), none, some (.int l9)] [] h n _ _
      refine rr_iinc (v := l9 + 1) C dX4_partOf_37 rfl rfl ?_
      show WW W0 G 10 _ _ _ 40 [some (.ref l0), some (.long l1), none, some (.int l3), some (.int l4), some (.int l5), some (.int l6), some (.long (l7 + (v3 * (Int32.toInt64 v7)))), none, some (.int (l9 + 1))] [] h n _ _
      refine rr_goto (tgt := 6) C dX4_partOf_40 (by decide) ?_
      exact rr_keep [true, true, false, true, true, true, true, true, false, true] (ih_ _ _ hr hx0)
set_option maxRecDepth 100000 in
set_option maxHeartbeats 4000000 in
theorem c_X4_partOf {K : Nat} {G : mm_G} {l : Launch} {h : mm_H} {n : Nat} (l0 : Nat) (l1 : Int64) (l3 : Int32) (l4 : Int32) (l5 : Int32) (l6 : Int32) {r_ : Int64} (hn : 48 ≤ n) (hr : q_X4_partOf K h n l0 l1 l3 l4 l5 l6 = some r_) : Sp G l yX4_partOf cX4_partOf 10 (some .long) 3 0 0 [.ref l0, .long l1, .int l3, .int l4, .int l5, .int l6] h n (fun v h' n' => v = some (.long r_) ∧ h' = h ∧ n' = n) := by
  refine Sp_of (by decide +kernel) (Nat.le_of_ble_eq_true rfl) hn ?_
  intro W0 hwl C
  subst hwl
  unfold q_X4_partOf at hr
  show WW W0 G 10 0 0 _ 0 [some (.ref l0), some (.long l1), none, some (.int l3), some (.int l4), some (.int l5), some (.int l6), none, none, none] [] h n 0 0
  refine rr_lconst (v := 0) C dX4_partOf_0 (by decide) ?_
  refine rr_lstore C dX4_partOf_1 (by decide) ?_
  show WW W0 G 10 _ _ _ 3 [some (.ref l0), some (.long l1), none, some (.int l3), some (.int l4), some (.int l5), some (.int l6), some (.long 0), none, none] [] h n _ _
  refine rr_iconst (v := 0) C dX4_partOf_3 (by decide) ?_
  refine rr_istore C dX4_partOf_4 (by decide) ?_
  show WW W0 G 10 _ _ _ 6 [some (.ref l0), some (.long l1), none, some (.int l3), some (.int l4), some (.int l5), some (.int l6), some (.long 0), none, some (.int 0)] [] h n _ _
  replace hr := Option.bind_eq_some_iff.mp hr
  obtain ⟨v10, e11, hr⟩ := hr
  refine rr_keep [true, true, false, true, true, true, true, true, false, true] (w_X4_partOf_6 C (by omega) l0 l1 l3 l4 l5 l6 K 0 0 e11 ?_)
  show WW W0 G 10 _ _ _ 43 [some (.ref l0), some (.long l1), none, some (.int l3), none, none, none, some (.long v10), none, none] [] h n _ _
  refine rr_lload_n (i := 1) C dX4_partOf_43 rfl rfl ?_
  refine rr_aload_n (i := 0) C dX4_partOf_44 rfl rfl ?_
  refine rr_iload_n (i := 3) C dX4_partOf_45 rfl rfl ?_
  replace hr := Option.bind_eq_some_iff.mp hr
  obtain ⟨u12, e13, hr⟩ := hr
  replace hr := Option.bind_eq_some_iff.mp hr
  obtain ⟨v14, e15, hr⟩ := hr
  refine rr_callVq (as := [.int l3]) (st := [.long l1]) (mc' := 0) (ms' := 0) C dX4_partOf_46 iv_X4_53 (by decide) e13 rfl (Nat.le_of_ble_eq_true rfl) (c_X4_partsOf l0 l3 (by omega) e15) (fun v_ h_ n_ q_ => ?_)
  obtain ⟨q1_, q2_, q3_⟩ := q_
  subst v_; subst h_; subst n_
  show WW W0 G 10 _ _ _ 49 [some (.ref l0), some (.long l1), none, some (.int l3), none, none, none, some (.long v10), none, none] [.long v14, .long l1] h n _ _
  refine rr_lmul C dX4_partOf_49 ?_
  refine rr_lload C dX4_partOf_50 rfl ?_
  replace hr := Option.bind_eq_some_iff.mp hr
  obtain ⟨v16, e17, hr⟩ := hr
  refine rr_callS (as := [.long (l1 * v14), .long v10]) (st := []) (mc' := 0) (ms' := 0) C dX4_partOf_52 it_X4_60 (by decide) (Nat.le_of_ble_eq_true rfl) (c_X8_cut (l1 * v14) v10 (by omega) e17) (fun v_ h_ n_ q_ => ?_)
  obtain ⟨q1_, q2_, q3_⟩ := q_
  subst v_; subst h_; subst n_
  show WW W0 G 10 _ _ _ 55 [some (.ref l0), some (.long l1), none, some (.int l3), none, none, none, some (.long v10), none, none] [.long v16] h n _ _
  obtain rfl := Option.some.inj hr
  exact rr_lret C dX4_partOf_55 rfl ⟨rfl, rfl, rfl⟩
def q_X5_slotOf (K : Nat) (h : mm_H) (n : Nat) (l0 : Int32) (l1 : Int32) : Option (Int32) :=
  if l0 = 0 then
    some l1
  else
  if l0 = 1 then
    some (4 + l1)
  else
  if l0 = 2 then
    some (8 + l1)
  else
  some ((11 + l0) - 3)
set_option maxRecDepth 100000 in
set_option maxHeartbeats 4000000 in
theorem c_X5_slotOf {K : Nat} {G : mm_G} {l : Launch} {h : mm_H} {n : Nat} (l0 : Int32) (l1 : Int32) {r_ : Int32} (hn : 48 ≤ n) (hr : q_X5_slotOf K h n l0 l1 = some r_) : Sp G l yX5_slotOf cX5_slotOf 2 (some .int) 0 0 0 [.int l0, .int l1] h n (fun v h' n' => v = some (.int r_) ∧ h' = h ∧ n' = n) := by
  refine Sp_of (by decide +kernel) (Nat.le_of_ble_eq_true rfl) hn ?_
  intro W0 hwl C
  subst hwl
  unfold q_X5_slotOf at hr
  show WW W0 G 2 0 0 _ 0 [some (.int l0), some (.int l1)] [] h n 0 0
  refine rr_iload_n (i := 0) C dX5_slotOf_0 rfl rfl ?_
  by_cases s1_0 : l0 = 0
  · replace hr := (if_pos s1_0).symm.trans hr
    refine rr_tabIn (off := 27) (tgt := 28) C dX5_slotOf_1 (by rw [s1_0]; decide) (by rw [s1_0]; decide) (by rw [s1_0]; rfl) (by decide) ?_
    refine rr_iload_n (i := 1) C dX5_slotOf_28 rfl rfl ?_
    obtain rfl := Option.some.inj hr
    exact rr_iret (ty := .int) C dX5_slotOf_29 rfl rfl ⟨rfl, rfl, rfl⟩
  replace hr := (if_neg s1_0).symm.trans hr
  by_cases s1_1 : l0 = 1
  · replace hr := (if_pos s1_1).symm.trans hr
    refine rr_tabIn (off := 29) (tgt := 30) C dX5_slotOf_1 (by rw [s1_1]; decide) (by rw [s1_1]; decide) (by rw [s1_1]; rfl) (by decide) ?_
    refine rr_iconst (v := 4) C dX5_slotOf_30 (by decide) ?_
    refine rr_iload_n (i := 1) C dX5_slotOf_31 rfl rfl ?_
    refine rr_iadd C dX5_slotOf_32 ?_
    obtain rfl := Option.some.inj hr
    exact rr_iret (ty := .int) C dX5_slotOf_33 rfl rfl ⟨rfl, rfl, rfl⟩
  replace hr := (if_neg s1_1).symm.trans hr
  by_cases s1_2 : l0 = 2
  · replace hr := (if_pos s1_2).symm.trans hr
    refine rr_tabIn (off := 33) (tgt := 34) C dX5_slotOf_1 (by rw [s1_2]; decide) (by rw [s1_2]; decide) (by rw [s1_2]; rfl) (by decide) ?_
    refine rr_bipush (v := 8) C dX5_slotOf_34 (by decide) ?_
    refine rr_iload_n (i := 1) C dX5_slotOf_36 rfl rfl ?_
    refine rr_iadd C dX5_slotOf_37 ?_
    obtain rfl := Option.some.inj hr
    exact rr_iret (ty := .int) C dX5_slotOf_38 rfl rfl ⟨rfl, rfl, rfl⟩
  replace hr := (if_neg s1_2).symm.trans hr
  refine rr_tabOut (tgt := 39) C dX5_slotOf_1 (by have t0 : ¬ Int32.toInt l0 = 0 := (fun q => s1_0 (Int32.toInt_inj.mp (show Int32.toInt l0 = (0 : Int32).toInt from q))); have t1 : ¬ Int32.toInt l0 = 1 := (fun q => s1_1 (Int32.toInt_inj.mp (show Int32.toInt l0 = (1 : Int32).toInt from q))); have t2 : ¬ Int32.toInt l0 = 2 := (fun q => s1_2 (Int32.toInt_inj.mp (show Int32.toInt l0 = (2 : Int32).toInt from q))); omega) (by decide) ?_
  refine rr_bipush (v := 11) C dX5_slotOf_39 (by decide) ?_
  refine rr_iload_n (i := 0) C dX5_slotOf_41 rfl rfl ?_
  refine rr_iadd C dX5_slotOf_42 ?_
  refine rr_iconst (v := 3) C dX5_slotOf_43 (by decide) ?_
  refine rr_isub C dX5_slotOf_44 ?_
  obtain rfl := Option.some.inj hr
  exact rr_iret (ty := .int) C dX5_slotOf_45 rfl rfl ⟨rfl, rfl, rfl⟩
def q_X5_slot (K : Nat) (h : mm_H) (n : Nat) (l0 : Nat) : Option (Int32) :=
  (rdI h n l0 5 0).bind fun v1 =>
  (rdI h n l0 5 1).bind fun v3 =>
  (q_X5_slotOf K h n v1 v3).bind fun v5 =>
  some v5
set_option maxRecDepth 100000 in
set_option maxHeartbeats 4000000 in
theorem c_X5_slot {K : Nat} {G : mm_G} {l : Launch} {h : mm_H} {n : Nat} (l0 : Nat) {r_ : Int32} (hn : 48 ≤ n) (hr : q_X5_slot K h n l0 = some r_) : Sp G l yX5_slot cX5_slot 1 (some .int) 1 0 0 [.ref l0] h n (fun v h' n' => v = some (.int r_) ∧ h' = h ∧ n' = n) := by
  refine Sp_of (by decide +kernel) (Nat.le_of_ble_eq_true rfl) hn ?_
  intro W0 hwl C
  subst hwl
  unfold q_X5_slot at hr
  show WW W0 G 1 0 0 _ 0 [some (.ref l0)] [] h n 0 0
  refine rr_aload_n (i := 0) C dX5_slot_0 rfl rfl ?_
  replace hr := Option.bind_eq_some_iff.mp hr
  obtain ⟨v1, e2, hr⟩ := hr
  refine rr_rdI C dX5_slot_1 fl_X5_18 e2 ?_
  refine rr_aload_n (i := 0) C dX5_slot_4 rfl rfl ?_
  replace hr := Option.bind_eq_some_iff.mp hr
  obtain ⟨v3, e4, hr⟩ := hr
  refine rr_rdI C dX5_slot_5 fl_X5_22 e4 ?_
  replace hr := Option.bind_eq_some_iff.mp hr
  obtain ⟨v5, e6, hr⟩ := hr
  refine rr_callS (as := [.int v1, .int v3]) (st := []) (mc' := 0) (ms' := 0) C dX5_slot_8 it_X5_25 (by decide) (Nat.le_of_ble_eq_true rfl) (c_X5_slotOf v1 v3 (by omega) e6) (fun v_ h_ n_ q_ => ?_)
  obtain ⟨q1_, q2_, q3_⟩ := q_
  subst v_; subst h_; subst n_
  show WW W0 G 1 _ _ _ 11 [some (.ref l0)] [.int v5] h n _ _
  obtain rfl := Option.some.inj hr
  exact rr_iret (ty := .int) C dX5_slot_11 rfl rfl ⟨rfl, rfl, rfl⟩
def q_X5_hasUnless (K : Nat) (h : mm_H) (n : Nat) (l0 : Nat) : Option (Int32) :=
  (rdR h n l0 5 10).bind fun v1 =>
  v1.bind fun a3 =>
  (lenA h n a3 0).bind fun v5 =>
  if v5 ≤ 0 then
    some 0
  else
  some 1
set_option maxRecDepth 100000 in
set_option maxHeartbeats 4000000 in
theorem c_X5_hasUnless {K : Nat} {G : mm_G} {l : Launch} {h : mm_H} {n : Nat} (l0 : Nat) {r_ : Int32} (hn : 48 ≤ n) (hr : q_X5_hasUnless K h n l0 = some r_) : Sp G l yX5_hasUnless cX5_hasUnless 1 (some .boolean) 0 0 0 [.ref l0] h n (fun v h' n' => v = some (.int r_) ∧ h' = h ∧ n' = n) := by
  refine Sp_of (by decide +kernel) (Nat.le_of_ble_eq_true rfl) hn ?_
  intro W0 hwl C
  subst hwl
  unfold q_X5_hasUnless at hr
  show WW W0 G 1 0 0 _ 0 [some (.ref l0)] [] h n 0 0
  refine rr_aload_n (i := 0) C dX5_hasUnless_0 rfl rfl ?_
  replace hr := Option.bind_eq_some_iff.mp hr
  obtain ⟨v1, e2, hr⟩ := hr
  refine rr_rdR C dX5_hasUnless_1 fl_X5_13 e2 ?_
  replace hr := Option.bind_eq_some_iff.mp hr
  obtain ⟨a3, e4, hr⟩ := hr
  subst e4
  replace hr := Option.bind_eq_some_iff.mp hr
  obtain ⟨v5, e6, hr⟩ := hr
  refine rr_lenA C dX5_hasUnless_4 e6 ?_
  refine rr_if_le (tgt := 12) C dX5_hasUnless_5 (by decide) (fun c5_ => ?_) (fun c5_ => ?_)
  · replace hr := (if_pos c5_).symm.trans hr
    refine rr_iconst (v := 0) C dX5_hasUnless_12 (by decide) ?_
    obtain rfl := Option.some.inj hr
    exact rr_iret (ty := .boolean) C dX5_hasUnless_13 rfl rfl ⟨rfl, rfl, rfl⟩
  · replace hr := (if_neg c5_).symm.trans hr
    refine rr_iconst (v := 1) C dX5_hasUnless_8 (by decide) ?_
    refine rr_goto (tgt := 13) C dX5_hasUnless_9 (by decide) ?_
    obtain rfl := Option.some.inj hr
    exact rr_iret (ty := .boolean) C dX5_hasUnless_13 rfl rfl ⟨rfl, rfl, rfl⟩
def q_X5_compares (K : Nat) (h : mm_H) (n : Nat) (l0 : Nat) (l1 : Int32) (l2 : Option Nat) : Option (Int32) :=
  if ((l1 / 3) - (l1 / 3) / 5 * 5) < 0 then
    some 0
  else
  l2.bind fun a2 =>
  (lenA h n a2 1).bind fun v4 =>
  if ((l1 / 3) - (l1 / 3) / 5 * 5) < v4 then
    if (l1 - l1 / 3 * 3) = 0 then
      (ldJ h n a2 ((l1 / 3) - (l1 / 3) / 5 * 5)).bind fun v7 =>
      if 0 ≤ (lg_cmp v7 (Int32.toInt64 ((l1 / 3) / 5))) then
        some 0
      else
      some 1
    else
    if (l1 - l1 / 3 * 3) = 1 then
      (ldJ h n a2 ((l1 / 3) - (l1 / 3) / 5 * 5)).bind fun v9 =>
      if (lg_cmp v9 (Int32.toInt64 ((l1 / 3) / 5))) ≤ 0 then
        some 0
      else
      some 1
    else
    (ldJ h n a2 ((l1 / 3) - (l1 / 3) / 5 * 5)).bind fun v11 =>
    if (lg_cmp v11 (Int32.toInt64 ((l1 / 3) / 5))) = 0 then
      some 1
    else
    some 0
  else
  some 0
set_option maxRecDepth 100000 in
set_option maxHeartbeats 4000000 in
theorem c_X5_compares {K : Nat} {G : mm_G} {l : Launch} {h : mm_H} {n : Nat} (l0 : Nat) (l1 : Int32) (l2 : Option Nat) {r_ : Int32} (hn : 48 ≤ n) (hr : q_X5_compares K h n l0 l1 l2 = some r_) : Sp G l yX5_compares cX5_compares 6 (some .boolean) 0 0 0 [.ref l0, .int l1, va_rf l2] h n (fun v h' n' => v = some (.int r_) ∧ h' = h ∧ n' = n) := by
  refine Sp_of (by decide +kernel) (by rcases l2 with _ | _ <;> exact Nat.le_of_ble_eq_true rfl) hn ?_
  intro W0 hwl C
  subst hwl
  unfold q_X5_compares at hr
  rw [show mm_en 6 [.ref l0, .int l1, va_rf l2] = [some (.ref l0), some (.int l1), some (va_rf l2), none, none, none] from by rcases l2 with _ | _ <;> rfl]
  show WW W0 G 6 0 0 _ 0 [some (.ref l0), some (.int l1), some (va_rf l2), none, none, none] [] h n 0 0
  refine rr_iload_n (i := 1) C dX5_compares_0 rfl rfl ?_
  refine rr_iconst (v := 3) C dX5_compares_1 (by decide) ?_
  refine rr_idiv C dX5_compares_2 (by decide) ?_
  refine rr_iconst (v := 5) C dX5_compares_3 (by decide) ?_
  refine rr_irem C dX5_compares_4 (by decide) ?_
  refine rr_istore_n (i := 3) C dX5_compares_5 rfl (by decide) ?_
  rw [mm_set1_rf (i := 2) (r := l2) rfl]
  show WW W0 G 6 _ _ _ 6 [some (.ref l0), some (.int l1), some (va_rf l2), some (.int ((l1 / 3) - (l1 / 3) / 5 * 5)), none, none] [] h n _ _
  refine rr_iload_n (i := 3) C dX5_compares_6 rfl rfl ?_
  refine rr_if_lt (tgt := 16) C dX5_compares_7 (by decide) (fun c7_ => ?_) (fun c7_ => ?_)
  · replace hr := (if_pos c7_).symm.trans hr
    refine rr_iconst (v := 0) C dX5_compares_16 (by decide) ?_
    obtain rfl := Option.some.inj hr
    exact rr_iret (ty := .boolean) C dX5_compares_17 rfl rfl ⟨rfl, rfl, rfl⟩
  · replace hr := (if_neg c7_).symm.trans hr
    refine rr_iload_n (i := 3) C dX5_compares_10 rfl rfl ?_
    refine rr_aload_nO (i := 2) C dX5_compares_11 rfl rfl ?_
    replace hr := Option.bind_eq_some_iff.mp hr
    obtain ⟨a2, e3, hr⟩ := hr
    subst e3
    replace hr := Option.bind_eq_some_iff.mp hr
    obtain ⟨v4, e5, hr⟩ := hr
    refine rr_lenA C dX5_compares_12 e5 ?_
    refine rr_icmp_lt (tgt := 18) C dX5_compares_13 (by decide) (fun c13_ => ?_) (fun c13_ => ?_)
    · replace hr := (if_pos c13_).symm.trans hr
      refine rr_iload_n (i := 1) C dX5_compares_18 rfl rfl ?_
      refine rr_iconst (v := 3) C dX5_compares_19 (by decide) ?_
      refine rr_idiv C dX5_compares_20 (by decide) ?_
      refine rr_iconst (v := 5) C dX5_compares_21 (by decide) ?_
      refine rr_idiv C dX5_compares_22 (by decide) ?_
      refine rr_i2l C dX5_compares_23 ?_
      refine rr_lstore C dX5_compares_24 (by decide) ?_
      show WW W0 G 6 _ _ _ 26 [some (.ref l0), some (.int l1), some (.ref a2), some (.int ((l1 / 3) - (l1 / 3) / 5 * 5)), some (.long (Int32.toInt64 ((l1 / 3) / 5))), none] [] h n _ _
      refine rr_iload_n (i := 1) C dX5_compares_26 rfl rfl ?_
      refine rr_iconst (v := 3) C dX5_compares_27 (by decide) ?_
      refine rr_irem C dX5_compares_28 (by decide) ?_
      by_cases s29_0 : (l1 - l1 / 3 * 3) = 0
      · replace hr := (if_pos s29_0).symm.trans hr
        refine rr_lookup (off := 27) (tgt := 56) C dX5_compares_29 (by decide) (by rw [s29_0]; rfl) (by decide) ?_
        refine rr_aload_n (i := 2) C dX5_compares_56 rfl rfl ?_
        refine rr_iload_n (i := 3) C dX5_compares_57 rfl rfl ?_
        replace hr := Option.bind_eq_some_iff.mp hr
        obtain ⟨v7, e8, hr⟩ := hr
        refine rr_ldJ C dX5_compares_58 e8 ?_
        refine rr_lload C dX5_compares_59 rfl ?_
        refine rr_lcmp C dX5_compares_61 ?_
        refine rr_if_ge (tgt := 69) C dX5_compares_62 (by decide) (fun c62_ => ?_) (fun c62_ => ?_)
        · replace hr := (if_pos c62_).symm.trans hr
          refine rr_iconst (v := 0) C dX5_compares_69 (by decide) ?_
          obtain rfl := Option.some.inj hr
          exact rr_iret (ty := .boolean) C dX5_compares_70 rfl rfl ⟨rfl, rfl, rfl⟩
        · replace hr := (if_neg c62_).symm.trans hr
          refine rr_iconst (v := 1) C dX5_compares_65 (by decide) ?_
          refine rr_goto (tgt := 70) C dX5_compares_66 (by decide) ?_
          obtain rfl := Option.some.inj hr
          exact rr_iret (ty := .boolean) C dX5_compares_70 rfl rfl ⟨rfl, rfl, rfl⟩
      replace hr := (if_neg s29_0).symm.trans hr
      by_cases s29_1 : (l1 - l1 / 3 * 3) = 1
      · replace hr := (if_pos s29_1).symm.trans hr
        refine rr_lookup (off := 42) (tgt := 71) C dX5_compares_29 (by decide) (by rw [s29_1]; rfl) (by decide) ?_
        refine rr_aload_n (i := 2) C dX5_compares_71 rfl rfl ?_
        refine rr_iload_n (i := 3) C dX5_compares_72 rfl rfl ?_
        replace hr := Option.bind_eq_some_iff.mp hr
        obtain ⟨v9, e10, hr⟩ := hr
        refine rr_ldJ C dX5_compares_73 e10 ?_
        refine rr_lload C dX5_compares_74 rfl ?_
        refine rr_lcmp C dX5_compares_76 ?_
        refine rr_if_le (tgt := 84) C dX5_compares_77 (by decide) (fun c77_ => ?_) (fun c77_ => ?_)
        · replace hr := (if_pos c77_).symm.trans hr
          refine rr_iconst (v := 0) C dX5_compares_84 (by decide) ?_
          obtain rfl := Option.some.inj hr
          exact rr_iret (ty := .boolean) C dX5_compares_85 rfl rfl ⟨rfl, rfl, rfl⟩
        · replace hr := (if_neg c77_).symm.trans hr
          refine rr_iconst (v := 1) C dX5_compares_80 (by decide) ?_
          refine rr_goto (tgt := 85) C dX5_compares_81 (by decide) ?_
          obtain rfl := Option.some.inj hr
          exact rr_iret (ty := .boolean) C dX5_compares_85 rfl rfl ⟨rfl, rfl, rfl⟩
      replace hr := (if_neg s29_1).symm.trans hr
      refine rr_lookup (off := 57) (tgt := 86) C dX5_compares_29 (by decide) ((lv_osw s29_0 rfl).trans ((lv_osw s29_1 rfl).trans rfl)) (by decide) ?_
      refine rr_aload_n (i := 2) C dX5_compares_86 rfl rfl ?_
      refine rr_iload_n (i := 3) C dX5_compares_87 rfl rfl ?_
      replace hr := Option.bind_eq_some_iff.mp hr
      obtain ⟨v11, e12, hr⟩ := hr
      refine rr_ldJ C dX5_compares_88 e12 ?_
      refine rr_lload C dX5_compares_89 rfl ?_
      refine rr_lcmp C dX5_compares_91 ?_
      refine rr_if_ne (tgt := 99) C dX5_compares_92 (by decide) (fun c92_ => ?_) (fun c92_ => ?_)
      · replace hr := (if_neg c92_).symm.trans hr
        refine rr_iconst (v := 0) C dX5_compares_99 (by decide) ?_
        obtain rfl := Option.some.inj hr
        exact rr_iret (ty := .boolean) C dX5_compares_100 rfl rfl ⟨rfl, rfl, rfl⟩
      · replace hr := (if_pos c92_).symm.trans hr
        refine rr_iconst (v := 1) C dX5_compares_95 (by decide) ?_
        refine rr_goto (tgt := 100) C dX5_compares_96 (by decide) ?_
        obtain rfl := Option.some.inj hr
        exact rr_iret (ty := .boolean) C dX5_compares_100 rfl rfl ⟨rfl, rfl, rfl⟩
    · replace hr := (if_neg c13_).symm.trans hr
      refine rr_iconst (v := 0) C dX5_compares_16 (by decide) ?_
      obtain rfl := Option.some.inj hr
      exact rr_iret (ty := .boolean) C dX5_compares_17 rfl rfl ⟨rfl, rfl, rfl⟩
def lp_X5_stands_25 (K : Nat) (h : mm_H) (n : Nat) (l0 : Nat) (l1 : Option Nat) (l4 : Nat) (l5 : Int32) : Nat → Int64 → Int32 → Option (Int64)
  | 0, _, _ => none
  | k_ + 1, l2, l6 =>
    if l5 ≤ l6 then
      some (l2)
    else
    (ldI h n l4 l6).bind fun v11 =>
    if v11 = (-1) then
      lp_X5_stands_25 K h n l0 l1 l4 l5 k_ (l2 ^^^ 1) (l6 + 1)
    else
    if v11 = (-2) then
      lp_X5_stands_25 K h n l0 l1 l4 l5 k_ ((l2 >>> ((Int32.toInt64 1) &&& 63)) &&& (l2 ||| (-2))) (l6 + 1)
    else
    if v11 = (-3) then
      lp_X5_stands_25 K h n l0 l1 l4 l5 k_ ((l2 >>> ((Int32.toInt64 1) &&& 63)) ||| (l2 &&& 1)) (l6 + 1)
    else
    (ckq h n l0 5).bind fun u16 =>
    (q_X5_compares K h n l0 v11 l1).bind fun v18 =>
    if v18 = 0 then
      lp_X5_stands_25 K h n l0 l1 l4 l5 k_ ((l2 <<< ((Int32.toInt64 1) &&& 63)) ||| (Int32.toInt64 0)) (l6 + 1)
    else
    lp_X5_stands_25 K h n l0 l1 l4 l5 k_ ((l2 <<< ((Int32.toInt64 1) &&& 63)) ||| (Int32.toInt64 1)) (l6 + 1)
def q_X5_stands (K : Nat) (h : mm_H) (n : Nat) (l0 : Nat) (l1 : Option Nat) : Option (Int32) :=
  (ckq h n l0 5).bind fun u1 =>
  (q_X5_hasUnless K h n l0).bind fun v3 =>
  if v3 = 0 then
    some 1
  else
  (rdR h n l0 5 10).bind fun v5 =>
  v5.bind fun a7 =>
  (lenA h n a7 0).bind fun v9 =>
  (lp_X5_stands_25 K h n l0 l1 a7 v9 K 0 0).bind fun v22 =>
  if (lg_cmp (v22 &&& 1) 0) = 0 then
    some 1
  else
  some 0
set_option maxRecDepth 100000 in
set_option maxHeartbeats 4000000 in
theorem w_X5_stands_25 {K : Nat} {W0 : mm_X} {G : mm_G} {mc ms kc ks : Nat} {Q_ : State → Prop} {h : mm_H} {n : Nat} (C : mm_C W0 G cX5_stands yX5_stands.cls 8 mc ms (some .boolean) 1 yX5_stands.name) (hn : 48 ≤ n) (l0 : Nat) (l1 : Option Nat) (l4 : Nat) (l5 : Int32) : ∀ (k_ : Nat) (l2 : Int64) (l6 : Int32) {r_ : Int64} (hr : lp_X5_stands_25 K h n l0 l1 l4 l5 k_ l2 l6 = some r_) (hx0 : WW W0 G 8 mc ms Q_ 117 [none, none, some (.long r_), none, none, none, none, none] [] h n kc ks), WW W0 G 8 mc ms Q_ 25 [some (.ref l0), some (va_rf l1), some (.long l2), none, some (.ref l4), some (.int l5), some (.int l6), none] [] h n kc ks := by
  intro k_
  induction k_ with
  | zero =>
    intro l2 l6 r_ hr
    cases hr
  | succ k_ ih_ =>
    intro l2 l6 r_ hr hx0
    unfold lp_X5_stands_25 at hr
    refine rr_iload C dX5_stands_25 rfl ?_
    refine rr_iload C dX5_stands_27 rfl ?_
    refine rr_icmp_ge (tgt := 117) C dX5_stands_29 (by decide) (fun c29_ => ?_) (fun c29_ => ?_)
    · replace hr := (if_pos c29_).symm.trans hr
      obtain rfl := Option.some.inj hr
      exact rr_keep [false, false, true, false, false, false, false, false] (hx0)
    · replace hr := (if_neg c29_).symm.trans hr
      refine rr_aload C dX5_stands_32 rfl ?_
      refine rr_iload C dX5_stands_34 rfl ?_
      replace hr := Option.bind_eq_some_iff.mp hr
      obtain ⟨v11, e12, hr⟩ := hr
      refine rr_ldI C dX5_stands_36 e12 ?_
      refine rr_istore C dX5_stands_37 (by decide) ?_
      show WW W0 G 8 _ _ _ 39 [some (.ref l0), some (va_rf l1), some (.long l2), none, some (.ref l4), some (.int l5), some (.int l6), some (.int v11)] [] h n _ _
      refine rr_iload C dX5_stands_39 rfl ?_
      refine rr_iconst (v := (-1)) C dX5_stands_41 (by decide) ?_
      refine rr_icmp_ne (tgt := 52) C dX5_stands_42 (by decide) (fun c42_ => ?_) (fun c42_ => ?_)
      · replace hr := (if_neg c42_).symm.trans hr
        refine rr_iload C dX5_stands_52 rfl ?_
        refine rr_bipush (v := (-2)) C dX5_stands_54 (by decide) ?_
        refine rr_icmp_ne (tgt := 72) C dX5_stands_56 (by decide) (fun c56_ => ?_) (fun c56_ => ?_)
        · replace hr := (if_neg c56_).symm.trans hr
          refine rr_iload C dX5_stands_72 rfl ?_
          refine rr_bipush (v := (-3)) C dX5_stands_74 (by decide) ?_
          refine rr_icmp_ne (tgt := 90) C dX5_stands_76 (by decide) (fun c76_ => ?_) (fun c76_ => ?_)
          · replace hr := (if_neg c76_).symm.trans hr
            refine rr_lload_n (i := 2) C dX5_stands_90 rfl rfl ?_
            refine rr_iconst (v := 1) C dX5_stands_91 (by decide) ?_
            refine rr_lshl C dX5_stands_92 ?_
            refine rr_aload_n (i := 0) C dX5_stands_93 rfl rfl ?_
            refine rr_iload C dX5_stands_94 rfl ?_
            refine rr_aload_nO (i := 1) C dX5_stands_96 rfl rfl ?_
            replace hr := Option.bind_eq_some_iff.mp hr
            obtain ⟨u16, e17, hr⟩ := hr
            replace hr := Option.bind_eq_some_iff.mp hr
            obtain ⟨v18, e19, hr⟩ := hr
            refine rr_callVq (as := [.int v11, va_rf l1]) (st := [.long (l2 <<< ((Int32.toInt64 1) &&& 63))]) (mc' := 0) (ms' := 0) C dX5_stands_97 iv_X5_35 (by decide) e17 rfl (Nat.le_of_ble_eq_true rfl) (c_X5_compares l0 v11 l1 (by omega) e19) (fun v_ h_ n_ q_ => ?_)
            obtain ⟨q1_, q2_, q3_⟩ := q_
            subst v_; subst h_; subst n_
            show WW W0 G 8 _ _ _ 100 [some (.ref l0), some (va_rf l1), some (.long l2), none, some (.ref l4), some (.int l5), some (.int l6), some (.int v11)] [.int v18, .long (l2 <<< ((Int32.toInt64 1) &&& 63))] h n _ _
            refine rr_if_eq (tgt := 107) C dX5_stands_100 (by decide) (fun c100_ => ?_) (fun c100_ => ?_)
            · replace hr := (if_pos c100_).symm.trans hr
              refine rr_iconst (v := 0) C dX5_stands_107 (by decide) ?_
              refine rr_i2l C dX5_stands_108 ?_
              refine rr_lor C dX5_stands_109 ?_
              refine rr_lstore_n (i := 2) C dX5_stands_110 rfl (by decide) ?_
              rw [mm_set2_rf (i := 1) (r := l1) rfl]
              show WW W0 G 8 _ _ _ 111 [some (.ref l0), some (va_rf l1), some (.long ((l2 <<< ((Int32.toInt64 1) &&& 63)) ||| (Int32.toInt64 0))), none, some (.ref l4), some (.int l5), some (.int l6), some (.int v11)] [] h n _ _
              refine rr_iinc (v := l6 + 1) C dX5_stands_111 rfl rfl ?_
              show WW W0 G 8 _ _ _ 114 [some (.ref l0), some (va_rf l1), some (.long ((l2 <<< ((Int32.toInt64 1) &&& 63)) ||| (Int32.toInt64 0))), none, some (.ref l4), some (.int l5), some (.int (l6 + 1)), some (.int v11)] [] h n _ _
              refine rr_goto (tgt := 25) C dX5_stands_114 (by decide) ?_
              exact rr_keep [true, true, true, false, true, true, true, false] (ih_ _ _ hr hx0)
            · replace hr := (if_neg c100_).symm.trans hr
              refine rr_iconst (v := 1) C dX5_stands_103 (by decide) ?_
              refine rr_goto (tgt := 108) C dX5_stands_104 (by decide) ?_
              refine rr_i2l C dX5_stands_108 ?_
              refine rr_lor C dX5_stands_109 ?_
              refine rr_lstore_n (i := 2) C dX5_stands_110 rfl (by decide) ?_
              rw [mm_set2_rf (i := 1) (r := l1) rfl]
              show WW W0 G 8 _ _ _ 111 [some (.ref l0), some (va_rf l1), some (.long ((l2 <<< ((Int32.toInt64 1) &&& 63)) ||| (Int32.toInt64 1))), none, some (.ref l4), some (.int l5), some (.int l6), some (.int v11)] [] h n _ _
              refine rr_iinc (v := l6 + 1) C dX5_stands_111 rfl rfl ?_
              show WW W0 G 8 _ _ _ 114 [some (.ref l0), some (va_rf l1), some (.long ((l2 <<< ((Int32.toInt64 1) &&& 63)) ||| (Int32.toInt64 1))), none, some (.ref l4), some (.int l5), some (.int (l6 + 1)), some (.int v11)] [] h n _ _
              refine rr_goto (tgt := 25) C dX5_stands_114 (by decide) ?_
              exact rr_keep [true, true, true, false, true, true, true, false] (ih_ _ _ hr hx0)
          · replace hr := (if_pos c76_).symm.trans hr
            refine rr_lload_n (i := 2) C dX5_stands_79 rfl rfl ?_
            refine rr_iconst (v := 1) C dX5_stands_80 (by decide) ?_
            refine rr_lshr C dX5_stands_81 ?_
            refine rr_lload_n (i := 2) C dX5_stands_82 rfl rfl ?_
            refine rr_lconst (v := 1) C dX5_stands_83 (by decide) ?_
            refine rr_land C dX5_stands_84 ?_
            refine rr_lor C dX5_stands_85 ?_
            refine rr_lstore_n (i := 2) C dX5_stands_86 rfl (by decide) ?_
            rw [mm_set2_rf (i := 1) (r := l1) rfl]
            show WW W0 G 8 _ _ _ 87 [some (.ref l0), some (va_rf l1), some (.long ((l2 >>> ((Int32.toInt64 1) &&& 63)) ||| (l2 &&& 1))), none, some (.ref l4), some (.int l5), some (.int l6), some (.int v11)] [] h n _ _
            refine rr_goto (tgt := 111) C dX5_stands_87 (by decide) ?_
            refine rr_iinc (v := l6 + 1) C dX5_stands_111 rfl rfl ?_
            show WW W0 G 8 _ _ _ 114 [some (.ref l0), some (va_rf l1), some (.long ((l2 >>> ((Int32.toInt64 1) &&& 63)) ||| (l2 &&& 1))), none, some (.ref l4), some (.int l5), some (.int (l6 + 1)), some (.int v11)] [] h n _ _
            refine rr_goto (tgt := 25) C dX5_stands_114 (by decide) ?_
            exact rr_keep [true, true, true, false, true, true, true, false] (ih_ _ _ hr hx0)
        · replace hr := (if_pos c56_).symm.trans hr
          refine rr_lload_n (i := 2) C dX5_stands_59 rfl rfl ?_
          refine rr_iconst (v := 1) C dX5_stands_60 (by decide) ?_
          refine rr_lshr C dX5_stands_61 ?_
          refine rr_lload_n (i := 2) C dX5_stands_62 rfl rfl ?_
          refine rr_ldc2 C dX5_stands_63 ct_X5_33 ?_
          refine rr_lor C dX5_stands_66 ?_
          refine rr_land C dX5_stands_67 ?_
          refine rr_lstore_n (i := 2) C dX5_stands_68 rfl (by decide) ?_
          rw [mm_set2_rf (i := 1) (r := l1) rfl]
          show WW W0 G 8 _ _ _ 69 [some (.ref l0), some (va_rf l1), some (.long ((l2 >>> ((Int32.toInt64 1) &&& 63)) &&& (l2 ||| (-2)))), none, some (.ref l4), some (.int l5), some (.int l6), some (.int v11)] [] h n _ _
          refine rr_goto (tgt := 111) C dX5_stands_69 (by decide) ?_
          refine rr_iinc (v := l6 + 1) C dX5_stands_111 rfl rfl ?_
          show WW W0 G 8 _ _ _ 114 [some (.ref l0), some (va_rf l1), some (.long ((l2 >>> ((Int32.toInt64 1) &&& 63)) &&& (l2 ||| (-2)))), none, some (.ref l4), some (.int l5), some (.int (l6 + 1)), some (.int v11)] [] h n _ _
          refine rr_goto (tgt := 25) C dX5_stands_114 (by decide) ?_
          exact rr_keep [true, true, true, false, true, true, true, false] (ih_ _ _ hr hx0)
      · replace hr := (if_pos c42_).symm.trans hr
        refine rr_lload_n (i := 2) C dX5_stands_45 rfl rfl ?_
        refine rr_lconst (v := 1) C dX5_stands_46 (by decide) ?_
        refine rr_lxor C dX5_stands_47 ?_
        refine rr_lstore_n (i := 2) C dX5_stands_48 rfl (by decide) ?_
        rw [mm_set2_rf (i := 1) (r := l1) rfl]
        show WW W0 G 8 _ _ _ 49 [some (.ref l0), some (va_rf l1), some (.long (l2 ^^^ 1)), none, some (.ref l4), some (.int l5), some (.int l6), some (.int v11)] [] h n _ _
        refine rr_goto (tgt := 111) C dX5_stands_49 (by decide) ?_
        refine rr_iinc (v := l6 + 1) C dX5_stands_111 rfl rfl ?_
        show WW W0 G 8 _ _ _ 114 [some (.ref l0), some (va_rf l1), some (.long (l2 ^^^ 1)), none, some (.ref l4), some (.int l5), some (.int (l6 + 1)), some (.int v11)] [] h n _ _
        refine rr_goto (tgt := 25) C dX5_stands_114 (by decide) ?_
        exact rr_keep [true, true, true, false, true, true, true, false] (ih_ _ _ hr hx0)
set_option maxRecDepth 100000 in
set_option maxHeartbeats 4000000 in
theorem c_X5_stands {K : Nat} {G : mm_G} {l : Launch} {h : mm_H} {n : Nat} (l0 : Nat) (l1 : Option Nat) {r_ : Int32} (hn : 48 ≤ n) (hr : q_X5_stands K h n l0 l1 = some r_) : Sp G l yX5_stands cX5_stands 8 (some .boolean) 1 0 0 [.ref l0, va_rf l1] h n (fun v h' n' => v = some (.int r_) ∧ h' = h ∧ n' = n) := by
  refine Sp_of (by decide +kernel) (by rcases l1 with _ | _ <;> exact Nat.le_of_ble_eq_true rfl) hn ?_
  intro W0 hwl C
  subst hwl
  unfold q_X5_stands at hr
  rw [show mm_en 8 [.ref l0, va_rf l1] = [some (.ref l0), some (va_rf l1), none, none, none, none, none, none] from by rcases l1 with _ | _ <;> rfl]
  show WW W0 G 8 0 0 _ 0 [some (.ref l0), some (va_rf l1), none, none, none, none, none, none] [] h n 0 0
  refine rr_aload_n (i := 0) C dX5_stands_0 rfl rfl ?_
  replace hr := Option.bind_eq_some_iff.mp hr
  obtain ⟨u1, e2, hr⟩ := hr
  replace hr := Option.bind_eq_some_iff.mp hr
  obtain ⟨v3, e4, hr⟩ := hr
  refine rr_callVq (as := []) (st := []) (mc' := 0) (ms' := 0) C dX5_stands_1 iv_X5_29 (by decide) e2 rfl (Nat.le_of_ble_eq_true rfl) (c_X5_hasUnless l0 (by omega) e4) (fun v_ h_ n_ q_ => ?_)
  obtain ⟨q1_, q2_, q3_⟩ := q_
  subst v_; subst h_; subst n_
  show WW W0 G 8 _ _ _ 4 [some (.ref l0), some (va_rf l1), none, none, none, none, none, none] [.int v3] h n _ _
  refine rr_if_ne (tgt := 9) C dX5_stands_4 (by decide) (fun c4_ => ?_) (fun c4_ => ?_)
  · replace hr := (if_neg c4_).symm.trans hr
    refine rr_lconst (v := 0) C dX5_stands_9 (by decide) ?_
    refine rr_lstore_n (i := 2) C dX5_stands_10 rfl (by decide) ?_
    rw [mm_set2_rf (i := 1) (r := l1) rfl]
    show WW W0 G 8 _ _ _ 11 [some (.ref l0), some (va_rf l1), some (.long 0), none, none, none, none, none] [] h n _ _
    refine rr_aload_n (i := 0) C dX5_stands_11 rfl rfl ?_
    replace hr := Option.bind_eq_some_iff.mp hr
    obtain ⟨v5, e6, hr⟩ := hr
    refine rr_rdR C dX5_stands_12 fl_X5_13 e6 ?_
    refine rr_astoreO C dX5_stands_15 (by decide) ?_
    show WW W0 G 8 _ _ _ 17 [some (.ref l0), some (va_rf l1), some (.long 0), none, some (va_rf v5), none, none, none] [] h n _ _
    refine rr_aloadO C dX5_stands_17 rfl ?_
    replace hr := Option.bind_eq_some_iff.mp hr
    obtain ⟨a7, e8, hr⟩ := hr
    subst e8
    replace hr := Option.bind_eq_some_iff.mp hr
    obtain ⟨v9, e10, hr⟩ := hr
    refine rr_lenA C dX5_stands_19 e10 ?_
    refine rr_istore C dX5_stands_20 (by decide) ?_
    show WW W0 G 8 _ _ _ 22 [some (.ref l0), some (va_rf l1), some (.long 0), none, some (.ref a7), some (.int v9), none, none] [] h n _ _
    refine rr_iconst (v := 0) C dX5_stands_22 (by decide) ?_
    refine rr_istore C dX5_stands_23 (by decide) ?_
    show WW W0 G 8 _ _ _ 25 [some (.ref l0), some (va_rf l1), some (.long 0), none, some (.ref a7), some (.int v9), some (.int 0), none] [] h n _ _
    replace hr := Option.bind_eq_some_iff.mp hr
    obtain ⟨v22, e23, hr⟩ := hr
    refine rr_keep [true, true, true, false, true, true, true, false] (w_X5_stands_25 C (by omega) l0 l1 a7 v9 K 0 0 e23 ?_)
    show WW W0 G 8 _ _ _ 117 [none, none, some (.long v22), none, none, none, none, none] [] h n _ _
    refine rr_lload_n (i := 2) C dX5_stands_117 rfl rfl ?_
    refine rr_lconst (v := 1) C dX5_stands_118 (by decide) ?_
    refine rr_land C dX5_stands_119 ?_
    refine rr_lconst (v := 0) C dX5_stands_120 (by decide) ?_
    refine rr_lcmp C dX5_stands_121 ?_
    refine rr_if_ne (tgt := 129) C dX5_stands_122 (by decide) (fun c122_ => ?_) (fun c122_ => ?_)
    · replace hr := (if_neg c122_).symm.trans hr
      refine rr_iconst (v := 0) C dX5_stands_129 (by decide) ?_
      obtain rfl := Option.some.inj hr
      exact rr_iret (ty := .boolean) C dX5_stands_130 rfl rfl ⟨rfl, rfl, rfl⟩
    · replace hr := (if_pos c122_).symm.trans hr
      refine rr_iconst (v := 1) C dX5_stands_125 (by decide) ?_
      refine rr_goto (tgt := 130) C dX5_stands_126 (by decide) ?_
      obtain rfl := Option.some.inj hr
      exact rr_iret (ty := .boolean) C dX5_stands_130 rfl rfl ⟨rfl, rfl, rfl⟩
  · replace hr := (if_pos c4_).symm.trans hr
    refine rr_iconst (v := 1) C dX5_stands_7 (by decide) ?_
    obtain rfl := Option.some.inj hr
    exact rr_iret (ty := .boolean) C dX5_stands_8 rfl rfl ⟨rfl, rfl, rfl⟩
def q_X8_size (K : Nat) (h : mm_H) (n : Nat) (l0 : Int64) : Option (Int64) :=
  if 0 ≤ (lg_cmp l0 0) then
    some l0
  else
  some (-l0)
set_option maxRecDepth 100000 in
set_option maxHeartbeats 4000000 in
theorem c_X8_size {K : Nat} {G : mm_G} {l : Launch} {h : mm_H} {n : Nat} (l0 : Int64) {r_ : Int64} (hn : 48 ≤ n) (hr : q_X8_size K h n l0 = some r_) : Sp G l yX8_size cX8_size 2 (some .long) 0 0 0 [.long l0] h n (fun v h' n' => v = some (.long r_) ∧ h' = h ∧ n' = n) := by
  refine Sp_of (by decide +kernel) (Nat.le_of_ble_eq_true rfl) hn ?_
  intro W0 hwl C
  subst hwl
  unfold q_X8_size at hr
  show WW W0 G 2 0 0 _ 0 [some (.long l0), none] [] h n 0 0
  refine rr_lload_n (i := 0) C dX8_size_0 rfl rfl ?_
  refine rr_lconst (v := 0) C dX8_size_1 (by decide) ?_
  refine rr_lcmp C dX8_size_2 ?_
  refine rr_if_ge (tgt := 11) C dX8_size_3 (by decide) (fun c3_ => ?_) (fun c3_ => ?_)
  · replace hr := (if_pos c3_).symm.trans hr
    refine rr_lload_n (i := 0) C dX8_size_11 rfl rfl ?_
    obtain rfl := Option.some.inj hr
    exact rr_lret C dX8_size_12 rfl ⟨rfl, rfl, rfl⟩
  · replace hr := (if_neg c3_).symm.trans hr
    refine rr_lload_n (i := 0) C dX8_size_6 rfl rfl ?_
    refine rr_lneg C dX8_size_7 ?_
    refine rr_goto (tgt := 12) C dX8_size_8 (by decide) ?_
    obtain rfl := Option.some.inj hr
    exact rr_lret C dX8_size_12 rfl ⟨rfl, rfl, rfl⟩
def q_X5_earns (K : Nat) (h : mm_H) (n : Nat) (l0 : Nat) (l1 : Int64) : Option (Int64) :=
  (rdI h n l0 5 2).bind fun v1 =>
  if v1 = 0 then
    (rdI h n l0 5 4).bind fun v3 =>
    (q_X8_size K h n (l1 - (Int32.toInt64 v3))).bind fun v6 =>
    (rdI h n l0 5 8).bind fun v8 =>
    (rdI h n l0 5 9).bind fun v11 =>
    (rdI h n l0 5 6).bind fun v13 =>
    (q_X8_cut K h n (j_max 0 (v6 - (Int32.toInt64 v8))) (Int32.toInt64 v13)).bind fun v15 =>
    (rdI h n l0 5 7).bind fun v17 =>
    if 0 ≤ (lg_cmp (l1 - (Int32.toInt64 v3)) 0) then
      some (j_min (Int32.toInt64 v11) (v15 * (Int32.toInt64 v17)))
    else
    some (-(j_min (Int32.toInt64 v11) (v15 * (Int32.toInt64 v17))))
  else
  (rdI h n l0 5 4).bind fun v20 =>
  (q_X8_size K h n ((Int32.toInt64 v20) - l1)).bind fun v23 =>
  (rdI h n l0 5 8).bind fun v25 =>
  (rdI h n l0 5 9).bind fun v28 =>
  (rdI h n l0 5 6).bind fun v30 =>
  (q_X8_cut K h n (j_max 0 (v23 - (Int32.toInt64 v25))) (Int32.toInt64 v30)).bind fun v32 =>
  (rdI h n l0 5 7).bind fun v34 =>
  if 0 ≤ (lg_cmp ((Int32.toInt64 v20) - l1) 0) then
    some (j_min (Int32.toInt64 v28) (v32 * (Int32.toInt64 v34)))
  else
  some (-(j_min (Int32.toInt64 v28) (v32 * (Int32.toInt64 v34))))
set_option maxRecDepth 100000 in
set_option maxHeartbeats 4000000 in
theorem c_X5_earns {K : Nat} {G : mm_G} {l : Launch} {h : mm_H} {n : Nat} (l0 : Nat) (l1 : Int64) {r_ : Int64} (hn : 48 ≤ n) (hr : q_X5_earns K h n l0 l1 = some r_) : Sp G l yX5_earns cX5_earns 9 (some .long) 1 0 0 [.ref l0, .long l1] h n (fun v h' n' => v = some (.long r_) ∧ h' = h ∧ n' = n) := by
  refine Sp_of (by decide +kernel) (Nat.le_of_ble_eq_true rfl) hn ?_
  intro W0 hwl C
  subst hwl
  unfold q_X5_earns at hr
  show WW W0 G 9 0 0 _ 0 [some (.ref l0), some (.long l1), none, none, none, none, none, none, none] [] h n 0 0
  refine rr_aload_n (i := 0) C dX5_earns_0 rfl rfl ?_
  replace hr := Option.bind_eq_some_iff.mp hr
  obtain ⟨v1, e2, hr⟩ := hr
  refine rr_rdI C dX5_earns_1 fl_X5_39 e2 ?_
  refine rr_if_ne (tgt := 17) C dX5_earns_4 (by decide) (fun c4_ => ?_) (fun c4_ => ?_)
  · replace hr := (if_neg c4_).symm.trans hr
    refine rr_aload_n (i := 0) C dX5_earns_17 rfl rfl ?_
    replace hr := Option.bind_eq_some_iff.mp hr
    obtain ⟨v20, e21, hr⟩ := hr
    refine rr_rdI C dX5_earns_18 fl_X5_42 e21 ?_
    refine rr_i2l C dX5_earns_21 ?_
    refine rr_lload_n (i := 1) C dX5_earns_22 rfl rfl ?_
    refine rr_lsub C dX5_earns_23 ?_
    refine rr_lstore_n (i := 3) C dX5_earns_24 rfl (by decide) ?_
    show WW W0 G 9 _ _ _ 25 [some (.ref l0), some (.long l1), none, some (.long ((Int32.toInt64 v20) - l1)), none, none, none, none, none] [] h n _ _
    refine rr_lconst (v := 0) C dX5_earns_25 (by decide) ?_
    refine rr_lload_n (i := 3) C dX5_earns_26 rfl rfl ?_
    replace hr := Option.bind_eq_some_iff.mp hr
    obtain ⟨v23, e24, hr⟩ := hr
    refine rr_callS (as := [.long ((Int32.toInt64 v20) - l1)]) (st := [.long 0]) (mc' := 0) (ms' := 0) C dX5_earns_27 it_X5_45 (by decide) (Nat.le_of_ble_eq_true rfl) (c_X8_size ((Int32.toInt64 v20) - l1) (by omega) e24) (fun v_ h_ n_ q_ => ?_)
    obtain ⟨q1_, q2_, q3_⟩ := q_
    subst v_; subst h_; subst n_
    show WW W0 G 9 _ _ _ 30 [some (.ref l0), some (.long l1), none, some (.long ((Int32.toInt64 v20) - l1)), none, none, none, none, none] [.long v23, .long 0] h n _ _
    refine rr_aload_n (i := 0) C dX5_earns_30 rfl rfl ?_
    replace hr := Option.bind_eq_some_iff.mp hr
    obtain ⟨v25, e26, hr⟩ := hr
    refine rr_rdI C dX5_earns_31 fl_X5_51 e26 ?_
    refine rr_i2l C dX5_earns_34 ?_
    refine rr_lsub C dX5_earns_35 ?_
    refine rr_mmax_long C dX5_earns_36 ma_X5_54 (by decide) (Nat.le_of_ble_eq_true rfl) ?_
    refine rr_lstore C dX5_earns_39 (by decide) ?_
    show WW W0 G 9 _ _ _ 41 [some (.ref l0), some (.long l1), none, some (.long ((Int32.toInt64 v20) - l1)), none, some (.long (j_max 0 (v23 - (Int32.toInt64 v25)))), none, none, none] [] h n _ _
    refine rr_aload_n (i := 0) C dX5_earns_41 rfl rfl ?_
    replace hr := Option.bind_eq_some_iff.mp hr
    obtain ⟨v28, e29, hr⟩ := hr
    refine rr_rdI C dX5_earns_42 fl_X5_60 e29 ?_
    refine rr_i2l C dX5_earns_45 ?_
    refine rr_lload C dX5_earns_46 rfl ?_
    refine rr_aload_n (i := 0) C dX5_earns_48 rfl rfl ?_
    replace hr := Option.bind_eq_some_iff.mp hr
    obtain ⟨v30, e31, hr⟩ := hr
    refine rr_rdI C dX5_earns_49 fl_X5_63 e31 ?_
    refine rr_i2l C dX5_earns_52 ?_
    replace hr := Option.bind_eq_some_iff.mp hr
    obtain ⟨v32, e33, hr⟩ := hr
    refine rr_callS (as := [.long (j_max 0 (v23 - (Int32.toInt64 v25))), .long (Int32.toInt64 v30)]) (st := [.long (Int32.toInt64 v28)]) (mc' := 0) (ms' := 0) C dX5_earns_53 it_X5_66 (by decide) (Nat.le_of_ble_eq_true rfl) (c_X8_cut (j_max 0 (v23 - (Int32.toInt64 v25))) (Int32.toInt64 v30) (by omega) e33) (fun v_ h_ n_ q_ => ?_)
    obtain ⟨q1_, q2_, q3_⟩ := q_
    subst v_; subst h_; subst n_
    show WW W0 G 9 _ _ _ 56 [some (.ref l0), some (.long l1), none, some (.long ((Int32.toInt64 v20) - l1)), none, some (.long (j_max 0 (v23 - (Int32.toInt64 v25)))), none, none, none] [.long v32, .long (Int32.toInt64 v28)] h n _ _
    refine rr_aload_n (i := 0) C dX5_earns_56 rfl rfl ?_
    replace hr := Option.bind_eq_some_iff.mp hr
    obtain ⟨v34, e35, hr⟩ := hr
    refine rr_rdI C dX5_earns_57 fl_X5_69 e35 ?_
    refine rr_i2l C dX5_earns_60 ?_
    refine rr_lmul C dX5_earns_61 ?_
    refine rr_mmin_long C dX5_earns_62 ma_X5_72 (by decide) (Nat.le_of_ble_eq_true rfl) ?_
    refine rr_lstore C dX5_earns_65 (by decide) ?_
    show WW W0 G 9 _ _ _ 67 [some (.ref l0), some (.long l1), none, some (.long ((Int32.toInt64 v20) - l1)), none, some (.long (j_max 0 (v23 - (Int32.toInt64 v25)))), none, some (.long (j_min (Int32.toInt64 v28) (v32 * (Int32.toInt64 v34)))), none] [] h n _ _
    refine rr_lload_n (i := 3) C dX5_earns_67 rfl rfl ?_
    refine rr_lconst (v := 0) C dX5_earns_68 (by decide) ?_
    refine rr_lcmp C dX5_earns_69 ?_
    refine rr_if_ge (tgt := 79) C dX5_earns_70 (by decide) (fun c70_ => ?_) (fun c70_ => ?_)
    · replace hr := (if_pos c70_).symm.trans hr
      refine rr_lload C dX5_earns_79 rfl ?_
      obtain rfl := Option.some.inj hr
      exact rr_lret C dX5_earns_81 rfl ⟨rfl, rfl, rfl⟩
    · replace hr := (if_neg c70_).symm.trans hr
      refine rr_lload C dX5_earns_73 rfl ?_
      refine rr_lneg C dX5_earns_75 ?_
      refine rr_goto (tgt := 81) C dX5_earns_76 (by decide) ?_
      obtain rfl := Option.some.inj hr
      exact rr_lret C dX5_earns_81 rfl ⟨rfl, rfl, rfl⟩
  · replace hr := (if_pos c4_).symm.trans hr
    refine rr_lload_n (i := 1) C dX5_earns_7 rfl rfl ?_
    refine rr_aload_n (i := 0) C dX5_earns_8 rfl rfl ?_
    replace hr := Option.bind_eq_some_iff.mp hr
    obtain ⟨v3, e4, hr⟩ := hr
    refine rr_rdI C dX5_earns_9 fl_X5_42 e4 ?_
    refine rr_i2l C dX5_earns_12 ?_
    refine rr_lsub C dX5_earns_13 ?_
    refine rr_goto (tgt := 24) C dX5_earns_14 (by decide) ?_
    refine rr_lstore_n (i := 3) C dX5_earns_24 rfl (by decide) ?_
    show WW W0 G 9 _ _ _ 25 [some (.ref l0), some (.long l1), none, some (.long (l1 - (Int32.toInt64 v3))), none, none, none, none, none] [] h n _ _
    refine rr_lconst (v := 0) C dX5_earns_25 (by decide) ?_
    refine rr_lload_n (i := 3) C dX5_earns_26 rfl rfl ?_
    replace hr := Option.bind_eq_some_iff.mp hr
    obtain ⟨v6, e7, hr⟩ := hr
    refine rr_callS (as := [.long (l1 - (Int32.toInt64 v3))]) (st := [.long 0]) (mc' := 0) (ms' := 0) C dX5_earns_27 it_X5_45 (by decide) (Nat.le_of_ble_eq_true rfl) (c_X8_size (l1 - (Int32.toInt64 v3)) (by omega) e7) (fun v_ h_ n_ q_ => ?_)
    obtain ⟨q1_, q2_, q3_⟩ := q_
    subst v_; subst h_; subst n_
    show WW W0 G 9 _ _ _ 30 [some (.ref l0), some (.long l1), none, some (.long (l1 - (Int32.toInt64 v3))), none, none, none, none, none] [.long v6, .long 0] h n _ _
    refine rr_aload_n (i := 0) C dX5_earns_30 rfl rfl ?_
    replace hr := Option.bind_eq_some_iff.mp hr
    obtain ⟨v8, e9, hr⟩ := hr
    refine rr_rdI C dX5_earns_31 fl_X5_51 e9 ?_
    refine rr_i2l C dX5_earns_34 ?_
    refine rr_lsub C dX5_earns_35 ?_
    refine rr_mmax_long C dX5_earns_36 ma_X5_54 (by decide) (Nat.le_of_ble_eq_true rfl) ?_
    refine rr_lstore C dX5_earns_39 (by decide) ?_
    show WW W0 G 9 _ _ _ 41 [some (.ref l0), some (.long l1), none, some (.long (l1 - (Int32.toInt64 v3))), none, some (.long (j_max 0 (v6 - (Int32.toInt64 v8)))), none, none, none] [] h n _ _
    refine rr_aload_n (i := 0) C dX5_earns_41 rfl rfl ?_
    replace hr := Option.bind_eq_some_iff.mp hr
    obtain ⟨v11, e12, hr⟩ := hr
    refine rr_rdI C dX5_earns_42 fl_X5_60 e12 ?_
    refine rr_i2l C dX5_earns_45 ?_
    refine rr_lload C dX5_earns_46 rfl ?_
    refine rr_aload_n (i := 0) C dX5_earns_48 rfl rfl ?_
    replace hr := Option.bind_eq_some_iff.mp hr
    obtain ⟨v13, e14, hr⟩ := hr
    refine rr_rdI C dX5_earns_49 fl_X5_63 e14 ?_
    refine rr_i2l C dX5_earns_52 ?_
    replace hr := Option.bind_eq_some_iff.mp hr
    obtain ⟨v15, e16, hr⟩ := hr
    refine rr_callS (as := [.long (j_max 0 (v6 - (Int32.toInt64 v8))), .long (Int32.toInt64 v13)]) (st := [.long (Int32.toInt64 v11)]) (mc' := 0) (ms' := 0) C dX5_earns_53 it_X5_66 (by decide) (Nat.le_of_ble_eq_true rfl) (c_X8_cut (j_max 0 (v6 - (Int32.toInt64 v8))) (Int32.toInt64 v13) (by omega) e16) (fun v_ h_ n_ q_ => ?_)
    obtain ⟨q1_, q2_, q3_⟩ := q_
    subst v_; subst h_; subst n_
    show WW W0 G 9 _ _ _ 56 [some (.ref l0), some (.long l1), none, some (.long (l1 - (Int32.toInt64 v3))), none, some (.long (j_max 0 (v6 - (Int32.toInt64 v8)))), none, none, none] [.long v15, .long (Int32.toInt64 v11)] h n _ _
    refine rr_aload_n (i := 0) C dX5_earns_56 rfl rfl ?_
    replace hr := Option.bind_eq_some_iff.mp hr
    obtain ⟨v17, e18, hr⟩ := hr
    refine rr_rdI C dX5_earns_57 fl_X5_69 e18 ?_
    refine rr_i2l C dX5_earns_60 ?_
    refine rr_lmul C dX5_earns_61 ?_
    refine rr_mmin_long C dX5_earns_62 ma_X5_72 (by decide) (Nat.le_of_ble_eq_true rfl) ?_
    refine rr_lstore C dX5_earns_65 (by decide) ?_
    show WW W0 G 9 _ _ _ 67 [some (.ref l0), some (.long l1), none, some (.long (l1 - (Int32.toInt64 v3))), none, some (.long (j_max 0 (v6 - (Int32.toInt64 v8)))), none, some (.long (j_min (Int32.toInt64 v11) (v15 * (Int32.toInt64 v17)))), none] [] h n _ _
    refine rr_lload_n (i := 3) C dX5_earns_67 rfl rfl ?_
    refine rr_lconst (v := 0) C dX5_earns_68 (by decide) ?_
    refine rr_lcmp C dX5_earns_69 ?_
    refine rr_if_ge (tgt := 79) C dX5_earns_70 (by decide) (fun c70_ => ?_) (fun c70_ => ?_)
    · replace hr := (if_pos c70_).symm.trans hr
      refine rr_lload C dX5_earns_79 rfl ?_
      obtain rfl := Option.some.inj hr
      exact rr_lret C dX5_earns_81 rfl ⟨rfl, rfl, rfl⟩
    · replace hr := (if_neg c70_).symm.trans hr
      refine rr_lload C dX5_earns_73 rfl ?_
      refine rr_lneg C dX5_earns_75 ?_
      refine rr_goto (tgt := 81) C dX5_earns_76 (by decide) ?_
      obtain rfl := Option.some.inj hr
      exact rr_lret C dX5_earns_81 rfl ⟨rfl, rfl, rfl⟩
def q_X6_add (K : Nat) (h : mm_H) (n : Nat) (l0 : Nat) (l1 : Option Nat) : Option (mm_H) :=
  (rdI h n l0 6 1).bind fun v1 =>
  (rdR h n l0 6 0).bind fun v3 =>
  v3.bind fun a5 =>
  (lenA h n a5 4).bind fun v7 =>
  if v7 ≤ v1 then
    some h
  else
  (rdR h n l0 6 0).bind fun v9 =>
  (rdI h n l0 6 1).bind fun v11 =>
  l1.bind fun a13 =>
  v9.bind fun a15 =>
  (stR h n a15 4 5 v11 a13).bind fun h17 =>
  (rdI h17 n l0 6 1).bind fun v19 =>
  (wrF h17 n l0 6 1 (.int (v19 + 1))).bind fun h21 =>
  some h21
set_option maxRecDepth 100000 in
set_option maxHeartbeats 4000000 in
theorem c_X6_add {K : Nat} {G : mm_G} {l : Launch} {h : mm_H} {n : Nat} (l0 : Nat) (l1 : Option Nat) {r_ : mm_H} (hn : 48 ≤ n) (hr : q_X6_add K h n l0 l1 = some r_) : Sp G l yX6_add cX6_add 2 none 0 0 0 [.ref l0, va_rf l1] h n (fun v h' n' => v = none ∧ h' = r_ ∧ n' = n) := by
  refine Sp_of (by decide +kernel) (by rcases l1 with _ | _ <;> exact Nat.le_of_ble_eq_true rfl) hn ?_
  intro W0 hwl C
  subst hwl
  unfold q_X6_add at hr
  rw [show mm_en 2 [.ref l0, va_rf l1] = [some (.ref l0), some (va_rf l1)] from by rcases l1 with _ | _ <;> rfl]
  show WW W0 G 2 0 0 _ 0 [some (.ref l0), some (va_rf l1)] [] h n 0 0
  refine rr_aload_n (i := 0) C dX6_add_0 rfl rfl ?_
  replace hr := Option.bind_eq_some_iff.mp hr
  obtain ⟨v1, e2, hr⟩ := hr
  refine rr_rdI C dX6_add_1 fl_X6_23 e2 ?_
  refine rr_aload_n (i := 0) C dX6_add_4 rfl rfl ?_
  replace hr := Option.bind_eq_some_iff.mp hr
  obtain ⟨v3, e4, hr⟩ := hr
  refine rr_rdR C dX6_add_5 fl_X6_17 e4 ?_
  replace hr := Option.bind_eq_some_iff.mp hr
  obtain ⟨a5, e6, hr⟩ := hr
  subst e6
  replace hr := Option.bind_eq_some_iff.mp hr
  obtain ⟨v7, e8, hr⟩ := hr
  refine rr_lenA C dX6_add_8 e8 ?_
  refine rr_icmp_ge (tgt := 32) C dX6_add_9 (by decide) (fun c9_ => ?_) (fun c9_ => ?_)
  · replace hr := (if_pos c9_).symm.trans hr
    obtain rfl := Option.some.inj hr
    exact rr_vret C dX6_add_32 rfl ⟨rfl, rfl, rfl⟩
  · replace hr := (if_neg c9_).symm.trans hr
    refine rr_aload_n (i := 0) C dX6_add_12 rfl rfl ?_
    replace hr := Option.bind_eq_some_iff.mp hr
    obtain ⟨v9, e10, hr⟩ := hr
    refine rr_rdR C dX6_add_13 fl_X6_17 e10 ?_
    refine rr_aload_n (i := 0) C dX6_add_16 rfl rfl ?_
    replace hr := Option.bind_eq_some_iff.mp hr
    obtain ⟨v11, e12, hr⟩ := hr
    refine rr_rdI C dX6_add_17 fl_X6_23 e12 ?_
    refine rr_aload_nO (i := 1) C dX6_add_20 rfl rfl ?_
    replace hr := Option.bind_eq_some_iff.mp hr
    obtain ⟨a13, e14, hr⟩ := hr
    subst e14
    replace hr := Option.bind_eq_some_iff.mp hr
    obtain ⟨a15, e16, hr⟩ := hr
    subst e16
    replace hr := Option.bind_eq_some_iff.mp hr
    obtain ⟨h17, e18, hr⟩ := hr
    refine rr_stR C dX6_add_21 (t0 := 4) (ci := 5) rfl rfl e18 ?_
    refine rr_aload_n (i := 0) C dX6_add_22 rfl rfl ?_
    refine rr_dup C dX6_add_23 rfl ?_
    replace hr := Option.bind_eq_some_iff.mp hr
    obtain ⟨v19, e20, hr⟩ := hr
    refine rr_rdI C dX6_add_24 fl_X6_23 e20 ?_
    refine rr_iconst (v := 1) C dX6_add_27 (by decide) ?_
    refine rr_iadd C dX6_add_28 ?_
    replace hr := Option.bind_eq_some_iff.mp hr
    obtain ⟨h21, e22, hr⟩ := hr
    refine rr_wrF C dX6_add_29 fp_X6_23 rfl rfl e22 ?_
    obtain rfl := Option.some.inj hr
    exact rr_vret C dX6_add_32 rfl ⟨rfl, rfl, rfl⟩
def q_X6_at (K : Nat) (h : mm_H) (n : Nat) (l0 : Nat) (l1 : Int32) : Option (Option Nat) :=
  if l1 < 0 then
    some none
  else
  (rdI h n l0 6 1).bind fun v1 =>
  if v1 ≤ l1 then
    some none
  else
  (rdR h n l0 6 0).bind fun v3 =>
  v3.bind fun a5 =>
  (ldR h n a5 4 l1).bind fun v7 =>
  some v7
set_option maxRecDepth 100000 in
set_option maxHeartbeats 4000000 in
theorem c_X6_at {K : Nat} {G : mm_G} {l : Launch} {h : mm_H} {n : Nat} (l0 : Nat) (l1 : Int32) {r_ : Option Nat} (hn : 48 ≤ n) (hr : q_X6_at K h n l0 l1 = some r_) : Sp G l yX6_at cX6_at 2 (some (.object "WaterReview$Rule")) 0 0 0 [.ref l0, .int l1] h n (fun v h' n' => v = some (va_rf r_) ∧ h' = h ∧ n' = n) := by
  refine Sp_of (by decide +kernel) (Nat.le_of_ble_eq_true rfl) hn ?_
  intro W0 hwl C
  subst hwl
  unfold q_X6_at at hr
  show WW W0 G 2 0 0 _ 0 [some (.ref l0), some (.int l1)] [] h n 0 0
  refine rr_iload_n (i := 1) C dX6_at_0 rfl rfl ?_
  refine rr_if_lt (tgt := 21) C dX6_at_1 (by decide) (fun c1_ => ?_) (fun c1_ => ?_)
  · replace hr := (if_pos c1_).symm.trans hr
    refine rr_null C dX6_at_21 ?_
    obtain rfl := Option.some.inj hr
    exact rr_aret (r := none) C dX6_at_22 rfl (Or.inl ⟨_, rfl⟩) ⟨rfl, rfl, rfl⟩
  · replace hr := (if_neg c1_).symm.trans hr
    refine rr_iload_n (i := 1) C dX6_at_4 rfl rfl ?_
    refine rr_aload_n (i := 0) C dX6_at_5 rfl rfl ?_
    replace hr := Option.bind_eq_some_iff.mp hr
    obtain ⟨v1, e2, hr⟩ := hr
    refine rr_rdI C dX6_at_6 fl_X6_23 e2 ?_
    refine rr_icmp_ge (tgt := 21) C dX6_at_9 (by decide) (fun c9_ => ?_) (fun c9_ => ?_)
    · replace hr := (if_pos c9_).symm.trans hr
      refine rr_null C dX6_at_21 ?_
      obtain rfl := Option.some.inj hr
      exact rr_aret (r := none) C dX6_at_22 rfl (Or.inl ⟨_, rfl⟩) ⟨rfl, rfl, rfl⟩
    · replace hr := (if_neg c9_).symm.trans hr
      refine rr_aload_n (i := 0) C dX6_at_12 rfl rfl ?_
      replace hr := Option.bind_eq_some_iff.mp hr
      obtain ⟨v3, e4, hr⟩ := hr
      refine rr_rdR C dX6_at_13 fl_X6_17 e4 ?_
      refine rr_iload_n (i := 1) C dX6_at_16 rfl rfl ?_
      replace hr := Option.bind_eq_some_iff.mp hr
      obtain ⟨a5, e6, hr⟩ := hr
      subst e6
      replace hr := Option.bind_eq_some_iff.mp hr
      obtain ⟨v7, e8, hr⟩ := hr
      refine rr_ldR C dX6_at_17 e8 ?_
      refine rr_goto (tgt := 22) C dX6_at_18 (by decide) ?_
      obtain rfl := Option.some.inj hr
      exact rr_aret (r := v7) C dX6_at_22 rfl (Or.inl ⟨_, rfl⟩) ⟨rfl, rfl, rfl⟩
def q_X7_useRules (K : Nat) (h : mm_H) (n : Nat) (l0 : Nat) (l1 : Int32) (l2 : Option Nat) : Option (mm_H) :=
  if l1 < 0 then
    some h
  else
  if 3 ≤ l1 then
    some h
  else
  (rdR h n l0 7 2).bind fun v1 =>
  match l2 with
  | none =>
    v1.bind fun a4 =>
    (stRN h n a4 5 l1).bind fun h6 =>
    some h6
  | some a3 =>
    v1.bind fun a8 =>
    (stR h n a8 5 6 l1 a3).bind fun h10 =>
    some h10
set_option maxRecDepth 100000 in
set_option maxHeartbeats 4000000 in
theorem c_X7_useRules {K : Nat} {G : mm_G} {l : Launch} {h : mm_H} {n : Nat} (l0 : Nat) (l1 : Int32) (l2 : Option Nat) {r_ : mm_H} (hn : 48 ≤ n) (hr : q_X7_useRules K h n l0 l1 l2 = some r_) : Sp G l yX7_useRules cX7_useRules 3 none 0 0 0 [.ref l0, .int l1, va_rf l2] h n (fun v h' n' => v = none ∧ h' = r_ ∧ n' = n) := by
  refine Sp_of (by decide +kernel) (by rcases l2 with _ | _ <;> exact Nat.le_of_ble_eq_true rfl) hn ?_
  intro W0 hwl C
  subst hwl
  unfold q_X7_useRules at hr
  rw [show mm_en 3 [.ref l0, .int l1, va_rf l2] = [some (.ref l0), some (.int l1), some (va_rf l2)] from by rcases l2 with _ | _ <;> rfl]
  show WW W0 G 3 0 0 _ 0 [some (.ref l0), some (.int l1), some (va_rf l2)] [] h n 0 0
  refine rr_iload_n (i := 1) C dX7_useRules_0 rfl rfl ?_
  refine rr_if_lt (tgt := 16) C dX7_useRules_1 (by decide) (fun c1_ => ?_) (fun c1_ => ?_)
  · replace hr := (if_pos c1_).symm.trans hr
    obtain rfl := Option.some.inj hr
    exact rr_vret C dX7_useRules_16 rfl ⟨rfl, rfl, rfl⟩
  · replace hr := (if_neg c1_).symm.trans hr
    refine rr_iload_n (i := 1) C dX7_useRules_4 rfl rfl ?_
    refine rr_iconst (v := 3) C dX7_useRules_5 (by decide) ?_
    refine rr_icmp_ge (tgt := 16) C dX7_useRules_6 (by decide) (fun c6_ => ?_) (fun c6_ => ?_)
    · replace hr := (if_pos c6_).symm.trans hr
      obtain rfl := Option.some.inj hr
      exact rr_vret C dX7_useRules_16 rfl ⟨rfl, rfl, rfl⟩
    · replace hr := (if_neg c6_).symm.trans hr
      refine rr_aload_n (i := 0) C dX7_useRules_9 rfl rfl ?_
      replace hr := Option.bind_eq_some_iff.mp hr
      obtain ⟨v1, e2, hr⟩ := hr
      refine rr_rdR C dX7_useRules_10 fl_X7_11 e2 ?_
      refine rr_iload_n (i := 1) C dX7_useRules_13 rfl rfl ?_
      refine rr_aload_nO (i := 2) C dX7_useRules_14 rfl rfl ?_
      rcases l2 with _ | a3
      · dsimp only at hr
        replace hr := Option.bind_eq_some_iff.mp hr
        obtain ⟨a4, e5, hr⟩ := hr
        subst e5
        replace hr := Option.bind_eq_some_iff.mp hr
        obtain ⟨h6, e7, hr⟩ := hr
        refine rr_stRN C dX7_useRules_15 (t0 := 5) rfl e7 ?_
        obtain rfl := Option.some.inj hr
        exact rr_vret C dX7_useRules_16 rfl ⟨rfl, rfl, rfl⟩
      · dsimp only at hr
        replace hr := Option.bind_eq_some_iff.mp hr
        obtain ⟨a8, e9, hr⟩ := hr
        subst e9
        replace hr := Option.bind_eq_some_iff.mp hr
        obtain ⟨h10, e11, hr⟩ := hr
        refine rr_stR C dX7_useRules_15 (t0 := 5) (ci := 6) rfl rfl e11 ?_
        obtain rfl := Option.some.inj hr
        exact rr_vret C dX7_useRules_16 rfl ⟨rfl, rfl, rfl⟩
def q_X7_bookOf (K : Nat) (h : mm_H) (n : Nat) (l0 : Nat) (l1 : Int32) : Option (Option Nat) :=
  if l1 < 0 then
    some none
  else
  if 15 ≤ l1 then
    some none
  else
  (rdR h n l0 7 2).bind fun v1 =>
  v1.bind fun a3 =>
  (ldR h n a3 5 (l1 / 5)).bind fun v5 =>
  some v5
set_option maxRecDepth 100000 in
set_option maxHeartbeats 4000000 in
theorem c_X7_bookOf {K : Nat} {G : mm_G} {l : Launch} {h : mm_H} {n : Nat} (l0 : Nat) (l1 : Int32) {r_ : Option Nat} (hn : 48 ≤ n) (hr : q_X7_bookOf K h n l0 l1 = some r_) : Sp G l yX7_bookOf cX7_bookOf 2 (some (.object "WaterReview$RuleBook")) 0 0 0 [.ref l0, .int l1] h n (fun v h' n' => v = some (va_rf r_) ∧ h' = h ∧ n' = n) := by
  refine Sp_of (by decide +kernel) (Nat.le_of_ble_eq_true rfl) hn ?_
  intro W0 hwl C
  subst hwl
  unfold q_X7_bookOf at hr
  show WW W0 G 2 0 0 _ 0 [some (.ref l0), some (.int l1)] [] h n 0 0
  refine rr_iload_n (i := 1) C dX7_bookOf_0 rfl rfl ?_
  refine rr_if_lt (tgt := 21) C dX7_bookOf_1 (by decide) (fun c1_ => ?_) (fun c1_ => ?_)
  · replace hr := (if_pos c1_).symm.trans hr
    refine rr_null C dX7_bookOf_21 ?_
    obtain rfl := Option.some.inj hr
    exact rr_aret (r := none) C dX7_bookOf_22 rfl (Or.inl ⟨_, rfl⟩) ⟨rfl, rfl, rfl⟩
  · replace hr := (if_neg c1_).symm.trans hr
    refine rr_iload_n (i := 1) C dX7_bookOf_4 rfl rfl ?_
    refine rr_bipush (v := 15) C dX7_bookOf_5 (by decide) ?_
    refine rr_icmp_ge (tgt := 21) C dX7_bookOf_7 (by decide) (fun c7_ => ?_) (fun c7_ => ?_)
    · replace hr := (if_pos c7_).symm.trans hr
      refine rr_null C dX7_bookOf_21 ?_
      obtain rfl := Option.some.inj hr
      exact rr_aret (r := none) C dX7_bookOf_22 rfl (Or.inl ⟨_, rfl⟩) ⟨rfl, rfl, rfl⟩
    · replace hr := (if_neg c7_).symm.trans hr
      refine rr_aload_n (i := 0) C dX7_bookOf_10 rfl rfl ?_
      replace hr := Option.bind_eq_some_iff.mp hr
      obtain ⟨v1, e2, hr⟩ := hr
      refine rr_rdR C dX7_bookOf_11 fl_X7_11 e2 ?_
      refine rr_iload_n (i := 1) C dX7_bookOf_14 rfl rfl ?_
      refine rr_iconst (v := 5) C dX7_bookOf_15 (by decide) ?_
      refine rr_idiv C dX7_bookOf_16 (by decide) ?_
      replace hr := Option.bind_eq_some_iff.mp hr
      obtain ⟨a3, e4, hr⟩ := hr
      subst e4
      replace hr := Option.bind_eq_some_iff.mp hr
      obtain ⟨v5, e6, hr⟩ := hr
      refine rr_ldR C dX7_bookOf_17 e6 ?_
      refine rr_goto (tgt := 22) C dX7_bookOf_18 (by decide) ?_
      obtain rfl := Option.some.inj hr
      exact rr_aret (r := v5) C dX7_bookOf_22 rfl (Or.inl ⟨_, rfl⟩) ⟨rfl, rfl, rfl⟩
def q_X7_decidedOn (K : Nat) (h : mm_H) (n : Nat) (l0 : Int32) : Option (Int32) :=
  some ((l0 / 5) * 500)
set_option maxRecDepth 100000 in
set_option maxHeartbeats 4000000 in
theorem c_X7_decidedOn {K : Nat} {G : mm_G} {l : Launch} {h : mm_H} {n : Nat} (l0 : Int32) {r_ : Int32} (hn : 48 ≤ n) (hr : q_X7_decidedOn K h n l0 = some r_) : Sp G l yX7_decidedOn cX7_decidedOn 1 (some .int) 0 0 0 [.int l0] h n (fun v h' n' => v = some (.int r_) ∧ h' = h ∧ n' = n) := by
  refine Sp_of (by decide +kernel) (Nat.le_of_ble_eq_true rfl) hn ?_
  intro W0 hwl C
  subst hwl
  unfold q_X7_decidedOn at hr
  show WW W0 G 1 0 0 _ 0 [some (.int l0)] [] h n 0 0
  refine rr_iload_n (i := 0) C dX7_decidedOn_0 rfl rfl ?_
  refine rr_iconst (v := 5) C dX7_decidedOn_1 (by decide) ?_
  refine rr_idiv C dX7_decidedOn_2 (by decide) ?_
  refine rr_sipush (v := 500) C dX7_decidedOn_3 (by decide) ?_
  refine rr_imul C dX7_decidedOn_6 ?_
  obtain rfl := Option.some.inj hr
  exact rr_iret (ty := .int) C dX7_decidedOn_7 rfl rfl ⟨rfl, rfl, rfl⟩
def q_X9_isThere (K : Nat) (h : mm_H) (n : Nat) (l0 : Nat) (l1 : Int32) : Option (Int32) :=
  if l1 < 0 then
    some 0
  else
  (rdI h n l0 8 4).bind fun v1 =>
  if v1 ≤ l1 then
    some 0
  else
  if 40 ≤ l1 then
    some 0
  else
  some 1
set_option maxRecDepth 100000 in
set_option maxHeartbeats 4000000 in
theorem c_X9_isThere {K : Nat} {G : mm_G} {l : Launch} {h : mm_H} {n : Nat} (l0 : Nat) (l1 : Int32) {r_ : Int32} (hn : 48 ≤ n) (hr : q_X9_isThere K h n l0 l1 = some r_) : Sp G l yX9_isThere cX9_isThere 2 (some .boolean) 0 0 0 [.ref l0, .int l1] h n (fun v h' n' => v = some (.int r_) ∧ h' = h ∧ n' = n) := by
  refine Sp_of (by decide +kernel) (Nat.le_of_ble_eq_true rfl) hn ?_
  intro W0 hwl C
  subst hwl
  unfold q_X9_isThere at hr
  show WW W0 G 2 0 0 _ 0 [some (.ref l0), some (.int l1)] [] h n 0 0
  refine rr_iload_n (i := 1) C dX9_isThere_0 rfl rfl ?_
  refine rr_if_lt (tgt := 22) C dX9_isThere_1 (by decide) (fun c1_ => ?_) (fun c1_ => ?_)
  · replace hr := (if_pos c1_).symm.trans hr
    refine rr_iconst (v := 0) C dX9_isThere_22 (by decide) ?_
    obtain rfl := Option.some.inj hr
    exact rr_iret (ty := .boolean) C dX9_isThere_23 rfl rfl ⟨rfl, rfl, rfl⟩
  · replace hr := (if_neg c1_).symm.trans hr
    refine rr_iload_n (i := 1) C dX9_isThere_4 rfl rfl ?_
    refine rr_aload_n (i := 0) C dX9_isThere_5 rfl rfl ?_
    replace hr := Option.bind_eq_some_iff.mp hr
    obtain ⟨v1, e2, hr⟩ := hr
    refine rr_rdI C dX9_isThere_6 fl_X9_24 e2 ?_
    refine rr_icmp_ge (tgt := 22) C dX9_isThere_9 (by decide) (fun c9_ => ?_) (fun c9_ => ?_)
    · replace hr := (if_pos c9_).symm.trans hr
      refine rr_iconst (v := 0) C dX9_isThere_22 (by decide) ?_
      obtain rfl := Option.some.inj hr
      exact rr_iret (ty := .boolean) C dX9_isThere_23 rfl rfl ⟨rfl, rfl, rfl⟩
    · replace hr := (if_neg c9_).symm.trans hr
      refine rr_iload_n (i := 1) C dX9_isThere_12 rfl rfl ?_
      refine rr_bipush (v := 40) C dX9_isThere_13 (by decide) ?_
      refine rr_icmp_ge (tgt := 22) C dX9_isThere_15 (by decide) (fun c15_ => ?_) (fun c15_ => ?_)
      · replace hr := (if_pos c15_).symm.trans hr
        refine rr_iconst (v := 0) C dX9_isThere_22 (by decide) ?_
        obtain rfl := Option.some.inj hr
        exact rr_iret (ty := .boolean) C dX9_isThere_23 rfl rfl ⟨rfl, rfl, rfl⟩
      · replace hr := (if_neg c15_).symm.trans hr
        refine rr_iconst (v := 1) C dX9_isThere_18 (by decide) ?_
        refine rr_goto (tgt := 23) C dX9_isThere_19 (by decide) ?_
        obtain rfl := Option.some.inj hr
        exact rr_iret (ty := .boolean) C dX9_isThere_23 rfl rfl ⟨rfl, rfl, rfl⟩
def q_X9_isLate (K : Nat) (h : mm_H) (n : Nat) (l0 : Nat) (l1 : Int32) (l2 : Int32) (l3 : Int32) : Option (Int32) :=
  (ckq h n l0 8).bind fun u1 =>
  (q_X9_isThere K h n l0 l1).bind fun v3 =>
  if v3 = 0 then
    some 0
  else
  (rdR h n l0 8 0).bind fun v5 =>
  v5.bind fun a7 =>
  (ldI h n a7 l1).bind fun v9 =>
  if v9 = l2 then
    (rdR h n l0 8 2).bind fun v11 =>
    v11.bind fun a13 =>
    (ldI h n a13 l1).bind fun v15 =>
    if v15 < l3 then
      (rdR h n l0 8 3).bind fun v17 =>
      v17.bind fun a19 =>
      (ldI h n a19 l1).bind fun v21 =>
      if v21 = (-1) then
        some 1
      else
      (rdR h n l0 8 3).bind fun v23 =>
      v23.bind fun a25 =>
      (ldI h n a25 l1).bind fun v27 =>
      if v27 < (l3 * 100) then
        some 0
      else
      some 1
    else
    some 0
  else
  some 0
set_option maxRecDepth 100000 in
set_option maxHeartbeats 4000000 in
theorem c_X9_isLate {K : Nat} {G : mm_G} {l : Launch} {h : mm_H} {n : Nat} (l0 : Nat) (l1 : Int32) (l2 : Int32) (l3 : Int32) {r_ : Int32} (hn : 48 ≤ n) (hr : q_X9_isLate K h n l0 l1 l2 l3 = some r_) : Sp G l yX9_isLate cX9_isLate 4 (some .boolean) 1 0 0 [.ref l0, .int l1, .int l2, .int l3] h n (fun v h' n' => v = some (.int r_) ∧ h' = h ∧ n' = n) := by
  refine Sp_of (by decide +kernel) (Nat.le_of_ble_eq_true rfl) hn ?_
  intro W0 hwl C
  subst hwl
  unfold q_X9_isLate at hr
  show WW W0 G 4 0 0 _ 0 [some (.ref l0), some (.int l1), some (.int l2), some (.int l3)] [] h n 0 0
  refine rr_aload_n (i := 0) C dX9_isLate_0 rfl rfl ?_
  refine rr_iload_n (i := 1) C dX9_isLate_1 rfl rfl ?_
  replace hr := Option.bind_eq_some_iff.mp hr
  obtain ⟨u1, e2, hr⟩ := hr
  replace hr := Option.bind_eq_some_iff.mp hr
  obtain ⟨v3, e4, hr⟩ := hr
  refine rr_callVq (as := [.int l1]) (st := []) (mc' := 0) (ms' := 0) C dX9_isLate_2 iv_X9_28 (by decide) e2 rfl (Nat.le_of_ble_eq_true rfl) (c_X9_isThere l0 l1 (by omega) e4) (fun v_ h_ n_ q_ => ?_)
  obtain ⟨q1_, q2_, q3_⟩ := q_
  subst v_; subst h_; subst n_
  show WW W0 G 4 _ _ _ 5 [some (.ref l0), some (.int l1), some (.int l2), some (.int l3)] [.int v3] h n _ _
  refine rr_if_eq (tgt := 28) C dX9_isLate_5 (by decide) (fun c5_ => ?_) (fun c5_ => ?_)
  · replace hr := (if_pos c5_).symm.trans hr
    refine rr_iconst (v := 0) C dX9_isLate_28 (by decide) ?_
    obtain rfl := Option.some.inj hr
    exact rr_iret (ty := .boolean) C dX9_isLate_29 rfl rfl ⟨rfl, rfl, rfl⟩
  · replace hr := (if_neg c5_).symm.trans hr
    refine rr_aload_n (i := 0) C dX9_isLate_8 rfl rfl ?_
    replace hr := Option.bind_eq_some_iff.mp hr
    obtain ⟨v5, e6, hr⟩ := hr
    refine rr_rdR C dX9_isLate_9 fl_X9_9 e6 ?_
    refine rr_iload_n (i := 1) C dX9_isLate_12 rfl rfl ?_
    replace hr := Option.bind_eq_some_iff.mp hr
    obtain ⟨a7, e8, hr⟩ := hr
    subst e8
    replace hr := Option.bind_eq_some_iff.mp hr
    obtain ⟨v9, e10, hr⟩ := hr
    refine rr_ldI C dX9_isLate_13 e10 ?_
    refine rr_iload_n (i := 2) C dX9_isLate_14 rfl rfl ?_
    refine rr_icmp_ne (tgt := 28) C dX9_isLate_15 (by decide) (fun c15_ => ?_) (fun c15_ => ?_)
    · replace hr := (if_neg c15_).symm.trans hr
      refine rr_iconst (v := 0) C dX9_isLate_28 (by decide) ?_
      obtain rfl := Option.some.inj hr
      exact rr_iret (ty := .boolean) C dX9_isLate_29 rfl rfl ⟨rfl, rfl, rfl⟩
    · replace hr := (if_pos c15_).symm.trans hr
      refine rr_aload_n (i := 0) C dX9_isLate_18 rfl rfl ?_
      replace hr := Option.bind_eq_some_iff.mp hr
      obtain ⟨v11, e12, hr⟩ := hr
      refine rr_rdR C dX9_isLate_19 fl_X9_18 e12 ?_
      refine rr_iload_n (i := 1) C dX9_isLate_22 rfl rfl ?_
      replace hr := Option.bind_eq_some_iff.mp hr
      obtain ⟨a13, e14, hr⟩ := hr
      subst e14
      replace hr := Option.bind_eq_some_iff.mp hr
      obtain ⟨v15, e16, hr⟩ := hr
      refine rr_ldI C dX9_isLate_23 e16 ?_
      refine rr_iload_n (i := 3) C dX9_isLate_24 rfl rfl ?_
      refine rr_icmp_lt (tgt := 30) C dX9_isLate_25 (by decide) (fun c25_ => ?_) (fun c25_ => ?_)
      · replace hr := (if_pos c25_).symm.trans hr
        refine rr_aload_n (i := 0) C dX9_isLate_30 rfl rfl ?_
        replace hr := Option.bind_eq_some_iff.mp hr
        obtain ⟨v17, e18, hr⟩ := hr
        refine rr_rdR C dX9_isLate_31 fl_X9_21 e18 ?_
        refine rr_iload_n (i := 1) C dX9_isLate_34 rfl rfl ?_
        replace hr := Option.bind_eq_some_iff.mp hr
        obtain ⟨a19, e20, hr⟩ := hr
        subst e20
        replace hr := Option.bind_eq_some_iff.mp hr
        obtain ⟨v21, e22, hr⟩ := hr
        refine rr_ldI C dX9_isLate_35 e22 ?_
        refine rr_iconst (v := (-1)) C dX9_isLate_36 (by decide) ?_
        refine rr_icmp_eq (tgt := 53) C dX9_isLate_37 (by decide) (fun c37_ => ?_) (fun c37_ => ?_)
        · replace hr := (if_pos c37_).symm.trans hr
          refine rr_iconst (v := 1) C dX9_isLate_53 (by decide) ?_
          refine rr_goto (tgt := 58) C dX9_isLate_54 (by decide) ?_
          obtain rfl := Option.some.inj hr
          exact rr_iret (ty := .boolean) C dX9_isLate_58 rfl rfl ⟨rfl, rfl, rfl⟩
        · replace hr := (if_neg c37_).symm.trans hr
          refine rr_aload_n (i := 0) C dX9_isLate_40 rfl rfl ?_
          replace hr := Option.bind_eq_some_iff.mp hr
          obtain ⟨v23, e24, hr⟩ := hr
          refine rr_rdR C dX9_isLate_41 fl_X9_21 e24 ?_
          refine rr_iload_n (i := 1) C dX9_isLate_44 rfl rfl ?_
          replace hr := Option.bind_eq_some_iff.mp hr
          obtain ⟨a25, e26, hr⟩ := hr
          subst e26
          replace hr := Option.bind_eq_some_iff.mp hr
          obtain ⟨v27, e28, hr⟩ := hr
          refine rr_ldI C dX9_isLate_45 e28 ?_
          refine rr_iload_n (i := 3) C dX9_isLate_46 rfl rfl ?_
          refine rr_bipush (v := 100) C dX9_isLate_47 (by decide) ?_
          refine rr_imul C dX9_isLate_49 ?_
          refine rr_icmp_lt (tgt := 57) C dX9_isLate_50 (by decide) (fun c50_ => ?_) (fun c50_ => ?_)
          · replace hr := (if_pos c50_).symm.trans hr
            refine rr_iconst (v := 0) C dX9_isLate_57 (by decide) ?_
            obtain rfl := Option.some.inj hr
            exact rr_iret (ty := .boolean) C dX9_isLate_58 rfl rfl ⟨rfl, rfl, rfl⟩
          · replace hr := (if_neg c50_).symm.trans hr
            refine rr_iconst (v := 1) C dX9_isLate_53 (by decide) ?_
            refine rr_goto (tgt := 58) C dX9_isLate_54 (by decide) ?_
            obtain rfl := Option.some.inj hr
            exact rr_iret (ty := .boolean) C dX9_isLate_58 rfl rfl ⟨rfl, rfl, rfl⟩
      · replace hr := (if_neg c25_).symm.trans hr
        refine rr_iconst (v := 0) C dX9_isLate_28 (by decide) ?_
        obtain rfl := Option.some.inj hr
        exact rr_iret (ty := .boolean) C dX9_isLate_29 rfl rfl ⟨rfl, rfl, rfl⟩
def lp_X9_countLate_5 (K : Nat) (h : mm_H) (n : Nat) (l0 : Nat) (l1 : Int32) (l2 : Int32) : Nat → Int32 → Int32 → Option (Int32)
  | 0, _, _ => none
  | k_ + 1, l3, l4 =>
    (rdI h n l0 8 4).bind fun v1 =>
    if v1 ≤ l4 then
      some (l3)
    else
    if 40 ≤ l4 then
      some (l3)
    else
    (ckq h n l0 8).bind fun u3 =>
    (q_X9_isLate K h n l0 l4 l1 l2).bind fun v5 =>
    if v5 = 0 then
      lp_X9_countLate_5 K h n l0 l1 l2 k_ l3 (l4 + 1)
    else
    lp_X9_countLate_5 K h n l0 l1 l2 k_ (l3 + 1) (l4 + 1)
def q_X9_countLate (K : Nat) (h : mm_H) (n : Nat) (l0 : Nat) (l1 : Int32) (l2 : Int32) : Option (Int32) :=
  (lp_X9_countLate_5 K h n l0 l1 l2 K 0 0).bind fun v7 =>
  some v7
set_option maxRecDepth 100000 in
set_option maxHeartbeats 4000000 in
theorem w_X9_countLate_5 {K : Nat} {W0 : mm_X} {G : mm_G} {mc ms kc ks : Nat} {Q_ : State → Prop} {h : mm_H} {n : Nat} (C : mm_C W0 G cX9_countLate yX9_countLate.cls 5 mc ms (some .int) 2 yX9_countLate.name) (hn : 48 ≤ n) (l0 : Nat) (l1 : Int32) (l2 : Int32) : ∀ (k_ : Nat) (l3 : Int32) (l4 : Int32) {r_ : Int32} (hr : lp_X9_countLate_5 K h n l0 l1 l2 k_ l3 l4 = some r_) (hx0 : WW W0 G 5 mc ms Q_ 41 [none, none, none, some (.int r_), none] [] h n kc ks), WW W0 G 5 mc ms Q_ 5 [some (.ref l0), some (.int l1), some (.int l2), some (.int l3), some (.int l4)] [] h n kc ks := by
  intro k_
  induction k_ with
  | zero =>
    intro l3 l4 r_ hr
    cases hr
  | succ k_ ih_ =>
    intro l3 l4 r_ hr hx0
    unfold lp_X9_countLate_5 at hr
    refine rr_iload C dX9_countLate_5 rfl ?_
    refine rr_aload_n (i := 0) C dX9_countLate_7 rfl rfl ?_
    replace hr := Option.bind_eq_some_iff.mp hr
    obtain ⟨v1, e2, hr⟩ := hr
    refine rr_rdI C dX9_countLate_8 fl_X9_24 e2 ?_
    refine rr_icmp_ge (tgt := 41) C dX9_countLate_11 (by decide) (fun c11_ => ?_) (fun c11_ => ?_)
    · replace hr := (if_pos c11_).symm.trans hr
      obtain rfl := Option.some.inj hr
      exact rr_keep [false, false, false, true, false] (hx0)
    · replace hr := (if_neg c11_).symm.trans hr
      refine rr_iload C dX9_countLate_14 rfl ?_
      refine rr_bipush (v := 40) C dX9_countLate_16 (by decide) ?_
      refine rr_icmp_ge (tgt := 41) C dX9_countLate_18 (by decide) (fun c18_ => ?_) (fun c18_ => ?_)
      · replace hr := (if_pos c18_).symm.trans hr
        obtain rfl := Option.some.inj hr
        exact rr_keep [false, false, false, true, false] (hx0)
      · replace hr := (if_neg c18_).symm.trans hr
        refine rr_aload_n (i := 0) C dX9_countLate_21 rfl rfl ?_
        refine rr_iload C dX9_countLate_22 rfl ?_
        refine rr_iload_n (i := 1) C dX9_countLate_24 rfl rfl ?_
        refine rr_iload_n (i := 2) C dX9_countLate_25 rfl rfl ?_
        replace hr := Option.bind_eq_some_iff.mp hr
        obtain ⟨u3, e4, hr⟩ := hr
        replace hr := Option.bind_eq_some_iff.mp hr
        obtain ⟨v5, e6, hr⟩ := hr
        refine rr_callVq (as := [.int l4, .int l1, .int l2]) (st := []) (mc' := 0) (ms' := 0) C dX9_countLate_26 iv_X9_35 (by decide) e4 rfl (Nat.le_of_ble_eq_true rfl) (c_X9_isLate l0 l4 l1 l2 (by omega) e6) (fun v_ h_ n_ q_ => ?_)
        obtain ⟨q1_, q2_, q3_⟩ := q_
        subst v_; subst h_; subst n_
        show WW W0 G 5 _ _ _ 29 [some (.ref l0), some (.int l1), some (.int l2), some (.int l3), some (.int l4)] [.int v5] h n _ _
        refine rr_if_eq (tgt := 35) C dX9_countLate_29 (by decide) (fun c29_ => ?_) (fun c29_ => ?_)
        · replace hr := (if_pos c29_).symm.trans hr
          refine rr_iinc (v := l4 + 1) C dX9_countLate_35 rfl rfl ?_
          show WW W0 G 5 _ _ _ 38 [some (.ref l0), some (.int l1), some (.int l2), some (.int l3), some (.int (l4 + 1))] [] h n _ _
          refine rr_goto (tgt := 5) C dX9_countLate_38 (by decide) ?_
          exact rr_keep [true, true, true, true, true] (ih_ _ _ hr hx0)
        · replace hr := (if_neg c29_).symm.trans hr
          refine rr_iinc (v := l3 + 1) C dX9_countLate_32 rfl rfl ?_
          show WW W0 G 5 _ _ _ 35 [some (.ref l0), some (.int l1), some (.int l2), some (.int (l3 + 1)), some (.int l4)] [] h n _ _
          refine rr_iinc (v := l4 + 1) C dX9_countLate_35 rfl rfl ?_
          show WW W0 G 5 _ _ _ 38 [some (.ref l0), some (.int l1), some (.int l2), some (.int (l3 + 1)), some (.int (l4 + 1))] [] h n _ _
          refine rr_goto (tgt := 5) C dX9_countLate_38 (by decide) ?_
          exact rr_keep [true, true, true, true, true] (ih_ _ _ hr hx0)
set_option maxRecDepth 100000 in
set_option maxHeartbeats 4000000 in
theorem c_X9_countLate {K : Nat} {G : mm_G} {l : Launch} {h : mm_H} {n : Nat} (l0 : Nat) (l1 : Int32) (l2 : Int32) {r_ : Int32} (hn : 48 ≤ n) (hr : q_X9_countLate K h n l0 l1 l2 = some r_) : Sp G l yX9_countLate cX9_countLate 5 (some .int) 2 0 0 [.ref l0, .int l1, .int l2] h n (fun v h' n' => v = some (.int r_) ∧ h' = h ∧ n' = n) := by
  refine Sp_of (by decide +kernel) (Nat.le_of_ble_eq_true rfl) hn ?_
  intro W0 hwl C
  subst hwl
  unfold q_X9_countLate at hr
  show WW W0 G 5 0 0 _ 0 [some (.ref l0), some (.int l1), some (.int l2), none, none] [] h n 0 0
  refine rr_iconst (v := 0) C dX9_countLate_0 (by decide) ?_
  refine rr_istore_n (i := 3) C dX9_countLate_1 rfl (by decide) ?_
  show WW W0 G 5 _ _ _ 2 [some (.ref l0), some (.int l1), some (.int l2), some (.int 0), none] [] h n _ _
  refine rr_iconst (v := 0) C dX9_countLate_2 (by decide) ?_
  refine rr_istore C dX9_countLate_3 (by decide) ?_
  show WW W0 G 5 _ _ _ 5 [some (.ref l0), some (.int l1), some (.int l2), some (.int 0), some (.int 0)] [] h n _ _
  replace hr := Option.bind_eq_some_iff.mp hr
  obtain ⟨v7, e8, hr⟩ := hr
  refine rr_keep [true, true, true, true, true] (w_X9_countLate_5 C (by omega) l0 l1 l2 K 0 0 e8 ?_)
  show WW W0 G 5 _ _ _ 41 [none, none, none, some (.int v7), none] [] h n _ _
  refine rr_iload_n (i := 3) C dX9_countLate_41 rfl rfl ?_
  obtain rfl := Option.some.inj hr
  exact rr_iret (ty := .int) C dX9_countLate_42 rfl rfl ⟨rfl, rfl, rfl⟩
def q_X7_findWords (K : Nat) (h : mm_H) (n : Nat) (l0 : Nat) (l1 : Int32) : Option (mm_H) :=
  (rdR h n l0 7 10).bind fun v1 =>
  v1.bind fun a3 =>
  (stJ h n a3 0 (Int32.toInt64 l1)).bind fun h5 =>
  (rdR h5 n l0 7 10).bind fun v7 =>
  (rdI h5 n l0 7 11).bind fun v9 =>
  v7.bind fun a11 =>
  (stJ h5 n a11 1 (Int32.toInt64 v9)).bind fun h13 =>
  (rdR h13 n l0 7 10).bind fun v15 =>
  (rdR h13 n l0 7 0).bind fun v17 =>
  v17.bind fun a19 =>
  (rdR h13 n a19 4 1).bind fun v21 =>
  (rdI h13 n l0 7 11).bind fun v23 =>
  (q_X7_decidedOn K h13 n l1).bind fun v25 =>
  v21.bind fun a27 =>
  (ckq h13 n a27 0).bind fun u29 =>
  (q_X0_latestHomesUpTo K h13 n a27 v23 l1 v25).bind fun v31 =>
  v15.bind fun a33 =>
  (stJ h13 n a33 2 (Int32.toInt64 v31)).bind fun h35 =>
  (rdR h35 n l0 7 10).bind fun v37 =>
  (rdR h35 n l0 7 5).bind fun v39 =>
  v39.bind fun a41 =>
  (ldJ h35 n a41 l1).bind fun v43 =>
  v37.bind fun a45 =>
  (stJ h35 n a45 3 v43).bind fun h47 =>
  (rdR h47 n l0 7 10).bind fun v49 =>
  (rdR h47 n l0 7 0).bind fun v51 =>
  v51.bind fun a53 =>
  (rdR h47 n a53 4 2).bind fun v55 =>
  (rdI h47 n l0 7 11).bind fun v57 =>
  v55.bind fun a59 =>
  (ckq h47 n a59 8).bind fun u61 =>
  (q_X9_countLate K h47 n a59 v57 l1).bind fun v63 =>
  v49.bind fun a65 =>
  (stJ h47 n a65 4 (Int32.toInt64 v63)).bind fun h67 =>
  some h67
set_option maxRecDepth 100000 in
set_option maxHeartbeats 4000000 in
theorem c_X7_findWords {K : Nat} {G : mm_G} {l : Launch} {h : mm_H} {n : Nat} (l0 : Nat) (l1 : Int32) {r_ : mm_H} (hn : 48 ≤ n) (hr : q_X7_findWords K h n l0 l1 = some r_) : Sp G l yX7_findWords cX7_findWords 2 none 3 0 0 [.ref l0, .int l1] h n (fun v h' n' => v = none ∧ h' = r_ ∧ n' = n) := by
  refine Sp_of (by decide +kernel) (Nat.le_of_ble_eq_true rfl) hn ?_
  intro W0 hwl C
  subst hwl
  unfold q_X7_findWords at hr
  show WW W0 G 2 0 0 _ 0 [some (.ref l0), some (.int l1)] [] h n 0 0
  refine rr_aload_n (i := 0) C dX7_findWords_0 rfl rfl ?_
  replace hr := Option.bind_eq_some_iff.mp hr
  obtain ⟨v1, e2, hr⟩ := hr
  refine rr_rdR C dX7_findWords_1 fl_X7_43 e2 ?_
  refine rr_iconst (v := 0) C dX7_findWords_4 (by decide) ?_
  refine rr_iload_n (i := 1) C dX7_findWords_5 rfl rfl ?_
  refine rr_i2l C dX7_findWords_6 ?_
  replace hr := Option.bind_eq_some_iff.mp hr
  obtain ⟨a3, e4, hr⟩ := hr
  subst e4
  replace hr := Option.bind_eq_some_iff.mp hr
  obtain ⟨h5, e6, hr⟩ := hr
  refine rr_stJ C dX7_findWords_7 e6 ?_
  refine rr_aload_n (i := 0) C dX7_findWords_8 rfl rfl ?_
  replace hr := Option.bind_eq_some_iff.mp hr
  obtain ⟨v7, e8, hr⟩ := hr
  refine rr_rdR C dX7_findWords_9 fl_X7_43 e8 ?_
  refine rr_iconst (v := 1) C dX7_findWords_12 (by decide) ?_
  refine rr_aload_n (i := 0) C dX7_findWords_13 rfl rfl ?_
  replace hr := Option.bind_eq_some_iff.mp hr
  obtain ⟨v9, e10, hr⟩ := hr
  refine rr_rdI C dX7_findWords_14 fl_X7_59 e10 ?_
  refine rr_i2l C dX7_findWords_17 ?_
  replace hr := Option.bind_eq_some_iff.mp hr
  obtain ⟨a11, e12, hr⟩ := hr
  subst e12
  replace hr := Option.bind_eq_some_iff.mp hr
  obtain ⟨h13, e14, hr⟩ := hr
  refine rr_stJ C dX7_findWords_18 e14 ?_
  refine rr_aload_n (i := 0) C dX7_findWords_19 rfl rfl ?_
  replace hr := Option.bind_eq_some_iff.mp hr
  obtain ⟨v15, e16, hr⟩ := hr
  refine rr_rdR C dX7_findWords_20 fl_X7_43 e16 ?_
  refine rr_iconst (v := 2) C dX7_findWords_23 (by decide) ?_
  refine rr_aload_n (i := 0) C dX7_findWords_24 rfl rfl ?_
  replace hr := Option.bind_eq_some_iff.mp hr
  obtain ⟨v17, e18, hr⟩ := hr
  refine rr_rdR C dX7_findWords_25 fl_X7_46 e18 ?_
  replace hr := Option.bind_eq_some_iff.mp hr
  obtain ⟨a19, e20, hr⟩ := hr
  subst e20
  replace hr := Option.bind_eq_some_iff.mp hr
  obtain ⟨v21, e22, hr⟩ := hr
  refine rr_rdR C dX7_findWords_28 fl_X7_132 e22 ?_
  refine rr_aload_n (i := 0) C dX7_findWords_31 rfl rfl ?_
  replace hr := Option.bind_eq_some_iff.mp hr
  obtain ⟨v23, e24, hr⟩ := hr
  refine rr_rdI C dX7_findWords_32 fl_X7_59 e24 ?_
  refine rr_iload_n (i := 1) C dX7_findWords_35 rfl rfl ?_
  refine rr_iload_n (i := 1) C dX7_findWords_36 rfl rfl ?_
  replace hr := Option.bind_eq_some_iff.mp hr
  obtain ⟨v25, e26, hr⟩ := hr
  refine rr_callS (as := [.int l1]) (st := [.int l1, .int v23, va_rf v21, .int 2, va_rf v15]) (mc' := 0) (ms' := 0) C dX7_findWords_37 it_X7_136 (by decide) (by rcases v15 with _ | _ <;> rcases v21 with _ | _ <;> exact Nat.le_of_ble_eq_true rfl) (c_X7_decidedOn l1 (by omega) e26) (fun v_ h_ n_ q_ => ?_)
  obtain ⟨q1_, q2_, q3_⟩ := q_
  subst v_; subst h_; subst n_
  show WW W0 G 2 _ _ _ 40 [some (.ref l0), some (.int l1)] [.int v25, .int l1, .int v23, va_rf v21, .int 2, va_rf v15] h13 n _ _
  replace hr := Option.bind_eq_some_iff.mp hr
  obtain ⟨a27, e28, hr⟩ := hr
  subst e28
  replace hr := Option.bind_eq_some_iff.mp hr
  obtain ⟨u29, e30, hr⟩ := hr
  replace hr := Option.bind_eq_some_iff.mp hr
  obtain ⟨v31, e32, hr⟩ := hr
  refine rr_callVq (as := [.int v23, .int l1, .int v25]) (st := [.int 2, va_rf v15]) (mc' := 0) (ms' := 0) C dX7_findWords_40 iv_X7_139 (by decide) e30 rfl (by rcases v15 with _ | _ <;> exact Nat.le_of_ble_eq_true rfl) (c_X0_latestHomesUpTo a27 v23 l1 v25 (by omega) e32) (fun v_ h_ n_ q_ => ?_)
  obtain ⟨q1_, q2_, q3_⟩ := q_
  subst v_; subst h_; subst n_
  show WW W0 G 2 _ _ _ 43 [some (.ref l0), some (.int l1)] [.int v31, .int 2, va_rf v15] h13 n _ _
  refine rr_i2l C dX7_findWords_43 ?_
  replace hr := Option.bind_eq_some_iff.mp hr
  obtain ⟨a33, e34, hr⟩ := hr
  subst e34
  replace hr := Option.bind_eq_some_iff.mp hr
  obtain ⟨h35, e36, hr⟩ := hr
  refine rr_stJ C dX7_findWords_44 e36 ?_
  refine rr_aload_n (i := 0) C dX7_findWords_45 rfl rfl ?_
  replace hr := Option.bind_eq_some_iff.mp hr
  obtain ⟨v37, e38, hr⟩ := hr
  refine rr_rdR C dX7_findWords_46 fl_X7_43 e38 ?_
  refine rr_iconst (v := 3) C dX7_findWords_49 (by decide) ?_
  refine rr_aload_n (i := 0) C dX7_findWords_50 rfl rfl ?_
  replace hr := Option.bind_eq_some_iff.mp hr
  obtain ⟨v39, e40, hr⟩ := hr
  refine rr_rdR C dX7_findWords_51 fl_X7_25 e40 ?_
  refine rr_iload_n (i := 1) C dX7_findWords_54 rfl rfl ?_
  replace hr := Option.bind_eq_some_iff.mp hr
  obtain ⟨a41, e42, hr⟩ := hr
  subst e42
  replace hr := Option.bind_eq_some_iff.mp hr
  obtain ⟨v43, e44, hr⟩ := hr
  refine rr_ldJ C dX7_findWords_55 e44 ?_
  replace hr := Option.bind_eq_some_iff.mp hr
  obtain ⟨a45, e46, hr⟩ := hr
  subst e46
  replace hr := Option.bind_eq_some_iff.mp hr
  obtain ⟨h47, e48, hr⟩ := hr
  refine rr_stJ C dX7_findWords_56 e48 ?_
  refine rr_aload_n (i := 0) C dX7_findWords_57 rfl rfl ?_
  replace hr := Option.bind_eq_some_iff.mp hr
  obtain ⟨v49, e50, hr⟩ := hr
  refine rr_rdR C dX7_findWords_58 fl_X7_43 e50 ?_
  refine rr_iconst (v := 4) C dX7_findWords_61 (by decide) ?_
  refine rr_aload_n (i := 0) C dX7_findWords_62 rfl rfl ?_
  replace hr := Option.bind_eq_some_iff.mp hr
  obtain ⟨v51, e52, hr⟩ := hr
  refine rr_rdR C dX7_findWords_63 fl_X7_46 e52 ?_
  replace hr := Option.bind_eq_some_iff.mp hr
  obtain ⟨a53, e54, hr⟩ := hr
  subst e54
  replace hr := Option.bind_eq_some_iff.mp hr
  obtain ⟨v55, e56, hr⟩ := hr
  refine rr_rdR C dX7_findWords_66 fl_X7_86 e56 ?_
  refine rr_aload_n (i := 0) C dX7_findWords_69 rfl rfl ?_
  replace hr := Option.bind_eq_some_iff.mp hr
  obtain ⟨v57, e58, hr⟩ := hr
  refine rr_rdI C dX7_findWords_70 fl_X7_59 e58 ?_
  refine rr_iload_n (i := 1) C dX7_findWords_73 rfl rfl ?_
  replace hr := Option.bind_eq_some_iff.mp hr
  obtain ⟨a59, e60, hr⟩ := hr
  subst e60
  replace hr := Option.bind_eq_some_iff.mp hr
  obtain ⟨u61, e62, hr⟩ := hr
  replace hr := Option.bind_eq_some_iff.mp hr
  obtain ⟨v63, e64, hr⟩ := hr
  refine rr_callVq (as := [.int v57, .int l1]) (st := [.int 4, va_rf v49]) (mc' := 0) (ms' := 0) C dX7_findWords_74 iv_X7_145 (by decide) e62 rfl (by rcases v49 with _ | _ <;> exact Nat.le_of_ble_eq_true rfl) (c_X9_countLate a59 v57 l1 (by omega) e64) (fun v_ h_ n_ q_ => ?_)
  obtain ⟨q1_, q2_, q3_⟩ := q_
  subst v_; subst h_; subst n_
  show WW W0 G 2 _ _ _ 77 [some (.ref l0), some (.int l1)] [.int v63, .int 4, va_rf v49] h47 n _ _
  refine rr_i2l C dX7_findWords_77 ?_
  replace hr := Option.bind_eq_some_iff.mp hr
  obtain ⟨a65, e66, hr⟩ := hr
  subst e66
  replace hr := Option.bind_eq_some_iff.mp hr
  obtain ⟨h67, e68, hr⟩ := hr
  refine rr_stJ C dX7_findWords_78 e68 ?_
  obtain rfl := Option.some.inj hr
  exact rr_vret C dX7_findWords_79 rfl ⟨rfl, rfl, rfl⟩

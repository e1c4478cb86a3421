def q_X10_revenue (K : Nat) (h : mm_H) (n : Nat) (l0 : Nat) (l1 : Int32) (l2 : Int32) (l3 : Int32) : Option (Int64 × mm_H) :=
  (ckq h n l0 9).bind fun u1 =>
  (q_X10_isFirmsYear K h n l0 l1 l2).bind fun v3 =>
  if v3 = 0 then
    some ((-2000000000000), h)
  else
  (q_X10_isDay K h n l3).bind fun v5 =>
  if v5 = 0 then
    some ((-2000000000000), h)
  else
  (ckq h n l0 9).bind fun u7 =>
  (q_X10_openOwn K h n l0 l1 l2 l3).bind fun v9 =>
  (rdR v9 n l0 9 1).bind fun v11 =>
  v11.bind fun a13 =>
  (ckq v9 n a13 7).bind fun u15 =>
  (q_X7_fillLines K v9 n a13 l2 l2).bind fun v17 =>
  (rdR v17 n l0 9 1).bind fun v19 =>
  v19.bind fun a21 =>
  (ckq v17 n a21 7).bind fun u23 =>
  (q_X7_allLines K v17 n a21 l2).bind fun v25 =>
  some (v25, v17)
set_option maxRecDepth 100000 in
set_option maxHeartbeats 4000000 in
theorem c_X10_revenue {K : Nat} {G : mm_G} {l : Launch} {h : mm_H} {n : Nat} (l0 : Nat) (l1 : Int32) (l2 : Int32) (l3 : Int32) {r_ : Int64 × mm_H} (hn : 48 ≤ n) (hr : q_X10_revenue K h n l0 l1 l2 l3 = some r_) : Sp G l yX10_revenue cX10_revenue 4 (some .long) 7 0 0 [.ref l0, .int l1, .int l2, .int l3] h n (fun v h' n' => v = some (.long r_.1) ∧ h' = r_.2 ∧ n' = n) := by
  refine Sp_of (by decide +kernel) (Nat.le_of_ble_eq_true rfl) hn ?_
  intro W0 hwl C
  subst hwl
  unfold q_X10_revenue at hr
  show WW W0 G 4 0 0 _ 0 [some (.ref l0), some (.int l1), some (.int l2), some (.int l3)] [] h n 0 0
  refine rr_aload_n (i := 0) C dX10_revenue_0 rfl rfl ?_
  refine rr_iload_n (i := 1) C dX10_revenue_1 rfl rfl ?_
  refine rr_iload_n (i := 2) C dX10_revenue_2 rfl rfl ?_
  replace hr := Option.bind_eq_some_iff.mp hr
  obtain ⟨u1, e2, hr⟩ := hr
  replace hr := Option.bind_eq_some_iff.mp hr
  obtain ⟨v3, e4, hr⟩ := hr
  refine rr_callVq (as := [.int l1, .int l2]) (st := []) (mc' := 0) (ms' := 0) C dX10_revenue_3 iv_X10_68 (by decide) e2 rfl (Nat.le_of_ble_eq_true rfl) (c_X10_isFirmsYear l0 l1 l2 (by omega) e4) (fun v_ h_ n_ q_ => ?_)
  obtain ⟨q1_, q2_, q3_⟩ := q_
  subst v_; subst h_; subst n_
  show WW W0 G 4 _ _ _ 6 [some (.ref l0), some (.int l1), some (.int l2), some (.int l3)] [.int v3] h n _ _
  refine rr_if_eq (tgt := 16) C dX10_revenue_6 (by decide) (fun c6_ => ?_) (fun c6_ => ?_)
  · replace hr := (if_pos c6_).symm.trans hr
    refine rr_ldc2 C dX10_revenue_16 ct_X10_205 ?_
    obtain rfl := Option.some.inj hr
    exact rr_lret C dX10_revenue_19 rfl ⟨rfl, rfl, rfl⟩
  · replace hr := (if_neg c6_).symm.trans hr
    refine rr_iload_n (i := 3) C dX10_revenue_9 rfl rfl ?_
    replace hr := Option.bind_eq_some_iff.mp hr
    obtain ⟨v5, e6, hr⟩ := hr
    refine rr_callS (as := [.int l3]) (st := []) (mc' := 0) (ms' := 0) C dX10_revenue_10 it_X10_85 (by decide) (Nat.le_of_ble_eq_true rfl) (c_X10_isDay l3 (by omega) e6) (fun v_ h_ n_ q_ => ?_)
    obtain ⟨q1_, q2_, q3_⟩ := q_
    subst v_; subst h_; subst n_
    show WW W0 G 4 _ _ _ 13 [some (.ref l0), some (.int l1), some (.int l2), some (.int l3)] [.int v5] h n _ _
    refine rr_if_ne (tgt := 20) C dX10_revenue_13 (by decide) (fun c13_ => ?_) (fun c13_ => ?_)
    · replace hr := (if_neg c13_).symm.trans hr
      refine rr_aload_n (i := 0) C dX10_revenue_20 rfl rfl ?_
      refine rr_iload_n (i := 1) C dX10_revenue_21 rfl rfl ?_
      refine rr_iload_n (i := 2) C dX10_revenue_22 rfl rfl ?_
      refine rr_iload_n (i := 3) C dX10_revenue_23 rfl rfl ?_
      replace hr := Option.bind_eq_some_iff.mp hr
      obtain ⟨u7, e8, hr⟩ := hr
      replace hr := Option.bind_eq_some_iff.mp hr
      obtain ⟨v9, e10, hr⟩ := hr
      refine rr_callVq (as := [.int l1, .int l2, .int l3]) (st := []) (mc' := 0) (ms' := 0) C dX10_revenue_24 iv_X10_170 (by decide) e8 rfl (Nat.le_of_ble_eq_true rfl) (c_X10_openOwn l0 l1 l2 l3 (by omega) e10) (fun v_ h_ n_ q_ => ?_)
      obtain ⟨q1_, q2_, q3_⟩ := q_
      subst v_; subst h_; subst n_
      show WW W0 G 4 _ _ _ 27 [some (.ref l0), some (.int l1), some (.int l2), some (.int l3)] [] v9 n _ _
      refine rr_aload_n (i := 0) C dX10_revenue_27 rfl rfl ?_
      replace hr := Option.bind_eq_some_iff.mp hr
      obtain ⟨v11, e12, hr⟩ := hr
      refine rr_rdR C dX10_revenue_28 fl_X10_21 e12 ?_
      refine rr_iload_n (i := 2) C dX10_revenue_31 rfl rfl ?_
      refine rr_iload_n (i := 2) C dX10_revenue_32 rfl rfl ?_
      replace hr := Option.bind_eq_some_iff.mp hr
      obtain ⟨a13, e14, hr⟩ := hr
      subst e14
      replace hr := Option.bind_eq_some_iff.mp hr
      obtain ⟨u15, e16, hr⟩ := hr
      replace hr := Option.bind_eq_some_iff.mp hr
      obtain ⟨v17, e18, hr⟩ := hr
      refine rr_callVq (as := [.int l2, .int l2]) (st := []) (mc' := 0) (ms' := 0) C dX10_revenue_33 iv_X10_211 (by decide) e16 rfl (Nat.le_of_ble_eq_true rfl) (c_X7_fillLines a13 l2 l2 (by omega) e18) (fun v_ h_ n_ q_ => ?_)
      obtain ⟨q1_, q2_, q3_⟩ := q_
      subst v_; subst h_; subst n_
      show WW W0 G 4 _ _ _ 36 [some (.ref l0), some (.int l1), some (.int l2), some (.int l3)] [] v17 n _ _
      refine rr_aload_n (i := 0) C dX10_revenue_36 rfl rfl ?_
      replace hr := Option.bind_eq_some_iff.mp hr
      obtain ⟨v19, e20, hr⟩ := hr
      refine rr_rdR C dX10_revenue_37 fl_X10_21 e20 ?_
      refine rr_iload_n (i := 2) C dX10_revenue_40 rfl rfl ?_
      replace hr := Option.bind_eq_some_iff.mp hr
      obtain ⟨a21, e22, hr⟩ := hr
      subst e22
      replace hr := Option.bind_eq_some_iff.mp hr
      obtain ⟨u23, e24, hr⟩ := hr
      replace hr := Option.bind_eq_some_iff.mp hr
      obtain ⟨v25, e26, hr⟩ := hr
      refine rr_callVq (as := [.int l2]) (st := []) (mc' := 0) (ms' := 0) C dX10_revenue_41 iv_X10_218 (by decide) e24 rfl (Nat.le_of_ble_eq_true rfl) (c_X7_allLines a21 l2 (by omega) e26) (fun v_ h_ n_ q_ => ?_)
      obtain ⟨q1_, q2_, q3_⟩ := q_
      subst v_; subst h_; subst n_
      show WW W0 G 4 _ _ _ 44 [some (.ref l0), some (.int l1), some (.int l2), some (.int l3)] [.long v25] v17 n _ _
      obtain rfl := Option.some.inj hr
      exact rr_lret C dX10_revenue_44 rfl ⟨rfl, rfl, rfl⟩
    · replace hr := (if_pos c13_).symm.trans hr
      refine rr_ldc2 C dX10_revenue_16 ct_X10_205 ?_
      obtain rfl := Option.some.inj hr
      exact rr_lret C dX10_revenue_19 rfl ⟨rfl, rfl, rfl⟩
def q_X10_bills (K : Nat) (h : mm_H) (n : Nat) (l0 : Nat) (l1 : Int32) (l2 : Int32) (l3 : Int32) (l4 : Int32) : Option (Int64 × mm_H) :=
  (ckq h n l0 9).bind fun u1 =>
  (q_X10_isFirmsYear K h n l0 l1 l2).bind fun v3 =>
  if v3 = 0 then
    some ((-2000000000000), h)
  else
  (q_X10_isDay K h n l3).bind fun v5 =>
  if v5 = 0 then
    some ((-2000000000000), h)
  else
  (q_X10_isWithin K h n l4 0 1).bind fun v7 =>
  if v7 = 0 then
    some ((-2000000000000), h)
  else
  (ckq h n l0 9).bind fun u9 =>
  (q_X10_openOwn K h n l0 l1 l2 l3).bind fun v11 =>
  (rdR v11 n l0 9 1).bind fun v13 =>
  v13.bind fun a15 =>
  (ckq v11 n a15 7).bind fun u17 =>
  (q_X7_fillBills K v11 n a15 l2).bind fun v19 =>
  if l4 = 0 then
    (rdR v19 n l0 9 1).bind fun v21 =>
    v21.bind fun a23 =>
    (ckq v19 n a23 7).bind fun u25 =>
    (q_X7_billsAt K v19 n a23 l2).bind fun v27 =>
    some (v27, v19)
  else
  (rdR v19 n l0 9 1).bind fun v29 =>
  v29.bind fun a31 =>
  (ckq v19 n a31 7).bind fun u33 =>
  (q_X7_carriedAt K v19 n a31 l2).bind fun v35 =>
  some (v35, v19)
set_option maxRecDepth 100000 in
set_option maxHeartbeats 4000000 in
theorem c_X10_bills {K : Nat} {G : mm_G} {l : Launch} {h : mm_H} {n : Nat} (l0 : Nat) (l1 : Int32) (l2 : Int32) (l3 : Int32) (l4 : Int32) {r_ : Int64 × mm_H} (hn : 48 ≤ n) (hr : q_X10_bills K h n l0 l1 l2 l3 l4 = some r_) : Sp G l yX10_bills cX10_bills 5 (some .long) 7 0 0 [.ref l0, .int l1, .int l2, .int l3, .int l4] h n (fun v h' n' => v = some (.long r_.1) ∧ h' = r_.2 ∧ n' = n) := by
  refine Sp_of (by decide +kernel) (Nat.le_of_ble_eq_true rfl) hn ?_
  intro W0 hwl C
  subst hwl
  unfold q_X10_bills at hr
  show WW W0 G 5 0 0 _ 0 [some (.ref l0), some (.int l1), some (.int l2), some (.int l3), some (.int l4)] [] h n 0 0
  refine rr_aload_n (i := 0) C dX10_bills_0 rfl rfl ?_
  refine rr_iload_n (i := 1) C dX10_bills_1 rfl rfl ?_
  refine rr_iload_n (i := 2) C dX10_bills_2 rfl rfl ?_
  replace hr := Option.bind_eq_some_iff.mp hr
  obtain ⟨u1, e2, hr⟩ := hr
  replace hr := Option.bind_eq_some_iff.mp hr
  obtain ⟨v3, e4, hr⟩ := hr
  refine rr_callVq (as := [.int l1, .int l2]) (st := []) (mc' := 0) (ms' := 0) C dX10_bills_3 iv_X10_68 (by decide) e2 rfl (Nat.le_of_ble_eq_true rfl) (c_X10_isFirmsYear l0 l1 l2 (by omega) e4) (fun v_ h_ n_ q_ => ?_)
  obtain ⟨q1_, q2_, q3_⟩ := q_
  subst v_; subst h_; subst n_
  show WW W0 G 5 _ _ _ 6 [some (.ref l0), some (.int l1), some (.int l2), some (.int l3), some (.int l4)] [.int v3] h n _ _
  refine rr_if_eq (tgt := 26) C dX10_bills_6 (by decide) (fun c6_ => ?_) (fun c6_ => ?_)
  · replace hr := (if_pos c6_).symm.trans hr
    refine rr_ldc2 C dX10_bills_26 ct_X10_205 ?_
    obtain rfl := Option.some.inj hr
    exact rr_lret C dX10_bills_29 rfl ⟨rfl, rfl, rfl⟩
  · replace hr := (if_neg c6_).symm.trans hr
    refine rr_iload_n (i := 3) C dX10_bills_9 rfl rfl ?_
    replace hr := Option.bind_eq_some_iff.mp hr
    obtain ⟨v5, e6, hr⟩ := hr
    refine rr_callS (as := [.int l3]) (st := []) (mc' := 0) (ms' := 0) C dX10_bills_10 it_X10_85 (by decide) (Nat.le_of_ble_eq_true rfl) (c_X10_isDay l3 (by omega) e6) (fun v_ h_ n_ q_ => ?_)
    obtain ⟨q1_, q2_, q3_⟩ := q_
    subst v_; subst h_; subst n_
    show WW W0 G 5 _ _ _ 13 [some (.ref l0), some (.int l1), some (.int l2), some (.int l3), some (.int l4)] [.int v5] h n _ _
    refine rr_if_eq (tgt := 26) C dX10_bills_13 (by decide) (fun c13_ => ?_) (fun c13_ => ?_)
    · replace hr := (if_pos c13_).symm.trans hr
      refine rr_ldc2 C dX10_bills_26 ct_X10_205 ?_
      obtain rfl := Option.some.inj hr
      exact rr_lret C dX10_bills_29 rfl ⟨rfl, rfl, rfl⟩
    · replace hr := (if_neg c13_).symm.trans hr
      refine rr_iload C dX10_bills_16 rfl ?_
      refine rr_iconst (v := 0) C dX10_bills_18 (by decide) ?_
      refine rr_iconst (v := 1) C dX10_bills_19 (by decide) ?_
      replace hr := Option.bind_eq_some_iff.mp hr
      obtain ⟨v7, e8, hr⟩ := hr
      refine rr_callS (as := [.int l4, .int 0, .int 1]) (st := []) (mc' := 0) (ms' := 0) C dX10_bills_20 it_X10_60 (by decide) (Nat.le_of_ble_eq_true rfl) (c_X10_isWithin l4 0 1 (by omega) e8) (fun v_ h_ n_ q_ => ?_)
      obtain ⟨q1_, q2_, q3_⟩ := q_
      subst v_; subst h_; subst n_
      show WW W0 G 5 _ _ _ 23 [some (.ref l0), some (.int l1), some (.int l2), some (.int l3), some (.int l4)] [.int v7] h n _ _
      refine rr_if_ne (tgt := 30) C dX10_bills_23 (by decide) (fun c23_ => ?_) (fun c23_ => ?_)
      · replace hr := (if_neg c23_).symm.trans hr
        refine rr_aload_n (i := 0) C dX10_bills_30 rfl rfl ?_
        refine rr_iload_n (i := 1) C dX10_bills_31 rfl rfl ?_
        refine rr_iload_n (i := 2) C dX10_bills_32 rfl rfl ?_
        refine rr_iload_n (i := 3) C dX10_bills_33 rfl rfl ?_
        replace hr := Option.bind_eq_some_iff.mp hr
        obtain ⟨u9, e10, hr⟩ := hr
        replace hr := Option.bind_eq_some_iff.mp hr
        obtain ⟨v11, e12, hr⟩ := hr
        refine rr_callVq (as := [.int l1, .int l2, .int l3]) (st := []) (mc' := 0) (ms' := 0) C dX10_bills_34 iv_X10_170 (by decide) e10 rfl (Nat.le_of_ble_eq_true rfl) (c_X10_openOwn l0 l1 l2 l3 (by omega) e12) (fun v_ h_ n_ q_ => ?_)
        obtain ⟨q1_, q2_, q3_⟩ := q_
        subst v_; subst h_; subst n_
        show WW W0 G 5 _ _ _ 37 [some (.ref l0), some (.int l1), some (.int l2), some (.int l3), some (.int l4)] [] v11 n _ _
        refine rr_aload_n (i := 0) C dX10_bills_37 rfl rfl ?_
        replace hr := Option.bind_eq_some_iff.mp hr
        obtain ⟨v13, e14, hr⟩ := hr
        refine rr_rdR C dX10_bills_38 fl_X10_21 e14 ?_
        refine rr_iload_n (i := 2) C dX10_bills_41 rfl rfl ?_
        replace hr := Option.bind_eq_some_iff.mp hr
        obtain ⟨a15, e16, hr⟩ := hr
        subst e16
        replace hr := Option.bind_eq_some_iff.mp hr
        obtain ⟨u17, e18, hr⟩ := hr
        replace hr := Option.bind_eq_some_iff.mp hr
        obtain ⟨v19, e20, hr⟩ := hr
        refine rr_callVq (as := [.int l2]) (st := []) (mc' := 0) (ms' := 0) C dX10_bills_42 iv_X10_221 (by decide) e18 rfl (Nat.le_of_ble_eq_true rfl) (c_X7_fillBills a15 l2 (by omega) e20) (fun v_ h_ n_ q_ => ?_)
        obtain ⟨q1_, q2_, q3_⟩ := q_
        subst v_; subst h_; subst n_
        show WW W0 G 5 _ _ _ 45 [some (.ref l0), some (.int l1), some (.int l2), some (.int l3), some (.int l4)] [] v19 n _ _
        refine rr_iload C dX10_bills_45 rfl ?_
        refine rr_if_ne (tgt := 61) C dX10_bills_47 (by decide) (fun c47_ => ?_) (fun c47_ => ?_)
        · replace hr := (if_neg c47_).symm.trans hr
          refine rr_aload_n (i := 0) C dX10_bills_61 rfl rfl ?_
          replace hr := Option.bind_eq_some_iff.mp hr
          obtain ⟨v29, e30, hr⟩ := hr
          refine rr_rdR C dX10_bills_62 fl_X10_21 e30 ?_
          refine rr_iload_n (i := 2) C dX10_bills_65 rfl rfl ?_
          replace hr := Option.bind_eq_some_iff.mp hr
          obtain ⟨a31, e32, hr⟩ := hr
          subst e32
          replace hr := Option.bind_eq_some_iff.mp hr
          obtain ⟨u33, e34, hr⟩ := hr
          replace hr := Option.bind_eq_some_iff.mp hr
          obtain ⟨v35, e36, hr⟩ := hr
          refine rr_callVq (as := [.int l2]) (st := []) (mc' := 0) (ms' := 0) C dX10_bills_66 iv_X10_227 (by decide) e34 rfl (Nat.le_of_ble_eq_true rfl) (c_X7_carriedAt a31 l2 (by omega) e36) (fun v_ h_ n_ q_ => ?_)
          obtain ⟨q1_, q2_, q3_⟩ := q_
          subst v_; subst h_; subst n_
          show WW W0 G 5 _ _ _ 69 [some (.ref l0), some (.int l1), some (.int l2), some (.int l3), some (.int l4)] [.long v35] v19 n _ _
          obtain rfl := Option.some.inj hr
          exact rr_lret C dX10_bills_69 rfl ⟨rfl, rfl, rfl⟩
        · replace hr := (if_pos c47_).symm.trans hr
          refine rr_aload_n (i := 0) C dX10_bills_50 rfl rfl ?_
          replace hr := Option.bind_eq_some_iff.mp hr
          obtain ⟨v21, e22, hr⟩ := hr
          refine rr_rdR C dX10_bills_51 fl_X10_21 e22 ?_
          refine rr_iload_n (i := 2) C dX10_bills_54 rfl rfl ?_
          replace hr := Option.bind_eq_some_iff.mp hr
          obtain ⟨a23, e24, hr⟩ := hr
          subst e24
          replace hr := Option.bind_eq_some_iff.mp hr
          obtain ⟨u25, e26, hr⟩ := hr
          replace hr := Option.bind_eq_some_iff.mp hr
          obtain ⟨v27, e28, hr⟩ := hr
          refine rr_callVq (as := [.int l2]) (st := []) (mc' := 0) (ms' := 0) C dX10_bills_55 iv_X10_224 (by decide) e26 rfl (Nat.le_of_ble_eq_true rfl) (c_X7_billsAt a23 l2 (by omega) e28) (fun v_ h_ n_ q_ => ?_)
          obtain ⟨q1_, q2_, q3_⟩ := q_
          subst v_; subst h_; subst n_
          show WW W0 G 5 _ _ _ 58 [some (.ref l0), some (.int l1), some (.int l2), some (.int l3), some (.int l4)] [.long v27] v19 n _ _
          refine rr_goto (tgt := 69) C dX10_bills_58 (by decide) ?_
          obtain rfl := Option.some.inj hr
          exact rr_lret C dX10_bills_69 rfl ⟨rfl, rfl, rfl⟩
      · replace hr := (if_pos c23_).symm.trans hr
        refine rr_ldc2 C dX10_bills_26 ct_X10_205 ?_
        obtain rfl := Option.some.inj hr
        exact rr_lret C dX10_bills_29 rfl ⟨rfl, rfl, rfl⟩
def lp_X10_home_83 (K : Nat) (h : mm_H) (n : Nat) (l0 : Nat) (l1 : Int32) (l2 : Int32) (l3 : Int32) (l5 : Int64) : Nat → Int64 → Int32 → Option (Int64)
  | 0, _, _ => none
  | k_ + 1, l7, l9 =>
    if 3 ≤ l9 then
      some (l7)
    else
    (rdR h n l0 9 0).bind fun v29 =>
    v29.bind fun a31 =>
    (ckq h n a31 4).bind fun u33 =>
    (q_X4_partOf K h n a31 l5 l9 l1 l2 l3).bind fun v35 =>
    (rdR h n l0 9 0).bind fun v37 =>
    v37.bind fun a39 =>
    (ckq h n a39 4).bind fun u41 =>
    (q_X4_homesOf K h n a39 l9 l1 l2 l3).bind fun v43 =>
    lp_X10_home_83 K h n l0 l1 l2 l3 l5 k_ (l7 - (v35 * (Int32.toInt64 v43))) (l9 + 1)
def q_X10_home (K : Nat) (h : mm_H) (n : Nat) (l0 : Nat) (l1 : Int32) (l2 : Int32) (l3 : Int32) (l4 : Int32) : Option (Int64 × mm_H) :=
  (ckq h n l0 9).bind fun u1 =>
  (q_X10_isFirmsYear K h n l0 l1 l2).bind fun v3 =>
  if v3 = 0 then
    some ((-2000000000000), h)
  else
  (q_X10_isDay K h n l3).bind fun v5 =>
  if v5 = 0 then
    some ((-2000000000000), h)
  else
  (q_X10_isWithin K h n l4 0 3).bind fun v7 =>
  if v7 = 0 then
    some ((-2000000000000), h)
  else
  (ckq h n l0 9).bind fun u9 =>
  (q_X10_openOwn K h n l0 l1 l2 l3).bind fun v11 =>
  (rdR v11 n l0 9 1).bind fun v13 =>
  v13.bind fun a15 =>
  (ckq v11 n a15 7).bind fun u17 =>
  (q_X7_fillBills K v11 n a15 l2).bind fun v19 =>
  (rdR v19 n l0 9 1).bind fun v21 =>
  v21.bind fun a23 =>
  (ckq v19 n a23 7).bind fun u25 =>
  (q_X7_billsAt K v19 n a23 l2).bind fun v27 =>
  if 3 ≤ l4 then
    (lp_X10_home_83 K v19 n l0 l1 l2 l3 v27 K v27 0).bind fun v46 =>
    some (v46, v19)
  else
  (rdR v19 n l0 9 0).bind fun v48 =>
  v48.bind fun a50 =>
  (ckq v19 n a50 4).bind fun u52 =>
  (q_X4_partOf K v19 n a50 v27 l4 l1 l2 l3).bind fun v54 =>
  some (v54, v19)
set_option maxRecDepth 100000 in
set_option maxHeartbeats 4000000 in
theorem w_X10_home_83 {K : Nat} {W0 : mm_X} {G : mm_G} {mc ms kc ks : Nat} {Q_ : State → Prop} {h : mm_H} {n : Nat} (C : mm_C W0 G cX10_home yX10_home.cls 12 mc ms (some .long) 7 yX10_home.name) (hn : 48 ≤ n) (l0 : Nat) (l1 : Int32) (l2 : Int32) (l3 : Int32) (l5 : Int64) : ∀ (k_ : Nat) (l7 : Int64) (l9 : Int32) {r_ : Int64} (hr : lp_X10_home_83 K h n l0 l1 l2 l3 l5 k_ l7 l9 = some r_) (hx0 : WW W0 G 12 mc ms Q_ 132 [none, none, none, none, none, none, none, some (.long r_), none, none, none, none] [] h n kc ks), WW W0 G 12 mc ms Q_ 83 [some (.ref l0), some (.int l1), some (.int l2), some (.int l3), none, some (.long l5), none, some (.long l7), none, some (.int l9), none, none] [] h n kc ks := by
  intro k_
  induction k_ with
  | zero =>
    intro l7 l9 r_ hr
    cases hr
  | succ k_ ih_ =>
    intro l7 l9 r_ hr hx0
    unfold lp_X10_home_83 at hr
    refine rr_iload C dX10_home_83 rfl ?_
    refine rr_iconst (v := 3) C dX10_home_85 (by decide) ?_
    refine rr_icmp_ge (tgt := 132) C dX10_home_86 (by decide) (fun c86_ => ?_) (fun c86_ => ?_)
    · replace hr := (if_pos c86_).symm.trans hr
      obtain rfl := Option.some.inj hr
      exact rr_keep [false, false, false, false, false, false, false, true, false, false, false, false] (hx0)
    · replace hr := (if_neg c86_).symm.trans hr
      refine rr_aload_n (i := 0) C dX10_home_89 rfl rfl ?_
      replace hr := Option.bind_eq_some_iff.mp hr
      obtain ⟨v29, e30, hr⟩ := hr
      refine rr_rdR C dX10_home_90 fl_X10_12 e30 ?_
      refine rr_lload C dX10_home_93 rfl ?_
      refine rr_iload C dX10_home_95 rfl ?_
      refine rr_iload_n (i := 1) C dX10_home_97 rfl rfl ?_
      refine rr_iload_n (i := 2) C dX10_home_98 rfl rfl ?_
      refine rr_iload_n (i := 3) C dX10_home_99 rfl rfl ?_
      replace hr := Option.bind_eq_some_iff.mp hr
      obtain ⟨a31, e32, hr⟩ := hr
      subst e32
      replace hr := Option.bind_eq_some_iff.mp hr
      obtain ⟨u33, e34, hr⟩ := hr
      replace hr := Option.bind_eq_some_iff.mp hr
      obtain ⟨v35, e36, hr⟩ := hr
      refine rr_callVq (as := [.long l5, .int l9, .int l1, .int l2, .int l3]) (st := []) (mc' := 0) (ms' := 0) C dX10_home_100 iv_X10_230 (by decide) e34 rfl (Nat.le_of_ble_eq_true rfl) (c_X4_partOf a31 l5 l9 l1 l2 l3 (by omega) e36) (fun v_ h_ n_ q_ => ?_)
      obtain ⟨q1_, q2_, q3_⟩ := q_
      subst v_; subst h_; subst n_
      show WW W0 G 12 _ _ _ 103 [some (.ref l0), some (.int l1), some (.int l2), some (.int l3), none, some (.long l5), none, some (.long l7), none, some (.int l9), none, none] [.long v35] h n _ _
      refine rr_lstore C dX10_home_103 (by decide) ?_
      show WW W0 G 12 _ _ _ 105 [some (.ref l0), some (.int l1), some (.int l2), some (.int l3), none, some (.long l5), none, some (.long l7), none, some (.int l9), some (.long v35), none] [] h n _ _
      refine rr_lload C dX10_home_105 rfl ?_
      refine rr_lload C dX10_home_107 rfl ?_
      refine rr_aload_n (i := 0) C dX10_home_109 rfl rfl ?_
      replace hr := Option.bind_eq_some_iff.mp hr
      obtain ⟨v37, e38, hr⟩ := hr
      refine rr_rdR C dX10_home_110 fl_X10_12 e38 ?_
      refine rr_iload C dX10_home_113 rfl ?_
      refine rr_iload_n (i := 1) C dX10_home_115 rfl rfl ?_
      refine rr_iload_n (i := 2) C dX10_home_116 rfl rfl ?_
      refine rr_iload_n (i := 3) C dX10_home_117 rfl rfl ?_
      replace hr := Option.bind_eq_some_iff.mp hr
      obtain ⟨a39, e40, hr⟩ := hr
      subst e40
      replace hr := Option.bind_eq_some_iff.mp hr
      obtain ⟨u41, e42, hr⟩ := hr
      replace hr := Option.bind_eq_some_iff.mp hr
      obtain ⟨v43, e44, hr⟩ := hr
      refine rr_callVq (as := [.int l9, .int l1, .int l2, .int l3]) (st := [.long v35, .long l7]) (mc' := 0) (ms' := 0) C dX10_home_118 iv_X10_234 (by decide) e42 rfl (Nat.le_of_ble_eq_true rfl) (c_X4_homesOf a39 l9 l1 l2 l3 (by omega) e44) (fun v_ h_ n_ q_ => ?_)
      obtain ⟨q1_, q2_, q3_⟩ := q_
      subst v_; subst h_; subst n_
      show WW W0 G 12 _ _ _ 121 [some (.ref l0), some (.int l1), some (.int l2), some (.int l3), none, some (.long l5), none, some (.long l7), none, some (.int l9), some (.long v35), none] [.int v43, .long v35, .long l7] h n _ _
      refine rr_i2l C dX10_home_121 ?_
      refine rr_lmul C dX10_home_122 ?_
      refine rr_lsub C dX10_home_123 ?_
      refine rr_lstore C dX10_home_124 (by decide) ?_
      show WW W0 G 12 _ _ _ 126 [some (.ref l0), some (.int l1), some (.int l2), some (.int l3), none, some (.long l5), none, some (.long (l7 - (v35 * (Int32.toInt64 v43)))), none, some (.int l9), some (.long v35), none] [] h n _ _
      refine rr_iinc (v := l9 + 1) C dX10_home_126 rfl rfl ?_
      show WW W0 G 12 _ _ _ 129 [some (.ref l0), some (.int l1), some (.int l2), some (.int l3), none, some (.long l5), none, some (.long (l7 - (v35 * (Int32.toInt64 v43)))), none, some (.int (l9 + 1)), some (.long v35), none] [] h n _ _
      refine rr_goto (tgt := 83) C dX10_home_129 (by decide) ?_
      exact rr_keep [true, true, true, true, false, true, false, true, false, true, false, false] (ih_ _ _ hr hx0)
set_option maxRecDepth 100000 in
set_option maxHeartbeats 4000000 in
theorem c_X10_home {K : Nat} {G : mm_G} {l : Launch} {h : mm_H} {n : Nat} (l0 : Nat) (l1 : Int32) (l2 : Int32) (l3 : Int32) (l4 : Int32) {r_ : Int64 × mm_H} (hn : 48 ≤ n) (hr : q_X10_home K h n l0 l1 l2 l3 l4 = some r_) : Sp G l yX10_home cX10_home 12 (some .long) 7 0 0 [.ref l0, .int l1, .int l2, .int l3, .int l4] h n (fun v h' n' => v = some (.long r_.1) ∧ h' = r_.2 ∧ n' = n) := by
  refine Sp_of (by decide +kernel) (Nat.le_of_ble_eq_true rfl) hn ?_
  intro W0 hwl C
  subst hwl
  unfold q_X10_home at hr
  show WW W0 G 12 0 0 _ 0 [some (.ref l0), some (.int l1), some (.int l2), some (.int l3), some (.int l4), none, none, none, none, none, none, none] [] h n 0 0
  refine rr_aload_n (i := 0) C dX10_home_0 rfl rfl ?_
  refine rr_iload_n (i := 1) C dX10_home_1 rfl rfl ?_
  refine rr_iload_n (i := 2) C dX10_home_2 rfl rfl ?_
  replace hr := Option.bind_eq_some_iff.mp hr
  obtain ⟨u1, e2, hr⟩ := hr
  replace hr := Option.bind_eq_some_iff.mp hr
  obtain ⟨v3, e4, hr⟩ := hr
  refine rr_callVq (as := [.int l1, .int l2]) (st := []) (mc' := 0) (ms' := 0) C dX10_home_3 iv_X10_68 (by decide) e2 rfl (Nat.le_of_ble_eq_true rfl) (c_X10_isFirmsYear l0 l1 l2 (by omega) e4) (fun v_ h_ n_ q_ => ?_)
  obtain ⟨q1_, q2_, q3_⟩ := q_
  subst v_; subst h_; subst n_
  show WW W0 G 12 _ _ _ 6 [some (.ref l0), some (.int l1), some (.int l2), some (.int l3), some (.int l4), none, none, none, none, none, none, none] [.int v3] h n _ _
  refine rr_if_eq (tgt := 26) C dX10_home_6 (by decide) (fun c6_ => ?_) (fun c6_ => ?_)
  · replace hr := (if_pos c6_).symm.trans hr
    refine rr_ldc2 C dX10_home_26 ct_X10_205 ?_
    obtain rfl := Option.some.inj hr
    exact rr_lret C dX10_home_29 rfl ⟨rfl, rfl, rfl⟩
  · replace hr := (if_neg c6_).symm.trans hr
    refine rr_iload_n (i := 3) C dX10_home_9 rfl rfl ?_
    replace hr := Option.bind_eq_some_iff.mp hr
    obtain ⟨v5, e6, hr⟩ := hr
    refine rr_callS (as := [.int l3]) (st := []) (mc' := 0) (ms' := 0) C dX10_home_10 it_X10_85 (by decide) (Nat.le_of_ble_eq_true rfl) (c_X10_isDay l3 (by omega) e6) (fun v_ h_ n_ q_ => ?_)
    obtain ⟨q1_, q2_, q3_⟩ := q_
    subst v_; subst h_; subst n_
    show WW W0 G 12 _ _ _ 13 [some (.ref l0), some (.int l1), some (.int l2), some (.int l3), some (.int l4), none, none, none, none, none, none, none] [.int v5] h n _ _
    refine rr_if_eq (tgt := 26) C dX10_home_13 (by decide) (fun c13_ => ?_) (fun c13_ => ?_)
    · replace hr := (if_pos c13_).symm.trans hr
      refine rr_ldc2 C dX10_home_26 ct_X10_205 ?_
      obtain rfl := Option.some.inj hr
      exact rr_lret C dX10_home_29 rfl ⟨rfl, rfl, rfl⟩
    · replace hr := (if_neg c13_).symm.trans hr
      refine rr_iload C dX10_home_16 rfl ?_
      refine rr_iconst (v := 0) C dX10_home_18 (by decide) ?_
      refine rr_iconst (v := 3) C dX10_home_19 (by decide) ?_
      replace hr := Option.bind_eq_some_iff.mp hr
      obtain ⟨v7, e8, hr⟩ := hr
      refine rr_callS (as := [.int l4, .int 0, .int 3]) (st := []) (mc' := 0) (ms' := 0) C dX10_home_20 it_X10_60 (by decide) (Nat.le_of_ble_eq_true rfl) (c_X10_isWithin l4 0 3 (by omega) e8) (fun v_ h_ n_ q_ => ?_)
      obtain ⟨q1_, q2_, q3_⟩ := q_
      subst v_; subst h_; subst n_
      show WW W0 G 12 _ _ _ 23 [some (.ref l0), some (.int l1), some (.int l2), some (.int l3), some (.int l4), none, none, none, none, none, none, none] [.int v7] h n _ _
      refine rr_if_ne (tgt := 30) C dX10_home_23 (by decide) (fun c23_ => ?_) (fun c23_ => ?_)
      · replace hr := (if_neg c23_).symm.trans hr
        refine rr_aload_n (i := 0) C dX10_home_30 rfl rfl ?_
        refine rr_iload_n (i := 1) C dX10_home_31 rfl rfl ?_
        refine rr_iload_n (i := 2) C dX10_home_32 rfl rfl ?_
        refine rr_iload_n (i := 3) C dX10_home_33 rfl rfl ?_
        replace hr := Option.bind_eq_some_iff.mp hr
        obtain ⟨u9, e10, hr⟩ := hr
        replace hr := Option.bind_eq_some_iff.mp hr
        obtain ⟨v11, e12, hr⟩ := hr
        refine rr_callVq (as := [.int l1, .int l2, .int l3]) (st := []) (mc' := 0) (ms' := 0) C dX10_home_34 iv_X10_170 (by decide) e10 rfl (Nat.le_of_ble_eq_true rfl) (c_X10_openOwn l0 l1 l2 l3 (by omega) e12) (fun v_ h_ n_ q_ => ?_)
        obtain ⟨q1_, q2_, q3_⟩ := q_
        subst v_; subst h_; subst n_
        show WW W0 G 12 _ _ _ 37 [some (.ref l0), some (.int l1), some (.int l2), some (.int l3), some (.int l4), none, none, none, none, none, none, none] [] v11 n _ _
        refine rr_aload_n (i := 0) C dX10_home_37 rfl rfl ?_
        replace hr := Option.bind_eq_some_iff.mp hr
        obtain ⟨v13, e14, hr⟩ := hr
        refine rr_rdR C dX10_home_38 fl_X10_21 e14 ?_
        refine rr_iload_n (i := 2) C dX10_home_41 rfl rfl ?_
        replace hr := Option.bind_eq_some_iff.mp hr
        obtain ⟨a15, e16, hr⟩ := hr
        subst e16
        replace hr := Option.bind_eq_some_iff.mp hr
        obtain ⟨u17, e18, hr⟩ := hr
        replace hr := Option.bind_eq_some_iff.mp hr
        obtain ⟨v19, e20, hr⟩ := hr
        refine rr_callVq (as := [.int l2]) (st := []) (mc' := 0) (ms' := 0) C dX10_home_42 iv_X10_221 (by decide) e18 rfl (Nat.le_of_ble_eq_true rfl) (c_X7_fillBills a15 l2 (by omega) e20) (fun v_ h_ n_ q_ => ?_)
        obtain ⟨q1_, q2_, q3_⟩ := q_
        subst v_; subst h_; subst n_
        show WW W0 G 12 _ _ _ 45 [some (.ref l0), some (.int l1), some (.int l2), some (.int l3), some (.int l4), none, none, none, none, none, none, none] [] v19 n _ _
        refine rr_aload_n (i := 0) C dX10_home_45 rfl rfl ?_
        replace hr := Option.bind_eq_some_iff.mp hr
        obtain ⟨v21, e22, hr⟩ := hr
        refine rr_rdR C dX10_home_46 fl_X10_21 e22 ?_
        refine rr_iload_n (i := 2) C dX10_home_49 rfl rfl ?_
        replace hr := Option.bind_eq_some_iff.mp hr
        obtain ⟨a23, e24, hr⟩ := hr
        subst e24
        replace hr := Option.bind_eq_some_iff.mp hr
        obtain ⟨u25, e26, hr⟩ := hr
        replace hr := Option.bind_eq_some_iff.mp hr
        obtain ⟨v27, e28, hr⟩ := hr
        refine rr_callVq (as := [.int l2]) (st := []) (mc' := 0) (ms' := 0) C dX10_home_50 iv_X10_224 (by decide) e26 rfl (Nat.le_of_ble_eq_true rfl) (c_X7_billsAt a23 l2 (by omega) e28) (fun v_ h_ n_ q_ => ?_)
        obtain ⟨q1_, q2_, q3_⟩ := q_
        subst v_; subst h_; subst n_
        show WW W0 G 12 _ _ _ 53 [some (.ref l0), some (.int l1), some (.int l2), some (.int l3), some (.int l4), none, none, none, none, none, none, none] [.long v27] v19 n _ _
        refine rr_lstore C dX10_home_53 (by decide) ?_
        show WW W0 G 12 _ _ _ 55 [some (.ref l0), some (.int l1), some (.int l2), some (.int l3), some (.int l4), some (.long v27), none, none, none, none, none, none] [] v19 n _ _
        refine rr_iload C dX10_home_55 rfl ?_
        refine rr_iconst (v := 3) C dX10_home_57 (by decide) ?_
        refine rr_icmp_ge (tgt := 76) C dX10_home_58 (by decide) (fun c58_ => ?_) (fun c58_ => ?_)
        · replace hr := (if_pos c58_).symm.trans hr
          refine rr_lload C dX10_home_76 rfl ?_
          refine rr_lstore C dX10_home_78 (by decide) ?_
          show WW W0 G 12 _ _ _ 80 [some (.ref l0), some (.int l1), some (.int l2), some (.int l3), some (.int l4), some (.long v27), none, some (.long v27), none, none, none, none] [] v19 n _ _
          refine rr_iconst (v := 0) C dX10_home_80 (by decide) ?_
          refine rr_istore C dX10_home_81 (by decide) ?_
          show WW W0 G 12 _ _ _ 83 [some (.ref l0), some (.int l1), some (.int l2), some (.int l3), some (.int l4), some (.long v27), none, some (.long v27), none, some (.int 0), none, none] [] v19 n _ _
          replace hr := Option.bind_eq_some_iff.mp hr
          obtain ⟨v46, e47, hr⟩ := hr
          refine rr_keep [true, true, true, true, false, true, false, true, false, true, false, false] (w_X10_home_83 C (by omega) l0 l1 l2 l3 v27 K v27 0 e47 ?_)
          show WW W0 G 12 _ _ _ 132 [none, none, none, none, none, none, none, some (.long v46), none, none, none, none] [] v19 n _ _
          refine rr_lload C dX10_home_132 rfl ?_
          obtain rfl := Option.some.inj hr
          exact rr_lret C dX10_home_134 rfl ⟨rfl, rfl, rfl⟩
        · replace hr := (if_neg c58_).symm.trans hr
          refine rr_aload_n (i := 0) C dX10_home_61 rfl rfl ?_
          replace hr := Option.bind_eq_some_iff.mp hr
          obtain ⟨v48, e49, hr⟩ := hr
          refine rr_rdR C dX10_home_62 fl_X10_12 e49 ?_
          refine rr_lload C dX10_home_65 rfl ?_
          refine rr_iload C dX10_home_67 rfl ?_
          refine rr_iload_n (i := 1) C dX10_home_69 rfl rfl ?_
          refine rr_iload_n (i := 2) C dX10_home_70 rfl rfl ?_
          refine rr_iload_n (i := 3) C dX10_home_71 rfl rfl ?_
          replace hr := Option.bind_eq_some_iff.mp hr
          obtain ⟨a50, e51, hr⟩ := hr
          subst e51
          replace hr := Option.bind_eq_some_iff.mp hr
          obtain ⟨u52, e53, hr⟩ := hr
          replace hr := Option.bind_eq_some_iff.mp hr
          obtain ⟨v54, e55, hr⟩ := hr
          refine rr_callVq (as := [.long v27, .int l4, .int l1, .int l2, .int l3]) (st := []) (mc' := 0) (ms' := 0) C dX10_home_72 iv_X10_230 (by decide) e53 rfl (Nat.le_of_ble_eq_true rfl) (c_X4_partOf a50 v27 l4 l1 l2 l3 (by omega) e55) (fun v_ h_ n_ q_ => ?_)
          obtain ⟨q1_, q2_, q3_⟩ := q_
          subst v_; subst h_; subst n_
          show WW W0 G 12 _ _ _ 75 [some (.ref l0), some (.int l1), some (.int l2), some (.int l3), some (.int l4), some (.long v27), none, none, none, none, none, none] [.long v54] v19 n _ _
          obtain rfl := Option.some.inj hr
          exact rr_lret C dX10_home_75 rfl ⟨rfl, rfl, rfl⟩
      · replace hr := (if_pos c23_).symm.trans hr
        refine rr_ldc2 C dX10_home_26 ct_X10_205 ?_
        obtain rfl := Option.some.inj hr
        exact rr_lret C dX10_home_29 rfl ⟨rfl, rfl, rfl⟩
def q_X10_tried (K : Nat) (h : mm_H) (n : Nat) (l0 : Nat) (l1 : Int32) (l2 : Int32) : Option (Int64 × mm_H) :=
  (ckq h n l0 9).bind fun u1 =>
  (q_X10_isFirmsYear K h n l0 l1 l2).bind fun v3 =>
  if v3 = 0 then
    some ((-2000000000000), h)
  else
  (rdR h n l0 9 8).bind fun v5 =>
  match v5 with
  | none =>
    some ((-2000000000000), h)
  | some a7 =>
    (ckq h n l0 9).bind fun u8 =>
    (q_X10_useOwnRules K h n l0).bind fun v10 =>
    (rdR v10 n l0 9 1).bind fun v12 =>
    (rdR v10 n l0 9 8).bind fun v14 =>
    v12.bind fun a16 =>
    (ckq v10 n a16 7).bind fun u18 =>
    (q_X7_useRules K v10 n a16 (l2 / 5) v14).bind fun v20 =>
    (rdR v20 n l0 9 1).bind fun v22 =>
    (rdR v20 n l0 9 0).bind fun v24 =>
    v24.bind fun a26 =>
    (rdI v20 n a26 4 6).bind fun v28 =>
    v22.bind fun a30 =>
    (ckq v20 n a30 7).bind fun u32 =>
    (q_X7_open K v20 n a30 l1 l2 v28).bind fun v34 =>
    (rdR v34 n l0 9 1).bind fun v36 =>
    v36.bind fun a38 =>
    (ckq v34 n a38 7).bind fun u40 =>
    (q_X7_fillLines K v34 n a38 l2 l2).bind fun v42 =>
    (rdR v42 n l0 9 1).bind fun v44 =>
    v44.bind fun a46 =>
    (ckq v42 n a46 7).bind fun u48 =>
    (q_X7_allLines K v42 n a46 l2).bind fun v50 =>
    some (v50, v42)
set_option maxRecDepth 100000 in
set_option maxHeartbeats 4000000 in
theorem c_X10_tried {K : Nat} {G : mm_G} {l : Launch} {h : mm_H} {n : Nat} (l0 : Nat) (l1 : Int32) (l2 : Int32) {r_ : Int64 × mm_H} (hn : 48 ≤ n) (hr : q_X10_tried K h n l0 l1 l2 = some r_) : Sp G l yX10_tried cX10_tried 3 (some .long) 6 0 0 [.ref l0, .int l1, .int l2] h n (fun v h' n' => v = some (.long r_.1) ∧ h' = r_.2 ∧ n' = n) := by
  refine Sp_of (by decide +kernel) (Nat.le_of_ble_eq_true rfl) hn ?_
  intro W0 hwl C
  subst hwl
  unfold q_X10_tried at hr
  show WW W0 G 3 0 0 _ 0 [some (.ref l0), some (.int l1), some (.int l2)] [] h n 0 0
  refine rr_aload_n (i := 0) C dX10_tried_0 rfl rfl ?_
  refine rr_iload_n (i := 1) C dX10_tried_1 rfl rfl ?_
  refine rr_iload_n (i := 2) C dX10_tried_2 rfl rfl ?_
  replace hr := Option.bind_eq_some_iff.mp hr
  obtain ⟨u1, e2, hr⟩ := hr
  replace hr := Option.bind_eq_some_iff.mp hr
  obtain ⟨v3, e4, hr⟩ := hr
  refine rr_callVq (as := [.int l1, .int l2]) (st := []) (mc' := 0) (ms' := 0) C dX10_tried_3 iv_X10_68 (by decide) e2 rfl (Nat.le_of_ble_eq_true rfl) (c_X10_isFirmsYear l0 l1 l2 (by omega) e4) (fun v_ h_ n_ q_ => ?_)
  obtain ⟨q1_, q2_, q3_⟩ := q_
  subst v_; subst h_; subst n_
  show WW W0 G 3 _ _ _ 6 [some (.ref l0), some (.int l1), some (.int l2)] [.int v3] h n _ _
  refine rr_if_eq (tgt := 16) C dX10_tried_6 (by decide) (fun c6_ => ?_) (fun c6_ => ?_)
  · replace hr := (if_pos c6_).symm.trans hr
    refine rr_ldc2 C dX10_tried_16 ct_X10_205 ?_
    obtain rfl := Option.some.inj hr
    exact rr_lret C dX10_tried_19 rfl ⟨rfl, rfl, rfl⟩
  · replace hr := (if_neg c6_).symm.trans hr
    refine rr_aload_n (i := 0) C dX10_tried_9 rfl rfl ?_
    replace hr := Option.bind_eq_some_iff.mp hr
    obtain ⟨v5, e6, hr⟩ := hr
    refine rr_rdR C dX10_tried_10 fl_X10_150 e6 ?_
    rcases v5 with _ | a7
    · dsimp only at hr
      refine rr_ifnonnullN C dX10_tried_13 ?_
      refine rr_ldc2 C dX10_tried_16 ct_X10_205 ?_
      obtain rfl := Option.some.inj hr
      exact rr_lret C dX10_tried_19 rfl ⟨rfl, rfl, rfl⟩
    · dsimp only at hr
      refine rr_ifnonnull (tgt := 20) C dX10_tried_13 (by decide) ?_
      refine rr_aload_n (i := 0) C dX10_tried_20 rfl rfl ?_
      replace hr := Option.bind_eq_some_iff.mp hr
      obtain ⟨u8, e9, hr⟩ := hr
      replace hr := Option.bind_eq_some_iff.mp hr
      obtain ⟨v10, e11, hr⟩ := hr
      refine rr_callVq (as := []) (st := []) (mc' := 0) (ms' := 0) C dX10_tried_21 iv_X10_237 (by decide) e9 rfl (Nat.le_of_ble_eq_true rfl) (c_X10_useOwnRules l0 (by omega) e11) (fun v_ h_ n_ q_ => ?_)
      obtain ⟨q1_, q2_, q3_⟩ := q_
      subst v_; subst h_; subst n_
      show WW W0 G 3 _ _ _ 24 [some (.ref l0), some (.int l1), some (.int l2)] [] v10 n _ _
      refine rr_aload_n (i := 0) C dX10_tried_24 rfl rfl ?_
      replace hr := Option.bind_eq_some_iff.mp hr
      obtain ⟨v12, e13, hr⟩ := hr
      refine rr_rdR C dX10_tried_25 fl_X10_21 e13 ?_
      refine rr_iload_n (i := 2) C dX10_tried_28 rfl rfl ?_
      refine rr_iconst (v := 5) C dX10_tried_29 (by decide) ?_
      refine rr_idiv C dX10_tried_30 (by decide) ?_
      refine rr_aload_n (i := 0) C dX10_tried_31 rfl rfl ?_
      replace hr := Option.bind_eq_some_iff.mp hr
      obtain ⟨v14, e15, hr⟩ := hr
      refine rr_rdR C dX10_tried_32 fl_X10_150 e15 ?_
      replace hr := Option.bind_eq_some_iff.mp hr
      obtain ⟨a16, e17, hr⟩ := hr
      subst e17
      replace hr := Option.bind_eq_some_iff.mp hr
      obtain ⟨u18, e19, hr⟩ := hr
      replace hr := Option.bind_eq_some_iff.mp hr
      obtain ⟨v20, e21, hr⟩ := hr
      refine rr_callVq (as := [.int (l2 / 5), va_rf v14]) (st := []) (mc' := 0) (ms' := 0) C dX10_tried_35 iv_X10_240 (by decide) e19 rfl (Nat.le_of_ble_eq_true rfl) (c_X7_useRules a16 (l2 / 5) v14 (by omega) e21) (fun v_ h_ n_ q_ => ?_)
      obtain ⟨q1_, q2_, q3_⟩ := q_
      subst v_; subst h_; subst n_
      show WW W0 G 3 _ _ _ 38 [some (.ref l0), some (.int l1), some (.int l2)] [] v20 n _ _
      refine rr_aload_n (i := 0) C dX10_tried_38 rfl rfl ?_
      replace hr := Option.bind_eq_some_iff.mp hr
      obtain ⟨v22, e23, hr⟩ := hr
      refine rr_rdR C dX10_tried_39 fl_X10_21 e23 ?_
      refine rr_iload_n (i := 1) C dX10_tried_42 rfl rfl ?_
      refine rr_iload_n (i := 2) C dX10_tried_43 rfl rfl ?_
      refine rr_aload_n (i := 0) C dX10_tried_44 rfl rfl ?_
      replace hr := Option.bind_eq_some_iff.mp hr
      obtain ⟨v24, e25, hr⟩ := hr
      refine rr_rdR C dX10_tried_45 fl_X10_12 e25 ?_
      replace hr := Option.bind_eq_some_iff.mp hr
      obtain ⟨a26, e27, hr⟩ := hr
      subst e27
      replace hr := Option.bind_eq_some_iff.mp hr
      obtain ⟨v28, e29, hr⟩ := hr
      refine rr_rdI C dX10_tried_48 fl_X10_55 e29 ?_
      replace hr := Option.bind_eq_some_iff.mp hr
      obtain ⟨a30, e31, hr⟩ := hr
      subst e31
      replace hr := Option.bind_eq_some_iff.mp hr
      obtain ⟨u32, e33, hr⟩ := hr
      replace hr := Option.bind_eq_some_iff.mp hr
      obtain ⟨v34, e35, hr⟩ := hr
      refine rr_callVq (as := [.int l1, .int l2, .int v28]) (st := []) (mc' := 0) (ms' := 0) C dX10_tried_51 iv_X10_244 (by decide) e33 rfl (Nat.le_of_ble_eq_true rfl) (c_X7_open a30 l1 l2 v28 (by omega) e35) (fun v_ h_ n_ q_ => ?_)
      obtain ⟨q1_, q2_, q3_⟩ := q_
      subst v_; subst h_; subst n_
      show WW W0 G 3 _ _ _ 54 [some (.ref l0), some (.int l1), some (.int l2)] [] v34 n _ _
      refine rr_aload_n (i := 0) C dX10_tried_54 rfl rfl ?_
      replace hr := Option.bind_eq_some_iff.mp hr
      obtain ⟨v36, e37, hr⟩ := hr
      refine rr_rdR C dX10_tried_55 fl_X10_21 e37 ?_
      refine rr_iload_n (i := 2) C dX10_tried_58 rfl rfl ?_
      refine rr_iload_n (i := 2) C dX10_tried_59 rfl rfl ?_
      replace hr := Option.bind_eq_some_iff.mp hr
      obtain ⟨a38, e39, hr⟩ := hr
      subst e39
      replace hr := Option.bind_eq_some_iff.mp hr
      obtain ⟨u40, e41, hr⟩ := hr
      replace hr := Option.bind_eq_some_iff.mp hr
      obtain ⟨v42, e43, hr⟩ := hr
      refine rr_callVq (as := [.int l2, .int l2]) (st := []) (mc' := 0) (ms' := 0) C dX10_tried_60 iv_X10_211 (by decide) e41 rfl (Nat.le_of_ble_eq_true rfl) (c_X7_fillLines a38 l2 l2 (by omega) e43) (fun v_ h_ n_ q_ => ?_)
      obtain ⟨q1_, q2_, q3_⟩ := q_
      subst v_; subst h_; subst n_
      show WW W0 G 3 _ _ _ 63 [some (.ref l0), some (.int l1), some (.int l2)] [] v42 n _ _
      refine rr_aload_n (i := 0) C dX10_tried_63 rfl rfl ?_
      replace hr := Option.bind_eq_some_iff.mp hr
      obtain ⟨v44, e45, hr⟩ := hr
      refine rr_rdR C dX10_tried_64 fl_X10_21 e45 ?_
      refine rr_iload_n (i := 2) C dX10_tried_67 rfl rfl ?_
      replace hr := Option.bind_eq_some_iff.mp hr
      obtain ⟨a46, e47, hr⟩ := hr
      subst e47
      replace hr := Option.bind_eq_some_iff.mp hr
      obtain ⟨u48, e49, hr⟩ := hr
      replace hr := Option.bind_eq_some_iff.mp hr
      obtain ⟨v50, e51, hr⟩ := hr
      refine rr_callVq (as := [.int l2]) (st := []) (mc' := 0) (ms' := 0) C dX10_tried_68 iv_X10_218 (by decide) e49 rfl (Nat.le_of_ble_eq_true rfl) (c_X7_allLines a46 l2 (by omega) e51) (fun v_ h_ n_ q_ => ?_)
      obtain ⟨q1_, q2_, q3_⟩ := q_
      subst v_; subst h_; subst n_
      show WW W0 G 3 _ _ _ 71 [some (.ref l0), some (.int l1), some (.int l2)] [.long v50] v42 n _ _
      obtain rfl := Option.some.inj hr
      exact rr_lret C dX10_tried_71 rfl ⟨rfl, rfl, rfl⟩
def lp_X10_hole_146 (K : Nat) (h : mm_H) (n : Nat) (l0 : Nat) (l2 : Int32) (l3 : Int32) (l4 : Int32) (l5 : Int32) : Nat → Int32 → Int64 → Int32 → Option (Int32 × Int64)
  | 0, _, _, _ => none
  | k_ + 1, l6, l7, l9 =>
    if 120 < l9 then
      some (l6, l7)
    else
    (rdR h n l0 9 1).bind fun v63 =>
    (q_X8_cut K h n ((Int32.toInt64 l5) * (Int32.toInt64 l9)) 100).bind fun v65 =>
    v63.bind fun a67 =>
    (ckq h n a67 7).bind fun u69 =>
    (q_X7_keptByPlan K h n a67 l3 l2 (Int32.toInt64 l5) v65).bind fun v71 =>
    if (lg_cmp v71 l7) ≤ 0 then
      lp_X10_hole_146 K h n l0 l2 l3 l4 l5 k_ l6 l7 (l9 + 5)
    else
    lp_X10_hole_146 K h n l0 l2 l3 l4 l5 k_ l9 v71 (l9 + 5)
def q_X10_hole (K : Nat) (h : mm_H) (n : Nat) (l0 : Nat) (l1 : Int32) (l2 : Int32) (l3 : Int32) (l4 : Int32) : Option (Int64 × mm_H) :=
  (ckq h n l0 9).bind fun u1 =>
  (q_X10_isFirmsYear K h n l0 l1 l3).bind fun v3 =>
  if v3 = 0 then
    some ((-2000000000000), h)
  else
  (q_X10_isHead K h n l2).bind fun v5 =>
  if v5 = 0 then
    some ((-2000000000000), h)
  else
  (q_X10_isWithin K h n l4 0 2).bind fun v7 =>
  if v7 = 0 then
    some ((-2000000000000), h)
  else
  (rdR h n l0 9 0).bind fun v9 =>
  v9.bind fun a11 =>
  (rdI h n a11 4 6).bind fun v13 =>
  (ckq h n l0 9).bind fun u15 =>
  (q_X10_openOwn K h n l0 l1 l3 v13).bind fun v17 =>
  (rdR v17 n l0 9 0).bind fun v19 =>
  v19.bind fun a21 =>
  (rdR v17 n a21 4 1).bind fun v23 =>
  (rdR v17 n l0 9 0).bind fun v25 =>
  v25.bind fun a27 =>
  (rdI v17 n a27 4 6).bind fun v29 =>
  v23.bind fun a31 =>
  (ckq v17 n a31 0).bind fun u33 =>
  (q_X0_knownBy K v17 n a31 l1 l3 (3 + l2) v29).bind fun v35 =>
  if v35 = (-1) then
    some ((-2000000000000), v17)
  else
  (rdR v17 n l0 9 1).bind fun v37 =>
  v37.bind fun a39 =>
  (ckq v17 n a39 7).bind fun u41 =>
  (q_X7_isByPlan K v17 n a39 l3 l2).bind fun v43 =>
  if v43 = 0 then
    some ((-2000000000000), v17)
  else
  if l4 = 2 then
    (rdR v17 n l0 9 1).bind fun v45 =>
    v45.bind fun a47 =>
    (ckq v17 n a47 7).bind fun u49 =>
    (q_X7_keptByPlan K v17 n a47 l3 l2 (Int32.toInt64 v35) (Int32.toInt64 v35)).bind fun v51 =>
    some (v51, v17)
  else
  (rdR v17 n l0 9 1).bind fun v53 =>
  (q_X8_cut K v17 n ((Int32.toInt64 v35) * (Int32.toInt64 80)) 100).bind fun v55 =>
  v53.bind fun a57 =>
  (ckq v17 n a57 7).bind fun u59 =>
  (q_X7_keptByPlan K v17 n a57 l3 l2 (Int32.toInt64 v35) v55).bind fun v61 =>
  (lp_X10_hole_146 K v17 n l0 l2 l3 l4 v35 K 80 v61 85).bind fun v73 =>
  if l4 = 0 then
    some (v73.2, v17)
  else
  some (Int32.toInt64 v73.1, v17)
set_option maxRecDepth 100000 in
set_option maxHeartbeats 4000000 in
theorem w_X10_hole_146 {K : Nat} {W0 : mm_X} {G : mm_G} {mc ms kc ks : Nat} {Q_ : State → Prop} {h : mm_H} {n : Nat} (C : mm_C W0 G cX10_hole yX10_hole.cls 12 mc ms (some .long) 7 yX10_hole.name) (hn : 48 ≤ n) (l0 : Nat) (l2 : Int32) (l3 : Int32) (l4 : Int32) (l5 : Int32) : ∀ (k_ : Nat) (l6 : Int32) (l7 : Int64) (l9 : Int32) {r_ : Int32 × Int64} (hr : lp_X10_hole_146 K h n l0 l2 l3 l4 l5 k_ l6 l7 l9 = some r_) (hx0 : WW W0 G 12 mc ms Q_ 202 [none, none, none, none, some (.int l4), none, some (.int r_.1), some (.long r_.2), none, none, none, none] [] h n kc ks), WW W0 G 12 mc ms Q_ 146 [some (.ref l0), none, some (.int l2), some (.int l3), some (.int l4), some (.int l5), some (.int l6), some (.long l7), none, some (.int l9), none, none] [] h n kc ks := by
  intro k_
  induction k_ with
  | zero =>
    intro l6 l7 l9 r_ hr
    cases hr
  | succ k_ ih_ =>
    intro l6 l7 l9 r_ hr hx0
    unfold lp_X10_hole_146 at hr
    refine rr_iload C dX10_hole_146 rfl ?_
    refine rr_bipush (v := 120) C dX10_hole_148 (by decide) ?_
    refine rr_icmp_gt (tgt := 202) C dX10_hole_150 (by decide) (fun c150_ => ?_) (fun c150_ => ?_)
    · replace hr := (if_pos c150_).symm.trans hr
      obtain rfl := Option.some.inj hr
      exact rr_keep [false, false, false, false, true, false, true, true, false, false, false, false] (hx0)
    · replace hr := (if_neg c150_).symm.trans hr
      refine rr_aload_n (i := 0) C dX10_hole_153 rfl rfl ?_
      replace hr := Option.bind_eq_some_iff.mp hr
      obtain ⟨v63, e64, hr⟩ := hr
      refine rr_rdR C dX10_hole_154 fl_X10_21 e64 ?_
      refine rr_iload_n (i := 3) C dX10_hole_157 rfl rfl ?_
      refine rr_iload_n (i := 2) C dX10_hole_158 rfl rfl ?_
      refine rr_iload C dX10_hole_159 rfl ?_
      refine rr_i2l C dX10_hole_161 ?_
      refine rr_iload C dX10_hole_162 rfl ?_
      refine rr_i2l C dX10_hole_164 ?_
      refine rr_iload C dX10_hole_165 rfl ?_
      refine rr_i2l C dX10_hole_167 ?_
      refine rr_lmul C dX10_hole_168 ?_
      refine rr_ldc2 C dX10_hole_169 ct_X10_254 ?_
      replace hr := Option.bind_eq_some_iff.mp hr
      obtain ⟨v65, e66, hr⟩ := hr
      refine rr_callS (as := [.long ((Int32.toInt64 l5) * (Int32.toInt64 l9)), .long 100]) (st := [.long (Int32.toInt64 l5), .int l2, .int l3, va_rf v63]) (mc' := 0) (ms' := 0) C dX10_hole_172 it_X10_256 (by decide) (by rcases v63 with _ | _ <;> exact Nat.le_of_ble_eq_true rfl) (c_X8_cut ((Int32.toInt64 l5) * (Int32.toInt64 l9)) 100 (by omega) e66) (fun v_ h_ n_ q_ => ?_)
      obtain ⟨q1_, q2_, q3_⟩ := q_
      subst v_; subst h_; subst n_
      show WW W0 G 12 _ _ _ 175 [some (.ref l0), none, some (.int l2), some (.int l3), some (.int l4), some (.int l5), some (.int l6), some (.long l7), none, some (.int l9), none, none] [.long v65, .long (Int32.toInt64 l5), .int l2, .int l3, va_rf v63] h n _ _
      replace hr := Option.bind_eq_some_iff.mp hr
      obtain ⟨a67, e68, hr⟩ := hr
      subst e68
      replace hr := Option.bind_eq_some_iff.mp hr
      obtain ⟨u69, e70, hr⟩ := hr
      replace hr := Option.bind_eq_some_iff.mp hr
      obtain ⟨v71, e72, hr⟩ := hr
      refine rr_callVq (as := [.int l3, .int l2, .long (Int32.toInt64 l5), .long v65]) (st := []) (mc' := 0) (ms' := 0) C dX10_hole_175 iv_X10_250 (by decide) e70 rfl (Nat.le_of_ble_eq_true rfl) (c_X7_keptByPlan a67 l3 l2 (Int32.toInt64 l5) v65 (by omega) e72) (fun v_ h_ n_ q_ => ?_)
      obtain ⟨q1_, q2_, q3_⟩ := q_
      subst v_; subst h_; subst n_
      show WW W0 G 12 _ _ _ 178 [some (.ref l0), none, some (.int l2), some (.int l3), some (.int l4), some (.int l5), some (.int l6), some (.long l7), none, some (.int l9), none, none] [.long v71] h n _ _
      refine rr_lstore C dX10_hole_178 (by decide) ?_
      show WW W0 G 12 _ _ _ 180 [some (.ref l0), none, some (.int l2), some (.int l3), some (.int l4), some (.int l5), some (.int l6), some (.long l7), none, some (.int l9), some (.long v71), none] [] h n _ _
      refine rr_lload C dX10_hole_180 rfl ?_
      refine rr_lload C dX10_hole_182 rfl ?_
      refine rr_lcmp C dX10_hole_184 ?_
      refine rr_if_le (tgt := 196) C dX10_hole_185 (by decide) (fun c185_ => ?_) (fun c185_ => ?_)
      · replace hr := (if_pos c185_).symm.trans hr
        refine rr_iinc (v := l9 + 5) C dX10_hole_196 rfl rfl ?_
        show WW W0 G 12 _ _ _ 199 [some (.ref l0), none, some (.int l2), some (.int l3), some (.int l4), some (.int l5), some (.int l6), some (.long l7), none, some (.int (l9 + 5)), some (.long v71), none] [] h n _ _
        refine rr_goto (tgt := 146) C dX10_hole_199 (by decide) ?_
        exact rr_keep [true, false, true, true, true, true, true, true, false, true, false, false] (ih_ _ _ _ hr hx0)
      · replace hr := (if_neg c185_).symm.trans hr
        refine rr_lload C dX10_hole_188 rfl ?_
        refine rr_lstore C dX10_hole_190 (by decide) ?_
        show WW W0 G 12 _ _ _ 192 [some (.ref l0), none, some (.int l2), some (.int l3), some (.int l4), some (.int l5), some (.int l6), some (.long v71), none, some (.int l9), some (.long v71), none] [] h n _ _
        refine rr_iload C dX10_hole_192 rfl ?_
        refine rr_istore C dX10_hole_194 (by decide) ?_
        show WW W0 G 12 _ _ _ 196 [some (.ref l0), none, some (.int l2), some (.int l3), some (.int l4), some (.int l5), some (.int l9), some (.long v71), none, some (.int l9), some (.long v71), none] [] h n _ _
        refine rr_iinc (v := l9 + 5) C dX10_hole_196 rfl rfl ?_
        show WW W0 G 12 _ _ _ 199 [some (.ref l0), none, some (.int l2), some (.int l3), some (.int l4), some (.int l5), some (.int l9), some (.long v71), none, some (.int (l9 + 5)), some (.long v71), none] [] h n _ _
        refine rr_goto (tgt := 146) C dX10_hole_199 (by decide) ?_
        exact rr_keep [true, false, true, true, true, true, true, true, false, true, false, false] (ih_ _ _ _ hr hx0)
set_option maxRecDepth 100000 in
set_option maxHeartbeats 4000000 in
theorem c_X10_hole {K : Nat} {G : mm_G} {l : Launch} {h : mm_H} {n : Nat} (l0 : Nat) (l1 : Int32) (l2 : Int32) (l3 : Int32) (l4 : Int32) {r_ : Int64 × mm_H} (hn : 48 ≤ n) (hr : q_X10_hole K h n l0 l1 l2 l3 l4 = some r_) : Sp G l yX10_hole cX10_hole 12 (some .long) 7 0 0 [.ref l0, .int l1, .int l2, .int l3, .int l4] h n (fun v h' n' => v = some (.long r_.1) ∧ h' = r_.2 ∧ n' = n) := by
  refine Sp_of (by decide +kernel) (Nat.le_of_ble_eq_true rfl) hn ?_
  intro W0 hwl C
  subst hwl
  unfold q_X10_hole at hr
  show WW W0 G 12 0 0 _ 0 [some (.ref l0), some (.int l1), some (.int l2), some (.int l3), some (.int l4), none, none, none, none, none, none, none] [] h n 0 0
  refine rr_aload_n (i := 0) C dX10_hole_0 rfl rfl ?_
  refine rr_iload_n (i := 1) C dX10_hole_1 rfl rfl ?_
  refine rr_iload_n (i := 3) C dX10_hole_2 rfl rfl ?_
  replace hr := Option.bind_eq_some_iff.mp hr
  obtain ⟨u1, e2, hr⟩ := hr
  replace hr := Option.bind_eq_some_iff.mp hr
  obtain ⟨v3, e4, hr⟩ := hr
  refine rr_callVq (as := [.int l1, .int l3]) (st := []) (mc' := 0) (ms' := 0) C dX10_hole_3 iv_X10_68 (by decide) e2 rfl (Nat.le_of_ble_eq_true rfl) (c_X10_isFirmsYear l0 l1 l3 (by omega) e4) (fun v_ h_ n_ q_ => ?_)
  obtain ⟨q1_, q2_, q3_⟩ := q_
  subst v_; subst h_; subst n_
  show WW W0 G 12 _ _ _ 6 [some (.ref l0), some (.int l1), some (.int l2), some (.int l3), some (.int l4), none, none, none, none, none, none, none] [.int v3] h n _ _
  refine rr_if_eq (tgt := 26) C dX10_hole_6 (by decide) (fun c6_ => ?_) (fun c6_ => ?_)
  · replace hr := (if_pos c6_).symm.trans hr
    refine rr_ldc2 C dX10_hole_26 ct_X10_205 ?_
    obtain rfl := Option.some.inj hr
    exact rr_lret C dX10_hole_29 rfl ⟨rfl, rfl, rfl⟩
  · replace hr := (if_neg c6_).symm.trans hr
    refine rr_iload_n (i := 2) C dX10_hole_9 rfl rfl ?_
    replace hr := Option.bind_eq_some_iff.mp hr
    obtain ⟨v5, e6, hr⟩ := hr
    refine rr_callS (as := [.int l2]) (st := []) (mc' := 0) (ms' := 0) C dX10_hole_10 it_X10_106 (by decide) (Nat.le_of_ble_eq_true rfl) (c_X10_isHead l2 (by omega) e6) (fun v_ h_ n_ q_ => ?_)
    obtain ⟨q1_, q2_, q3_⟩ := q_
    subst v_; subst h_; subst n_
    show WW W0 G 12 _ _ _ 13 [some (.ref l0), some (.int l1), some (.int l2), some (.int l3), some (.int l4), none, none, none, none, none, none, none] [.int v5] h n _ _
    refine rr_if_eq (tgt := 26) C dX10_hole_13 (by decide) (fun c13_ => ?_) (fun c13_ => ?_)
    · replace hr := (if_pos c13_).symm.trans hr
      refine rr_ldc2 C dX10_hole_26 ct_X10_205 ?_
      obtain rfl := Option.some.inj hr
      exact rr_lret C dX10_hole_29 rfl ⟨rfl, rfl, rfl⟩
    · replace hr := (if_neg c13_).symm.trans hr
      refine rr_iload C dX10_hole_16 rfl ?_
      refine rr_iconst (v := 0) C dX10_hole_18 (by decide) ?_
      refine rr_iconst (v := 2) C dX10_hole_19 (by decide) ?_
      replace hr := Option.bind_eq_some_iff.mp hr
      obtain ⟨v7, e8, hr⟩ := hr
      refine rr_callS (as := [.int l4, .int 0, .int 2]) (st := []) (mc' := 0) (ms' := 0) C dX10_hole_20 it_X10_60 (by decide) (Nat.le_of_ble_eq_true rfl) (c_X10_isWithin l4 0 2 (by omega) e8) (fun v_ h_ n_ q_ => ?_)
      obtain ⟨q1_, q2_, q3_⟩ := q_
      subst v_; subst h_; subst n_
      show WW W0 G 12 _ _ _ 23 [some (.ref l0), some (.int l1), some (.int l2), some (.int l3), some (.int l4), none, none, none, none, none, none, none] [.int v7] h n _ _
      refine rr_if_ne (tgt := 30) C dX10_hole_23 (by decide) (fun c23_ => ?_) (fun c23_ => ?_)
      · replace hr := (if_neg c23_).symm.trans hr
        refine rr_aload_n (i := 0) C dX10_hole_30 rfl rfl ?_
        refine rr_iload_n (i := 1) C dX10_hole_31 rfl rfl ?_
        refine rr_iload_n (i := 3) C dX10_hole_32 rfl rfl ?_
        refine rr_aload_n (i := 0) C dX10_hole_33 rfl rfl ?_
        replace hr := Option.bind_eq_some_iff.mp hr
        obtain ⟨v9, e10, hr⟩ := hr
        refine rr_rdR C dX10_hole_34 fl_X10_12 e10 ?_
        replace hr := Option.bind_eq_some_iff.mp hr
        obtain ⟨a11, e12, hr⟩ := hr
        subst e12
        replace hr := Option.bind_eq_some_iff.mp hr
        obtain ⟨v13, e14, hr⟩ := hr
        refine rr_rdI C dX10_hole_37 fl_X10_55 e14 ?_
        replace hr := Option.bind_eq_some_iff.mp hr
        obtain ⟨u15, e16, hr⟩ := hr
        replace hr := Option.bind_eq_some_iff.mp hr
        obtain ⟨v17, e18, hr⟩ := hr
        refine rr_callVq (as := [.int l1, .int l3, .int v13]) (st := []) (mc' := 0) (ms' := 0) C dX10_hole_40 iv_X10_170 (by decide) e16 rfl (Nat.le_of_ble_eq_true rfl) (c_X10_openOwn l0 l1 l3 v13 (by omega) e18) (fun v_ h_ n_ q_ => ?_)
        obtain ⟨q1_, q2_, q3_⟩ := q_
        subst v_; subst h_; subst n_
        show WW W0 G 12 _ _ _ 43 [some (.ref l0), some (.int l1), some (.int l2), some (.int l3), some (.int l4), none, none, none, none, none, none, none] [] v17 n _ _
        refine rr_aload_n (i := 0) C dX10_hole_43 rfl rfl ?_
        replace hr := Option.bind_eq_some_iff.mp hr
        obtain ⟨v19, e20, hr⟩ := hr
        refine rr_rdR C dX10_hole_44 fl_X10_12 e20 ?_
        replace hr := Option.bind_eq_some_iff.mp hr
        obtain ⟨a21, e22, hr⟩ := hr
        subst e22
        replace hr := Option.bind_eq_some_iff.mp hr
        obtain ⟨v23, e24, hr⟩ := hr
        refine rr_rdR C dX10_hole_47 fl_X10_75 e24 ?_
        refine rr_iload_n (i := 1) C dX10_hole_50 rfl rfl ?_
        refine rr_iload_n (i := 3) C dX10_hole_51 rfl rfl ?_
        refine rr_iconst (v := 3) C dX10_hole_52 (by decide) ?_
        refine rr_iload_n (i := 2) C dX10_hole_53 rfl rfl ?_
        refine rr_iadd C dX10_hole_54 ?_
        refine rr_aload_n (i := 0) C dX10_hole_55 rfl rfl ?_
        replace hr := Option.bind_eq_some_iff.mp hr
        obtain ⟨v25, e26, hr⟩ := hr
        refine rr_rdR C dX10_hole_56 fl_X10_12 e26 ?_
        replace hr := Option.bind_eq_some_iff.mp hr
        obtain ⟨a27, e28, hr⟩ := hr
        subst e28
        replace hr := Option.bind_eq_some_iff.mp hr
        obtain ⟨v29, e30, hr⟩ := hr
        refine rr_rdI C dX10_hole_59 fl_X10_55 e30 ?_
        replace hr := Option.bind_eq_some_iff.mp hr
        obtain ⟨a31, e32, hr⟩ := hr
        subst e32
        replace hr := Option.bind_eq_some_iff.mp hr
        obtain ⟨u33, e34, hr⟩ := hr
        replace hr := Option.bind_eq_some_iff.mp hr
        obtain ⟨v35, e36, hr⟩ := hr
        refine rr_callVq (as := [.int l1, .int l3, .int (3 + l2), .int v29]) (st := []) (mc' := 0) (ms' := 0) C dX10_hole_62 iv_X10_89 (by decide) e34 rfl (Nat.le_of_ble_eq_true rfl) (c_X0_knownBy a31 l1 l3 (3 + l2) v29 (by omega) e36) (fun v_ h_ n_ q_ => ?_)
        obtain ⟨q1_, q2_, q3_⟩ := q_
        subst v_; subst h_; subst n_
        show WW W0 G 12 _ _ _ 65 [some (.ref l0), some (.int l1), some (.int l2), some (.int l3), some (.int l4), none, none, none, none, none, none, none] [.int v35] v17 n _ _
        refine rr_istore C dX10_hole_65 (by decide) ?_
        show WW W0 G 12 _ _ _ 67 [some (.ref l0), some (.int l1), some (.int l2), some (.int l3), some (.int l4), some (.int v35), none, none, none, none, none, none] [] v17 n _ _
        refine rr_iload C dX10_hole_67 rfl ?_
        refine rr_iconst (v := (-1)) C dX10_hole_69 (by decide) ?_
        refine rr_icmp_eq (tgt := 85) C dX10_hole_70 (by decide) (fun c70_ => ?_) (fun c70_ => ?_)
        · replace hr := (if_pos c70_).symm.trans hr
          refine rr_ldc2 C dX10_hole_85 ct_X10_205 ?_
          obtain rfl := Option.some.inj hr
          exact rr_lret C dX10_hole_88 rfl ⟨rfl, rfl, rfl⟩
        · replace hr := (if_neg c70_).symm.trans hr
          refine rr_aload_n (i := 0) C dX10_hole_73 rfl rfl ?_
          replace hr := Option.bind_eq_some_iff.mp hr
          obtain ⟨v37, e38, hr⟩ := hr
          refine rr_rdR C dX10_hole_74 fl_X10_21 e38 ?_
          refine rr_iload_n (i := 3) C dX10_hole_77 rfl rfl ?_
          refine rr_iload_n (i := 2) C dX10_hole_78 rfl rfl ?_
          replace hr := Option.bind_eq_some_iff.mp hr
          obtain ⟨a39, e40, hr⟩ := hr
          subst e40
          replace hr := Option.bind_eq_some_iff.mp hr
          obtain ⟨u41, e42, hr⟩ := hr
          replace hr := Option.bind_eq_some_iff.mp hr
          obtain ⟨v43, e44, hr⟩ := hr
          refine rr_callVq (as := [.int l3, .int l2]) (st := []) (mc' := 0) (ms' := 0) C dX10_hole_79 iv_X10_247 (by decide) e42 rfl (Nat.le_of_ble_eq_true rfl) (c_X7_isByPlan a39 l3 l2 (by omega) e44) (fun v_ h_ n_ q_ => ?_)
          obtain ⟨q1_, q2_, q3_⟩ := q_
          subst v_; subst h_; subst n_
          show WW W0 G 12 _ _ _ 82 [some (.ref l0), some (.int l1), some (.int l2), some (.int l3), some (.int l4), some (.int v35), none, none, none, none, none, none] [.int v43] v17 n _ _
          refine rr_if_ne (tgt := 89) C dX10_hole_82 (by decide) (fun c82_ => ?_) (fun c82_ => ?_)
          · replace hr := (if_neg c82_).symm.trans hr
            refine rr_iload C dX10_hole_89 rfl ?_
            refine rr_iconst (v := 2) C dX10_hole_91 (by decide) ?_
            refine rr_icmp_ne (tgt := 111) C dX10_hole_92 (by decide) (fun c92_ => ?_) (fun c92_ => ?_)
            · replace hr := (if_neg c92_).symm.trans hr
              refine rr_bipush (v := 80) C dX10_hole_111 (by decide) ?_
              refine rr_istore C dX10_hole_113 (by decide) ?_
              show WW W0 G 12 _ _ _ 115 [some (.ref l0), some (.int l1), some (.int l2), some (.int l3), some (.int l4), some (.int v35), some (.int 80), none, none, none, none, none] [] v17 n _ _
              refine rr_aload_n (i := 0) C dX10_hole_115 rfl rfl ?_
              replace hr := Option.bind_eq_some_iff.mp hr
              obtain ⟨v53, e54, hr⟩ := hr
              refine rr_rdR C dX10_hole_116 fl_X10_21 e54 ?_
              refine rr_iload_n (i := 3) C dX10_hole_119 rfl rfl ?_
              refine rr_iload_n (i := 2) C dX10_hole_120 rfl rfl ?_
              refine rr_iload C dX10_hole_121 rfl ?_
              refine rr_i2l C dX10_hole_123 ?_
              refine rr_iload C dX10_hole_124 rfl ?_
              refine rr_i2l C dX10_hole_126 ?_
              refine rr_iload C dX10_hole_127 rfl ?_
              refine rr_i2l C dX10_hole_129 ?_
              refine rr_lmul C dX10_hole_130 ?_
              refine rr_ldc2 C dX10_hole_131 ct_X10_254 ?_
              replace hr := Option.bind_eq_some_iff.mp hr
              obtain ⟨v55, e56, hr⟩ := hr
              refine rr_callS (as := [.long ((Int32.toInt64 v35) * (Int32.toInt64 80)), .long 100]) (st := [.long (Int32.toInt64 v35), .int l2, .int l3, va_rf v53]) (mc' := 0) (ms' := 0) C dX10_hole_134 it_X10_256 (by decide) (by rcases v53 with _ | _ <;> exact Nat.le_of_ble_eq_true rfl) (c_X8_cut ((Int32.toInt64 v35) * (Int32.toInt64 80)) 100 (by omega) e56) (fun v_ h_ n_ q_ => ?_)
              obtain ⟨q1_, q2_, q3_⟩ := q_
              subst v_; subst h_; subst n_
              show WW W0 G 12 _ _ _ 137 [some (.ref l0), some (.int l1), some (.int l2), some (.int l3), some (.int l4), some (.int v35), some (.int 80), none, none, none, none, none] [.long v55, .long (Int32.toInt64 v35), .int l2, .int l3, va_rf v53] v17 n _ _
              replace hr := Option.bind_eq_some_iff.mp hr
              obtain ⟨a57, e58, hr⟩ := hr
              subst e58
              replace hr := Option.bind_eq_some_iff.mp hr
              obtain ⟨u59, e60, hr⟩ := hr
              replace hr := Option.bind_eq_some_iff.mp hr
              obtain ⟨v61, e62, hr⟩ := hr
              refine rr_callVq (as := [.int l3, .int l2, .long (Int32.toInt64 v35), .long v55]) (st := []) (mc' := 0) (ms' := 0) C dX10_hole_137 iv_X10_250 (by decide) e60 rfl (Nat.le_of_ble_eq_true rfl) (c_X7_keptByPlan a57 l3 l2 (Int32.toInt64 v35) v55 (by omega) e62) (fun v_ h_ n_ q_ => ?_)
              obtain ⟨q1_, q2_, q3_⟩ := q_
              subst v_; subst h_; subst n_
              show WW W0 G 12 _ _ _ 140 [some (.ref l0), some (.int l1), some (.int l2), some (.int l3), some (.int l4), some (.int v35), some (.int 80), none, none, none, none, none] [.long v61] v17 n _ _
              refine rr_lstore C dX10_hole_140 (by decide) ?_
              show WW W0 G 12 _ _ _ 142 [some (.ref l0), some (.int l1), some (.int l2), some (.int l3), some (.int l4), some (.int v35), some (.int 80), some (.long v61), none, none, none, none] [] v17 n _ _
              refine rr_bipush (v := 85) C dX10_hole_142 (by decide) ?_
              refine rr_istore C dX10_hole_144 (by decide) ?_
              show WW W0 G 12 _ _ _ 146 [some (.ref l0), some (.int l1), some (.int l2), some (.int l3), some (.int l4), some (.int v35), some (.int 80), some (.long v61), none, some (.int 85), none, none] [] v17 n _ _
              replace hr := Option.bind_eq_some_iff.mp hr
              obtain ⟨v73, e74, hr⟩ := hr
              refine rr_keep [true, false, true, true, true, true, true, true, false, true, false, false] (w_X10_hole_146 C (by omega) l0 l2 l3 l4 v35 K 80 v61 85 e74 ?_)
              show WW W0 G 12 _ _ _ 202 [none, none, none, none, some (.int l4), none, some (.int v73.1), some (.long v73.2), none, none, none, none] [] v17 n _ _
              refine rr_iload C dX10_hole_202 rfl ?_
              refine rr_if_ne (tgt := 212) C dX10_hole_204 (by decide) (fun c204_ => ?_) (fun c204_ => ?_)
              · replace hr := (if_neg c204_).symm.trans hr
                refine rr_iload C dX10_hole_212 rfl ?_
                refine rr_i2l C dX10_hole_214 ?_
                obtain rfl := Option.some.inj hr
                exact rr_lret C dX10_hole_215 rfl ⟨rfl, rfl, rfl⟩
              · replace hr := (if_pos c204_).symm.trans hr
                refine rr_lload C dX10_hole_207 rfl ?_
                refine rr_goto (tgt := 215) C dX10_hole_209 (by decide) ?_
                obtain rfl := Option.some.inj hr
                exact rr_lret C dX10_hole_215 rfl ⟨rfl, rfl, rfl⟩
            · replace hr := (if_pos c92_).symm.trans hr
              refine rr_aload_n (i := 0) C dX10_hole_95 rfl rfl ?_
              replace hr := Option.bind_eq_some_iff.mp hr
              obtain ⟨v45, e46, hr⟩ := hr
              refine rr_rdR C dX10_hole_96 fl_X10_21 e46 ?_
              refine rr_iload_n (i := 3) C dX10_hole_99 rfl rfl ?_
              refine rr_iload_n (i := 2) C dX10_hole_100 rfl rfl ?_
              refine rr_iload C dX10_hole_101 rfl ?_
              refine rr_i2l C dX10_hole_103 ?_
              refine rr_iload C dX10_hole_104 rfl ?_
              refine rr_i2l C dX10_hole_106 ?_
              replace hr := Option.bind_eq_some_iff.mp hr
              obtain ⟨a47, e48, hr⟩ := hr
              subst e48
              replace hr := Option.bind_eq_some_iff.mp hr
              obtain ⟨u49, e50, hr⟩ := hr
              replace hr := Option.bind_eq_some_iff.mp hr
              obtain ⟨v51, e52, hr⟩ := hr
              refine rr_callVq (as := [.int l3, .int l2, .long (Int32.toInt64 v35), .long (Int32.toInt64 v35)]) (st := []) (mc' := 0) (ms' := 0) C dX10_hole_107 iv_X10_250 (by decide) e50 rfl (Nat.le_of_ble_eq_true rfl) (c_X7_keptByPlan a47 l3 l2 (Int32.toInt64 v35) (Int32.toInt64 v35) (by omega) e52) (fun v_ h_ n_ q_ => ?_)
              obtain ⟨q1_, q2_, q3_⟩ := q_
              subst v_; subst h_; subst n_
              show WW W0 G 12 _ _ _ 110 [some (.ref l0), some (.int l1), some (.int l2), some (.int l3), some (.int l4), some (.int v35), none, none, none, none, none, none] [.long v51] v17 n _ _
              obtain rfl := Option.some.inj hr
              exact rr_lret C dX10_hole_110 rfl ⟨rfl, rfl, rfl⟩
          · replace hr := (if_pos c82_).symm.trans hr
            refine rr_ldc2 C dX10_hole_85 ct_X10_205 ?_
            obtain rfl := Option.some.inj hr
            exact rr_lret C dX10_hole_88 rfl ⟨rfl, rfl, rfl⟩
      · replace hr := (if_pos c23_).symm.trans hr
        refine rr_ldc2 C dX10_hole_26 ct_X10_205 ?_
        obtain rfl := Option.some.inj hr
        exact rr_lret C dX10_hole_29 rfl ⟨rfl, rfl, rfl⟩
def lp_X10_endOfSpan_7 (K : Nat) (n : Nat) (l0 : Nat) (l1 : Int32) (l2 : Int32) : Nat → Int64 → Int32 → mm_H → Option (Int64 × mm_H)
  | 0, _, _, _ => none
  | k_ + 1, l3, l5, h =>
    (rdR h n l0 9 0).bind fun v1 =>
    v1.bind fun a3 =>
    (rdI h n a3 4 5).bind fun v5 =>
    if v5 ≤ l5 then
      some (l3, h)
    else
    (rdR h n l0 9 2).bind fun v7 =>
    v7.bind fun a9 =>
    (ckq h n a9 2).bind fun u11 =>
    (q_X2_has K h n a9 l5).bind fun v13 =>
    if v13 = 0 then
      lp_X10_endOfSpan_7 K n l0 l1 l2 k_ l3 (l5 + 1) h
    else
    (rdR h n l0 9 2).bind fun v15 =>
    v15.bind fun a17 =>
    (ckq h n a17 2).bind fun u19 =>
    (q_X2_addUp K h n a17 l5).bind fun v21 =>
    (rdR v21 n l0 9 2).bind fun v23 =>
    v23.bind fun a25 =>
    (ckq v21 n a25 2).bind fun u27 =>
    (q_X2_lineTells K v21 n a25 (Int32.toInt64 l1)).bind fun v29 =>
    if (lg_cmp l3 (-1)) = 0 then
      lp_X10_endOfSpan_7 K n l0 l1 l2 k_ v29 (l5 + 1) v21
    else
    if l2 = 0 then
      if 0 ≤ (lg_cmp v29 l3) then
        lp_X10_endOfSpan_7 K n l0 l1 l2 k_ l3 (l5 + 1) v21
      else
      lp_X10_endOfSpan_7 K n l0 l1 l2 k_ v29 (l5 + 1) v21
    else
    if (lg_cmp v29 l3) ≤ 0 then
      lp_X10_endOfSpan_7 K n l0 l1 l2 k_ l3 (l5 + 1) v21
    else
    lp_X10_endOfSpan_7 K n l0 l1 l2 k_ v29 (l5 + 1) v21
def q_X10_endOfSpan (K : Nat) (h : mm_H) (n : Nat) (l0 : Nat) (l1 : Int32) (l2 : Int32) : Option (Int64 × mm_H) :=
  (lp_X10_endOfSpan_7 K n l0 l1 l2 K (-1) 0 h).bind fun v31 =>
  some (v31.1, v31.2)
set_option maxRecDepth 100000 in
set_option maxHeartbeats 4000000 in
theorem w_X10_endOfSpan_7 {K : Nat} {W0 : mm_X} {G : mm_G} {mc ms kc ks : Nat} {Q_ : State → Prop} {n : Nat} (C : mm_C W0 G cX10_endOfSpan yX10_endOfSpan.cls 8 mc ms (some .long) 3 yX10_endOfSpan.name) (hn : 48 ≤ n) (l0 : Nat) (l1 : Int32) (l2 : Int32) : ∀ (k_ : Nat) (l3 : Int64) (l5 : Int32) (h : mm_H) {r_ : Int64 × mm_H} (hr : lp_X10_endOfSpan_7 K n l0 l1 l2 k_ l3 l5 h = some r_) (hx0 : WW W0 G 8 mc ms Q_ 92 [none, none, none, some (.long r_.1), none, none, none, none] [] r_.2 n kc ks), WW W0 G 8 mc ms Q_ 7 [some (.ref l0), some (.int l1), some (.int l2), some (.long l3), none, some (.int l5), none, none] [] h n kc ks := by
  intro k_
  induction k_ with
  | zero =>
    intro l3 l5 h r_ hr
    cases hr
  | succ k_ ih_ =>
    intro l3 l5 h r_ hr hx0
    unfold lp_X10_endOfSpan_7 at hr
    refine rr_iload C dX10_endOfSpan_7 rfl ?_
    refine rr_aload_n (i := 0) C dX10_endOfSpan_9 rfl rfl ?_
    replace hr := Option.bind_eq_some_iff.mp hr
    obtain ⟨v1, e2, hr⟩ := hr
    refine rr_rdR C dX10_endOfSpan_10 fl_X10_12 e2 ?_
    replace hr := Option.bind_eq_some_iff.mp hr
    obtain ⟨a3, e4, hr⟩ := hr
    subst e4
    replace hr := Option.bind_eq_some_iff.mp hr
    obtain ⟨v5, e6, hr⟩ := hr
    refine rr_rdI C dX10_endOfSpan_13 fl_X10_292 e6 ?_
    refine rr_icmp_ge (tgt := 92) C dX10_endOfSpan_16 (by decide) (fun c16_ => ?_) (fun c16_ => ?_)
    · replace hr := (if_pos c16_).symm.trans hr
      obtain rfl := Option.some.inj hr
      exact rr_keep [false, false, false, true, false, false, false, false] (hx0)
    · replace hr := (if_neg c16_).symm.trans hr
      refine rr_aload_n (i := 0) C dX10_endOfSpan_19 rfl rfl ?_
      replace hr := Option.bind_eq_some_iff.mp hr
      obtain ⟨v7, e8, hr⟩ := hr
      refine rr_rdR C dX10_endOfSpan_20 fl_X10_28 e8 ?_
      refine rr_iload C dX10_endOfSpan_23 rfl ?_
      replace hr := Option.bind_eq_some_iff.mp hr
      obtain ⟨a9, e10, hr⟩ := hr
      subst e10
      replace hr := Option.bind_eq_some_iff.mp hr
      obtain ⟨u11, e12, hr⟩ := hr
      replace hr := Option.bind_eq_some_iff.mp hr
      obtain ⟨v13, e14, hr⟩ := hr
      refine rr_callVq (as := [.int l5]) (st := []) (mc' := 0) (ms' := 0) C dX10_endOfSpan_25 iv_X10_305 (by decide) e12 rfl (Nat.le_of_ble_eq_true rfl) (c_X2_has a9 l5 (by omega) e14) (fun v_ h_ n_ q_ => ?_)
      obtain ⟨q1_, q2_, q3_⟩ := q_
      subst v_; subst h_; subst n_
      show WW W0 G 8 _ _ _ 28 [some (.ref l0), some (.int l1), some (.int l2), some (.long l3), none, some (.int l5), none, none] [.int v13] h n _ _
      refine rr_if_ne (tgt := 34) C dX10_endOfSpan_28 (by decide) (fun c28_ => ?_) (fun c28_ => ?_)
      · replace hr := (if_neg c28_).symm.trans hr
        refine rr_aload_n (i := 0) C dX10_endOfSpan_34 rfl rfl ?_
        replace hr := Option.bind_eq_some_iff.mp hr
        obtain ⟨v15, e16, hr⟩ := hr
        refine rr_rdR C dX10_endOfSpan_35 fl_X10_28 e16 ?_
        refine rr_iload C dX10_endOfSpan_38 rfl ?_
        replace hr := Option.bind_eq_some_iff.mp hr
        obtain ⟨a17, e18, hr⟩ := hr
        subst e18
        replace hr := Option.bind_eq_some_iff.mp hr
        obtain ⟨u19, e20, hr⟩ := hr
        replace hr := Option.bind_eq_some_iff.mp hr
        obtain ⟨v21, e22, hr⟩ := hr
        refine rr_callVq (as := [.int l5]) (st := []) (mc' := 0) (ms' := 0) C dX10_endOfSpan_40 iv_X10_308 (by decide) e20 rfl (Nat.le_of_ble_eq_true rfl) (c_X2_addUp a17 l5 (by omega) e22) (fun v_ h_ n_ q_ => ?_)
        obtain ⟨q1_, q2_, q3_⟩ := q_
        subst v_; subst h_; subst n_
        show WW W0 G 8 _ _ _ 43 [some (.ref l0), some (.int l1), some (.int l2), some (.long l3), none, some (.int l5), none, none] [] v21 n _ _
        refine rr_aload_n (i := 0) C dX10_endOfSpan_43 rfl rfl ?_
        replace hr := Option.bind_eq_some_iff.mp hr
        obtain ⟨v23, e24, hr⟩ := hr
        refine rr_rdR C dX10_endOfSpan_44 fl_X10_28 e24 ?_
        refine rr_iload_n (i := 1) C dX10_endOfSpan_47 rfl rfl ?_
        refine rr_i2l C dX10_endOfSpan_48 ?_
        replace hr := Option.bind_eq_some_iff.mp hr
        obtain ⟨a25, e26, hr⟩ := hr
        subst e26
        replace hr := Option.bind_eq_some_iff.mp hr
        obtain ⟨u27, e28, hr⟩ := hr
        replace hr := Option.bind_eq_some_iff.mp hr
        obtain ⟨v29, e30, hr⟩ := hr
        refine rr_callVq (as := [.long (Int32.toInt64 l1)]) (st := []) (mc' := 0) (ms' := 0) C dX10_endOfSpan_49 iv_X10_262 (by decide) e28 rfl (Nat.le_of_ble_eq_true rfl) (c_X2_lineTells a25 (Int32.toInt64 l1) (by omega) e30) (fun v_ h_ n_ q_ => ?_)
        obtain ⟨q1_, q2_, q3_⟩ := q_
        subst v_; subst h_; subst n_
        show WW W0 G 8 _ _ _ 52 [some (.ref l0), some (.int l1), some (.int l2), some (.long l3), none, some (.int l5), none, none] [.long v29] v21 n _ _
        refine rr_lstore C dX10_endOfSpan_52 (by decide) ?_
        show WW W0 G 8 _ _ _ 54 [some (.ref l0), some (.int l1), some (.int l2), some (.long l3), none, some (.int l5), some (.long v29), none] [] v21 n _ _
        refine rr_lload_n (i := 3) C dX10_endOfSpan_54 rfl rfl ?_
        refine rr_ldc2 C dX10_endOfSpan_55 ct_X10_303 ?_
        refine rr_lcmp C dX10_endOfSpan_58 ?_
        refine rr_if_eq (tgt := 83) C dX10_endOfSpan_59 (by decide) (fun c59_ => ?_) (fun c59_ => ?_)
        · replace hr := (if_pos c59_).symm.trans hr
          refine rr_lload C dX10_endOfSpan_83 rfl ?_
          refine rr_lstore_n (i := 3) C dX10_endOfSpan_85 rfl (by decide) ?_
          show WW W0 G 8 _ _ _ 86 [some (.ref l0), some (.int l1), some (.int l2), some (.long v29), none, some (.int l5), some (.long v29), none] [] v21 n _ _
          refine rr_iinc (v := l5 + 1) C dX10_endOfSpan_86 rfl rfl ?_
          show WW W0 G 8 _ _ _ 89 [some (.ref l0), some (.int l1), some (.int l2), some (.long v29), none, some (.int (l5 + 1)), some (.long v29), none] [] v21 n _ _
          refine rr_goto (tgt := 7) C dX10_endOfSpan_89 (by decide) ?_
          exact rr_keep [true, true, true, true, false, true, false, false] (ih_ _ _ _ hr hx0)
        · replace hr := (if_neg c59_).symm.trans hr
          refine rr_iload_n (i := 2) C dX10_endOfSpan_62 rfl rfl ?_
          refine rr_if_eq (tgt := 76) C dX10_endOfSpan_63 (by decide) (fun c63_ => ?_) (fun c63_ => ?_)
          · replace hr := (if_pos c63_).symm.trans hr
            refine rr_lload C dX10_endOfSpan_76 rfl ?_
            refine rr_lload_n (i := 3) C dX10_endOfSpan_78 rfl rfl ?_
            refine rr_lcmp C dX10_endOfSpan_79 ?_
            refine rr_if_ge (tgt := 86) C dX10_endOfSpan_80 (by decide) (fun c80_ => ?_) (fun c80_ => ?_)
            · replace hr := (if_pos c80_).symm.trans hr
              refine rr_iinc (v := l5 + 1) C dX10_endOfSpan_86 rfl rfl ?_
              show WW W0 G 8 _ _ _ 89 [some (.ref l0), some (.int l1), some (.int l2), some (.long l3), none, some (.int (l5 + 1)), some (.long v29), none] [] v21 n _ _
              refine rr_goto (tgt := 7) C dX10_endOfSpan_89 (by decide) ?_
              exact rr_keep [true, true, true, true, false, true, false, false] (ih_ _ _ _ hr hx0)
            · replace hr := (if_neg c80_).symm.trans hr
              refine rr_lload C dX10_endOfSpan_83 rfl ?_
              refine rr_lstore_n (i := 3) C dX10_endOfSpan_85 rfl (by decide) ?_
              show WW W0 G 8 _ _ _ 86 [some (.ref l0), some (.int l1), some (.int l2), some (.long v29), none, some (.int l5), some (.long v29), none] [] v21 n _ _
              refine rr_iinc (v := l5 + 1) C dX10_endOfSpan_86 rfl rfl ?_
              show WW W0 G 8 _ _ _ 89 [some (.ref l0), some (.int l1), some (.int l2), some (.long v29), none, some (.int (l5 + 1)), some (.long v29), none] [] v21 n _ _
              refine rr_goto (tgt := 7) C dX10_endOfSpan_89 (by decide) ?_
              exact rr_keep [true, true, true, true, false, true, false, false] (ih_ _ _ _ hr hx0)
          · replace hr := (if_neg c63_).symm.trans hr
            refine rr_lload C dX10_endOfSpan_66 rfl ?_
            refine rr_lload_n (i := 3) C dX10_endOfSpan_68 rfl rfl ?_
            refine rr_lcmp C dX10_endOfSpan_69 ?_
            refine rr_if_le (tgt := 86) C dX10_endOfSpan_70 (by decide) (fun c70_ => ?_) (fun c70_ => ?_)
            · replace hr := (if_pos c70_).symm.trans hr
              refine rr_iinc (v := l5 + 1) C dX10_endOfSpan_86 rfl rfl ?_
              show WW W0 G 8 _ _ _ 89 [some (.ref l0), some (.int l1), some (.int l2), some (.long l3), none, some (.int (l5 + 1)), some (.long v29), none] [] v21 n _ _
              refine rr_goto (tgt := 7) C dX10_endOfSpan_89 (by decide) ?_
              exact rr_keep [true, true, true, true, false, true, false, false] (ih_ _ _ _ hr hx0)
            · replace hr := (if_neg c70_).symm.trans hr
              refine rr_goto (tgt := 83) C dX10_endOfSpan_73 (by decide) ?_
              refine rr_lload C dX10_endOfSpan_83 rfl ?_
              refine rr_lstore_n (i := 3) C dX10_endOfSpan_85 rfl (by decide) ?_
              show WW W0 G 8 _ _ _ 86 [some (.ref l0), some (.int l1), some (.int l2), some (.long v29), none, some (.int l5), some (.long v29), none] [] v21 n _ _
              refine rr_iinc (v := l5 + 1) C dX10_endOfSpan_86 rfl rfl ?_
              show WW W0 G 8 _ _ _ 89 [some (.ref l0), some (.int l1), some (.int l2), some (.long v29), none, some (.int (l5 + 1)), some (.long v29), none] [] v21 n _ _
              refine rr_goto (tgt := 7) C dX10_endOfSpan_89 (by decide) ?_
              exact rr_keep [true, true, true, true, false, true, false, false] (ih_ _ _ _ hr hx0)
      · replace hr := (if_pos c28_).symm.trans hr
        refine rr_goto (tgt := 86) C dX10_endOfSpan_31 (by decide) ?_
        refine rr_iinc (v := l5 + 1) C dX10_endOfSpan_86 rfl rfl ?_
        show WW W0 G 8 _ _ _ 89 [some (.ref l0), some (.int l1), some (.int l2), some (.long l3), none, some (.int (l5 + 1)), none, none] [] h n _ _
        refine rr_goto (tgt := 7) C dX10_endOfSpan_89 (by decide) ?_
        exact rr_keep [true, true, true, true, false, true, false, false] (ih_ _ _ _ hr hx0)
set_option maxRecDepth 100000 in
set_option maxHeartbeats 4000000 in
theorem c_X10_endOfSpan {K : Nat} {G : mm_G} {l : Launch} {h : mm_H} {n : Nat} (l0 : Nat) (l1 : Int32) (l2 : Int32) {r_ : Int64 × mm_H} (hn : 48 ≤ n) (hr : q_X10_endOfSpan K h n l0 l1 l2 = some r_) : Sp G l yX10_endOfSpan cX10_endOfSpan 8 (some .long) 3 0 0 [.ref l0, .int l1, .int l2] h n (fun v h' n' => v = some (.long r_.1) ∧ h' = r_.2 ∧ n' = n) := by
  refine Sp_of (by decide +kernel) (Nat.le_of_ble_eq_true rfl) hn ?_
  intro W0 hwl C
  subst hwl
  unfold q_X10_endOfSpan at hr
  show WW W0 G 8 0 0 _ 0 [some (.ref l0), some (.int l1), some (.int l2), none, none, none, none, none] [] h n 0 0
  refine rr_ldc2 C dX10_endOfSpan_0 ct_X10_303 ?_
  refine rr_lstore_n (i := 3) C dX10_endOfSpan_3 rfl (by decide) ?_
  show WW W0 G 8 _ _ _ 4 [some (.ref l0), some (.int l1), some (.int l2), some (.long (-1)), none, none, none, none] [] h n _ _
  refine rr_iconst (v := 0) C dX10_endOfSpan_4 (by decide) ?_
  refine rr_istore C dX10_endOfSpan_5 (by decide) ?_
  show WW W0 G 8 _ _ _ 7 [some (.ref l0), some (.int l1), some (.int l2), some (.long (-1)), none, some (.int 0), none, none] [] h n _ _
  replace hr := Option.bind_eq_some_iff.mp hr
  obtain ⟨v31, e32, hr⟩ := hr
  refine rr_keep [true, true, true, true, false, true, false, false] (w_X10_endOfSpan_7 C (by omega) l0 l1 l2 K (-1) 0 h e32 ?_)
  show WW W0 G 8 _ _ _ 92 [none, none, none, some (.long v31.1), none, none, none, none] [] v31.2 n _ _
  refine rr_lload_n (i := 3) C dX10_endOfSpan_92 rfl rfl ?_
  obtain rfl := Option.some.inj hr
  exact rr_lret C dX10_endOfSpan_93 rfl ⟨rfl, rfl, rfl⟩
def q_X10_span (K : Nat) (h : mm_H) (n : Nat) (l0 : Nat) (l1 : Int32) (l2 : Int32) (l3 : Int32) (l4 : Int32) (l5 : Int32) (l6 : Int32) : Option (Int32 × mm_H) :=
  (ckq h n l0 9).bind fun u1 =>
  (q_X10_isFirm K h n l0 l1).bind fun v3 =>
  if v3 = 0 then
    some ((-1), h)
  else
  (q_X10_isHead K h n l2).bind fun v5 =>
  if v5 = 0 then
    some ((-1), h)
  else
  (q_X10_isReview K h n l3).bind fun v7 =>
  if v7 = 0 then
    some ((-1), h)
  else
  (q_X10_isDriver K h n l4).bind fun v9 =>
  if v9 = 0 then
    some ((-1), h)
  else
  (q_X10_isWithin K h n l5 0 999).bind fun v11 =>
  if v11 = 0 then
    some ((-1), h)
  else
  (q_X10_isWithin K h n l6 0 2).bind fun v13 =>
  if v13 = 0 then
    some ((-1), h)
  else
  (rdR h n l0 9 2).bind fun v15 =>
  v15.bind fun a17 =>
  (ckq h n a17 2).bind fun u19 =>
  (q_X2_gather K h n a17 l1 l2 l3 l4).bind fun v21 =>
  (rdR v21 n l0 9 2).bind fun v23 =>
  v23.bind fun a25 =>
  (rdI v21 n a25 2 4).bind fun v27 =>
  if v27 = 0 then
    some ((-1), v21)
  else
  if l6 = 0 then
    (rdR v21 n l0 9 2).bind fun v29 =>
    v29.bind fun a31 =>
    (ckq v21 n a31 2).bind fun u33 =>
    (q_X2_lineTells K v21 n a31 (Int32.toInt64 l5)).bind fun v35 =>
    some (Int64.toInt32 v35, v21)
  else
  if l6 = 2 then
    (ckq v21 n l0 9).bind fun u37 =>
    (q_X10_endOfSpan K v21 n l0 l5 1).bind fun v39 =>
    some (Int64.toInt32 v39.1, v39.2)
  else
  (ckq v21 n l0 9).bind fun u41 =>
  (q_X10_endOfSpan K v21 n l0 l5 0).bind fun v43 =>
  some (Int64.toInt32 v43.1, v43.2)
set_option maxRecDepth 100000 in
set_option maxHeartbeats 4000000 in
theorem c_X10_span {K : Nat} {G : mm_G} {l : Launch} {h : mm_H} {n : Nat} (l0 : Nat) (l1 : Int32) (l2 : Int32) (l3 : Int32) (l4 : Int32) (l5 : Int32) (l6 : Int32) {r_ : Int32 × mm_H} (hn : 48 ≤ n) (hr : q_X10_span K h n l0 l1 l2 l3 l4 l5 l6 = some r_) : Sp G l yX10_span cX10_span 7 (some .int) 4 0 0 [.ref l0, .int l1, .int l2, .int l3, .int l4, .int l5, .int l6] h n (fun v h' n' => v = some (.int r_.1) ∧ h' = r_.2 ∧ n' = n) := by
  refine Sp_of (by decide +kernel) (Nat.le_of_ble_eq_true rfl) hn ?_
  intro W0 hwl C
  subst hwl
  unfold q_X10_span at hr
  show WW W0 G 7 0 0 _ 0 [some (.ref l0), some (.int l1), some (.int l2), some (.int l3), some (.int l4), some (.int l5), some (.int l6)] [] h n 0 0
  refine rr_aload_n (i := 0) C dX10_span_0 rfl rfl ?_
  refine rr_iload_n (i := 1) C dX10_span_1 rfl rfl ?_
  replace hr := Option.bind_eq_some_iff.mp hr
  obtain ⟨u1, e2, hr⟩ := hr
  replace hr := Option.bind_eq_some_iff.mp hr
  obtain ⟨v3, e4, hr⟩ := hr
  refine rr_callVq (as := [.int l1]) (st := []) (mc' := 0) (ms' := 0) C dX10_span_2 iv_X10_187 (by decide) e2 rfl (Nat.le_of_ble_eq_true rfl) (c_X10_isFirm l0 l1 (by omega) e4) (fun v_ h_ n_ q_ => ?_)
  obtain ⟨q1_, q2_, q3_⟩ := q_
  subst v_; subst h_; subst n_
  show WW W0 G 7 _ _ _ 5 [some (.ref l0), some (.int l1), some (.int l2), some (.int l3), some (.int l4), some (.int l5), some (.int l6)] [.int v3] h n _ _
  refine rr_if_eq (tgt := 52) C dX10_span_5 (by decide) (fun c5_ => ?_) (fun c5_ => ?_)
  · replace hr := (if_pos c5_).symm.trans hr
    refine rr_iconst (v := (-1)) C dX10_span_52 (by decide) ?_
    obtain rfl := Option.some.inj hr
    exact rr_iret (ty := .int) C dX10_span_53 rfl rfl ⟨rfl, rfl, rfl⟩
  · replace hr := (if_neg c5_).symm.trans hr
    refine rr_iload_n (i := 2) C dX10_span_8 rfl rfl ?_
    replace hr := Option.bind_eq_some_iff.mp hr
    obtain ⟨v5, e6, hr⟩ := hr
    refine rr_callS (as := [.int l2]) (st := []) (mc' := 0) (ms' := 0) C dX10_span_9 it_X10_106 (by decide) (Nat.le_of_ble_eq_true rfl) (c_X10_isHead l2 (by omega) e6) (fun v_ h_ n_ q_ => ?_)
    obtain ⟨q1_, q2_, q3_⟩ := q_
    subst v_; subst h_; subst n_
    show WW W0 G 7 _ _ _ 12 [some (.ref l0), some (.int l1), some (.int l2), some (.int l3), some (.int l4), some (.int l5), some (.int l6)] [.int v5] h n _ _
    refine rr_if_eq (tgt := 52) C dX10_span_12 (by decide) (fun c12_ => ?_) (fun c12_ => ?_)
    · replace hr := (if_pos c12_).symm.trans hr
      refine rr_iconst (v := (-1)) C dX10_span_52 (by decide) ?_
      obtain rfl := Option.some.inj hr
      exact rr_iret (ty := .int) C dX10_span_53 rfl rfl ⟨rfl, rfl, rfl⟩
    · replace hr := (if_neg c12_).symm.trans hr
      refine rr_iload_n (i := 3) C dX10_span_15 rfl rfl ?_
      replace hr := Option.bind_eq_some_iff.mp hr
      obtain ⟨v7, e8, hr⟩ := hr
      refine rr_callS (as := [.int l3]) (st := []) (mc' := 0) (ms' := 0) C dX10_span_16 it_X10_126 (by decide) (Nat.le_of_ble_eq_true rfl) (c_X10_isReview l3 (by omega) e8) (fun v_ h_ n_ q_ => ?_)
      obtain ⟨q1_, q2_, q3_⟩ := q_
      subst v_; subst h_; subst n_
      show WW W0 G 7 _ _ _ 19 [some (.ref l0), some (.int l1), some (.int l2), some (.int l3), some (.int l4), some (.int l5), some (.int l6)] [.int v7] h n _ _
      refine rr_if_eq (tgt := 52) C dX10_span_19 (by decide) (fun c19_ => ?_) (fun c19_ => ?_)
      · replace hr := (if_pos c19_).symm.trans hr
        refine rr_iconst (v := (-1)) C dX10_span_52 (by decide) ?_
        obtain rfl := Option.some.inj hr
        exact rr_iret (ty := .int) C dX10_span_53 rfl rfl ⟨rfl, rfl, rfl⟩
      · replace hr := (if_neg c19_).symm.trans hr
        refine rr_iload C dX10_span_22 rfl ?_
        replace hr := Option.bind_eq_some_iff.mp hr
        obtain ⟨v9, e10, hr⟩ := hr
        refine rr_callS (as := [.int l4]) (st := []) (mc' := 0) (ms' := 0) C dX10_span_24 it_X10_190 (by decide) (Nat.le_of_ble_eq_true rfl) (c_X10_isDriver l4 (by omega) e10) (fun v_ h_ n_ q_ => ?_)
        obtain ⟨q1_, q2_, q3_⟩ := q_
        subst v_; subst h_; subst n_
        show WW W0 G 7 _ _ _ 27 [some (.ref l0), some (.int l1), some (.int l2), some (.int l3), some (.int l4), some (.int l5), some (.int l6)] [.int v9] h n _ _
        refine rr_if_eq (tgt := 52) C dX10_span_27 (by decide) (fun c27_ => ?_) (fun c27_ => ?_)
        · replace hr := (if_pos c27_).symm.trans hr
          refine rr_iconst (v := (-1)) C dX10_span_52 (by decide) ?_
          obtain rfl := Option.some.inj hr
          exact rr_iret (ty := .int) C dX10_span_53 rfl rfl ⟨rfl, rfl, rfl⟩
        · replace hr := (if_neg c27_).symm.trans hr
          refine rr_iload C dX10_span_30 rfl ?_
          refine rr_iconst (v := 0) C dX10_span_32 (by decide) ?_
          refine rr_sipush (v := 999) C dX10_span_33 (by decide) ?_
          replace hr := Option.bind_eq_some_iff.mp hr
          obtain ⟨v11, e12, hr⟩ := hr
          refine rr_callS (as := [.int l5, .int 0, .int 999]) (st := []) (mc' := 0) (ms' := 0) C dX10_span_36 it_X10_60 (by decide) (Nat.le_of_ble_eq_true rfl) (c_X10_isWithin l5 0 999 (by omega) e12) (fun v_ h_ n_ q_ => ?_)
          obtain ⟨q1_, q2_, q3_⟩ := q_
          subst v_; subst h_; subst n_
          show WW W0 G 7 _ _ _ 39 [some (.ref l0), some (.int l1), some (.int l2), some (.int l3), some (.int l4), some (.int l5), some (.int l6)] [.int v11] h n _ _
          refine rr_if_eq (tgt := 52) C dX10_span_39 (by decide) (fun c39_ => ?_) (fun c39_ => ?_)
          · replace hr := (if_pos c39_).symm.trans hr
            refine rr_iconst (v := (-1)) C dX10_span_52 (by decide) ?_
            obtain rfl := Option.some.inj hr
            exact rr_iret (ty := .int) C dX10_span_53 rfl rfl ⟨rfl, rfl, rfl⟩
          · replace hr := (if_neg c39_).symm.trans hr
            refine rr_iload C dX10_span_42 rfl ?_
            refine rr_iconst (v := 0) C dX10_span_44 (by decide) ?_
            refine rr_iconst (v := 2) C dX10_span_45 (by decide) ?_
            replace hr := Option.bind_eq_some_iff.mp hr
            obtain ⟨v13, e14, hr⟩ := hr
            refine rr_callS (as := [.int l6, .int 0, .int 2]) (st := []) (mc' := 0) (ms' := 0) C dX10_span_46 it_X10_60 (by decide) (Nat.le_of_ble_eq_true rfl) (c_X10_isWithin l6 0 2 (by omega) e14) (fun v_ h_ n_ q_ => ?_)
            obtain ⟨q1_, q2_, q3_⟩ := q_
            subst v_; subst h_; subst n_
            show WW W0 G 7 _ _ _ 49 [some (.ref l0), some (.int l1), some (.int l2), some (.int l3), some (.int l4), some (.int l5), some (.int l6)] [.int v13] h n _ _
            refine rr_if_ne (tgt := 54) C dX10_span_49 (by decide) (fun c49_ => ?_) (fun c49_ => ?_)
            · replace hr := (if_neg c49_).symm.trans hr
              refine rr_aload_n (i := 0) C dX10_span_54 rfl rfl ?_
              replace hr := Option.bind_eq_some_iff.mp hr
              obtain ⟨v15, e16, hr⟩ := hr
              refine rr_rdR C dX10_span_55 fl_X10_28 e16 ?_
              refine rr_iload_n (i := 1) C dX10_span_58 rfl rfl ?_
              refine rr_iload_n (i := 2) C dX10_span_59 rfl rfl ?_
              refine rr_iload_n (i := 3) C dX10_span_60 rfl rfl ?_
              refine rr_iload C dX10_span_61 rfl ?_
              replace hr := Option.bind_eq_some_iff.mp hr
              obtain ⟨a17, e18, hr⟩ := hr
              subst e18
              replace hr := Option.bind_eq_some_iff.mp hr
              obtain ⟨u19, e20, hr⟩ := hr
              replace hr := Option.bind_eq_some_iff.mp hr
              obtain ⟨v21, e22, hr⟩ := hr
              refine rr_callVq (as := [.int l1, .int l2, .int l3, .int l4]) (st := []) (mc' := 0) (ms' := 0) C dX10_span_63 iv_X10_193 (by decide) e20 rfl (Nat.le_of_ble_eq_true rfl) (c_X2_gather a17 l1 l2 l3 l4 (by omega) e22) (fun v_ h_ n_ q_ => ?_)
              obtain ⟨q1_, q2_, q3_⟩ := q_
              subst v_; subst h_; subst n_
              show WW W0 G 7 _ _ _ 66 [some (.ref l0), some (.int l1), some (.int l2), some (.int l3), some (.int l4), some (.int l5), some (.int l6)] [] v21 n _ _
              refine rr_aload_n (i := 0) C dX10_span_66 rfl rfl ?_
              replace hr := Option.bind_eq_some_iff.mp hr
              obtain ⟨v23, e24, hr⟩ := hr
              refine rr_rdR C dX10_span_67 fl_X10_28 e24 ?_
              replace hr := Option.bind_eq_some_iff.mp hr
              obtain ⟨a25, e26, hr⟩ := hr
              subst e26
              replace hr := Option.bind_eq_some_iff.mp hr
              obtain ⟨v27, e28, hr⟩ := hr
              refine rr_rdI C dX10_span_70 fl_X10_197 e28 ?_
              refine rr_if_ne (tgt := 78) C dX10_span_73 (by decide) (fun c73_ => ?_) (fun c73_ => ?_)
              · replace hr := (if_neg c73_).symm.trans hr
                refine rr_iload C dX10_span_78 rfl ?_
                refine rr_if_ne (tgt := 95) C dX10_span_80 (by decide) (fun c80_ => ?_) (fun c80_ => ?_)
                · replace hr := (if_neg c80_).symm.trans hr
                  refine rr_aload_n (i := 0) C dX10_span_95 rfl rfl ?_
                  refine rr_iload C dX10_span_96 rfl ?_
                  refine rr_iload C dX10_span_98 rfl ?_
                  refine rr_iconst (v := 2) C dX10_span_100 (by decide) ?_
                  refine rr_icmp_ne (tgt := 108) C dX10_span_101 (by decide) (fun c101_ => ?_) (fun c101_ => ?_)
                  · replace hr := (if_neg c101_).symm.trans hr
                    refine rr_iconst (v := 0) C dX10_span_108 (by decide) ?_
                    replace hr := Option.bind_eq_some_iff.mp hr
                    obtain ⟨u41, e42, hr⟩ := hr
                    replace hr := Option.bind_eq_some_iff.mp hr
                    obtain ⟨v43, e44, hr⟩ := hr
                    refine rr_callVq (as := [.int l5, .int 0]) (st := []) (mc' := 0) (ms' := 0) C dX10_span_109 iv_X10_266 (by decide) e42 rfl (Nat.le_of_ble_eq_true rfl) (c_X10_endOfSpan l0 l5 0 (by omega) e44) (fun v_ h_ n_ q_ => ?_)
                    obtain ⟨q1_, q2_, q3_⟩ := q_
                    subst v_; subst h_; subst n_
                    show WW W0 G 7 _ _ _ 112 [some (.ref l0), some (.int l1), some (.int l2), some (.int l3), some (.int l4), some (.int l5), some (.int l6)] [.long v43.1] v43.2 n _ _
                    refine rr_l2i C dX10_span_112 ?_
                    obtain rfl := Option.some.inj hr
                    exact rr_iret (ty := .int) C dX10_span_113 rfl rfl ⟨rfl, rfl, rfl⟩
                  · replace hr := (if_pos c101_).symm.trans hr
                    refine rr_iconst (v := 1) C dX10_span_104 (by decide) ?_
                    refine rr_goto (tgt := 109) C dX10_span_105 (by decide) ?_
                    replace hr := Option.bind_eq_some_iff.mp hr
                    obtain ⟨u37, e38, hr⟩ := hr
                    replace hr := Option.bind_eq_some_iff.mp hr
                    obtain ⟨v39, e40, hr⟩ := hr
                    refine rr_callVq (as := [.int l5, .int 1]) (st := []) (mc' := 0) (ms' := 0) C dX10_span_109 iv_X10_266 (by decide) e38 rfl (Nat.le_of_ble_eq_true rfl) (c_X10_endOfSpan l0 l5 1 (by omega) e40) (fun v_ h_ n_ q_ => ?_)
                    obtain ⟨q1_, q2_, q3_⟩ := q_
                    subst v_; subst h_; subst n_
                    show WW W0 G 7 _ _ _ 112 [some (.ref l0), some (.int l1), some (.int l2), some (.int l3), some (.int l4), some (.int l5), some (.int l6)] [.long v39.1] v39.2 n _ _
                    refine rr_l2i C dX10_span_112 ?_
                    obtain rfl := Option.some.inj hr
                    exact rr_iret (ty := .int) C dX10_span_113 rfl rfl ⟨rfl, rfl, rfl⟩
                · replace hr := (if_pos c80_).symm.trans hr
                  refine rr_aload_n (i := 0) C dX10_span_83 rfl rfl ?_
                  replace hr := Option.bind_eq_some_iff.mp hr
                  obtain ⟨v29, e30, hr⟩ := hr
                  refine rr_rdR C dX10_span_84 fl_X10_28 e30 ?_
                  refine rr_iload C dX10_span_87 rfl ?_
                  refine rr_i2l C dX10_span_89 ?_
                  replace hr := Option.bind_eq_some_iff.mp hr
                  obtain ⟨a31, e32, hr⟩ := hr
                  subst e32
                  replace hr := Option.bind_eq_some_iff.mp hr
                  obtain ⟨u33, e34, hr⟩ := hr
                  replace hr := Option.bind_eq_some_iff.mp hr
                  obtain ⟨v35, e36, hr⟩ := hr
                  refine rr_callVq (as := [.long (Int32.toInt64 l5)]) (st := []) (mc' := 0) (ms' := 0) C dX10_span_90 iv_X10_262 (by decide) e34 rfl (Nat.le_of_ble_eq_true rfl) (c_X2_lineTells a31 (Int32.toInt64 l5) (by omega) e36) (fun v_ h_ n_ q_ => ?_)
                  obtain ⟨q1_, q2_, q3_⟩ := q_
                  subst v_; subst h_; subst n_
                  show WW W0 G 7 _ _ _ 93 [some (.ref l0), some (.int l1), some (.int l2), some (.int l3), some (.int l4), some (.int l5), some (.int l6)] [.long v35] v21 n _ _
                  refine rr_l2i C dX10_span_93 ?_
                  obtain rfl := Option.some.inj hr
                  exact rr_iret (ty := .int) C dX10_span_94 rfl rfl ⟨rfl, rfl, rfl⟩
              · replace hr := (if_pos c73_).symm.trans hr
                refine rr_iconst (v := (-1)) C dX10_span_76 (by decide) ?_
                obtain rfl := Option.some.inj hr
                exact rr_iret (ty := .int) C dX10_span_77 rfl rfl ⟨rfl, rfl, rfl⟩
            · replace hr := (if_pos c49_).symm.trans hr
              refine rr_iconst (v := (-1)) C dX10_span_52 (by decide) ?_
              obtain rfl := Option.some.inj hr
              exact rr_iret (ty := .int) C dX10_span_53 rfl rfl ⟨rfl, rfl, rfl⟩
def lp_X10_moves_33 (K : Nat) (n : Nat) (l0 : Nat) (l1 : Int32) (l2 : Int32) (l3 : Int32) : Nat → Int32 → Int64 → Int32 → mm_H → Option (Int32 × mm_H)
  | 0, _, _, _, _ => none
  | k_ + 1, l4, l5, l7, h =>
    if 3 ≤ l7 then
      some (l4, h)
    else
    (rdR h n l0 9 2).bind fun v9 =>
    v9.bind fun a11 =>
    (ckq h n a11 2).bind fun u13 =>
    (q_X2_gather K h n a11 l1 l2 l3 l7).bind fun v15 =>
    (rdR v15 n l0 9 2).bind fun v17 =>
    v17.bind fun a19 =>
    (rdI v15 n a19 2 4).bind fun v21 =>
    if v21 = 0 then
      lp_X10_moves_33 K n l0 l1 l2 l3 k_ l4 l5 (l7 + 1) v15
    else
    (rdR v15 n l0 9 2).bind fun v23 =>
    v23.bind fun a25 =>
    (ckq v15 n a25 2).bind fun u27 =>
    (q_X2_missedByLine K v15 n a25).bind fun v29 =>
    if l4 = (-1) then
      lp_X10_moves_33 K n l0 l1 l2 l3 k_ l7 v29 (l7 + 1) v15
    else
    if 0 ≤ (lg_cmp v29 l5) then
      lp_X10_moves_33 K n l0 l1 l2 l3 k_ l4 l5 (l7 + 1) v15
    else
    lp_X10_moves_33 K n l0 l1 l2 l3 k_ l7 v29 (l7 + 1) v15
def q_X10_moves (K : Nat) (h : mm_H) (n : Nat) (l0 : Nat) (l1 : Int32) (l2 : Int32) (l3 : Int32) : Option (Int32 × mm_H) :=
  (ckq h n l0 9).bind fun u1 =>
  (q_X10_isFirm K h n l0 l1).bind fun v3 =>
  if v3 = 0 then
    some ((-1), h)
  else
  (q_X10_isHead K h n l2).bind fun v5 =>
  if v5 = 0 then
    some ((-1), h)
  else
  (q_X10_isReview K h n l3).bind fun v7 =>
  if v7 = 0 then
    some ((-1), h)
  else
  (lp_X10_moves_33 K n l0 l1 l2 l3 K (-1) 0 0 h).bind fun v31 =>
  some (v31.1, v31.2)
set_option maxRecDepth 100000 in
set_option maxHeartbeats 4000000 in
theorem w_X10_moves_33 {K : Nat} {W0 : mm_X} {G : mm_G} {mc ms kc ks : Nat} {Q_ : State → Prop} {n : Nat} (C : mm_C W0 G cX10_moves yX10_moves.cls 10 mc ms (some .int) 4 yX10_moves.name) (hn : 48 ≤ n) (l0 : Nat) (l1 : Int32) (l2 : Int32) (l3 : Int32) : ∀ (k_ : Nat) (l4 : Int32) (l5 : Int64) (l7 : Int32) (h : mm_H) {r_ : Int32 × mm_H} (hr : lp_X10_moves_33 K n l0 l1 l2 l3 k_ l4 l5 l7 h = some r_) (hx0 : WW W0 G 10 mc ms Q_ 101 [none, none, none, none, some (.int r_.1), none, none, none, none, none] [] r_.2 n kc ks), WW W0 G 10 mc ms Q_ 33 [some (.ref l0), some (.int l1), some (.int l2), some (.int l3), some (.int l4), some (.long l5), none, some (.int l7), none, none] [] h n kc ks := by
  intro k_
  induction k_ with
  | zero =>
    intro l4 l5 l7 h r_ hr
    cases hr
  | succ k_ ih_ =>
    intro l4 l5 l7 h r_ hr hx0
    unfold lp_X10_moves_33 at hr
    refine rr_iload C dX10_moves_33 rfl ?_
    refine rr_iconst (v := 3) C dX10_moves_35 (by decide) ?_
    refine rr_icmp_ge (tgt := 101) C dX10_moves_36 (by decide) (fun c36_ => ?_) (fun c36_ => ?_)
    · replace hr := (if_pos c36_).symm.trans hr
      obtain rfl := Option.some.inj hr
      exact rr_keep [false, false, false, false, true, false, false, false, false, false] (hx0)
    · replace hr := (if_neg c36_).symm.trans hr
      refine rr_aload_n (i := 0) C dX10_moves_39 rfl rfl ?_
      replace hr := Option.bind_eq_some_iff.mp hr
      obtain ⟨v9, e10, hr⟩ := hr
      refine rr_rdR C dX10_moves_40 fl_X10_28 e10 ?_
      refine rr_iload_n (i := 1) C dX10_moves_43 rfl rfl ?_
      refine rr_iload_n (i := 2) C dX10_moves_44 rfl rfl ?_
      refine rr_iload_n (i := 3) C dX10_moves_45 rfl rfl ?_
      refine rr_iload C dX10_moves_46 rfl ?_
      replace hr := Option.bind_eq_some_iff.mp hr
      obtain ⟨a11, e12, hr⟩ := hr
      subst e12
      replace hr := Option.bind_eq_some_iff.mp hr
      obtain ⟨u13, e14, hr⟩ := hr
      replace hr := Option.bind_eq_some_iff.mp hr
      obtain ⟨v15, e16, hr⟩ := hr
      refine rr_callVq (as := [.int l1, .int l2, .int l3, .int l7]) (st := []) (mc' := 0) (ms' := 0) C dX10_moves_48 iv_X10_193 (by decide) e14 rfl (Nat.le_of_ble_eq_true rfl) (c_X2_gather a11 l1 l2 l3 l7 (by omega) e16) (fun v_ h_ n_ q_ => ?_)
      obtain ⟨q1_, q2_, q3_⟩ := q_
      subst v_; subst h_; subst n_
      show WW W0 G 10 _ _ _ 51 [some (.ref l0), some (.int l1), some (.int l2), some (.int l3), some (.int l4), some (.long l5), none, some (.int l7), none, none] [] v15 n _ _
      refine rr_aload_n (i := 0) C dX10_moves_51 rfl rfl ?_
      replace hr := Option.bind_eq_some_iff.mp hr
      obtain ⟨v17, e18, hr⟩ := hr
      refine rr_rdR C dX10_moves_52 fl_X10_28 e18 ?_
      replace hr := Option.bind_eq_some_iff.mp hr
      obtain ⟨a19, e20, hr⟩ := hr
      subst e20
      replace hr := Option.bind_eq_some_iff.mp hr
      obtain ⟨v21, e22, hr⟩ := hr
      refine rr_rdI C dX10_moves_55 fl_X10_197 e22 ?_
      refine rr_if_ne (tgt := 64) C dX10_moves_58 (by decide) (fun c58_ => ?_) (fun c58_ => ?_)
      · replace hr := (if_neg c58_).symm.trans hr
        refine rr_aload_n (i := 0) C dX10_moves_64 rfl rfl ?_
        replace hr := Option.bind_eq_some_iff.mp hr
        obtain ⟨v23, e24, hr⟩ := hr
        refine rr_rdR C dX10_moves_65 fl_X10_28 e24 ?_
        replace hr := Option.bind_eq_some_iff.mp hr
        obtain ⟨a25, e26, hr⟩ := hr
        subst e26
        replace hr := Option.bind_eq_some_iff.mp hr
        obtain ⟨u27, e28, hr⟩ := hr
        replace hr := Option.bind_eq_some_iff.mp hr
        obtain ⟨v29, e30, hr⟩ := hr
        refine rr_callVq (as := []) (st := []) (mc' := 0) (ms' := 0) C dX10_moves_68 iv_X10_270 (by decide) e28 rfl (Nat.le_of_ble_eq_true rfl) (c_X2_missedByLine a25 (by omega) e30) (fun v_ h_ n_ q_ => ?_)
        obtain ⟨q1_, q2_, q3_⟩ := q_
        subst v_; subst h_; subst n_
        show WW W0 G 10 _ _ _ 71 [some (.ref l0), some (.int l1), some (.int l2), some (.int l3), some (.int l4), some (.long l5), none, some (.int l7), none, none] [.long v29] v15 n _ _
        refine rr_lstore C dX10_moves_71 (by decide) ?_
        show WW W0 G 10 _ _ _ 73 [some (.ref l0), some (.int l1), some (.int l2), some (.int l3), some (.int l4), some (.long l5), none, some (.int l7), some (.long v29), none] [] v15 n _ _
        refine rr_iload C dX10_moves_73 rfl ?_
        refine rr_iconst (v := (-1)) C dX10_moves_75 (by decide) ?_
        refine rr_icmp_eq (tgt := 87) C dX10_moves_76 (by decide) (fun c76_ => ?_) (fun c76_ => ?_)
        · replace hr := (if_pos c76_).symm.trans hr
          refine rr_iload C dX10_moves_87 rfl ?_
          refine rr_istore C dX10_moves_89 (by decide) ?_
          show WW W0 G 10 _ _ _ 91 [some (.ref l0), some (.int l1), some (.int l2), some (.int l3), some (.int l7), some (.long l5), none, some (.int l7), some (.long v29), none] [] v15 n _ _
          refine rr_lload C dX10_moves_91 rfl ?_
          refine rr_lstore C dX10_moves_93 (by decide) ?_
          show WW W0 G 10 _ _ _ 95 [some (.ref l0), some (.int l1), some (.int l2), some (.int l3), some (.int l7), some (.long v29), none, some (.int l7), some (.long v29), none] [] v15 n _ _
          refine rr_iinc (v := l7 + 1) C dX10_moves_95 rfl rfl ?_
          show WW W0 G 10 _ _ _ 98 [some (.ref l0), some (.int l1), some (.int l2), some (.int l3), some (.int l7), some (.long v29), none, some (.int (l7 + 1)), some (.long v29), none] [] v15 n _ _
          refine rr_goto (tgt := 33) C dX10_moves_98 (by decide) ?_
          exact rr_keep [true, true, true, true, true, true, false, true, false, false] (ih_ _ _ _ _ hr hx0)
        · replace hr := (if_neg c76_).symm.trans hr
          refine rr_lload C dX10_moves_79 rfl ?_
          refine rr_lload C dX10_moves_81 rfl ?_
          refine rr_lcmp C dX10_moves_83 ?_
          refine rr_if_ge (tgt := 95) C dX10_moves_84 (by decide) (fun c84_ => ?_) (fun c84_ => ?_)
          · replace hr := (if_pos c84_).symm.trans hr
            refine rr_iinc (v := l7 + 1) C dX10_moves_95 rfl rfl ?_
            show WW W0 G 10 _ _ _ 98 [some (.ref l0), some (.int l1), some (.int l2), some (.int l3), some (.int l4), some (.long l5), none, some (.int (l7 + 1)), some (.long v29), none] [] v15 n _ _
            refine rr_goto (tgt := 33) C dX10_moves_98 (by decide) ?_
            exact rr_keep [true, true, true, true, true, true, false, true, false, false] (ih_ _ _ _ _ hr hx0)
          · replace hr := (if_neg c84_).symm.trans hr
            refine rr_iload C dX10_moves_87 rfl ?_
            refine rr_istore C dX10_moves_89 (by decide) ?_
            show WW W0 G 10 _ _ _ 91 [some (.ref l0), some (.int l1), some (.int l2), some (.int l3), some (.int l7), some (.long l5), none, some (.int l7), some (.long v29), none] [] v15 n _ _
            refine rr_lload C dX10_moves_91 rfl ?_
            refine rr_lstore C dX10_moves_93 (by decide) ?_
            show WW W0 G 10 _ _ _ 95 [some (.ref l0), some (.int l1), some (.int l2), some (.int l3), some (.int l7), some (.long v29), none, some (.int l7), some (.long v29), none] [] v15 n _ _
            refine rr_iinc (v := l7 + 1) C dX10_moves_95 rfl rfl ?_
            show WW W0 G 10 _ _ _ 98 [some (.ref l0), some (.int l1), some (.int l2), some (.int l3), some (.int l7), some (.long v29), none, some (.int (l7 + 1)), some (.long v29), none] [] v15 n _ _
            refine rr_goto (tgt := 33) C dX10_moves_98 (by decide) ?_
            exact rr_keep [true, true, true, true, true, true, false, true, false, false] (ih_ _ _ _ _ hr hx0)
      · replace hr := (if_pos c58_).symm.trans hr
        refine rr_goto (tgt := 95) C dX10_moves_61 (by decide) ?_
        refine rr_iinc (v := l7 + 1) C dX10_moves_95 rfl rfl ?_
        show WW W0 G 10 _ _ _ 98 [some (.ref l0), some (.int l1), some (.int l2), some (.int l3), some (.int l4), some (.long l5), none, some (.int (l7 + 1)), none, none] [] v15 n _ _
        refine rr_goto (tgt := 33) C dX10_moves_98 (by decide) ?_
        exact rr_keep [true, true, true, true, true, true, false, true, false, false] (ih_ _ _ _ _ hr hx0)
set_option maxRecDepth 100000 in
set_option maxHeartbeats 4000000 in
theorem c_X10_moves {K : Nat} {G : mm_G} {l : Launch} {h : mm_H} {n : Nat} (l0 : Nat) (l1 : Int32) (l2 : Int32) (l3 : Int32) {r_ : Int32 × mm_H} (hn : 48 ≤ n) (hr : q_X10_moves K h n l0 l1 l2 l3 = some r_) : Sp G l yX10_moves cX10_moves 10 (some .int) 4 0 0 [.ref l0, .int l1, .int l2, .int l3] h n (fun v h' n' => v = some (.int r_.1) ∧ h' = r_.2 ∧ n' = n) := by
  refine Sp_of (by decide +kernel) (Nat.le_of_ble_eq_true rfl) hn ?_
  intro W0 hwl C
  subst hwl
  unfold q_X10_moves at hr
  show WW W0 G 10 0 0 _ 0 [some (.ref l0), some (.int l1), some (.int l2), some (.int l3), none, none, none, none, none, none] [] h n 0 0
  refine rr_aload_n (i := 0) C dX10_moves_0 rfl rfl ?_
  refine rr_iload_n (i := 1) C dX10_moves_1 rfl rfl ?_
  replace hr := Option.bind_eq_some_iff.mp hr
  obtain ⟨u1, e2, hr⟩ := hr
  replace hr := Option.bind_eq_some_iff.mp hr
  obtain ⟨v3, e4, hr⟩ := hr
  refine rr_callVq (as := [.int l1]) (st := []) (mc' := 0) (ms' := 0) C dX10_moves_2 iv_X10_187 (by decide) e2 rfl (Nat.le_of_ble_eq_true rfl) (c_X10_isFirm l0 l1 (by omega) e4) (fun v_ h_ n_ q_ => ?_)
  obtain ⟨q1_, q2_, q3_⟩ := q_
  subst v_; subst h_; subst n_
  show WW W0 G 10 _ _ _ 5 [some (.ref l0), some (.int l1), some (.int l2), some (.int l3), none, none, none, none, none, none] [.int v3] h n _ _
  refine rr_if_eq (tgt := 22) C dX10_moves_5 (by decide) (fun c5_ => ?_) (fun c5_ => ?_)
  · replace hr := (if_pos c5_).symm.trans hr
    refine rr_iconst (v := (-1)) C dX10_moves_22 (by decide) ?_
    obtain rfl := Option.some.inj hr
    exact rr_iret (ty := .int) C dX10_moves_23 rfl rfl ⟨rfl, rfl, rfl⟩
  · replace hr := (if_neg c5_).symm.trans hr
    refine rr_iload_n (i := 2) C dX10_moves_8 rfl rfl ?_
    replace hr := Option.bind_eq_some_iff.mp hr
    obtain ⟨v5, e6, hr⟩ := hr
    refine rr_callS (as := [.int l2]) (st := []) (mc' := 0) (ms' := 0) C dX10_moves_9 it_X10_106 (by decide) (Nat.le_of_ble_eq_true rfl) (c_X10_isHead l2 (by omega) e6) (fun v_ h_ n_ q_ => ?_)
    obtain ⟨q1_, q2_, q3_⟩ := q_
    subst v_; subst h_; subst n_
    show WW W0 G 10 _ _ _ 12 [some (.ref l0), some (.int l1), some (.int l2), some (.int l3), none, none, none, none, none, none] [.int v5] h n _ _
    refine rr_if_eq (tgt := 22) C dX10_moves_12 (by decide) (fun c12_ => ?_) (fun c12_ => ?_)
    · replace hr := (if_pos c12_).symm.trans hr
      refine rr_iconst (v := (-1)) C dX10_moves_22 (by decide) ?_
      obtain rfl := Option.some.inj hr
      exact rr_iret (ty := .int) C dX10_moves_23 rfl rfl ⟨rfl, rfl, rfl⟩
    · replace hr := (if_neg c12_).symm.trans hr
      refine rr_iload_n (i := 3) C dX10_moves_15 rfl rfl ?_
      replace hr := Option.bind_eq_some_iff.mp hr
      obtain ⟨v7, e8, hr⟩ := hr
      refine rr_callS (as := [.int l3]) (st := []) (mc' := 0) (ms' := 0) C dX10_moves_16 it_X10_126 (by decide) (Nat.le_of_ble_eq_true rfl) (c_X10_isReview l3 (by omega) e8) (fun v_ h_ n_ q_ => ?_)
      obtain ⟨q1_, q2_, q3_⟩ := q_
      subst v_; subst h_; subst n_
      show WW W0 G 10 _ _ _ 19 [some (.ref l0), some (.int l1), some (.int l2), some (.int l3), none, none, none, none, none, none] [.int v7] h n _ _
      refine rr_if_ne (tgt := 24) C dX10_moves_19 (by decide) (fun c19_ => ?_) (fun c19_ => ?_)
      · replace hr := (if_neg c19_).symm.trans hr
        refine rr_iconst (v := (-1)) C dX10_moves_24 (by decide) ?_
        refine rr_istore C dX10_moves_25 (by decide) ?_
        show WW W0 G 10 _ _ _ 27 [some (.ref l0), some (.int l1), some (.int l2), some (.int l3), some (.int (-1)), none, none, none, none, none] [] h n _ _
        refine rr_lconst (v := 0) C dX10_moves_27 (by decide) ?_
        refine rr_lstore C dX10_moves_28 (by decide) ?_
        show WW W0 G 10 _ _ _ 30 [some (.ref l0), some (.int l1), some (.int l2), some (.int l3), some (.int (-1)), some (.long 0), none, none, none, none] [] h n _ _
        refine rr_iconst (v := 0) C dX10_moves_30 (by decide) ?_
        refine rr_istore C dX10_moves_31 (by decide) ?_
        show WW W0 G 10 _ _ _ 33 [some (.ref l0), some (.int l1), some (.int l2), some (.int l3), some (.int (-1)), some (.long 0), none, some (.int 0), none, none] [] h n _ _
        replace hr := Option.bind_eq_some_iff.mp hr
        obtain ⟨v31, e32, hr⟩ := hr
        refine rr_keep [true, true, true, true, true, true, false, true, false, false] (w_X10_moves_33 C (by omega) l0 l1 l2 l3 K (-1) 0 0 h e32 ?_)
        show WW W0 G 10 _ _ _ 101 [none, none, none, none, some (.int v31.1), none, none, none, none, none] [] v31.2 n _ _
        refine rr_iload C dX10_moves_101 rfl ?_
        obtain rfl := Option.some.inj hr
        exact rr_iret (ty := .int) C dX10_moves_103 rfl rfl ⟨rfl, rfl, rfl⟩
      · replace hr := (if_pos c19_).symm.trans hr
        refine rr_iconst (v := (-1)) C dX10_moves_22 (by decide) ?_
        obtain rfl := Option.some.inj hr
        exact rr_iret (ty := .int) C dX10_moves_23 rfl rfl ⟨rfl, rfl, rfl⟩
def q_X10_putBy (K : Nat) (h : mm_H) (n : Nat) (l0 : Nat) : Option (Int32 × mm_H) :=
  (rdR h n l0 9 8).bind fun v1 =>
  match v1 with
  | none =>
    some ((-1), h)
  | some a3 =>
    (rdI h n l0 9 10).bind fun v4 =>
    if v4 < 4 then
      (rdR h n l0 9 9).bind fun v6 =>
      (rdI h n l0 9 10).bind fun v8 =>
      (rdR h n l0 9 8).bind fun v10 =>
      v10.bind fun a12 =>
      v6.bind fun a14 =>
      (stR h n a14 5 6 v8 a12).bind fun h16 =>
      (rdI h16 n l0 9 10).bind fun v18 =>
      (wrF h16 n l0 9 10 (.int (v18 + 1))).bind fun h20 =>
      (rdI h20 n l0 9 10).bind fun v22 =>
      some (v22 - 1, h20)
    else
    some ((-1), h)
set_option maxRecDepth 100000 in
set_option maxHeartbeats 4000000 in
theorem c_X10_putBy {K : Nat} {G : mm_G} {l : Launch} {h : mm_H} {n : Nat} (l0 : Nat) {r_ : Int32 × mm_H} (hn : 48 ≤ n) (hr : q_X10_putBy K h n l0 = some r_) : Sp G l yX10_putBy cX10_putBy 1 (some .int) 0 0 0 [.ref l0] h n (fun v h' n' => v = some (.int r_.1) ∧ h' = r_.2 ∧ n' = n) := by
  refine Sp_of (by decide +kernel) (Nat.le_of_ble_eq_true rfl) hn ?_
  intro W0 hwl C
  subst hwl
  unfold q_X10_putBy at hr
  show WW W0 G 1 0 0 _ 0 [some (.ref l0)] [] h n 0 0
  refine rr_aload_n (i := 0) C dX10_putBy_0 rfl rfl ?_
  replace hr := Option.bind_eq_some_iff.mp hr
  obtain ⟨v1, e2, hr⟩ := hr
  refine rr_rdR C dX10_putBy_1 fl_X10_150 e2 ?_
  rcases v1 with _ | a3
  · dsimp only at hr
    refine rr_ifnullN (tgt := 15) C dX10_putBy_4 (by decide) ?_
    refine rr_iconst (v := (-1)) C dX10_putBy_15 (by decide) ?_
    obtain rfl := Option.some.inj hr
    exact rr_iret (ty := .int) C dX10_putBy_16 rfl rfl ⟨rfl, rfl, rfl⟩
  · dsimp only at hr
    refine rr_ifnull C dX10_putBy_4 ?_
    refine rr_aload_n (i := 0) C dX10_putBy_7 rfl rfl ?_
    replace hr := Option.bind_eq_some_iff.mp hr
    obtain ⟨v4, e5, hr⟩ := hr
    refine rr_rdI C dX10_putBy_8 fl_X10_274 e5 ?_
    refine rr_iconst (v := 4) C dX10_putBy_11 (by decide) ?_
    refine rr_icmp_lt (tgt := 17) C dX10_putBy_12 (by decide) (fun c12_ => ?_) (fun c12_ => ?_)
    · replace hr := (if_pos c12_).symm.trans hr
      refine rr_aload_n (i := 0) C dX10_putBy_17 rfl rfl ?_
      replace hr := Option.bind_eq_some_iff.mp hr
      obtain ⟨v6, e7, hr⟩ := hr
      refine rr_rdR C dX10_putBy_18 fl_X10_49 e7 ?_
      refine rr_aload_n (i := 0) C dX10_putBy_21 rfl rfl ?_
      replace hr := Option.bind_eq_some_iff.mp hr
      obtain ⟨v8, e9, hr⟩ := hr
      refine rr_rdI C dX10_putBy_22 fl_X10_274 e9 ?_
      refine rr_aload_n (i := 0) C dX10_putBy_25 rfl rfl ?_
      replace hr := Option.bind_eq_some_iff.mp hr
      obtain ⟨v10, e11, hr⟩ := hr
      refine rr_rdR C dX10_putBy_26 fl_X10_150 e11 ?_
      replace hr := Option.bind_eq_some_iff.mp hr
      obtain ⟨a12, e13, hr⟩ := hr
      subst e13
      replace hr := Option.bind_eq_some_iff.mp hr
      obtain ⟨a14, e15, hr⟩ := hr
      subst e15
      replace hr := Option.bind_eq_some_iff.mp hr
      obtain ⟨h16, e17, hr⟩ := hr
      refine rr_stR C dX10_putBy_29 (t0 := 5) (ci := 6) rfl rfl e17 ?_
      refine rr_aload_n (i := 0) C dX10_putBy_30 rfl rfl ?_
      refine rr_dup C dX10_putBy_31 rfl ?_
      replace hr := Option.bind_eq_some_iff.mp hr
      obtain ⟨v18, e19, hr⟩ := hr
      refine rr_rdI C dX10_putBy_32 fl_X10_274 e19 ?_
      refine rr_iconst (v := 1) C dX10_putBy_35 (by decide) ?_
      refine rr_iadd C dX10_putBy_36 ?_
      replace hr := Option.bind_eq_some_iff.mp hr
      obtain ⟨h20, e21, hr⟩ := hr
      refine rr_wrF C dX10_putBy_37 fp_X10_274 rfl rfl e21 ?_
      refine rr_aload_n (i := 0) C dX10_putBy_40 rfl rfl ?_
      replace hr := Option.bind_eq_some_iff.mp hr
      obtain ⟨v22, e23, hr⟩ := hr
      refine rr_rdI C dX10_putBy_41 fl_X10_274 e23 ?_
      refine rr_iconst (v := 1) C dX10_putBy_44 (by decide) ?_
      refine rr_isub C dX10_putBy_45 ?_
      obtain rfl := Option.some.inj hr
      exact rr_iret (ty := .int) C dX10_putBy_46 rfl rfl ⟨rfl, rfl, rfl⟩
    · replace hr := (if_neg c12_).symm.trans hr
      refine rr_iconst (v := (-1)) C dX10_putBy_15 (by decide) ?_
      obtain rfl := Option.some.inj hr
      exact rr_iret (ty := .int) C dX10_putBy_16 rfl rfl ⟨rfl, rfl, rfl⟩
def q_X10_lastYearOf (K : Nat) (h : mm_H) (n : Nat) (l0 : Int32) : Option (Int32) :=
  some (((l0 * 5) + 5) - 1)
set_option maxRecDepth 100000 in
set_option maxHeartbeats 4000000 in
theorem c_X10_lastYearOf {K : Nat} {G : mm_G} {l : Launch} {h : mm_H} {n : Nat} (l0 : Int32) {r_ : Int32} (hn : 48 ≤ n) (hr : q_X10_lastYearOf K h n l0 = some r_) : Sp G l yX10_lastYearOf cX10_lastYearOf 1 (some .int) 0 0 0 [.int l0] h n (fun v h' n' => v = some (.int r_) ∧ h' = h ∧ n' = n) := by
  refine Sp_of (by decide +kernel) (Nat.le_of_ble_eq_true rfl) hn ?_
  intro W0 hwl C
  subst hwl
  unfold q_X10_lastYearOf at hr
  show WW W0 G 1 0 0 _ 0 [some (.int l0)] [] h n 0 0
  refine rr_iload_n (i := 0) C dX10_lastYearOf_0 rfl rfl ?_
  refine rr_iconst (v := 5) C dX10_lastYearOf_1 (by decide) ?_
  refine rr_imul C dX10_lastYearOf_2 ?_
  refine rr_iconst (v := 5) C dX10_lastYearOf_3 (by decide) ?_
  refine rr_iadd C dX10_lastYearOf_4 ?_
  refine rr_iconst (v := 1) C dX10_lastYearOf_5 (by decide) ?_
  refine rr_isub C dX10_lastYearOf_6 ?_
  obtain rfl := Option.some.inj hr
  exact rr_iret (ty := .int) C dX10_lastYearOf_7 rfl rfl ⟨rfl, rfl, rfl⟩
def q_X10_borne (K : Nat) (h : mm_H) (n : Nat) (l0 : Nat) (l1 : Int32) (l2 : Int32) : Option (Int64 × mm_H) :=
  (ckq h n l0 9).bind fun u1 =>
  (q_X10_isFirm K h n l0 l1).bind fun v3 =>
  if v3 = 0 then
    some ((-2000000000000), h)
  else
  (q_X10_isReview K h n l2).bind fun v5 =>
  if v5 = 0 then
    some ((-2000000000000), h)
  else
  (q_X10_lastYearOf K h n l2).bind fun v7 =>
  (rdR h n l0 9 0).bind fun v9 =>
  v9.bind fun a11 =>
  (rdI h n a11 4 6).bind fun v13 =>
  (ckq h n l0 9).bind fun u15 =>
  (q_X10_openOwn K h n l0 l1 v7 v13).bind fun v17 =>
  (rdR v17 n l0 9 1).bind fun v19 =>
  v19.bind fun a21 =>
  (ckq v17 n a21 7).bind fun u23 =>
  (q_X7_borneFrom K v17 n a21 (l2 * 5)).bind fun v25 =>
  some (v25.1, v25.2)
set_option maxRecDepth 100000 in
set_option maxHeartbeats 4000000 in
theorem c_X10_borne {K : Nat} {G : mm_G} {l : Launch} {h : mm_H} {n : Nat} (l0 : Nat) (l1 : Int32) (l2 : Int32) {r_ : Int64 × mm_H} (hn : 48 ≤ n) (hr : q_X10_borne K h n l0 l1 l2 = some r_) : Sp G l yX10_borne cX10_borne 3 (some .long) 7 0 0 [.ref l0, .int l1, .int l2] h n (fun v h' n' => v = some (.long r_.1) ∧ h' = r_.2 ∧ n' = n) := by
  refine Sp_of (by decide +kernel) (Nat.le_of_ble_eq_true rfl) hn ?_
  intro W0 hwl C
  subst hwl
  unfold q_X10_borne at hr
  show WW W0 G 3 0 0 _ 0 [some (.ref l0), some (.int l1), some (.int l2)] [] h n 0 0
  refine rr_aload_n (i := 0) C dX10_borne_0 rfl rfl ?_
  refine rr_iload_n (i := 1) C dX10_borne_1 rfl rfl ?_
  replace hr := Option.bind_eq_some_iff.mp hr
  obtain ⟨u1, e2, hr⟩ := hr
  replace hr := Option.bind_eq_some_iff.mp hr
  obtain ⟨v3, e4, hr⟩ := hr
  refine rr_callVq (as := [.int l1]) (st := []) (mc' := 0) (ms' := 0) C dX10_borne_2 iv_X10_187 (by decide) e2 rfl (Nat.le_of_ble_eq_true rfl) (c_X10_isFirm l0 l1 (by omega) e4) (fun v_ h_ n_ q_ => ?_)
  obtain ⟨q1_, q2_, q3_⟩ := q_
  subst v_; subst h_; subst n_
  show WW W0 G 3 _ _ _ 5 [some (.ref l0), some (.int l1), some (.int l2)] [.int v3] h n _ _
  refine rr_if_eq (tgt := 15) C dX10_borne_5 (by decide) (fun c5_ => ?_) (fun c5_ => ?_)
  · replace hr := (if_pos c5_).symm.trans hr
    refine rr_ldc2 C dX10_borne_15 ct_X10_205 ?_
    obtain rfl := Option.some.inj hr
    exact rr_lret C dX10_borne_18 rfl ⟨rfl, rfl, rfl⟩
  · replace hr := (if_neg c5_).symm.trans hr
    refine rr_iload_n (i := 2) C dX10_borne_8 rfl rfl ?_
    replace hr := Option.bind_eq_some_iff.mp hr
    obtain ⟨v5, e6, hr⟩ := hr
    refine rr_callS (as := [.int l2]) (st := []) (mc' := 0) (ms' := 0) C dX10_borne_9 it_X10_126 (by decide) (Nat.le_of_ble_eq_true rfl) (c_X10_isReview l2 (by omega) e6) (fun v_ h_ n_ q_ => ?_)
    obtain ⟨q1_, q2_, q3_⟩ := q_
    subst v_; subst h_; subst n_
    show WW W0 G 3 _ _ _ 12 [some (.ref l0), some (.int l1), some (.int l2)] [.int v5] h n _ _
    refine rr_if_ne (tgt := 19) C dX10_borne_12 (by decide) (fun c12_ => ?_) (fun c12_ => ?_)
    · replace hr := (if_neg c12_).symm.trans hr
      refine rr_aload_n (i := 0) C dX10_borne_19 rfl rfl ?_
      refine rr_iload_n (i := 1) C dX10_borne_20 rfl rfl ?_
      refine rr_iload_n (i := 2) C dX10_borne_21 rfl rfl ?_
      replace hr := Option.bind_eq_some_iff.mp hr
      obtain ⟨v7, e8, hr⟩ := hr
      refine rr_callS (as := [.int l2]) (st := [.int l1, .ref l0]) (mc' := 0) (ms' := 0) C dX10_borne_22 it_X10_277 (by decide) (Nat.le_of_ble_eq_true rfl) (c_X10_lastYearOf l2 (by omega) e8) (fun v_ h_ n_ q_ => ?_)
      obtain ⟨q1_, q2_, q3_⟩ := q_
      subst v_; subst h_; subst n_
      show WW W0 G 3 _ _ _ 25 [some (.ref l0), some (.int l1), some (.int l2)] [.int v7, .int l1, .ref l0] h n _ _
      refine rr_aload_n (i := 0) C dX10_borne_25 rfl rfl ?_
      replace hr := Option.bind_eq_some_iff.mp hr
      obtain ⟨v9, e10, hr⟩ := hr
      refine rr_rdR C dX10_borne_26 fl_X10_12 e10 ?_
      replace hr := Option.bind_eq_some_iff.mp hr
      obtain ⟨a11, e12, hr⟩ := hr
      subst e12
      replace hr := Option.bind_eq_some_iff.mp hr
      obtain ⟨v13, e14, hr⟩ := hr
      refine rr_rdI C dX10_borne_29 fl_X10_55 e14 ?_
      replace hr := Option.bind_eq_some_iff.mp hr
      obtain ⟨u15, e16, hr⟩ := hr
      replace hr := Option.bind_eq_some_iff.mp hr
      obtain ⟨v17, e18, hr⟩ := hr
      refine rr_callVq (as := [.int l1, .int v7, .int v13]) (st := []) (mc' := 0) (ms' := 0) C dX10_borne_32 iv_X10_170 (by decide) e16 rfl (Nat.le_of_ble_eq_true rfl) (c_X10_openOwn l0 l1 v7 v13 (by omega) e18) (fun v_ h_ n_ q_ => ?_)
      obtain ⟨q1_, q2_, q3_⟩ := q_
      subst v_; subst h_; subst n_
      show WW W0 G 3 _ _ _ 35 [some (.ref l0), some (.int l1), some (.int l2)] [] v17 n _ _
      refine rr_aload_n (i := 0) C dX10_borne_35 rfl rfl ?_
      replace hr := Option.bind_eq_some_iff.mp hr
      obtain ⟨v19, e20, hr⟩ := hr
      refine rr_rdR C dX10_borne_36 fl_X10_21 e20 ?_
      refine rr_iload_n (i := 2) C dX10_borne_39 rfl rfl ?_
      refine rr_iconst (v := 5) C dX10_borne_40 (by decide) ?_
      refine rr_imul C dX10_borne_41 ?_
      replace hr := Option.bind_eq_some_iff.mp hr
      obtain ⟨a21, e22, hr⟩ := hr
      subst e22
      replace hr := Option.bind_eq_some_iff.mp hr
      obtain ⟨u23, e24, hr⟩ := hr
      replace hr := Option.bind_eq_some_iff.mp hr
      obtain ⟨v25, e26, hr⟩ := hr
      refine rr_callVq (as := [.int (l2 * 5)]) (st := []) (mc' := 0) (ms' := 0) C dX10_borne_42 iv_X10_280 (by decide) e24 rfl (Nat.le_of_ble_eq_true rfl) (c_X7_borneFrom a21 (l2 * 5) (by omega) e26) (fun v_ h_ n_ q_ => ?_)
      obtain ⟨q1_, q2_, q3_⟩ := q_
      subst v_; subst h_; subst n_
      show WW W0 G 3 _ _ _ 45 [some (.ref l0), some (.int l1), some (.int l2)] [.long v25.1] v25.2 n _ _
      obtain rfl := Option.some.inj hr
      exact rr_lret C dX10_borne_45 rfl ⟨rfl, rfl, rfl⟩
    · replace hr := (if_pos c12_).symm.trans hr
      refine rr_ldc2 C dX10_borne_15 ct_X10_205 ?_
      obtain rfl := Option.some.inj hr
      exact rr_lret C dX10_borne_18 rfl ⟨rfl, rfl, rfl⟩
def lp_X10_isBorneWithin_2 (K : Nat) (n : Nat) (l0 : Nat) (l1 : Int32) (l2 : Int32) : Nat → Int32 → mm_H → Option (Nat × mm_H)
  | 0, _, _ => none
  | k_ + 1, l3, h =>
    (rdR h n l0 9 0).bind fun v1 =>
    v1.bind fun a3 =>
    (rdI h n a3 4 5).bind fun v5 =>
    if v5 ≤ l3 then
      some (1, h)
    else
    (rdR h n l0 9 1).bind fun v7 =>
    (q_X10_lastYearOf K h n l1).bind fun v9 =>
    (rdR h n l0 9 0).bind fun v11 =>
    v11.bind fun a13 =>
    (rdI h n a13 4 6).bind fun v15 =>
    v7.bind fun a17 =>
    (ckq h n a17 7).bind fun u19 =>
    (q_X7_open K h n a17 l3 v9 v15).bind fun v21 =>
    (rdR v21 n l0 9 1).bind fun v23 =>
    v23.bind fun a25 =>
    (ckq v21 n a25 7).bind fun u27 =>
    (q_X7_borneFrom K v21 n a25 (l1 * 5)).bind fun v29 =>
    if (lg_cmp v29.1 (Int32.toInt64 l2)) ≤ 0 then
      lp_X10_isBorneWithin_2 K n l0 l1 l2 k_ (l3 + 1) v29.2
    else
    some (0, v29.2)
def q_X10_isBorneWithin (K : Nat) (h : mm_H) (n : Nat) (l0 : Nat) (l1 : Int32) (l2 : Int32) : Option (Int32 × mm_H) :=
  (lp_X10_isBorneWithin_2 K n l0 l1 l2 K 0 h).bind fun v31 =>
  if v31.1 = 0 then
    some (0, v31.2)
  else
  if v31.1 = 1 then
    some (1, v31.2)
  else
    none
set_option maxRecDepth 100000 in
set_option maxHeartbeats 4000000 in
theorem w_X10_isBorneWithin_2 {K : Nat} {W0 : mm_X} {G : mm_G} {mc ms kc ks : Nat} {Q_ : State → Prop} {n : Nat} (C : mm_C W0 G cX10_isBorneWithin yX10_isBorneWithin.cls 4 mc ms (some .boolean) 6 yX10_isBorneWithin.name) (hn : 48 ≤ n) (l0 : Nat) (l1 : Int32) (l2 : Int32) : ∀ (k_ : Nat) (l3 : Int32) (h : mm_H) {r_ : Nat × mm_H} (hr : lp_X10_isBorneWithin_2 K n l0 l1 l2 k_ l3 h = some r_) (hx0 : r_.1 = 0 → WW W0 G 4 mc ms Q_ 48 [none, none, none, none] [] r_.2 n kc ks) (hx1 : r_.1 = 1 → WW W0 G 4 mc ms Q_ 56 [none, none, none, none] [] r_.2 n kc ks), WW W0 G 4 mc ms Q_ 2 [some (.ref l0), some (.int l1), some (.int l2), some (.int l3)] [] h n kc ks := by
  intro k_
  induction k_ with
  | zero =>
    intro l3 h r_ hr
    cases hr
  | succ k_ ih_ =>
    intro l3 h r_ hr hx0 hx1
    unfold lp_X10_isBorneWithin_2 at hr
    refine rr_iload_n (i := 3) C dX10_isBorneWithin_2 rfl rfl ?_
    refine rr_aload_n (i := 0) C dX10_isBorneWithin_3 rfl rfl ?_
    replace hr := Option.bind_eq_some_iff.mp hr
    obtain ⟨v1, e2, hr⟩ := hr
    refine rr_rdR C dX10_isBorneWithin_4 fl_X10_12 e2 ?_
    replace hr := Option.bind_eq_some_iff.mp hr
    obtain ⟨a3, e4, hr⟩ := hr
    subst e4
    replace hr := Option.bind_eq_some_iff.mp hr
    obtain ⟨v5, e6, hr⟩ := hr
    refine rr_rdI C dX10_isBorneWithin_7 fl_X10_292 e6 ?_
    refine rr_icmp_ge (tgt := 56) C dX10_isBorneWithin_10 (by decide) (fun c10_ => ?_) (fun c10_ => ?_)
    · replace hr := (if_pos c10_).symm.trans hr
      obtain rfl := Option.some.inj hr
      exact rr_keep [false, false, false, false] (hx1 rfl)
    · replace hr := (if_neg c10_).symm.trans hr
      refine rr_aload_n (i := 0) C dX10_isBorneWithin_13 rfl rfl ?_
      replace hr := Option.bind_eq_some_iff.mp hr
      obtain ⟨v7, e8, hr⟩ := hr
      refine rr_rdR C dX10_isBorneWithin_14 fl_X10_21 e8 ?_
      refine rr_iload_n (i := 3) C dX10_isBorneWithin_17 rfl rfl ?_
      refine rr_iload_n (i := 1) C dX10_isBorneWithin_18 rfl rfl ?_
      replace hr := Option.bind_eq_some_iff.mp hr
      obtain ⟨v9, e10, hr⟩ := hr
      refine rr_callS (as := [.int l1]) (st := [.int l3, va_rf v7]) (mc' := 0) (ms' := 0) C dX10_isBorneWithin_19 it_X10_277 (by decide) (by rcases v7 with _ | _ <;> exact Nat.le_of_ble_eq_true rfl) (c_X10_lastYearOf l1 (by omega) e10) (fun v_ h_ n_ q_ => ?_)
      obtain ⟨q1_, q2_, q3_⟩ := q_
      subst v_; subst h_; subst n_
      show WW W0 G 4 _ _ _ 22 [some (.ref l0), some (.int l1), some (.int l2), some (.int l3)] [.int v9, .int l3, va_rf v7] h n _ _
      refine rr_aload_n (i := 0) C dX10_isBorneWithin_22 rfl rfl ?_
      replace hr := Option.bind_eq_some_iff.mp hr
      obtain ⟨v11, e12, hr⟩ := hr
      refine rr_rdR C dX10_isBorneWithin_23 fl_X10_12 e12 ?_
      replace hr := Option.bind_eq_some_iff.mp hr
      obtain ⟨a13, e14, hr⟩ := hr
      subst e14
      replace hr := Option.bind_eq_some_iff.mp hr
      obtain ⟨v15, e16, hr⟩ := hr
      refine rr_rdI C dX10_isBorneWithin_26 fl_X10_55 e16 ?_
      replace hr := Option.bind_eq_some_iff.mp hr
      obtain ⟨a17, e18, hr⟩ := hr
      subst e18
      replace hr := Option.bind_eq_some_iff.mp hr
      obtain ⟨u19, e20, hr⟩ := hr
      replace hr := Option.bind_eq_some_iff.mp hr
      obtain ⟨v21, e22, hr⟩ := hr
      refine rr_callVq (as := [.int l3, .int v9, .int v15]) (st := []) (mc' := 0) (ms' := 0) C dX10_isBorneWithin_29 iv_X10_244 (by decide) e20 rfl (Nat.le_of_ble_eq_true rfl) (c_X7_open a17 l3 v9 v15 (by omega) e22) (fun v_ h_ n_ q_ => ?_)
      obtain ⟨q1_, q2_, q3_⟩ := q_
      subst v_; subst h_; subst n_
      show WW W0 G 4 _ _ _ 32 [some (.ref l0), some (.int l1), some (.int l2), some (.int l3)] [] v21 n _ _
      refine rr_aload_n (i := 0) C dX10_isBorneWithin_32 rfl rfl ?_
      replace hr := Option.bind_eq_some_iff.mp hr
      obtain ⟨v23, e24, hr⟩ := hr
      refine rr_rdR C dX10_isBorneWithin_33 fl_X10_21 e24 ?_
      refine rr_iload_n (i := 1) C dX10_isBorneWithin_36 rfl rfl ?_
      refine rr_iconst (v := 5) C dX10_isBorneWithin_37 (by decide) ?_
      refine rr_imul C dX10_isBorneWithin_38 ?_
      replace hr := Option.bind_eq_some_iff.mp hr
      obtain ⟨a25, e26, hr⟩ := hr
      subst e26
      replace hr := Option.bind_eq_some_iff.mp hr
      obtain ⟨u27, e28, hr⟩ := hr
      replace hr := Option.bind_eq_some_iff.mp hr
      obtain ⟨v29, e30, hr⟩ := hr
      refine rr_callVq (as := [.int (l1 * 5)]) (st := []) (mc' := 0) (ms' := 0) C dX10_isBorneWithin_39 iv_X10_280 (by decide) e28 rfl (Nat.le_of_ble_eq_true rfl) (c_X7_borneFrom a25 (l1 * 5) (by omega) e30) (fun v_ h_ n_ q_ => ?_)
      obtain ⟨q1_, q2_, q3_⟩ := q_
      subst v_; subst h_; subst n_
      show WW W0 G 4 _ _ _ 42 [some (.ref l0), some (.int l1), some (.int l2), some (.int l3)] [.long v29.1] v29.2 n _ _
      refine rr_iload_n (i := 2) C dX10_isBorneWithin_42 rfl rfl ?_
      refine rr_i2l C dX10_isBorneWithin_43 ?_
      refine rr_lcmp C dX10_isBorneWithin_44 ?_
      refine rr_if_le (tgt := 50) C dX10_isBorneWithin_45 (by decide) (fun c45_ => ?_) (fun c45_ => ?_)
      · replace hr := (if_pos c45_).symm.trans hr
        refine rr_iinc (v := l3 + 1) C dX10_isBorneWithin_50 rfl rfl ?_
        show WW W0 G 4 _ _ _ 53 [some (.ref l0), some (.int l1), some (.int l2), some (.int (l3 + 1))] [] v29.2 n _ _
        refine rr_goto (tgt := 2) C dX10_isBorneWithin_53 (by decide) ?_
        exact rr_keep [true, true, true, true] (ih_ _ _ hr hx0 hx1)
      · replace hr := (if_neg c45_).symm.trans hr
        obtain rfl := Option.some.inj hr
        exact rr_keep [false, false, false, false] (hx0 rfl)
set_option maxRecDepth 100000 in
set_option maxHeartbeats 4000000 in
theorem c_X10_isBorneWithin {K : Nat} {G : mm_G} {l : Launch} {h : mm_H} {n : Nat} (l0 : Nat) (l1 : Int32) (l2 : Int32) {r_ : Int32 × mm_H} (hn : 48 ≤ n) (hr : q_X10_isBorneWithin K h n l0 l1 l2 = some r_) : Sp G l yX10_isBorneWithin cX10_isBorneWithin 4 (some .boolean) 6 0 0 [.ref l0, .int l1, .int l2] h n (fun v h' n' => v = some (.int r_.1) ∧ h' = r_.2 ∧ n' = n) := by
  refine Sp_of (by decide +kernel) (Nat.le_of_ble_eq_true rfl) hn ?_
  intro W0 hwl C
  subst hwl
  unfold q_X10_isBorneWithin at hr
  show WW W0 G 4 0 0 _ 0 [some (.ref l0), some (.int l1), some (.int l2), none] [] h n 0 0
  refine rr_iconst (v := 0) C dX10_isBorneWithin_0 (by decide) ?_
  refine rr_istore_n (i := 3) C dX10_isBorneWithin_1 rfl (by decide) ?_
  show WW W0 G 4 _ _ _ 2 [some (.ref l0), some (.int l1), some (.int l2), some (.int 0)] [] h n _ _
  replace hr := Option.bind_eq_some_iff.mp hr
  obtain ⟨v31, e32, hr⟩ := hr
  refine rr_keep [true, true, true, true] (w_X10_isBorneWithin_2 C (by omega) l0 l1 l2 K 0 h e32 ?_ ?_)
  · intro cx_
    replace hr := (if_pos cx_).symm.trans hr
    show WW W0 G 4 _ _ _ 48 [none, none, none, none] [] v31.2 n _ _
    refine rr_iconst (v := 0) C dX10_isBorneWithin_48 (by decide) ?_
    obtain rfl := Option.some.inj hr
    exact rr_iret (ty := .boolean) C dX10_isBorneWithin_49 rfl rfl ⟨rfl, rfl, rfl⟩
  · intro cx_
    replace hr := (if_neg (fun z_ => absurd (z_.symm.trans cx_) (by decide))).symm.trans hr
    replace hr := (if_pos cx_).symm.trans hr
    show WW W0 G 4 _ _ _ 56 [none, none, none, none] [] v31.2 n _ _
    refine rr_iconst (v := 1) C dX10_isBorneWithin_56 (by decide) ?_
    obtain rfl := Option.some.inj hr
    exact rr_iret (ty := .boolean) C dX10_isBorneWithin_57 rfl rfl ⟨rfl, rfl, rfl⟩
def lp_X10_allRevenues_56 (K : Nat) (h : mm_H) (n : Nat) (l0 : Nat) (l1 : Int32) (l4 : Int32) : Nat → Int64 → Int32 → Option (Int64)
  | 0, _, _ => none
  | k_ + 1, l2, l5 =>
    (q_X10_lastYearOf K h n l1).bind fun v34 =>
    if v34 < l5 then
      some (l2)
    else
    (rdR h n l0 9 1).bind fun v36 =>
    v36.bind fun a38 =>
    (ckq h n a38 7).bind fun u40 =>
    (q_X7_allLines K h n a38 l5).bind fun v42 =>
    lp_X10_allRevenues_56 K h n l0 l1 l4 k_ (l2 + v42) (l5 + 1)
def lp_X10_allRevenues_5 (K : Nat) (n : Nat) (l0 : Nat) (l1 : Int32) : Nat → Int64 → Int32 → mm_H → Option (Int64 × mm_H)
  | 0, _, _, _ => none
  | k_ + 1, l2, l4, h =>
    (rdR h n l0 9 0).bind fun v1 =>
    v1.bind fun a3 =>
    (rdI h n a3 4 5).bind fun v5 =>
    if v5 ≤ l4 then
      some (l2, h)
    else
    (rdR h n l0 9 1).bind fun v7 =>
    (q_X10_lastYearOf K h n l1).bind fun v9 =>
    (rdR h n l0 9 0).bind fun v11 =>
    v11.bind fun a13 =>
    (rdI h n a13 4 6).bind fun v15 =>
    v7.bind fun a17 =>
    (ckq h n a17 7).bind fun u19 =>
    (q_X7_open K h n a17 l4 v9 v15).bind fun v21 =>
    (rdR v21 n l0 9 1).bind fun v23 =>
    (q_X10_lastYearOf K v21 n l1).bind fun v25 =>
    v23.bind fun a27 =>
    (ckq v21 n a27 7).bind fun u29 =>
    (q_X7_fillLines K v21 n a27 (l1 * 5) v25).bind fun v31 =>
    (lp_X10_allRevenues_56 K v31 n l0 l1 l4 K l2 (l1 * 5)).bind fun v45 =>
    lp_X10_allRevenues_5 K n l0 l1 k_ v45 (l4 + 1) v31
def q_X10_allRevenues (K : Nat) (h : mm_H) (n : Nat) (l0 : Nat) (l1 : Int32) : Option (Int64 × mm_H) :=
  (lp_X10_allRevenues_5 K n l0 l1 K 0 0 h).bind fun v47 =>
  some (v47.1, v47.2)
set_option maxRecDepth 100000 in
set_option maxHeartbeats 4000000 in
theorem w_X10_allRevenues_56 {K : Nat} {W0 : mm_X} {G : mm_G} {mc ms kc ks : Nat} {Q_ : State → Prop} {h : mm_H} {n : Nat} (C : mm_C W0 G cX10_allRevenues yX10_allRevenues.cls 6 mc ms (some .long) 6 yX10_allRevenues.name) (hn : 48 ≤ n) (l0 : Nat) (l1 : Int32) (l4 : Int32) : ∀ (k_ : Nat) (l2 : Int64) (l5 : Int32) {r_ : Int64} (hr : lp_X10_allRevenues_56 K h n l0 l1 l4 k_ l2 l5 = some r_) (hx0 : WW W0 G 6 mc ms Q_ 83 [some (.ref l0), some (.int l1), some (.long r_), none, some (.int l4), none] [] h n kc ks), WW W0 G 6 mc ms Q_ 56 [some (.ref l0), some (.int l1), some (.long l2), none, some (.int l4), some (.int l5)] [] h n kc ks := by
  intro k_
  induction k_ with
  | zero =>
    intro l2 l5 r_ hr
    cases hr
  | succ k_ ih_ =>
    intro l2 l5 r_ hr hx0
    unfold lp_X10_allRevenues_56 at hr
    refine rr_iload C dX10_allRevenues_56 rfl ?_
    refine rr_iload_n (i := 1) C dX10_allRevenues_58 rfl rfl ?_
    replace hr := Option.bind_eq_some_iff.mp hr
    obtain ⟨v34, e35, hr⟩ := hr
    refine rr_callS (as := [.int l1]) (st := [.int l5]) (mc' := 0) (ms' := 0) C dX10_allRevenues_59 it_X10_277 (by decide) (Nat.le_of_ble_eq_true rfl) (c_X10_lastYearOf l1 (by omega) e35) (fun v_ h_ n_ q_ => ?_)
    obtain ⟨q1_, q2_, q3_⟩ := q_
    subst v_; subst h_; subst n_
    show WW W0 G 6 _ _ _ 62 [some (.ref l0), some (.int l1), some (.long l2), none, some (.int l4), some (.int l5)] [.int v34, .int l5] h n _ _
    refine rr_icmp_gt (tgt := 83) C dX10_allRevenues_62 (by decide) (fun c62_ => ?_) (fun c62_ => ?_)
    · replace hr := (if_pos c62_).symm.trans hr
      obtain rfl := Option.some.inj hr
      exact rr_keep [true, true, true, false, true, false] (hx0)
    · replace hr := (if_neg c62_).symm.trans hr
      refine rr_lload_n (i := 2) C dX10_allRevenues_65 rfl rfl ?_
      refine rr_aload_n (i := 0) C dX10_allRevenues_66 rfl rfl ?_
      replace hr := Option.bind_eq_some_iff.mp hr
      obtain ⟨v36, e37, hr⟩ := hr
      refine rr_rdR C dX10_allRevenues_67 fl_X10_21 e37 ?_
      refine rr_iload C dX10_allRevenues_70 rfl ?_
      replace hr := Option.bind_eq_some_iff.mp hr
      obtain ⟨a38, e39, hr⟩ := hr
      subst e39
      replace hr := Option.bind_eq_some_iff.mp hr
      obtain ⟨u40, e41, hr⟩ := hr
      replace hr := Option.bind_eq_some_iff.mp hr
      obtain ⟨v42, e43, hr⟩ := hr
      refine rr_callVq (as := [.int l5]) (st := [.long l2]) (mc' := 0) (ms' := 0) C dX10_allRevenues_72 iv_X10_218 (by decide) e41 rfl (Nat.le_of_ble_eq_true rfl) (c_X7_allLines a38 l5 (by omega) e43) (fun v_ h_ n_ q_ => ?_)
      obtain ⟨q1_, q2_, q3_⟩ := q_
      subst v_; subst h_; subst n_
      show WW W0 G 6 _ _ _ 75 [some (.ref l0), some (.int l1), some (.long l2), none, some (.int l4), some (.int l5)] [.long v42, .long l2] h n _ _
      refine rr_ladd C dX10_allRevenues_75 ?_
      refine rr_lstore_n (i := 2) C dX10_allRevenues_76 rfl (by decide) ?_
      show WW W0 G 6 _ _ _ 77 [some (.ref l0), some (.int l1), some (.long (l2 + v42)), none, some (.int l4), some (.int l5)] [] h n _ _
      refine rr_iinc (v := l5 + 1) C dX10_allRevenues_77 rfl rfl ?_
      show WW W0 G 6 _ _ _ 80 [some (.ref l0), some (.int l1), some (.long (l2 + v42)), none, some (.int l4), some (.int (l5 + 1))] [] h n _ _
      refine rr_goto (tgt := 56) C dX10_allRevenues_80 (by decide) ?_
      exact rr_keep [true, true, true, false, true, true] (ih_ _ _ hr hx0)
set_option maxRecDepth 100000 in
set_option maxHeartbeats 4000000 in
theorem w_X10_allRevenues_5 {K : Nat} {W0 : mm_X} {G : mm_G} {mc ms kc ks : Nat} {Q_ : State → Prop} {n : Nat} (C : mm_C W0 G cX10_allRevenues yX10_allRevenues.cls 6 mc ms (some .long) 6 yX10_allRevenues.name) (hn : 48 ≤ n) (l0 : Nat) (l1 : Int32) : ∀ (k_ : Nat) (l2 : Int64) (l4 : Int32) (h : mm_H) {r_ : Int64 × mm_H} (hr : lp_X10_allRevenues_5 K n l0 l1 k_ l2 l4 h = some r_) (hx0 : WW W0 G 6 mc ms Q_ 89 [none, none, some (.long r_.1), none, none, none] [] r_.2 n kc ks), WW W0 G 6 mc ms Q_ 5 [some (.ref l0), some (.int l1), some (.long l2), none, some (.int l4), none] [] h n kc ks := by
  intro k_
  induction k_ with
  | zero =>
    intro l2 l4 h r_ hr
    cases hr
  | succ k_ ih_ =>
    intro l2 l4 h r_ hr hx0
    unfold lp_X10_allRevenues_5 at hr
    refine rr_iload C dX10_allRevenues_5 rfl ?_
    refine rr_aload_n (i := 0) C dX10_allRevenues_7 rfl rfl ?_
    replace hr := Option.bind_eq_some_iff.mp hr
    obtain ⟨v1, e2, hr⟩ := hr
    refine rr_rdR C dX10_allRevenues_8 fl_X10_12 e2 ?_
    replace hr := Option.bind_eq_some_iff.mp hr
    obtain ⟨a3, e4, hr⟩ := hr
    subst e4
    replace hr := Option.bind_eq_some_iff.mp hr
    obtain ⟨v5, e6, hr⟩ := hr
    refine rr_rdI C dX10_allRevenues_11 fl_X10_292 e6 ?_
    refine rr_icmp_ge (tgt := 89) C dX10_allRevenues_14 (by decide) (fun c14_ => ?_) (fun c14_ => ?_)
    · replace hr := (if_pos c14_).symm.trans hr
      obtain rfl := Option.some.inj hr
      exact rr_keep [false, false, true, false, false, false] (hx0)
    · replace hr := (if_neg c14_).symm.trans hr
      refine rr_aload_n (i := 0) C dX10_allRevenues_17 rfl rfl ?_
      replace hr := Option.bind_eq_some_iff.mp hr
      obtain ⟨v7, e8, hr⟩ := hr
      refine rr_rdR C dX10_allRevenues_18 fl_X10_21 e8 ?_
      refine rr_iload C dX10_allRevenues_21 rfl ?_
      refine rr_iload_n (i := 1) C dX10_allRevenues_23 rfl rfl ?_
      replace hr := Option.bind_eq_some_iff.mp hr
      obtain ⟨v9, e10, hr⟩ := hr
      refine rr_callS (as := [.int l1]) (st := [.int l4, va_rf v7]) (mc' := 0) (ms' := 0) C dX10_allRevenues_24 it_X10_277 (by decide) (by rcases v7 with _ | _ <;> exact Nat.le_of_ble_eq_true rfl) (c_X10_lastYearOf l1 (by omega) e10) (fun v_ h_ n_ q_ => ?_)
      obtain ⟨q1_, q2_, q3_⟩ := q_
      subst v_; subst h_; subst n_
      show WW W0 G 6 _ _ _ 27 [some (.ref l0), some (.int l1), some (.long l2), none, some (.int l4), none] [.int v9, .int l4, va_rf v7] h n _ _
      refine rr_aload_n (i := 0) C dX10_allRevenues_27 rfl rfl ?_
      replace hr := Option.bind_eq_some_iff.mp hr
      obtain ⟨v11, e12, hr⟩ := hr
      refine rr_rdR C dX10_allRevenues_28 fl_X10_12 e12 ?_
      replace hr := Option.bind_eq_some_iff.mp hr
      obtain ⟨a13, e14, hr⟩ := hr
      subst e14
      replace hr := Option.bind_eq_some_iff.mp hr
      obtain ⟨v15, e16, hr⟩ := hr
      refine rr_rdI C dX10_allRevenues_31 fl_X10_55 e16 ?_
      replace hr := Option.bind_eq_some_iff.mp hr
      obtain ⟨a17, e18, hr⟩ := hr
      subst e18
      replace hr := Option.bind_eq_some_iff.mp hr
      obtain ⟨u19, e20, hr⟩ := hr
      replace hr := Option.bind_eq_some_iff.mp hr
      obtain ⟨v21, e22, hr⟩ := hr
      refine rr_callVq (as := [.int l4, .int v9, .int v15]) (st := []) (mc' := 0) (ms' := 0) C dX10_allRevenues_34 iv_X10_244 (by decide) e20 rfl (Nat.le_of_ble_eq_true rfl) (c_X7_open a17 l4 v9 v15 (by omega) e22) (fun v_ h_ n_ q_ => ?_)
      obtain ⟨q1_, q2_, q3_⟩ := q_
      subst v_; subst h_; subst n_
      show WW W0 G 6 _ _ _ 37 [some (.ref l0), some (.int l1), some (.long l2), none, some (.int l4), none] [] v21 n _ _
      refine rr_aload_n (i := 0) C dX10_allRevenues_37 rfl rfl ?_
      replace hr := Option.bind_eq_some_iff.mp hr
      obtain ⟨v23, e24, hr⟩ := hr
      refine rr_rdR C dX10_allRevenues_38 fl_X10_21 e24 ?_
      refine rr_iload_n (i := 1) C dX10_allRevenues_41 rfl rfl ?_
      refine rr_iconst (v := 5) C dX10_allRevenues_42 (by decide) ?_
      refine rr_imul C dX10_allRevenues_43 ?_
      refine rr_iload_n (i := 1) C dX10_allRevenues_44 rfl rfl ?_
      replace hr := Option.bind_eq_some_iff.mp hr
      obtain ⟨v25, e26, hr⟩ := hr
      refine rr_callS (as := [.int l1]) (st := [.int (l1 * 5), va_rf v23]) (mc' := 0) (ms' := 0) C dX10_allRevenues_45 it_X10_277 (by decide) (by rcases v23 with _ | _ <;> exact Nat.le_of_ble_eq_true rfl) (c_X10_lastYearOf l1 (by omega) e26) (fun v_ h_ n_ q_ => ?_)
      obtain ⟨q1_, q2_, q3_⟩ := q_
      subst v_; subst h_; subst n_
      show WW W0 G 6 _ _ _ 48 [some (.ref l0), some (.int l1), some (.long l2), none, some (.int l4), none] [.int v25, .int (l1 * 5), va_rf v23] v21 n _ _
      replace hr := Option.bind_eq_some_iff.mp hr
      obtain ⟨a27, e28, hr⟩ := hr
      subst e28
      replace hr := Option.bind_eq_some_iff.mp hr
      obtain ⟨u29, e30, hr⟩ := hr
      replace hr := Option.bind_eq_some_iff.mp hr
      obtain ⟨v31, e32, hr⟩ := hr
      refine rr_callVq (as := [.int (l1 * 5), .int v25]) (st := []) (mc' := 0) (ms' := 0) C dX10_allRevenues_48 iv_X10_211 (by decide) e30 rfl (Nat.le_of_ble_eq_true rfl) (c_X7_fillLines a27 (l1 * 5) v25 (by omega) e32) (fun v_ h_ n_ q_ => ?_)
      obtain ⟨q1_, q2_, q3_⟩ := q_
      subst v_; subst h_; subst n_
      show WW W0 G 6 _ _ _ 51 [some (.ref l0), some (.int l1), some (.long l2), none, some (.int l4), none] [] v31 n _ _
      refine rr_iload_n (i := 1) C dX10_allRevenues_51 rfl rfl ?_
      refine rr_iconst (v := 5) C dX10_allRevenues_52 (by decide) ?_
      refine rr_imul C dX10_allRevenues_53 ?_
      refine rr_istore C dX10_allRevenues_54 (by decide) ?_
      show WW W0 G 6 _ _ _ 56 [some (.ref l0), some (.int l1), some (.long l2), none, some (.int l4), some (.int (l1 * 5))] [] v31 n _ _
      replace hr := Option.bind_eq_some_iff.mp hr
      obtain ⟨v45, e46, hr⟩ := hr
      refine rr_keep [true, true, true, false, true, true] (w_X10_allRevenues_56 C (by omega) l0 l1 l4 K l2 (l1 * 5) e46 ?_)
      show WW W0 G 6 _ _ _ 83 [some (.ref l0), some (.int l1), some (.long v45), none, some (.int l4), none] [] v31 n _ _
      refine rr_iinc (v := l4 + 1) C dX10_allRevenues_83 rfl rfl ?_
      show WW W0 G 6 _ _ _ 86 [some (.ref l0), some (.int l1), some (.long v45), none, some (.int (l4 + 1)), none] [] v31 n _ _
      refine rr_goto (tgt := 5) C dX10_allRevenues_86 (by decide) ?_
      exact rr_keep [true, true, true, false, true, false] (ih_ _ _ _ hr hx0)
set_option maxRecDepth 100000 in
set_option maxHeartbeats 4000000 in
theorem c_X10_allRevenues {K : Nat} {G : mm_G} {l : Launch} {h : mm_H} {n : Nat} (l0 : Nat) (l1 : Int32) {r_ : Int64 × mm_H} (hn : 48 ≤ n) (hr : q_X10_allRevenues K h n l0 l1 = some r_) : Sp G l yX10_allRevenues cX10_allRevenues 6 (some .long) 6 0 0 [.ref l0, .int l1] h n (fun v h' n' => v = some (.long r_.1) ∧ h' = r_.2 ∧ n' = n) := by
  refine Sp_of (by decide +kernel) (Nat.le_of_ble_eq_true rfl) hn ?_
  intro W0 hwl C
  subst hwl
  unfold q_X10_allRevenues at hr
  show WW W0 G 6 0 0 _ 0 [some (.ref l0), some (.int l1), none, none, none, none] [] h n 0 0
  refine rr_lconst (v := 0) C dX10_allRevenues_0 (by decide) ?_
  refine rr_lstore_n (i := 2) C dX10_allRevenues_1 rfl (by decide) ?_
  show WW W0 G 6 _ _ _ 2 [some (.ref l0), some (.int l1), some (.long 0), none, none, none] [] h n _ _
  refine rr_iconst (v := 0) C dX10_allRevenues_2 (by decide) ?_
  refine rr_istore C dX10_allRevenues_3 (by decide) ?_
  show WW W0 G 6 _ _ _ 5 [some (.ref l0), some (.int l1), some (.long 0), none, some (.int 0), none] [] h n _ _
  replace hr := Option.bind_eq_some_iff.mp hr
  obtain ⟨v47, e48, hr⟩ := hr
  refine rr_keep [true, true, true, false, true, false] (w_X10_allRevenues_5 C (by omega) l0 l1 K 0 0 h e48 ?_)
  show WW W0 G 6 _ _ _ 89 [none, none, some (.long v47.1), none, none, none] [] v47.2 n _ _
  refine rr_lload_n (i := 2) C dX10_allRevenues_89 rfl rfl ?_
  obtain rfl := Option.some.inj hr
  exact rr_lret C dX10_allRevenues_90 rfl ⟨rfl, rfl, rfl⟩

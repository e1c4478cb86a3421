def q_X0_placeOf (K : Nat) (h : mm_H) (n : Nat) (l0 : Nat) (l1 : Int32) (l2 : Int32) (l3 : Int32) : Option (Int32) :=
  if l1 < 0 then
    some (-1)
  else
  if 11 ≤ l1 then
    some (-1)
  else
  if l2 < 0 then
    some (-1)
  else
  if 15 ≤ l2 then
    some (-1)
  else
  if l3 < 0 then
    some (-1)
  else
  if l3 < 17 then
    some ((((l1 * 15) + l2) * 17) + l3)
  else
  some (-1)
set_option maxRecDepth 100000 in
set_option maxHeartbeats 4000000 in
theorem c_X0_placeOf {K : Nat} {G : mm_G} {l : Launch} {h : mm_H} {n : Nat} (l0 : Nat) (l1 : Int32) (l2 : Int32) (l3 : Int32) {r_ : Int32} (hn : 48 ≤ n) (hr : q_X0_placeOf K h n l0 l1 l2 l3 = some r_) : Sp G l yX0_placeOf cX0_placeOf 4 (some .int) 0 0 0 [.ref l0, .int l1, .int l2, .int l3] h n (fun v h' n' => v = some (.int r_) ∧ h' = h ∧ n' = n) := by
  refine Sp_of (by decide +kernel) (Nat.le_of_ble_eq_true rfl) hn ?_
  intro W0 hwl C
  subst hwl
  unfold q_X0_placeOf at hr
  show WW W0 G 4 0 0 _ 0 [some (.ref l0), some (.int l1), some (.int l2), some (.int l3)] [] h n 0 0
  refine rr_iload_n (i := 1) C dX0_placeOf_0 rfl rfl ?_
  refine rr_if_lt (tgt := 30) C dX0_placeOf_1 (by decide) (fun c1_ => ?_) (fun c1_ => ?_)
  · replace hr := (if_pos c1_).symm.trans hr
    refine rr_iconst (v := (-1)) C dX0_placeOf_30 (by decide) ?_
    obtain rfl := Option.some.inj hr
    exact rr_iret (ty := .int) C dX0_placeOf_31 rfl rfl ⟨rfl, rfl, rfl⟩
  · replace hr := (if_neg c1_).symm.trans hr
    refine rr_iload_n (i := 1) C dX0_placeOf_4 rfl rfl ?_
    refine rr_bipush (v := 11) C dX0_placeOf_5 (by decide) ?_
    refine rr_icmp_ge (tgt := 30) C dX0_placeOf_7 (by decide) (fun c7_ => ?_) (fun c7_ => ?_)
    · replace hr := (if_pos c7_).symm.trans hr
      refine rr_iconst (v := (-1)) C dX0_placeOf_30 (by decide) ?_
      obtain rfl := Option.some.inj hr
      exact rr_iret (ty := .int) C dX0_placeOf_31 rfl rfl ⟨rfl, rfl, rfl⟩
    · replace hr := (if_neg c7_).symm.trans hr
      refine rr_iload_n (i := 2) C dX0_placeOf_10 rfl rfl ?_
      refine rr_if_lt (tgt := 30) C dX0_placeOf_11 (by decide) (fun c11_ => ?_) (fun c11_ => ?_)
      · replace hr := (if_pos c11_).symm.trans hr
        refine rr_iconst (v := (-1)) C dX0_placeOf_30 (by decide) ?_
        obtain rfl := Option.some.inj hr
        exact rr_iret (ty := .int) C dX0_placeOf_31 rfl rfl ⟨rfl, rfl, rfl⟩
      · replace hr := (if_neg c11_).symm.trans hr
        refine rr_iload_n (i := 2) C dX0_placeOf_14 rfl rfl ?_
        refine rr_bipush (v := 15) C dX0_placeOf_15 (by decide) ?_
        refine rr_icmp_ge (tgt := 30) C dX0_placeOf_17 (by decide) (fun c17_ => ?_) (fun c17_ => ?_)
        · replace hr := (if_pos c17_).symm.trans hr
          refine rr_iconst (v := (-1)) C dX0_placeOf_30 (by decide) ?_
          obtain rfl := Option.some.inj hr
          exact rr_iret (ty := .int) C dX0_placeOf_31 rfl rfl ⟨rfl, rfl, rfl⟩
        · replace hr := (if_neg c17_).symm.trans hr
          refine rr_iload_n (i := 3) C dX0_placeOf_20 rfl rfl ?_
          refine rr_if_lt (tgt := 30) C dX0_placeOf_21 (by decide) (fun c21_ => ?_) (fun c21_ => ?_)
          · replace hr := (if_pos c21_).symm.trans hr
            refine rr_iconst (v := (-1)) C dX0_placeOf_30 (by decide) ?_
            obtain rfl := Option.some.inj hr
            exact rr_iret (ty := .int) C dX0_placeOf_31 rfl rfl ⟨rfl, rfl, rfl⟩
          · replace hr := (if_neg c21_).symm.trans hr
            refine rr_iload_n (i := 3) C dX0_placeOf_24 rfl rfl ?_
            refine rr_bipush (v := 17) C dX0_placeOf_25 (by decide) ?_
            refine rr_icmp_lt (tgt := 32) C dX0_placeOf_27 (by decide) (fun c27_ => ?_) (fun c27_ => ?_)
            · replace hr := (if_pos c27_).symm.trans hr
              refine rr_iload_n (i := 1) C dX0_placeOf_32 rfl rfl ?_
              refine rr_bipush (v := 15) C dX0_placeOf_33 (by decide) ?_
              refine rr_imul C dX0_placeOf_35 ?_
              refine rr_iload_n (i := 2) C dX0_placeOf_36 rfl rfl ?_
              refine rr_iadd C dX0_placeOf_37 ?_
              refine rr_bipush (v := 17) C dX0_placeOf_38 (by decide) ?_
              refine rr_imul C dX0_placeOf_40 ?_
              refine rr_iload_n (i := 3) C dX0_placeOf_41 rfl rfl ?_
              refine rr_iadd C dX0_placeOf_42 ?_
              obtain rfl := Option.some.inj hr
              exact rr_iret (ty := .int) C dX0_placeOf_43 rfl rfl ⟨rfl, rfl, rfl⟩
            · replace hr := (if_neg c27_).symm.trans hr
              refine rr_iconst (v := (-1)) C dX0_placeOf_30 (by decide) ?_
              obtain rfl := Option.some.inj hr
              exact rr_iret (ty := .int) C dX0_placeOf_31 rfl rfl ⟨rfl, rfl, rfl⟩
def q_X0_take (K : Nat) (h : mm_H) (n : Nat) (l0 : Nat) (l1 : Int32) (l2 : Int32) (l3 : Int32) (l4 : Int32) (l5 : Int32) : Option (Int32 × mm_H) :=
  (ckq h n l0 0).bind fun u1 =>
  (q_X0_placeOf K h n l0 l1 l2 l3).bind fun v3 =>
  if v3 = (-1) then
    some ((-1), h)
  else
  (rdI h n l0 0 4).bind fun v5 =>
  if v5 < 500 then
    (rdR h n l0 0 0).bind fun v7 =>
    (rdI h n l0 0 4).bind fun v9 =>
    v7.bind fun a11 =>
    (stI h n a11 v9 l4).bind fun h13 =>
    (rdR h13 n l0 0 1).bind fun v15 =>
    (rdI h13 n l0 0 4).bind fun v17 =>
    v15.bind fun a19 =>
    (stI h13 n a19 v17 l5).bind fun h21 =>
    (rdR h21 n l0 0 2).bind fun v23 =>
    (rdI h21 n l0 0 4).bind fun v25 =>
    (rdR h21 n l0 0 3).bind fun v27 =>
    v27.bind fun a29 =>
    (ldI h21 n a29 v3).bind fun v31 =>
    v23.bind fun a33 =>
    (stI h21 n a33 v25 v31).bind fun h35 =>
    (rdR h35 n l0 0 3).bind fun v37 =>
    (rdI h35 n l0 0 4).bind fun v39 =>
    v37.bind fun a41 =>
    (stI h35 n a41 v3 v39).bind fun h43 =>
    (rdI h43 n l0 0 4).bind fun v45 =>
    (wrF h43 n l0 0 4 (.int (v45 + 1))).bind fun h47 =>
    (rdI h47 n l0 0 4).bind fun v49 =>
    some (v49 - 1, h47)
  else
  some ((-1), h)
set_option maxRecDepth 100000 in
set_option maxHeartbeats 4000000 in
theorem c_X0_take {K : Nat} {G : mm_G} {l : Launch} {h : mm_H} {n : Nat} (l0 : Nat) (l1 : Int32) (l2 : Int32) (l3 : Int32) (l4 : Int32) (l5 : Int32) {r_ : Int32 × mm_H} (hn : 48 ≤ n) (hr : q_X0_take K h n l0 l1 l2 l3 l4 l5 = some r_) : Sp G l yX0_take cX0_take 7 (some .int) 1 0 0 [.ref l0, .int l1, .int l2, .int l3, .int l4, .int l5] h n (fun v h' n' => v = some (.int r_.1) ∧ h' = r_.2 ∧ n' = n) := by
  refine Sp_of (by decide +kernel) (Nat.le_of_ble_eq_true rfl) hn ?_
  intro W0 hwl C
  subst hwl
  unfold q_X0_take at hr
  show WW W0 G 7 0 0 _ 0 [some (.ref l0), some (.int l1), some (.int l2), some (.int l3), some (.int l4), some (.int l5), none] [] h n 0 0
  refine rr_aload_n (i := 0) C dX0_take_0 rfl rfl ?_
  refine rr_iload_n (i := 1) C dX0_take_1 rfl rfl ?_
  refine rr_iload_n (i := 2) C dX0_take_2 rfl rfl ?_
  refine rr_iload_n (i := 3) C dX0_take_3 rfl rfl ?_
  replace hr := Option.bind_eq_some_iff.mp hr
  obtain ⟨u1, e2, hr⟩ := hr
  replace hr := Option.bind_eq_some_iff.mp hr
  obtain ⟨v3, e4, hr⟩ := hr
  refine rr_callVq (as := [.int l1, .int l2, .int l3]) (st := []) (mc' := 0) (ms' := 0) C dX0_take_4 iv_X0_30 (by decide) e2 rfl (Nat.le_of_ble_eq_true rfl) (c_X0_placeOf l0 l1 l2 l3 (by omega) e4) (fun v_ h_ n_ q_ => ?_)
  obtain ⟨q1_, q2_, q3_⟩ := q_
  subst v_; subst h_; subst n_
  show WW W0 G 7 _ _ _ 7 [some (.ref l0), some (.int l1), some (.int l2), some (.int l3), some (.int l4), some (.int l5), none] [.int v3] h n _ _
  refine rr_istore C dX0_take_7 (by decide) ?_
  show WW W0 G 7 _ _ _ 9 [some (.ref l0), some (.int l1), some (.int l2), some (.int l3), some (.int l4), some (.int l5), some (.int v3)] [] h n _ _
  refine rr_iload C dX0_take_9 rfl ?_
  refine rr_iconst (v := (-1)) C dX0_take_11 (by decide) ?_
  refine rr_icmp_eq (tgt := 25) C dX0_take_12 (by decide) (fun c12_ => ?_) (fun c12_ => ?_)
  · replace hr := (if_pos c12_).symm.trans hr
    refine rr_iconst (v := (-1)) C dX0_take_25 (by decide) ?_
    obtain rfl := Option.some.inj hr
    exact rr_iret (ty := .int) C dX0_take_26 rfl rfl ⟨rfl, rfl, rfl⟩
  · replace hr := (if_neg c12_).symm.trans hr
    refine rr_aload_n (i := 0) C dX0_take_15 rfl rfl ?_
    replace hr := Option.bind_eq_some_iff.mp hr
    obtain ⟨v5, e6, hr⟩ := hr
    refine rr_rdI C dX0_take_16 fl_X0_34 e6 ?_
    refine rr_sipush (v := 500) C dX0_take_19 (by decide) ?_
    refine rr_icmp_lt (tgt := 27) C dX0_take_22 (by decide) (fun c22_ => ?_) (fun c22_ => ?_)
    · replace hr := (if_pos c22_).symm.trans hr
      refine rr_aload_n (i := 0) C dX0_take_27 rfl rfl ?_
      replace hr := Option.bind_eq_some_iff.mp hr
      obtain ⟨v7, e8, hr⟩ := hr
      refine rr_rdR C dX0_take_28 fl_X0_9 e8 ?_
      refine rr_aload_n (i := 0) C dX0_take_31 rfl rfl ?_
      replace hr := Option.bind_eq_some_iff.mp hr
      obtain ⟨v9, e10, hr⟩ := hr
      refine rr_rdI C dX0_take_32 fl_X0_34 e10 ?_
      refine rr_iload C dX0_take_35 rfl ?_
      replace hr := Option.bind_eq_some_iff.mp hr
      obtain ⟨a11, e12, hr⟩ := hr
      subst e12
      replace hr := Option.bind_eq_some_iff.mp hr
      obtain ⟨h13, e14, hr⟩ := hr
      refine rr_stI C dX0_take_37 e14 ?_
      refine rr_aload_n (i := 0) C dX0_take_38 rfl rfl ?_
      replace hr := Option.bind_eq_some_iff.mp hr
      obtain ⟨v15, e16, hr⟩ := hr
      refine rr_rdR C dX0_take_39 fl_X0_15 e16 ?_
      refine rr_aload_n (i := 0) C dX0_take_42 rfl rfl ?_
      replace hr := Option.bind_eq_some_iff.mp hr
      obtain ⟨v17, e18, hr⟩ := hr
      refine rr_rdI C dX0_take_43 fl_X0_34 e18 ?_
      refine rr_iload C dX0_take_46 rfl ?_
      replace hr := Option.bind_eq_some_iff.mp hr
      obtain ⟨a19, e20, hr⟩ := hr
      subst e20
      replace hr := Option.bind_eq_some_iff.mp hr
      obtain ⟨h21, e22, hr⟩ := hr
      refine rr_stI C dX0_take_48 e22 ?_
      refine rr_aload_n (i := 0) C dX0_take_49 rfl rfl ?_
      replace hr := Option.bind_eq_some_iff.mp hr
      obtain ⟨v23, e24, hr⟩ := hr
      refine rr_rdR C dX0_take_50 fl_X0_18 e24 ?_
      refine rr_aload_n (i := 0) C dX0_take_53 rfl rfl ?_
      replace hr := Option.bind_eq_some_iff.mp hr
      obtain ⟨v25, e26, hr⟩ := hr
      refine rr_rdI C dX0_take_54 fl_X0_34 e26 ?_
      refine rr_aload_n (i := 0) C dX0_take_57 rfl rfl ?_
      replace hr := Option.bind_eq_some_iff.mp hr
      obtain ⟨v27, e28, hr⟩ := hr
      refine rr_rdR C dX0_take_58 fl_X0_21 e28 ?_
      refine rr_iload C dX0_take_61 rfl ?_
      replace hr := Option.bind_eq_some_iff.mp hr
      obtain ⟨a29, e30, hr⟩ := hr
      subst e30
      replace hr := Option.bind_eq_some_iff.mp hr
      obtain ⟨v31, e32, hr⟩ := hr
      refine rr_ldI C dX0_take_63 e32 ?_
      replace hr := Option.bind_eq_some_iff.mp hr
      obtain ⟨a33, e34, hr⟩ := hr
      subst e34
      replace hr := Option.bind_eq_some_iff.mp hr
      obtain ⟨h35, e36, hr⟩ := hr
      refine rr_stI C dX0_take_64 e36 ?_
      refine rr_aload_n (i := 0) C dX0_take_65 rfl rfl ?_
      replace hr := Option.bind_eq_some_iff.mp hr
      obtain ⟨v37, e38, hr⟩ := hr
      refine rr_rdR C dX0_take_66 fl_X0_21 e38 ?_
      refine rr_iload C dX0_take_69 rfl ?_
      refine rr_aload_n (i := 0) C dX0_take_71 rfl rfl ?_
      replace hr := Option.bind_eq_some_iff.mp hr
      obtain ⟨v39, e40, hr⟩ := hr
      refine rr_rdI C dX0_take_72 fl_X0_34 e40 ?_
      replace hr := Option.bind_eq_some_iff.mp hr
      obtain ⟨a41, e42, hr⟩ := hr
      subst e42
      replace hr := Option.bind_eq_some_iff.mp hr
      obtain ⟨h43, e44, hr⟩ := hr
      refine rr_stI C dX0_take_75 e44 ?_
      refine rr_aload_n (i := 0) C dX0_take_76 rfl rfl ?_
      refine rr_dup C dX0_take_77 rfl ?_
      replace hr := Option.bind_eq_some_iff.mp hr
      obtain ⟨v45, e46, hr⟩ := hr
      refine rr_rdI C dX0_take_78 fl_X0_34 e46 ?_
      refine rr_iconst (v := 1) C dX0_take_81 (by decide) ?_
      refine rr_iadd C dX0_take_82 ?_
      replace hr := Option.bind_eq_some_iff.mp hr
      obtain ⟨h47, e48, hr⟩ := hr
      refine rr_wrF C dX0_take_83 fp_X0_34 rfl rfl e48 ?_
      refine rr_aload_n (i := 0) C dX0_take_86 rfl rfl ?_
      replace hr := Option.bind_eq_some_iff.mp hr
      obtain ⟨v49, e50, hr⟩ := hr
      refine rr_rdI C dX0_take_87 fl_X0_34 e50 ?_
      refine rr_iconst (v := 1) C dX0_take_90 (by decide) ?_
      refine rr_isub C dX0_take_91 ?_
      obtain rfl := Option.some.inj hr
      exact rr_iret (ty := .int) C dX0_take_92 rfl rfl ⟨rfl, rfl, rfl⟩
    · replace hr := (if_neg c22_).symm.trans hr
      refine rr_iconst (v := (-1)) C dX0_take_25 (by decide) ?_
      obtain rfl := Option.some.inj hr
      exact rr_iret (ty := .int) C dX0_take_26 rfl rfl ⟨rfl, rfl, rfl⟩
def lp_X0_knownBy_31 (K : Nat) (h : mm_H) (n : Nat) (l0 : Nat) (l4 : Int32) : Nat → Int32 → Int32 → Option (Nat × Int32)
  | 0, _, _ => none
  | k_ + 1, l6, l7 =>
    if 500 ≤ l7 then
      some (1, l6)
    else
    if l6 < 0 then
      some (1, l6)
    else
    if 500 ≤ l6 then
      some (1, l6)
    else
    (rdR h n l0 0 1).bind fun v5 =>
    v5.bind fun a7 =>
    (ldI h n a7 l6).bind fun v9 =>
    if l4 < v9 then
      (rdR h n l0 0 2).bind fun v11 =>
      v11.bind fun a13 =>
      (ldI h n a13 l6).bind fun v15 =>
      lp_X0_knownBy_31 K h n l0 l4 k_ v15 (l7 + 1)
    else
    some (0, l6)
def q_X0_knownBy (K : Nat) (h : mm_H) (n : Nat) (l0 : Nat) (l1 : Int32) (l2 : Int32) (l3 : Int32) (l4 : Int32) : Option (Int32) :=
  (ckq h n l0 0).bind fun u1 =>
  (q_X0_placeOf K h n l0 l1 l2 l3).bind fun v3 =>
  if v3 = (-1) then
    (lp_X0_knownBy_31 K h n l0 l4 K (-1) 0).bind fun v17 =>
    if v17.1 = 0 then
      (rdR h n l0 0 0).bind fun v19 =>
      v19.bind fun a21 =>
      (ldI h n a21 v17.2).bind fun v23 =>
      some v23
    else
    if v17.1 = 1 then
      some (-1)
    else
      none
  else
  (rdR h n l0 0 3).bind fun v25 =>
  v25.bind fun a27 =>
  (ldI h n a27 v3).bind fun v29 =>
  (lp_X0_knownBy_31 K h n l0 l4 K v29 0).bind fun v31 =>
  if v31.1 = 0 then
    (rdR h n l0 0 0).bind fun v33 =>
    v33.bind fun a35 =>
    (ldI h n a35 v31.2).bind fun v37 =>
    some v37
  else
  if v31.1 = 1 then
    some (-1)
  else
    none
set_option maxRecDepth 100000 in
set_option maxHeartbeats 4000000 in
theorem w_X0_knownBy_31 {K : Nat} {W0 : mm_X} {G : mm_G} {mc ms kc ks : Nat} {Q_ : State → Prop} {h : mm_H} {n : Nat} (C : mm_C W0 G cX0_knownBy yX0_knownBy.cls 8 mc ms (some .int) 1 yX0_knownBy.name) (hn : 48 ≤ n) (l0 : Nat) (l4 : Int32) : ∀ (k_ : Nat) (l6 : Int32) (l7 : Int32) {r_ : Nat × Int32} (hr : lp_X0_knownBy_31 K h n l0 l4 k_ l6 l7 = some r_) (hx0 : r_.1 = 0 → WW W0 G 8 mc ms Q_ 64 [some (.ref l0), none, none, none, none, none, some (.int r_.2), none] [] h n kc ks) (hx1 : r_.1 = 1 → WW W0 G 8 mc ms Q_ 87 [none, none, none, none, none, none, none, none] [] h n kc ks), WW W0 G 8 mc ms Q_ 31 [some (.ref l0), none, none, none, some (.int l4), none, some (.int l6), some (.int l7)] [] h n kc ks := by
  intro k_
  induction k_ with
  | zero =>
    intro l6 l7 r_ hr
    cases hr
  | succ k_ ih_ =>
    intro l6 l7 r_ hr hx0 hx1
    unfold lp_X0_knownBy_31 at hr
    refine rr_iload C dX0_knownBy_31 rfl ?_
    refine rr_sipush (v := 500) C dX0_knownBy_33 (by decide) ?_
    refine rr_icmp_ge (tgt := 87) C dX0_knownBy_36 (by decide) (fun c36_ => ?_) (fun c36_ => ?_)
    · replace hr := (if_pos c36_).symm.trans hr
      obtain rfl := Option.some.inj hr
      exact rr_keep [false, false, false, false, false, false, false, false] (hx1 rfl)
    · replace hr := (if_neg c36_).symm.trans hr
      refine rr_iload C dX0_knownBy_39 rfl ?_
      refine rr_if_lt (tgt := 87) C dX0_knownBy_41 (by decide) (fun c41_ => ?_) (fun c41_ => ?_)
      · replace hr := (if_pos c41_).symm.trans hr
        obtain rfl := Option.some.inj hr
        exact rr_keep [false, false, false, false, false, false, false, false] (hx1 rfl)
      · replace hr := (if_neg c41_).symm.trans hr
        refine rr_iload C dX0_knownBy_44 rfl ?_
        refine rr_sipush (v := 500) C dX0_knownBy_46 (by decide) ?_
        refine rr_icmp_ge (tgt := 87) C dX0_knownBy_49 (by decide) (fun c49_ => ?_) (fun c49_ => ?_)
        · replace hr := (if_pos c49_).symm.trans hr
          obtain rfl := Option.some.inj hr
          exact rr_keep [false, false, false, false, false, false, false, false] (hx1 rfl)
        · replace hr := (if_neg c49_).symm.trans hr
          refine rr_aload_n (i := 0) C dX0_knownBy_52 rfl rfl ?_
          replace hr := Option.bind_eq_some_iff.mp hr
          obtain ⟨v5, e6, hr⟩ := hr
          refine rr_rdR C dX0_knownBy_53 fl_X0_15 e6 ?_
          refine rr_iload C dX0_knownBy_56 rfl ?_
          replace hr := Option.bind_eq_some_iff.mp hr
          obtain ⟨a7, e8, hr⟩ := hr
          subst e8
          replace hr := Option.bind_eq_some_iff.mp hr
          obtain ⟨v9, e10, hr⟩ := hr
          refine rr_ldI C dX0_knownBy_58 e10 ?_
          refine rr_iload C dX0_knownBy_59 rfl ?_
          refine rr_icmp_gt (tgt := 72) C dX0_knownBy_61 (by decide) (fun c61_ => ?_) (fun c61_ => ?_)
          · replace hr := (if_pos c61_).symm.trans hr
            refine rr_aload_n (i := 0) C dX0_knownBy_72 rfl rfl ?_
            replace hr := Option.bind_eq_some_iff.mp hr
            obtain ⟨v11, e12, hr⟩ := hr
            refine rr_rdR C dX0_knownBy_73 fl_X0_18 e12 ?_
            refine rr_iload C dX0_knownBy_76 rfl ?_
            replace hr := Option.bind_eq_some_iff.mp hr
            obtain ⟨a13, e14, hr⟩ := hr
            subst e14
            replace hr := Option.bind_eq_some_iff.mp hr
            obtain ⟨v15, e16, hr⟩ := hr
            refine rr_ldI C dX0_knownBy_78 e16 ?_
            refine rr_istore C dX0_knownBy_79 (by decide) ?_
            show WW W0 G 8 _ _ _ 81 [some (.ref l0), none, none, none, some (.int l4), none, some (.int v15), some (.int l7)] [] h n _ _
            refine rr_iinc (v := l7 + 1) C dX0_knownBy_81 rfl rfl ?_
            show WW W0 G 8 _ _ _ 84 [some (.ref l0), none, none, none, some (.int l4), none, some (.int v15), some (.int (l7 + 1))] [] h n _ _
            refine rr_goto (tgt := 31) C dX0_knownBy_84 (by decide) ?_
            exact rr_keep [true, false, false, false, true, false, true, true] (ih_ _ _ hr hx0 hx1)
          · replace hr := (if_neg c61_).symm.trans hr
            obtain rfl := Option.some.inj hr
            exact rr_keep [true, false, false, false, false, false, true, false] (hx0 rfl)
set_option maxRecDepth 100000 in
set_option maxHeartbeats 4000000 in
theorem c_X0_knownBy {K : Nat} {G : mm_G} {l : Launch} {h : mm_H} {n : Nat} (l0 : Nat) (l1 : Int32) (l2 : Int32) (l3 : Int32) (l4 : Int32) {r_ : Int32} (hn : 48 ≤ n) (hr : q_X0_knownBy K h n l0 l1 l2 l3 l4 = some r_) : Sp G l yX0_knownBy cX0_knownBy 8 (some .int) 1 0 0 [.ref l0, .int l1, .int l2, .int l3, .int l4] h n (fun v h' n' => v = some (.int r_) ∧ h' = h ∧ n' = n) := by
  refine Sp_of (by decide +kernel) (Nat.le_of_ble_eq_true rfl) hn ?_
  intro W0 hwl C
  subst hwl
  unfold q_X0_knownBy at hr
  show WW W0 G 8 0 0 _ 0 [some (.ref l0), some (.int l1), some (.int l2), some (.int l3), some (.int l4), none, none, none] [] h n 0 0
  refine rr_aload_n (i := 0) C dX0_knownBy_0 rfl rfl ?_
  refine rr_iload_n (i := 1) C dX0_knownBy_1 rfl rfl ?_
  refine rr_iload_n (i := 2) C dX0_knownBy_2 rfl rfl ?_
  refine rr_iload_n (i := 3) C dX0_knownBy_3 rfl rfl ?_
  replace hr := Option.bind_eq_some_iff.mp hr
  obtain ⟨u1, e2, hr⟩ := hr
  replace hr := Option.bind_eq_some_iff.mp hr
  obtain ⟨v3, e4, hr⟩ := hr
  refine rr_callVq (as := [.int l1, .int l2, .int l3]) (st := []) (mc' := 0) (ms' := 0) C dX0_knownBy_4 iv_X0_30 (by decide) e2 rfl (Nat.le_of_ble_eq_true rfl) (c_X0_placeOf l0 l1 l2 l3 (by omega) e4) (fun v_ h_ n_ q_ => ?_)
  obtain ⟨q1_, q2_, q3_⟩ := q_
  subst v_; subst h_; subst n_
  show WW W0 G 8 _ _ _ 7 [some (.ref l0), some (.int l1), some (.int l2), some (.int l3), some (.int l4), none, none, none] [.int v3] h n _ _
  refine rr_istore C dX0_knownBy_7 (by decide) ?_
  show WW W0 G 8 _ _ _ 9 [some (.ref l0), some (.int l1), some (.int l2), some (.int l3), some (.int l4), some (.int v3), none, none] [] h n _ _
  refine rr_iload C dX0_knownBy_9 rfl ?_
  refine rr_iconst (v := (-1)) C dX0_knownBy_11 (by decide) ?_
  refine rr_icmp_ne (tgt := 19) C dX0_knownBy_12 (by decide) (fun c12_ => ?_) (fun c12_ => ?_)
  · replace hr := (if_neg c12_).symm.trans hr
    refine rr_aload_n (i := 0) C dX0_knownBy_19 rfl rfl ?_
    replace hr := Option.bind_eq_some_iff.mp hr
    obtain ⟨v25, e26, hr⟩ := hr
    refine rr_rdR C dX0_knownBy_20 fl_X0_21 e26 ?_
    refine rr_iload C dX0_knownBy_23 rfl ?_
    replace hr := Option.bind_eq_some_iff.mp hr
    obtain ⟨a27, e28, hr⟩ := hr
    subst e28
    replace hr := Option.bind_eq_some_iff.mp hr
    obtain ⟨v29, e30, hr⟩ := hr
    refine rr_ldI C dX0_knownBy_25 e30 ?_
    refine rr_istore C dX0_knownBy_26 (by decide) ?_
    show WW W0 G 8 _ _ _ 28 [some (.ref l0), some (.int l1), some (.int l2), some (.int l3), some (.int l4), some (.int v3), some (.int v29), none] [] h n _ _
    refine rr_iconst (v := 0) C dX0_knownBy_28 (by decide) ?_
    refine rr_istore C dX0_knownBy_29 (by decide) ?_
    show WW W0 G 8 _ _ _ 31 [some (.ref l0), some (.int l1), some (.int l2), some (.int l3), some (.int l4), some (.int v3), some (.int v29), some (.int 0)] [] h n _ _
    replace hr := Option.bind_eq_some_iff.mp hr
    obtain ⟨v31, e32, hr⟩ := hr
    refine rr_keep [true, false, false, false, true, false, true, true] (w_X0_knownBy_31 C (by omega) l0 l4 K v29 0 e32 ?_ ?_)
    · intro cx_
      replace hr := (if_pos cx_).symm.trans hr
      show WW W0 G 8 _ _ _ 64 [some (.ref l0), none, none, none, none, none, some (.int v31.2), none] [] h n _ _
      refine rr_aload_n (i := 0) C dX0_knownBy_64 rfl rfl ?_
      replace hr := Option.bind_eq_some_iff.mp hr
      obtain ⟨v33, e34, hr⟩ := hr
      refine rr_rdR C dX0_knownBy_65 fl_X0_9 e34 ?_
      refine rr_iload C dX0_knownBy_68 rfl ?_
      replace hr := Option.bind_eq_some_iff.mp hr
      obtain ⟨a35, e36, hr⟩ := hr
      subst e36
      replace hr := Option.bind_eq_some_iff.mp hr
      obtain ⟨v37, e38, hr⟩ := hr
      refine rr_ldI C dX0_knownBy_70 e38 ?_
      obtain rfl := Option.some.inj hr
      exact rr_iret (ty := .int) C dX0_knownBy_71 rfl rfl ⟨rfl, rfl, rfl⟩
    · intro cx_
      replace hr := (if_neg (fun z_ => absurd (z_.symm.trans cx_) (by decide))).symm.trans hr
      replace hr := (if_pos cx_).symm.trans hr
      show WW W0 G 8 _ _ _ 87 [none, none, none, none, none, none, none, none] [] h n _ _
      refine rr_iconst (v := (-1)) C dX0_knownBy_87 (by decide) ?_
      obtain rfl := Option.some.inj hr
      exact rr_iret (ty := .int) C dX0_knownBy_88 rfl rfl ⟨rfl, rfl, rfl⟩
  · replace hr := (if_pos c12_).symm.trans hr
    refine rr_iconst (v := (-1)) C dX0_knownBy_15 (by decide) ?_
    refine rr_goto (tgt := 26) C dX0_knownBy_16 (by decide) ?_
    refine rr_istore C dX0_knownBy_26 (by decide) ?_
    show WW W0 G 8 _ _ _ 28 [some (.ref l0), some (.int l1), some (.int l2), some (.int l3), some (.int l4), some (.int v3), some (.int (-1)), none] [] h n _ _
    refine rr_iconst (v := 0) C dX0_knownBy_28 (by decide) ?_
    refine rr_istore C dX0_knownBy_29 (by decide) ?_
    show WW W0 G 8 _ _ _ 31 [some (.ref l0), some (.int l1), some (.int l2), some (.int l3), some (.int l4), some (.int v3), some (.int (-1)), some (.int 0)] [] h n _ _
    replace hr := Option.bind_eq_some_iff.mp hr
    obtain ⟨v17, e18, hr⟩ := hr
    refine rr_keep [true, false, false, false, true, false, true, true] (w_X0_knownBy_31 C (by omega) l0 l4 K (-1) 0 e18 ?_ ?_)
    · intro cx_
      replace hr := (if_pos cx_).symm.trans hr
      show WW W0 G 8 _ _ _ 64 [some (.ref l0), none, none, none, none, none, some (.int v17.2), none] [] h n _ _
      refine rr_aload_n (i := 0) C dX0_knownBy_64 rfl rfl ?_
      replace hr := Option.bind_eq_some_iff.mp hr
      obtain ⟨v19, e20, hr⟩ := hr
      refine rr_rdR C dX0_knownBy_65 fl_X0_9 e20 ?_
      refine rr_iload C dX0_knownBy_68 rfl ?_
      replace hr := Option.bind_eq_some_iff.mp hr
      obtain ⟨a21, e22, hr⟩ := hr
      subst e22
      replace hr := Option.bind_eq_some_iff.mp hr
      obtain ⟨v23, e24, hr⟩ := hr
      refine rr_ldI C dX0_knownBy_70 e24 ?_
      obtain rfl := Option.some.inj hr
      exact rr_iret (ty := .int) C dX0_knownBy_71 rfl rfl ⟨rfl, rfl, rfl⟩
    · intro cx_
      replace hr := (if_neg (fun z_ => absurd (z_.symm.trans cx_) (by decide))).symm.trans hr
      replace hr := (if_pos cx_).symm.trans hr
      show WW W0 G 8 _ _ _ 87 [none, none, none, none, none, none, none, none] [] h n _ _
      refine rr_iconst (v := (-1)) C dX0_knownBy_87 (by decide) ?_
      obtain rfl := Option.some.inj hr
      exact rr_iret (ty := .int) C dX0_knownBy_88 rfl rfl ⟨rfl, rfl, rfl⟩
def lp_X0_latestUpTo_3 (K : Nat) (h : mm_H) (n : Nat) (l0 : Nat) (l1 : Int32) (l3 : Int32) (l4 : Int32) : Nat → Int32 → Option (Nat × Int32)
  | 0, _ => none
  | k_ + 1, l5 =>
    if l5 < 0 then
      some (1, 0)
    else
    (ckq h n l0 0).bind fun u1 =>
    (q_X0_knownBy K h n l0 l1 l5 l3 l4).bind fun v3 =>
    if v3 = (-1) then
      lp_X0_latestUpTo_3 K h n l0 l1 l3 l4 k_ (l5 + (-1))
    else
    some (0, v3)
def q_X0_latestUpTo (K : Nat) (h : mm_H) (n : Nat) (l0 : Nat) (l1 : Int32) (l2 : Int32) (l3 : Int32) (l4 : Int32) : Option (Int32) :=
  (lp_X0_latestUpTo_3 K h n l0 l1 l3 l4 K l2).bind fun v5 =>
  if v5.1 = 0 then
    some v5.2
  else
  if v5.1 = 1 then
    some 0
  else
    none
set_option maxRecDepth 100000 in
set_option maxHeartbeats 4000000 in
theorem w_X0_latestUpTo_3 {K : Nat} {W0 : mm_X} {G : mm_G} {mc ms kc ks : Nat} {Q_ : State → Prop} {h : mm_H} {n : Nat} (C : mm_C W0 G cX0_latestUpTo yX0_latestUpTo.cls 7 mc ms (some .int) 2 yX0_latestUpTo.name) (hn : 48 ≤ n) (l0 : Nat) (l1 : Int32) (l3 : Int32) (l4 : Int32) : ∀ (k_ : Nat) (l5 : Int32) {r_ : Nat × Int32} (hr : lp_X0_latestUpTo_3 K h n l0 l1 l3 l4 k_ l5 = some r_) (hx0 : r_.1 = 0 → WW W0 G 7 mc ms Q_ 26 [none, none, none, none, none, none, some (.int r_.2)] [] h n kc ks) (hx1 : r_.1 = 1 → WW W0 G 7 mc ms Q_ 35 [none, none, none, none, none, none, none] [] h n kc ks), WW W0 G 7 mc ms Q_ 3 [some (.ref l0), some (.int l1), none, some (.int l3), some (.int l4), some (.int l5), none] [] h n kc ks := by
  intro k_
  induction k_ with
  | zero =>
    intro l5 r_ hr
    cases hr
  | succ k_ ih_ =>
    intro l5 r_ hr hx0 hx1
    unfold lp_X0_latestUpTo_3 at hr
    refine rr_iload C dX0_latestUpTo_3 rfl ?_
    refine rr_if_lt (tgt := 35) C dX0_latestUpTo_5 (by decide) (fun c5_ => ?_) (fun c5_ => ?_)
    · replace hr := (if_pos c5_).symm.trans hr
      obtain rfl := Option.some.inj hr
      exact rr_keep [false, false, false, false, false, false, false] (hx1 rfl)
    · replace hr := (if_neg c5_).symm.trans hr
      refine rr_aload_n (i := 0) C dX0_latestUpTo_8 rfl rfl ?_
      refine rr_iload_n (i := 1) C dX0_latestUpTo_9 rfl rfl ?_
      refine rr_iload C dX0_latestUpTo_10 rfl ?_
      refine rr_iload_n (i := 3) C dX0_latestUpTo_12 rfl rfl ?_
      refine rr_iload C dX0_latestUpTo_13 rfl ?_
      replace hr := Option.bind_eq_some_iff.mp hr
      obtain ⟨u1, e2, hr⟩ := hr
      replace hr := Option.bind_eq_some_iff.mp hr
      obtain ⟨v3, e4, hr⟩ := hr
      refine rr_callVq (as := [.int l1, .int l5, .int l3, .int l4]) (st := []) (mc' := 0) (ms' := 0) C dX0_latestUpTo_15 iv_X0_38 (by decide) e2 rfl (Nat.le_of_ble_eq_true rfl) (c_X0_knownBy l0 l1 l5 l3 l4 (by omega) e4) (fun v_ h_ n_ q_ => ?_)
      obtain ⟨q1_, q2_, q3_⟩ := q_
      subst v_; subst h_; subst n_
      show WW W0 G 7 _ _ _ 18 [some (.ref l0), some (.int l1), none, some (.int l3), some (.int l4), some (.int l5), none] [.int v3] h n _ _
      refine rr_istore C dX0_latestUpTo_18 (by decide) ?_
      show WW W0 G 7 _ _ _ 20 [some (.ref l0), some (.int l1), none, some (.int l3), some (.int l4), some (.int l5), some (.int v3)] [] h n _ _
      refine rr_iload C dX0_latestUpTo_20 rfl ?_
      refine rr_iconst (v := (-1)) C dX0_latestUpTo_22 (by decide) ?_
      refine rr_icmp_eq (tgt := 29) C dX0_latestUpTo_23 (by decide) (fun c23_ => ?_) (fun c23_ => ?_)
      · replace hr := (if_pos c23_).symm.trans hr
        refine rr_iinc (v := l5 + (-1)) C dX0_latestUpTo_29 rfl rfl ?_
        show WW W0 G 7 _ _ _ 32 [some (.ref l0), some (.int l1), none, some (.int l3), some (.int l4), some (.int (l5 + (-1))), some (.int v3)] [] h n _ _
        refine rr_goto (tgt := 3) C dX0_latestUpTo_32 (by decide) ?_
        exact rr_keep [true, true, false, true, true, true, false] (ih_ _ hr hx0 hx1)
      · replace hr := (if_neg c23_).symm.trans hr
        obtain rfl := Option.some.inj hr
        exact rr_keep [false, false, false, false, false, false, true] (hx0 rfl)
set_option maxRecDepth 100000 in
set_option maxHeartbeats 4000000 in
theorem c_X0_latestUpTo {K : Nat} {G : mm_G} {l : Launch} {h : mm_H} {n : Nat} (l0 : Nat) (l1 : Int32) (l2 : Int32) (l3 : Int32) (l4 : Int32) {r_ : Int32} (hn : 48 ≤ n) (hr : q_X0_latestUpTo K h n l0 l1 l2 l3 l4 = some r_) : Sp G l yX0_latestUpTo cX0_latestUpTo 7 (some .int) 2 0 0 [.ref l0, .int l1, .int l2, .int l3, .int l4] h n (fun v h' n' => v = some (.int r_) ∧ h' = h ∧ n' = n) := by
  refine Sp_of (by decide +kernel) (Nat.le_of_ble_eq_true rfl) hn ?_
  intro W0 hwl C
  subst hwl
  unfold q_X0_latestUpTo at hr
  show WW W0 G 7 0 0 _ 0 [some (.ref l0), some (.int l1), some (.int l2), some (.int l3), some (.int l4), none, none] [] h n 0 0
  refine rr_iload_n (i := 2) C dX0_latestUpTo_0 rfl rfl ?_
  refine rr_istore C dX0_latestUpTo_1 (by decide) ?_
  show WW W0 G 7 _ _ _ 3 [some (.ref l0), some (.int l1), some (.int l2), some (.int l3), some (.int l4), some (.int l2), none] [] h n _ _
  replace hr := Option.bind_eq_some_iff.mp hr
  obtain ⟨v5, e6, hr⟩ := hr
  refine rr_keep [true, true, false, true, true, true, false] (w_X0_latestUpTo_3 C (by omega) l0 l1 l3 l4 K l2 e6 ?_ ?_)
  · intro cx_
    replace hr := (if_pos cx_).symm.trans hr
    show WW W0 G 7 _ _ _ 26 [none, none, none, none, none, none, some (.int v5.2)] [] h n _ _
    refine rr_iload C dX0_latestUpTo_26 rfl ?_
    obtain rfl := Option.some.inj hr
    exact rr_iret (ty := .int) C dX0_latestUpTo_28 rfl rfl ⟨rfl, rfl, rfl⟩
  · intro cx_
    replace hr := (if_neg (fun z_ => absurd (z_.symm.trans cx_) (by decide))).symm.trans hr
    replace hr := (if_pos cx_).symm.trans hr
    show WW W0 G 7 _ _ _ 35 [none, none, none, none, none, none, none] [] h n _ _
    refine rr_iconst (v := 0) C dX0_latestUpTo_35 (by decide) ?_
    obtain rfl := Option.some.inj hr
    exact rr_iret (ty := .int) C dX0_latestUpTo_36 rfl rfl ⟨rfl, rfl, rfl⟩
def lp_X0_latestHomesUpTo_22 (K : Nat) (h : mm_H) (n : Nat) (l0 : Nat) (l1 : Int32) (l3 : Int32) (l6 : Int32) : Nat → Int32 → Int32 → Int32 → Option (Int32 × Int32)
  | 0, _, _, _ => none
  | k_ + 1, l4, l5, l7 =>
    if 3 ≤ l7 then
      some (l4, l5)
    else
    (ckq h n l0 0).bind fun u1 =>
    (q_X0_knownBy K h n l0 l1 l6 (11 + l7) l3).bind fun v3 =>
    if v3 = (-1) then
      lp_X0_latestHomesUpTo_22 K h n l0 l1 l3 l6 k_ l4 l5 (l7 + 1)
    else
    lp_X0_latestHomesUpTo_22 K h n l0 l1 l3 l6 k_ 1 (l5 + v3) (l7 + 1)
def lp_X0_latestHomesUpTo_9 (K : Nat) (h : mm_H) (n : Nat) (l0 : Nat) (l1 : Int32) (l3 : Int32) : Nat → Int32 → Int32 → Int32 → Option (Int32)
  | 0, _, _, _ => none
  | k_ + 1, l4, l5, l6 =>
    if l6 < 0 then
      some (l5)
    else
    if l4 = 0 then
      (lp_X0_latestHomesUpTo_22 K h n l0 l1 l3 l6 K l4 l5 0).bind fun v6 =>
      lp_X0_latestHomesUpTo_9 K h n l0 l1 l3 k_ v6.1 v6.2 (l6 + (-1))
    else
    some (l5)
def q_X0_latestHomesUpTo (K : Nat) (h : mm_H) (n : Nat) (l0 : Nat) (l1 : Int32) (l2 : Int32) (l3 : Int32) : Option (Int32) :=
  (lp_X0_latestHomesUpTo_9 K h n l0 l1 l3 K 0 0 l2).bind fun v8 =>
  some v8
set_option maxRecDepth 100000 in
set_option maxHeartbeats 4000000 in
theorem w_X0_latestHomesUpTo_22 {K : Nat} {W0 : mm_X} {G : mm_G} {mc ms kc ks : Nat} {Q_ : State → Prop} {h : mm_H} {n : Nat} (C : mm_C W0 G cX0_latestHomesUpTo yX0_latestHomesUpTo.cls 9 mc ms (some .int) 2 yX0_latestHomesUpTo.name) (hn : 48 ≤ n) (l0 : Nat) (l1 : Int32) (l3 : Int32) (l6 : Int32) : ∀ (k_ : Nat) (l4 : Int32) (l5 : Int32) (l7 : Int32) {r_ : Int32 × Int32} (hr : lp_X0_latestHomesUpTo_22 K h n l0 l1 l3 l6 k_ l4 l5 l7 = some r_) (hx0 : WW W0 G 9 mc ms Q_ 65 [some (.ref l0), some (.int l1), none, some (.int l3), some (.int r_.1), some (.int r_.2), some (.int l6), none, none] [] h n kc ks), WW W0 G 9 mc ms Q_ 22 [some (.ref l0), some (.int l1), none, some (.int l3), some (.int l4), some (.int l5), some (.int l6), some (.int l7), none] [] h n kc ks := by
  intro k_
  induction k_ with
  | zero =>
    intro l4 l5 l7 r_ hr
    cases hr
  | succ k_ ih_ =>
    intro l4 l5 l7 r_ hr hx0
    unfold lp_X0_latestHomesUpTo_22 at hr
    refine rr_iload C dX0_latestHomesUpTo_22 rfl ?_
    refine rr_iconst (v := 3) C dX0_latestHomesUpTo_24 (by decide) ?_
    refine rr_icmp_ge (tgt := 65) C dX0_latestHomesUpTo_25 (by decide) (fun c25_ => ?_) (fun c25_ => ?_)
    · replace hr := (if_pos c25_).symm.trans hr
      obtain rfl := Option.some.inj hr
      exact rr_keep [true, true, false, true, true, true, true, false, false] (hx0)
    · replace hr := (if_neg c25_).symm.trans hr
      refine rr_aload_n (i := 0) C dX0_latestHomesUpTo_28 rfl rfl ?_
      refine rr_iload_n (i := 1) C dX0_latestHomesUpTo_29 rfl rfl ?_
      refine rr_iload C dX0_latestHomesUpTo_30 rfl ?_
      refine rr_bipush (v := 11) C dX0_latestHomesUpTo_32 (by decide) ?_
      refine rr_iload C dX0_latestHomesUpTo_34 rfl ?_
      refine rr_iadd C dX0_latestHomesUpTo_36 ?_
      refine rr_iload_n (i := 3) C dX0_latestHomesUpTo_37 rfl rfl ?_
      replace hr := Option.bind_eq_some_iff.mp hr
      obtain ⟨u1, e2, hr⟩ := hr
      replace hr := Option.bind_eq_some_iff.mp hr
      obtain ⟨v3, e4, hr⟩ := hr
      refine rr_callVq (as := [.int l1, .int l6, .int (11 + l7), .int l3]) (st := []) (mc' := 0) (ms' := 0) C dX0_latestHomesUpTo_38 iv_X0_38 (by decide) e2 rfl (Nat.le_of_ble_eq_true rfl) (c_X0_knownBy l0 l1 l6 (11 + l7) l3 (by omega) e4) (fun v_ h_ n_ q_ => ?_)
      obtain ⟨q1_, q2_, q3_⟩ := q_
      subst v_; subst h_; subst n_
      show WW W0 G 9 _ _ _ 41 [some (.ref l0), some (.int l1), none, some (.int l3), some (.int l4), some (.int l5), some (.int l6), some (.int l7), none] [.int v3] h n _ _
      refine rr_istore C dX0_latestHomesUpTo_41 (by decide) ?_
      show WW W0 G 9 _ _ _ 43 [some (.ref l0), some (.int l1), none, some (.int l3), some (.int l4), some (.int l5), some (.int l6), some (.int l7), some (.int v3)] [] h n _ _
      refine rr_iload C dX0_latestHomesUpTo_43 rfl ?_
      refine rr_iconst (v := (-1)) C dX0_latestHomesUpTo_45 (by decide) ?_
      refine rr_icmp_eq (tgt := 59) C dX0_latestHomesUpTo_46 (by decide) (fun c46_ => ?_) (fun c46_ => ?_)
      · replace hr := (if_pos c46_).symm.trans hr
        refine rr_iinc (v := l7 + 1) C dX0_latestHomesUpTo_59 rfl rfl ?_
        show WW W0 G 9 _ _ _ 62 [some (.ref l0), some (.int l1), none, some (.int l3), some (.int l4), some (.int l5), some (.int l6), some (.int (l7 + 1)), some (.int v3)] [] h n _ _
        refine rr_goto (tgt := 22) C dX0_latestHomesUpTo_62 (by decide) ?_
        exact rr_keep [true, true, false, true, true, true, true, true, false] (ih_ _ _ _ hr hx0)
      · replace hr := (if_neg c46_).symm.trans hr
        refine rr_iconst (v := 1) C dX0_latestHomesUpTo_49 (by decide) ?_
        refine rr_istore C dX0_latestHomesUpTo_50 (by decide) ?_
        show WW W0 G 9 _ _ _ 52 [some (.ref l0), some (.int l1), none, some (.int l3), some (.int 1), some (.int l5), some (.int l6), some (.int l7), some (.int v3)] [] h n _ _
        refine rr_iload C dX0_latestHomesUpTo_52 rfl ?_
        refine rr_iload C dX0_latestHomesUpTo_54 rfl ?_
        refine rr_iadd C dX0_latestHomesUpTo_56 ?_
        refine rr_istore C dX0_latestHomesUpTo_57 (by decide) ?_
        show WW W0 G 9 _ _ _ 59 [some (.ref l0), some (.int l1), none, some (.int l3), some (.int 1), some (.int (l5 + v3)), some (.int l6), some (.int l7), some (.int v3)] [] h n _ _
        refine rr_iinc (v := l7 + 1) C dX0_latestHomesUpTo_59 rfl rfl ?_
        show WW W0 G 9 _ _ _ 62 [some (.ref l0), some (.int l1), none, some (.int l3), some (.int 1), some (.int (l5 + v3)), some (.int l6), some (.int (l7 + 1)), some (.int v3)] [] h n _ _
        refine rr_goto (tgt := 22) C dX0_latestHomesUpTo_62 (by decide) ?_
        exact rr_keep [true, true, false, true, true, true, true, true, false] (ih_ _ _ _ hr hx0)
set_option maxRecDepth 100000 in
set_option maxHeartbeats 4000000 in
theorem w_X0_latestHomesUpTo_9 {K : Nat} {W0 : mm_X} {G : mm_G} {mc ms kc ks : Nat} {Q_ : State → Prop} {h : mm_H} {n : Nat} (C : mm_C W0 G cX0_latestHomesUpTo yX0_latestHomesUpTo.cls 9 mc ms (some .int) 2 yX0_latestHomesUpTo.name) (hn : 48 ≤ n) (l0 : Nat) (l1 : Int32) (l3 : Int32) : ∀ (k_ : Nat) (l4 : Int32) (l5 : Int32) (l6 : Int32) {r_ : Int32} (hr : lp_X0_latestHomesUpTo_9 K h n l0 l1 l3 k_ l4 l5 l6 = some r_) (hx0 : WW W0 G 9 mc ms Q_ 71 [none, none, none, none, none, some (.int r_), none, none, none] [] h n kc ks), WW W0 G 9 mc ms Q_ 9 [some (.ref l0), some (.int l1), none, some (.int l3), some (.int l4), some (.int l5), some (.int l6), none, none] [] h n kc ks := by
  intro k_
  induction k_ with
  | zero =>
    intro l4 l5 l6 r_ hr
    cases hr
  | succ k_ ih_ =>
    intro l4 l5 l6 r_ hr hx0
    unfold lp_X0_latestHomesUpTo_9 at hr
    refine rr_iload C dX0_latestHomesUpTo_9 rfl ?_
    refine rr_if_lt (tgt := 71) C dX0_latestHomesUpTo_11 (by decide) (fun c11_ => ?_) (fun c11_ => ?_)
    · replace hr := (if_pos c11_).symm.trans hr
      obtain rfl := Option.some.inj hr
      exact rr_keep [false, false, false, false, false, true, false, false, false] (hx0)
    · replace hr := (if_neg c11_).symm.trans hr
      refine rr_iload C dX0_latestHomesUpTo_14 rfl ?_
      refine rr_if_ne (tgt := 71) C dX0_latestHomesUpTo_16 (by decide) (fun c16_ => ?_) (fun c16_ => ?_)
      · replace hr := (if_neg c16_).symm.trans hr
        obtain rfl := Option.some.inj hr
        exact rr_keep [false, false, false, false, false, true, false, false, false] (hx0)
      · replace hr := (if_pos c16_).symm.trans hr
        refine rr_iconst (v := 0) C dX0_latestHomesUpTo_19 (by decide) ?_
        refine rr_istore C dX0_latestHomesUpTo_20 (by decide) ?_
        show WW W0 G 9 _ _ _ 22 [some (.ref l0), some (.int l1), none, some (.int l3), some (.int l4), some (.int l5), some (.int l6), some (.int 0), none] [] h n _ _
        replace hr := Option.bind_eq_some_iff.mp hr
        obtain ⟨v6, e7, hr⟩ := hr
        refine rr_keep [true, true, false, true, true, true, true, true, false] (w_X0_latestHomesUpTo_22 C (by omega) l0 l1 l3 l6 K l4 l5 0 e7 ?_)
        show WW W0 G 9 _ _ _ 65 [some (.ref l0), some (.int l1), none, some (.int l3), some (.int v6.1), some (.int v6.2), some (.int l6), none, none] [] h n _ _
        refine rr_iinc (v := l6 + (-1)) C dX0_latestHomesUpTo_65 rfl rfl ?_
        show WW W0 G 9 _ _ _ 68 [some (.ref l0), some (.int l1), none, some (.int l3), some (.int v6.1), some (.int v6.2), some (.int (l6 + (-1))), none, none] [] h n _ _
        refine rr_goto (tgt := 9) C dX0_latestHomesUpTo_68 (by decide) ?_
        exact rr_keep [true, true, false, true, true, true, true, false, false] (ih_ _ _ _ hr hx0)
set_option maxRecDepth 100000 in
set_option maxHeartbeats 4000000 in
theorem c_X0_latestHomesUpTo {K : Nat} {G : mm_G} {l : Launch} {h : mm_H} {n : Nat} (l0 : Nat) (l1 : Int32) (l2 : Int32) (l3 : Int32) {r_ : Int32} (hn : 48 ≤ n) (hr : q_X0_latestHomesUpTo K h n l0 l1 l2 l3 = some r_) : Sp G l yX0_latestHomesUpTo cX0_latestHomesUpTo 9 (some .int) 2 0 0 [.ref l0, .int l1, .int l2, .int l3] h n (fun v h' n' => v = some (.int r_) ∧ h' = h ∧ n' = n) := by
  refine Sp_of (by decide +kernel) (Nat.le_of_ble_eq_true rfl) hn ?_
  intro W0 hwl C
  subst hwl
  unfold q_X0_latestHomesUpTo at hr
  show WW W0 G 9 0 0 _ 0 [some (.ref l0), some (.int l1), some (.int l2), some (.int l3), none, none, none, none, none] [] h n 0 0
  refine rr_iconst (v := 0) C dX0_latestHomesUpTo_0 (by decide) ?_
  refine rr_istore C dX0_latestHomesUpTo_1 (by decide) ?_
  show WW W0 G 9 _ _ _ 3 [some (.ref l0), some (.int l1), some (.int l2), some (.int l3), some (.int 0), none, none, none, none] [] h n _ _
  refine rr_iconst (v := 0) C dX0_latestHomesUpTo_3 (by decide) ?_
  refine rr_istore C dX0_latestHomesUpTo_4 (by decide) ?_
  show WW W0 G 9 _ _ _ 6 [some (.ref l0), some (.int l1), some (.int l2), some (.int l3), some (.int 0), some (.int 0), none, none, none] [] h n _ _
  refine rr_iload_n (i := 2) C dX0_latestHomesUpTo_6 rfl rfl ?_
  refine rr_istore C dX0_latestHomesUpTo_7 (by decide) ?_
  show WW W0 G 9 _ _ _ 9 [some (.ref l0), some (.int l1), some (.int l2), some (.int l3), some (.int 0), some (.int 0), some (.int l2), none, none] [] h n _ _
  replace hr := Option.bind_eq_some_iff.mp hr
  obtain ⟨v8, e9, hr⟩ := hr
  refine rr_keep [true, true, false, true, true, true, true, false, false] (w_X0_latestHomesUpTo_9 C (by omega) l0 l1 l3 K 0 0 l2 e9 ?_)
  show WW W0 G 9 _ _ _ 71 [none, none, none, none, none, some (.int v8), none, none, none] [] h n _ _
  refine rr_iload C dX0_latestHomesUpTo_71 rfl ?_
  obtain rfl := Option.some.inj hr
  exact rr_iret (ty := .int) C dX0_latestHomesUpTo_73 rfl rfl ⟨rfl, rfl, rfl⟩
def q_X1_take (K : Nat) (h : mm_H) (n : Nat) (l0 : Nat) (l1 : Int32) (l2 : Int32) (l3 : Int32) (l4 : Int32) (l5 : Int32) : Option (Int32 × mm_H) :=
  (rdI h n l0 1 5).bind fun v1 =>
  if v1 < 20 then
    (rdR h n l0 1 0).bind fun v3 =>
    (rdI h n l0 1 5).bind fun v5 =>
    v3.bind fun a7 =>
    (stI h n a7 v5 l1).bind fun h9 =>
    (rdR h9 n l0 1 1).bind fun v11 =>
    (rdI h9 n l0 1 5).bind fun v13 =>
    v11.bind fun a15 =>
    (stI h9 n a15 v13 l2).bind fun h17 =>
    (rdR h17 n l0 1 2).bind fun v19 =>
    (rdI h17 n l0 1 5).bind fun v21 =>
    v19.bind fun a23 =>
    (stI h17 n a23 v21 l3).bind fun h25 =>
    (rdR h25 n l0 1 3).bind fun v27 =>
    (rdI h25 n l0 1 5).bind fun v29 =>
    v27.bind fun a31 =>
    (stI h25 n a31 v29 l4).bind fun h33 =>
    (rdR h33 n l0 1 4).bind fun v35 =>
    (rdI h33 n l0 1 5).bind fun v37 =>
    v35.bind fun a39 =>
    (stI h33 n a39 v37 l5).bind fun h41 =>
    (rdI h41 n l0 1 5).bind fun v43 =>
    (wrF h41 n l0 1 5 (.int (v43 + 1))).bind fun h45 =>
    (rdI h45 n l0 1 5).bind fun v47 =>
    some (v47, h45)
  else
  some ((-1), h)
set_option maxRecDepth 100000 in
set_option maxHeartbeats 4000000 in
theorem c_X1_take {K : Nat} {G : mm_G} {l : Launch} {h : mm_H} {n : Nat} (l0 : Nat) (l1 : Int32) (l2 : Int32) (l3 : Int32) (l4 : Int32) (l5 : Int32) {r_ : Int32 × mm_H} (hn : 48 ≤ n) (hr : q_X1_take K h n l0 l1 l2 l3 l4 l5 = some r_) : Sp G l yX1_take cX1_take 6 (some .int) 0 0 0 [.ref l0, .int l1, .int l2, .int l3, .int l4, .int l5] h n (fun v h' n' => v = some (.int r_.1) ∧ h' = r_.2 ∧ n' = n) := by
  refine Sp_of (by decide +kernel) (Nat.le_of_ble_eq_true rfl) hn ?_
  intro W0 hwl C
  subst hwl
  unfold q_X1_take at hr
  show WW W0 G 6 0 0 _ 0 [some (.ref l0), some (.int l1), some (.int l2), some (.int l3), some (.int l4), some (.int l5)] [] h n 0 0
  refine rr_aload_n (i := 0) C dX1_take_0 rfl rfl ?_
  replace hr := Option.bind_eq_some_iff.mp hr
  obtain ⟨v1, e2, hr⟩ := hr
  refine rr_rdI C dX1_take_1 fl_X1_27 e2 ?_
  refine rr_bipush (v := 20) C dX1_take_4 (by decide) ?_
  refine rr_icmp_lt (tgt := 11) C dX1_take_6 (by decide) (fun c6_ => ?_) (fun c6_ => ?_)
  · replace hr := (if_pos c6_).symm.trans hr
    refine rr_aload_n (i := 0) C dX1_take_11 rfl rfl ?_
    replace hr := Option.bind_eq_some_iff.mp hr
    obtain ⟨v3, e4, hr⟩ := hr
    refine rr_rdR C dX1_take_12 fl_X1_9 e4 ?_
    refine rr_aload_n (i := 0) C dX1_take_15 rfl rfl ?_
    replace hr := Option.bind_eq_some_iff.mp hr
    obtain ⟨v5, e6, hr⟩ := hr
    refine rr_rdI C dX1_take_16 fl_X1_27 e6 ?_
    refine rr_iload_n (i := 1) C dX1_take_19 rfl rfl ?_
    replace hr := Option.bind_eq_some_iff.mp hr
    obtain ⟨a7, e8, hr⟩ := hr
    subst e8
    replace hr := Option.bind_eq_some_iff.mp hr
    obtain ⟨h9, e10, hr⟩ := hr
    refine rr_stI C dX1_take_20 e10 ?_
    refine rr_aload_n (i := 0) C dX1_take_21 rfl rfl ?_
    replace hr := Option.bind_eq_some_iff.mp hr
    obtain ⟨v11, e12, hr⟩ := hr
    refine rr_rdR C dX1_take_22 fl_X1_15 e12 ?_
    refine rr_aload_n (i := 0) C dX1_take_25 rfl rfl ?_
    replace hr := Option.bind_eq_some_iff.mp hr
    obtain ⟨v13, e14, hr⟩ := hr
    refine rr_rdI C dX1_take_26 fl_X1_27 e14 ?_
    refine rr_iload_n (i := 2) C dX1_take_29 rfl rfl ?_
    replace hr := Option.bind_eq_some_iff.mp hr
    obtain ⟨a15, e16, hr⟩ := hr
    subst e16
    replace hr := Option.bind_eq_some_iff.mp hr
    obtain ⟨h17, e18, hr⟩ := hr
    refine rr_stI C dX1_take_30 e18 ?_
    refine rr_aload_n (i := 0) C dX1_take_31 rfl rfl ?_
    replace hr := Option.bind_eq_some_iff.mp hr
    obtain ⟨v19, e20, hr⟩ := hr
    refine rr_rdR C dX1_take_32 fl_X1_18 e20 ?_
    refine rr_aload_n (i := 0) C dX1_take_35 rfl rfl ?_
    replace hr := Option.bind_eq_some_iff.mp hr
    obtain ⟨v21, e22, hr⟩ := hr
    refine rr_rdI C dX1_take_36 fl_X1_27 e22 ?_
    refine rr_iload_n (i := 3) C dX1_take_39 rfl rfl ?_
    replace hr := Option.bind_eq_some_iff.mp hr
    obtain ⟨a23, e24, hr⟩ := hr
    subst e24
    replace hr := Option.bind_eq_some_iff.mp hr
    obtain ⟨h25, e26, hr⟩ := hr
    refine rr_stI C dX1_take_40 e26 ?_
    refine rr_aload_n (i := 0) C dX1_take_41 rfl rfl ?_
    replace hr := Option.bind_eq_some_iff.mp hr
    obtain ⟨v27, e28, hr⟩ := hr
    refine rr_rdR C dX1_take_42 fl_X1_21 e28 ?_
    refine rr_aload_n (i := 0) C dX1_take_45 rfl rfl ?_
    replace hr := Option.bind_eq_some_iff.mp hr
    obtain ⟨v29, e30, hr⟩ := hr
    refine rr_rdI C dX1_take_46 fl_X1_27 e30 ?_
    refine rr_iload C dX1_take_49 rfl ?_
    replace hr := Option.bind_eq_some_iff.mp hr
    obtain ⟨a31, e32, hr⟩ := hr
    subst e32
    replace hr := Option.bind_eq_some_iff.mp hr
    obtain ⟨h33, e34, hr⟩ := hr
    refine rr_stI C dX1_take_51 e34 ?_
    refine rr_aload_n (i := 0) C dX1_take_52 rfl rfl ?_
    replace hr := Option.bind_eq_some_iff.mp hr
    obtain ⟨v35, e36, hr⟩ := hr
    refine rr_rdR C dX1_take_53 fl_X1_24 e36 ?_
    refine rr_aload_n (i := 0) C dX1_take_56 rfl rfl ?_
    replace hr := Option.bind_eq_some_iff.mp hr
    obtain ⟨v37, e38, hr⟩ := hr
    refine rr_rdI C dX1_take_57 fl_X1_27 e38 ?_
    refine rr_iload C dX1_take_60 rfl ?_
    replace hr := Option.bind_eq_some_iff.mp hr
    obtain ⟨a39, e40, hr⟩ := hr
    subst e40
    replace hr := Option.bind_eq_some_iff.mp hr
    obtain ⟨h41, e42, hr⟩ := hr
    refine rr_stI C dX1_take_62 e42 ?_
    refine rr_aload_n (i := 0) C dX1_take_63 rfl rfl ?_
    refine rr_dup C dX1_take_64 rfl ?_
    replace hr := Option.bind_eq_some_iff.mp hr
    obtain ⟨v43, e44, hr⟩ := hr
    refine rr_rdI C dX1_take_65 fl_X1_27 e44 ?_
    refine rr_iconst (v := 1) C dX1_take_68 (by decide) ?_
    refine rr_iadd C dX1_take_69 ?_
    replace hr := Option.bind_eq_some_iff.mp hr
    obtain ⟨h45, e46, hr⟩ := hr
    refine rr_wrF C dX1_take_70 fp_X1_27 rfl rfl e46 ?_
    refine rr_aload_n (i := 0) C dX1_take_73 rfl rfl ?_
    replace hr := Option.bind_eq_some_iff.mp hr
    obtain ⟨v47, e48, hr⟩ := hr
    refine rr_rdI C dX1_take_74 fl_X1_27 e48 ?_
    obtain rfl := Option.some.inj hr
    exact rr_iret (ty := .int) C dX1_take_77 rfl rfl ⟨rfl, rfl, rfl⟩
  · replace hr := (if_neg c6_).symm.trans hr
    refine rr_iconst (v := (-1)) C dX1_take_9 (by decide) ?_
    obtain rfl := Option.some.inj hr
    exact rr_iret (ty := .int) C dX1_take_10 rfl rfl ⟨rfl, rfl, rfl⟩
def q_X1_isOf (K : Nat) (h : mm_H) (n : Nat) (l0 : Nat) (l1 : Int32) (l2 : Int32) (l3 : Int32) (l4 : Int32) : Option (Int32) :=
  if l1 < 0 then
    some 0
  else
  if 20 ≤ l1 then
    some 0
  else
  (rdR h n l0 1 0).bind fun v1 =>
  v1.bind fun a3 =>
  (ldI h n a3 l1).bind fun v5 =>
  if v5 = l2 then
    (rdR h n l0 1 1).bind fun v7 =>
    v7.bind fun a9 =>
    (ldI h n a9 l1).bind fun v11 =>
    if v11 = l3 then
      (rdR h n l0 1 2).bind fun v13 =>
      v13.bind fun a15 =>
      (ldI h n a15 l1).bind fun v17 =>
      if v17 = l4 then
        some 1
      else
      some 0
    else
    some 0
  else
  some 0
set_option maxRecDepth 100000 in
set_option maxHeartbeats 4000000 in
theorem c_X1_isOf {K : Nat} {G : mm_G} {l : Launch} {h : mm_H} {n : Nat} (l0 : Nat) (l1 : Int32) (l2 : Int32) (l3 : Int32) (l4 : Int32) {r_ : Int32} (hn : 48 ≤ n) (hr : q_X1_isOf K h n l0 l1 l2 l3 l4 = some r_) : Sp G l yX1_isOf cX1_isOf 5 (some .boolean) 0 0 0 [.ref l0, .int l1, .int l2, .int l3, .int l4] h n (fun v h' n' => v = some (.int r_) ∧ h' = h ∧ n' = n) := by
  refine Sp_of (by decide +kernel) (Nat.le_of_ble_eq_true rfl) hn ?_
  intro W0 hwl C
  subst hwl
  unfold q_X1_isOf at hr
  show WW W0 G 5 0 0 _ 0 [some (.ref l0), some (.int l1), some (.int l2), some (.int l3), some (.int l4)] [] h n 0 0
  refine rr_iload_n (i := 1) C dX1_isOf_0 rfl rfl ?_
  refine rr_if_lt (tgt := 45) C dX1_isOf_1 (by decide) (fun c1_ => ?_) (fun c1_ => ?_)
  · replace hr := (if_pos c1_).symm.trans hr
    refine rr_iconst (v := 0) C dX1_isOf_45 (by decide) ?_
    obtain rfl := Option.some.inj hr
    exact rr_iret (ty := .boolean) C dX1_isOf_46 rfl rfl ⟨rfl, rfl, rfl⟩
  · replace hr := (if_neg c1_).symm.trans hr
    refine rr_iload_n (i := 1) C dX1_isOf_4 rfl rfl ?_
    refine rr_bipush (v := 20) C dX1_isOf_5 (by decide) ?_
    refine rr_icmp_ge (tgt := 45) C dX1_isOf_7 (by decide) (fun c7_ => ?_) (fun c7_ => ?_)
    · replace hr := (if_pos c7_).symm.trans hr
      refine rr_iconst (v := 0) C dX1_isOf_45 (by decide) ?_
      obtain rfl := Option.some.inj hr
      exact rr_iret (ty := .boolean) C dX1_isOf_46 rfl rfl ⟨rfl, rfl, rfl⟩
    · replace hr := (if_neg c7_).symm.trans hr
      refine rr_aload_n (i := 0) C dX1_isOf_10 rfl rfl ?_
      replace hr := Option.bind_eq_some_iff.mp hr
      obtain ⟨v1, e2, hr⟩ := hr
      refine rr_rdR C dX1_isOf_11 fl_X1_9 e2 ?_
      refine rr_iload_n (i := 1) C dX1_isOf_14 rfl rfl ?_
      replace hr := Option.bind_eq_some_iff.mp hr
      obtain ⟨a3, e4, hr⟩ := hr
      subst e4
      replace hr := Option.bind_eq_some_iff.mp hr
      obtain ⟨v5, e6, hr⟩ := hr
      refine rr_ldI C dX1_isOf_15 e6 ?_
      refine rr_iload_n (i := 2) C dX1_isOf_16 rfl rfl ?_
      refine rr_icmp_ne (tgt := 45) C dX1_isOf_17 (by decide) (fun c17_ => ?_) (fun c17_ => ?_)
      · replace hr := (if_neg c17_).symm.trans hr
        refine rr_iconst (v := 0) C dX1_isOf_45 (by decide) ?_
        obtain rfl := Option.some.inj hr
        exact rr_iret (ty := .boolean) C dX1_isOf_46 rfl rfl ⟨rfl, rfl, rfl⟩
      · replace hr := (if_pos c17_).symm.trans hr
        refine rr_aload_n (i := 0) C dX1_isOf_20 rfl rfl ?_
        replace hr := Option.bind_eq_some_iff.mp hr
        obtain ⟨v7, e8, hr⟩ := hr
        refine rr_rdR C dX1_isOf_21 fl_X1_15 e8 ?_
        refine rr_iload_n (i := 1) C dX1_isOf_24 rfl rfl ?_
        replace hr := Option.bind_eq_some_iff.mp hr
        obtain ⟨a9, e10, hr⟩ := hr
        subst e10
        replace hr := Option.bind_eq_some_iff.mp hr
        obtain ⟨v11, e12, hr⟩ := hr
        refine rr_ldI C dX1_isOf_25 e12 ?_
        refine rr_iload_n (i := 3) C dX1_isOf_26 rfl rfl ?_
        refine rr_icmp_ne (tgt := 45) C dX1_isOf_27 (by decide) (fun c27_ => ?_) (fun c27_ => ?_)
        · replace hr := (if_neg c27_).symm.trans hr
          refine rr_iconst (v := 0) C dX1_isOf_45 (by decide) ?_
          obtain rfl := Option.some.inj hr
          exact rr_iret (ty := .boolean) C dX1_isOf_46 rfl rfl ⟨rfl, rfl, rfl⟩
        · replace hr := (if_pos c27_).symm.trans hr
          refine rr_aload_n (i := 0) C dX1_isOf_30 rfl rfl ?_
          replace hr := Option.bind_eq_some_iff.mp hr
          obtain ⟨v13, e14, hr⟩ := hr
          refine rr_rdR C dX1_isOf_31 fl_X1_18 e14 ?_
          refine rr_iload_n (i := 1) C dX1_isOf_34 rfl rfl ?_
          replace hr := Option.bind_eq_some_iff.mp hr
          obtain ⟨a15, e16, hr⟩ := hr
          subst e16
          replace hr := Option.bind_eq_some_iff.mp hr
          obtain ⟨v17, e18, hr⟩ := hr
          refine rr_ldI C dX1_isOf_35 e18 ?_
          refine rr_iload C dX1_isOf_36 rfl ?_
          refine rr_icmp_ne (tgt := 45) C dX1_isOf_38 (by decide) (fun c38_ => ?_) (fun c38_ => ?_)
          · replace hr := (if_neg c38_).symm.trans hr
            refine rr_iconst (v := 0) C dX1_isOf_45 (by decide) ?_
            obtain rfl := Option.some.inj hr
            exact rr_iret (ty := .boolean) C dX1_isOf_46 rfl rfl ⟨rfl, rfl, rfl⟩
          · replace hr := (if_pos c38_).symm.trans hr
            refine rr_iconst (v := 1) C dX1_isOf_41 (by decide) ?_
            refine rr_goto (tgt := 46) C dX1_isOf_42 (by decide) ?_
            obtain rfl := Option.some.inj hr
            exact rr_iret (ty := .boolean) C dX1_isOf_46 rfl rfl ⟨rfl, rfl, rfl⟩
def lp_X1_lastKnown_6 (K : Nat) (h : mm_H) (n : Nat) (l0 : Nat) (l1 : Int32) (l2 : Int32) (l3 : Int32) (l4 : Int32) : Nat → Int32 → Int32 → Option (Int32)
  | 0, _, _ => none
  | k_ + 1, l5, l6 =>
    (rdI h n l0 1 5).bind fun v1 =>
    if v1 ≤ l6 then
      some (l5)
    else
    if 20 ≤ l6 then
      some (l5)
    else
    (ckq h n l0 1).bind fun u3 =>
    (q_X1_isOf K h n l0 l6 l1 l2 l3).bind fun v5 =>
    if v5 = 0 then
      lp_X1_lastKnown_6 K h n l0 l1 l2 l3 l4 k_ l5 (l6 + 1)
    else
    (rdR h n l0 1 4).bind fun v7 =>
    v7.bind fun a9 =>
    (ldI h n a9 l6).bind fun v11 =>
    if l4 < v11 then
      lp_X1_lastKnown_6 K h n l0 l1 l2 l3 l4 k_ l5 (l6 + 1)
    else
    (rdR h n l0 1 3).bind fun v13 =>
    v13.bind fun a15 =>
    (ldI h n a15 l6).bind fun v17 =>
    lp_X1_lastKnown_6 K h n l0 l1 l2 l3 l4 k_ v17 (l6 + 1)
def q_X1_lastKnown (K : Nat) (h : mm_H) (n : Nat) (l0 : Nat) (l1 : Int32) (l2 : Int32) (l3 : Int32) (l4 : Int32) : Option (Int32) :=
  (lp_X1_lastKnown_6 K h n l0 l1 l2 l3 l4 K (-1) 0).bind fun v19 =>
  some v19
set_option maxRecDepth 100000 in
set_option maxHeartbeats 4000000 in
theorem w_X1_lastKnown_6 {K : Nat} {W0 : mm_X} {G : mm_G} {mc ms kc ks : Nat} {Q_ : State → Prop} {h : mm_H} {n : Nat} (C : mm_C W0 G cX1_lastKnown yX1_lastKnown.cls 7 mc ms (some .int) 1 yX1_lastKnown.name) (hn : 48 ≤ n) (l0 : Nat) (l1 : Int32) (l2 : Int32) (l3 : Int32) (l4 : Int32) : ∀ (k_ : Nat) (l5 : Int32) (l6 : Int32) {r_ : Int32} (hr : lp_X1_lastKnown_6 K h n l0 l1 l2 l3 l4 k_ l5 l6 = some r_) (hx0 : WW W0 G 7 mc ms Q_ 61 [none, none, none, none, none, some (.int r_), none] [] h n kc ks), WW W0 G 7 mc ms Q_ 6 [some (.ref l0), some (.int l1), some (.int l2), some (.int l3), some (.int l4), some (.int l5), some (.int l6)] [] h n kc ks := by
  intro k_
  induction k_ with
  | zero =>
    intro l5 l6 r_ hr
    cases hr
  | succ k_ ih_ =>
    intro l5 l6 r_ hr hx0
    unfold lp_X1_lastKnown_6 at hr
    refine rr_iload C dX1_lastKnown_6 rfl ?_
    refine rr_aload_n (i := 0) C dX1_lastKnown_8 rfl rfl ?_
    replace hr := Option.bind_eq_some_iff.mp hr
    obtain ⟨v1, e2, hr⟩ := hr
    refine rr_rdI C dX1_lastKnown_9 fl_X1_27 e2 ?_
    refine rr_icmp_ge (tgt := 61) C dX1_lastKnown_12 (by decide) (fun c12_ => ?_) (fun c12_ => ?_)
    · replace hr := (if_pos c12_).symm.trans hr
      obtain rfl := Option.some.inj hr
      exact rr_keep [false, false, false, false, false, true, false] (hx0)
    · replace hr := (if_neg c12_).symm.trans hr
      refine rr_iload C dX1_lastKnown_15 rfl ?_
      refine rr_bipush (v := 20) C dX1_lastKnown_17 (by decide) ?_
      refine rr_icmp_ge (tgt := 61) C dX1_lastKnown_19 (by decide) (fun c19_ => ?_) (fun c19_ => ?_)
      · replace hr := (if_pos c19_).symm.trans hr
        obtain rfl := Option.some.inj hr
        exact rr_keep [false, false, false, false, false, true, false] (hx0)
      · replace hr := (if_neg c19_).symm.trans hr
        refine rr_aload_n (i := 0) C dX1_lastKnown_22 rfl rfl ?_
        refine rr_iload C dX1_lastKnown_23 rfl ?_
        refine rr_iload_n (i := 1) C dX1_lastKnown_25 rfl rfl ?_
        refine rr_iload_n (i := 2) C dX1_lastKnown_26 rfl rfl ?_
        refine rr_iload_n (i := 3) C dX1_lastKnown_27 rfl rfl ?_
        replace hr := Option.bind_eq_some_iff.mp hr
        obtain ⟨u3, e4, hr⟩ := hr
        replace hr := Option.bind_eq_some_iff.mp hr
        obtain ⟨v5, e6, hr⟩ := hr
        refine rr_callVq (as := [.int l6, .int l1, .int l2, .int l3]) (st := []) (mc' := 0) (ms' := 0) C dX1_lastKnown_28 iv_X1_31 (by decide) e4 rfl (Nat.le_of_ble_eq_true rfl) (c_X1_isOf l0 l6 l1 l2 l3 (by omega) e6) (fun v_ h_ n_ q_ => ?_)
        obtain ⟨q1_, q2_, q3_⟩ := q_
        subst v_; subst h_; subst n_
        show WW W0 G 7 _ _ _ 31 [some (.ref l0), some (.int l1), some (.int l2), some (.int l3), some (.int l4), some (.int l5), some (.int l6)] [.int v5] h n _ _
        refine rr_if_eq (tgt := 55) C dX1_lastKnown_31 (by decide) (fun c31_ => ?_) (fun c31_ => ?_)
        · replace hr := (if_pos c31_).symm.trans hr
          refine rr_iinc (v := l6 + 1) C dX1_lastKnown_55 rfl rfl ?_
          show WW W0 G 7 _ _ _ 58 [some (.ref l0), some (.int l1), some (.int l2), some (.int l3), some (.int l4), some (.int l5), some (.int (l6 + 1))] [] h n _ _
          refine rr_goto (tgt := 6) C dX1_lastKnown_58 (by decide) ?_
          exact rr_keep [true, true, true, true, true, true, true] (ih_ _ _ hr hx0)
        · replace hr := (if_neg c31_).symm.trans hr
          refine rr_aload_n (i := 0) C dX1_lastKnown_34 rfl rfl ?_
          replace hr := Option.bind_eq_some_iff.mp hr
          obtain ⟨v7, e8, hr⟩ := hr
          refine rr_rdR C dX1_lastKnown_35 fl_X1_24 e8 ?_
          refine rr_iload C dX1_lastKnown_38 rfl ?_
          replace hr := Option.bind_eq_some_iff.mp hr
          obtain ⟨a9, e10, hr⟩ := hr
          subst e10
          replace hr := Option.bind_eq_some_iff.mp hr
          obtain ⟨v11, e12, hr⟩ := hr
          refine rr_ldI C dX1_lastKnown_40 e12 ?_
          refine rr_iload C dX1_lastKnown_41 rfl ?_
          refine rr_icmp_gt (tgt := 55) C dX1_lastKnown_43 (by decide) (fun c43_ => ?_) (fun c43_ => ?_)
          · replace hr := (if_pos c43_).symm.trans hr
            refine rr_iinc (v := l6 + 1) C dX1_lastKnown_55 rfl rfl ?_
            show WW W0 G 7 _ _ _ 58 [some (.ref l0), some (.int l1), some (.int l2), some (.int l3), some (.int l4), some (.int l5), some (.int (l6 + 1))] [] h n _ _
            refine rr_goto (tgt := 6) C dX1_lastKnown_58 (by decide) ?_
            exact rr_keep [true, true, true, true, true, true, true] (ih_ _ _ hr hx0)
          · replace hr := (if_neg c43_).symm.trans hr
            refine rr_aload_n (i := 0) C dX1_lastKnown_46 rfl rfl ?_
            replace hr := Option.bind_eq_some_iff.mp hr
            obtain ⟨v13, e14, hr⟩ := hr
            refine rr_rdR C dX1_lastKnown_47 fl_X1_21 e14 ?_
            refine rr_iload C dX1_lastKnown_50 rfl ?_
            replace hr := Option.bind_eq_some_iff.mp hr
            obtain ⟨a15, e16, hr⟩ := hr
            subst e16
            replace hr := Option.bind_eq_some_iff.mp hr
            obtain ⟨v17, e18, hr⟩ := hr
            refine rr_ldI C dX1_lastKnown_52 e18 ?_
            refine rr_istore C dX1_lastKnown_53 (by decide) ?_
            show WW W0 G 7 _ _ _ 55 [some (.ref l0), some (.int l1), some (.int l2), some (.int l3), some (.int l4), some (.int v17), some (.int l6)] [] h n _ _
            refine rr_iinc (v := l6 + 1) C dX1_lastKnown_55 rfl rfl ?_
            show WW W0 G 7 _ _ _ 58 [some (.ref l0), some (.int l1), some (.int l2), some (.int l3), some (.int l4), some (.int v17), some (.int (l6 + 1))] [] h n _ _
            refine rr_goto (tgt := 6) C dX1_lastKnown_58 (by decide) ?_
            exact rr_keep [true, true, true, true, true, true, true] (ih_ _ _ hr hx0)
set_option maxRecDepth 100000 in
set_option maxHeartbeats 4000000 in
theorem c_X1_lastKnown {K : Nat} {G : mm_G} {l : Launch} {h : mm_H} {n : Nat} (l0 : Nat) (l1 : Int32) (l2 : Int32) (l3 : Int32) (l4 : Int32) {r_ : Int32} (hn : 48 ≤ n) (hr : q_X1_lastKnown K h n l0 l1 l2 l3 l4 = some r_) : Sp G l yX1_lastKnown cX1_lastKnown 7 (some .int) 1 0 0 [.ref l0, .int l1, .int l2, .int l3, .int l4] h n (fun v h' n' => v = some (.int r_) ∧ h' = h ∧ n' = n) := by
  refine Sp_of (by decide +kernel) (Nat.le_of_ble_eq_true rfl) hn ?_
  intro W0 hwl C
  subst hwl
  unfold q_X1_lastKnown at hr
  show WW W0 G 7 0 0 _ 0 [some (.ref l0), some (.int l1), some (.int l2), some (.int l3), some (.int l4), none, none] [] h n 0 0
  refine rr_iconst (v := (-1)) C dX1_lastKnown_0 (by decide) ?_
  refine rr_istore C dX1_lastKnown_1 (by decide) ?_
  show WW W0 G 7 _ _ _ 3 [some (.ref l0), some (.int l1), some (.int l2), some (.int l3), some (.int l4), some (.int (-1)), none] [] h n _ _
  refine rr_iconst (v := 0) C dX1_lastKnown_3 (by decide) ?_
  refine rr_istore C dX1_lastKnown_4 (by decide) ?_
  show WW W0 G 7 _ _ _ 6 [some (.ref l0), some (.int l1), some (.int l2), some (.int l3), some (.int l4), some (.int (-1)), some (.int 0)] [] h n _ _
  replace hr := Option.bind_eq_some_iff.mp hr
  obtain ⟨v19, e20, hr⟩ := hr
  refine rr_keep [true, true, true, true, true, true, true] (w_X1_lastKnown_6 C (by omega) l0 l1 l2 l3 l4 K (-1) 0 e20 ?_)
  show WW W0 G 7 _ _ _ 61 [none, none, none, none, none, some (.int v19), none] [] h n _ _
  refine rr_iload C dX1_lastKnown_61 rfl ?_
  obtain rfl := Option.some.inj hr
  exact rr_iret (ty := .int) C dX1_lastKnown_63 rfl rfl ⟨rfl, rfl, rfl⟩
def lp_X1_allKnown_6 (K : Nat) (h : mm_H) (n : Nat) (l0 : Nat) (l1 : Int32) (l2 : Int32) (l3 : Int32) (l4 : Int32) : Nat → Int64 → Int32 → Option (Int64)
  | 0, _, _ => none
  | k_ + 1, l5, l7 =>
    (rdI h n l0 1 5).bind fun v1 =>
    if v1 ≤ l7 then
      some (l5)
    else
    if 20 ≤ l7 then
      some (l5)
    else
    (ckq h n l0 1).bind fun u3 =>
    (q_X1_isOf K h n l0 l7 l1 l2 l3).bind fun v5 =>
    if v5 = 0 then
      lp_X1_allKnown_6 K h n l0 l1 l2 l3 l4 k_ l5 (l7 + 1)
    else
    (rdR h n l0 1 4).bind fun v7 =>
    v7.bind fun a9 =>
    (ldI h n a9 l7).bind fun v11 =>
    if l4 < v11 then
      lp_X1_allKnown_6 K h n l0 l1 l2 l3 l4 k_ l5 (l7 + 1)
    else
    (rdR h n l0 1 3).bind fun v13 =>
    v13.bind fun a15 =>
    (ldI h n a15 l7).bind fun v17 =>
    lp_X1_allKnown_6 K h n l0 l1 l2 l3 l4 k_ (l5 + (Int32.toInt64 v17)) (l7 + 1)
def q_X1_allKnown (K : Nat) (h : mm_H) (n : Nat) (l0 : Nat) (l1 : Int32) (l2 : Int32) (l3 : Int32) (l4 : Int32) : Option (Int64) :=
  (lp_X1_allKnown_6 K h n l0 l1 l2 l3 l4 K 0 0).bind fun v20 =>
  some v20
set_option maxRecDepth 100000 in
set_option maxHeartbeats 4000000 in
theorem w_X1_allKnown_6 {K : Nat} {W0 : mm_X} {G : mm_G} {mc ms kc ks : Nat} {Q_ : State → Prop} {h : mm_H} {n : Nat} (C : mm_C W0 G cX1_allKnown yX1_allKnown.cls 8 mc ms (some .long) 1 yX1_allKnown.name) (hn : 48 ≤ n) (l0 : Nat) (l1 : Int32) (l2 : Int32) (l3 : Int32) (l4 : Int32) : ∀ (k_ : Nat) (l5 : Int64) (l7 : Int32) {r_ : Int64} (hr : lp_X1_allKnown_6 K h n l0 l1 l2 l3 l4 k_ l5 l7 = some r_) (hx0 : WW W0 G 8 mc ms Q_ 65 [none, none, none, none, none, some (.long r_), none, none] [] h n kc ks), WW W0 G 8 mc ms Q_ 6 [some (.ref l0), some (.int l1), some (.int l2), some (.int l3), some (.int l4), some (.long l5), none, some (.int l7)] [] h n kc ks := by
  intro k_
  induction k_ with
  | zero =>
    intro l5 l7 r_ hr
    cases hr
  | succ k_ ih_ =>
    intro l5 l7 r_ hr hx0
    unfold lp_X1_allKnown_6 at hr
    refine rr_iload C dX1_allKnown_6 rfl ?_
    refine rr_aload_n (i := 0) C dX1_allKnown_8 rfl rfl ?_
    replace hr := Option.bind_eq_some_iff.mp hr
    obtain ⟨v1, e2, hr⟩ := hr
    refine rr_rdI C dX1_allKnown_9 fl_X1_27 e2 ?_
    refine rr_icmp_ge (tgt := 65) C dX1_allKnown_12 (by decide) (fun c12_ => ?_) (fun c12_ => ?_)
    · replace hr := (if_pos c12_).symm.trans hr
      obtain rfl := Option.some.inj hr
      exact rr_keep [false, false, false, false, false, true, false, false] (hx0)
    · replace hr := (if_neg c12_).symm.trans hr
      refine rr_iload C dX1_allKnown_15 rfl ?_
      refine rr_bipush (v := 20) C dX1_allKnown_17 (by decide) ?_
      refine rr_icmp_ge (tgt := 65) C dX1_allKnown_19 (by decide) (fun c19_ => ?_) (fun c19_ => ?_)
      · replace hr := (if_pos c19_).symm.trans hr
        obtain rfl := Option.some.inj hr
        exact rr_keep [false, false, false, false, false, true, false, false] (hx0)
      · replace hr := (if_neg c19_).symm.trans hr
        refine rr_aload_n (i := 0) C dX1_allKnown_22 rfl rfl ?_
        refine rr_iload C dX1_allKnown_23 rfl ?_
        refine rr_iload_n (i := 1) C dX1_allKnown_25 rfl rfl ?_
        refine rr_iload_n (i := 2) C dX1_allKnown_26 rfl rfl ?_
        refine rr_iload_n (i := 3) C dX1_allKnown_27 rfl rfl ?_
        replace hr := Option.bind_eq_some_iff.mp hr
        obtain ⟨u3, e4, hr⟩ := hr
        replace hr := Option.bind_eq_some_iff.mp hr
        obtain ⟨v5, e6, hr⟩ := hr
        refine rr_callVq (as := [.int l7, .int l1, .int l2, .int l3]) (st := []) (mc' := 0) (ms' := 0) C dX1_allKnown_28 iv_X1_31 (by decide) e4 rfl (Nat.le_of_ble_eq_true rfl) (c_X1_isOf l0 l7 l1 l2 l3 (by omega) e6) (fun v_ h_ n_ q_ => ?_)
        obtain ⟨q1_, q2_, q3_⟩ := q_
        subst v_; subst h_; subst n_
        show WW W0 G 8 _ _ _ 31 [some (.ref l0), some (.int l1), some (.int l2), some (.int l3), some (.int l4), some (.long l5), none, some (.int l7)] [.int v5] h n _ _
        refine rr_if_eq (tgt := 59) C dX1_allKnown_31 (by decide) (fun c31_ => ?_) (fun c31_ => ?_)
        · replace hr := (if_pos c31_).symm.trans hr
          refine rr_iinc (v := l7 + 1) C dX1_allKnown_59 rfl rfl ?_
          show WW W0 G 8 _ _ _ 62 [some (.ref l0), some (.int l1), some (.int l2), some (.int l3), some (.int l4), some (.long l5), none, some (.int (l7 + 1))] [] h n _ _
          refine rr_goto (tgt := 6) C dX1_allKnown_62 (by decide) ?_
          exact rr_keep [true, true, true, true, true, true, false, true] (ih_ _ _ hr hx0)
        · replace hr := (if_neg c31_).symm.trans hr
          refine rr_aload_n (i := 0) C dX1_allKnown_34 rfl rfl ?_
          replace hr := Option.bind_eq_some_iff.mp hr
          obtain ⟨v7, e8, hr⟩ := hr
          refine rr_rdR C dX1_allKnown_35 fl_X1_24 e8 ?_
          refine rr_iload C dX1_allKnown_38 rfl ?_
          replace hr := Option.bind_eq_some_iff.mp hr
          obtain ⟨a9, e10, hr⟩ := hr
          subst e10
          replace hr := Option.bind_eq_some_iff.mp hr
          obtain ⟨v11, e12, hr⟩ := hr
          refine rr_ldI C dX1_allKnown_40 e12 ?_
          refine rr_iload C dX1_allKnown_41 rfl ?_
          refine rr_icmp_gt (tgt := 59) C dX1_allKnown_43 (by decide) (fun c43_ => ?_) (fun c43_ => ?_)
          · replace hr := (if_pos c43_).symm.trans hr
            refine rr_iinc (v := l7 + 1) C dX1_allKnown_59 rfl rfl ?_
            show WW W0 G 8 _ _ _ 62 [some (.ref l0), some (.int l1), some (.int l2), some (.int l3), some (.int l4), some (.long l5), none, some (.int (l7 + 1))] [] h n _ _
            refine rr_goto (tgt := 6) C dX1_allKnown_62 (by decide) ?_
            exact rr_keep [true, true, true, true, true, true, false, true] (ih_ _ _ hr hx0)
          · replace hr := (if_neg c43_).symm.trans hr
            refine rr_lload C dX1_allKnown_46 rfl ?_
            refine rr_aload_n (i := 0) C dX1_allKnown_48 rfl rfl ?_
            replace hr := Option.bind_eq_some_iff.mp hr
            obtain ⟨v13, e14, hr⟩ := hr
            refine rr_rdR C dX1_allKnown_49 fl_X1_21 e14 ?_
            refine rr_iload C dX1_allKnown_52 rfl ?_
            replace hr := Option.bind_eq_some_iff.mp hr
            obtain ⟨a15, e16, hr⟩ := hr
            subst e16
            replace hr := Option.bind_eq_some_iff.mp hr
            obtain ⟨v17, e18, hr⟩ := hr
            refine rr_ldI C dX1_allKnown_54 e18 ?_
            refine rr_i2l C dX1_allKnown_55 ?_
            refine rr_ladd C dX1_allKnown_56 ?_
            refine rr_lstore C dX1_allKnown_57 (by decide) ?_
            show WW W0 G 8 _ _ _ 59 [some (.ref l0), some (.int l1), some (.int l2), some (.int l3), some (.int l4), some (.long (l5 + (Int32.toInt64 v17))), none, some (.int l7)] [] h n _ _
            refine rr_iinc (v := l7 + 1) C dX1_allKnown_59 rfl rfl ?_
            show WW W0 G 8 _ _ _ 62 [some (.ref l0), some (.int l1), some (.int l2), some (.int l3), some (.int l4), some (.long (l5 + (Int32.toInt64 v17))), none, some (.int (l7 + 1))] [] h n _ _
            refine rr_goto (tgt := 6) C dX1_allKnown_62 (by decide) ?_
            exact rr_keep [true, true, true, true, true, true, false, true] (ih_ _ _ hr hx0)
set_option maxRecDepth 100000 in
set_option maxHeartbeats 4000000 in
theorem c_X1_allKnown {K : Nat} {G : mm_G} {l : Launch} {h : mm_H} {n : Nat} (l0 : Nat) (l1 : Int32) (l2 : Int32) (l3 : Int32) (l4 : Int32) {r_ : Int64} (hn : 48 ≤ n) (hr : q_X1_allKnown K h n l0 l1 l2 l3 l4 = some r_) : Sp G l yX1_allKnown cX1_allKnown 8 (some .long) 1 0 0 [.ref l0, .int l1, .int l2, .int l3, .int l4] h n (fun v h' n' => v = some (.long r_) ∧ h' = h ∧ n' = n) := by
  refine Sp_of (by decide +kernel) (Nat.le_of_ble_eq_true rfl) hn ?_
  intro W0 hwl C
  subst hwl
  unfold q_X1_allKnown at hr
  show WW W0 G 8 0 0 _ 0 [some (.ref l0), some (.int l1), some (.int l2), some (.int l3), some (.int l4), none, none, none] [] h n 0 0
  refine rr_lconst (v := 0) C dX1_allKnown_0 (by decide) ?_
  refine rr_lstore C dX1_allKnown_1 (by decide) ?_
  show WW W0 G 8 _ _ _ 3 [some (.ref l0), some (.int l1), some (.int l2), some (.int l3), some (.int l4), some (.long 0), none, none] [] h n _ _
  refine rr_iconst (v := 0) C dX1_allKnown_3 (by decide) ?_
  refine rr_istore C dX1_allKnown_4 (by decide) ?_
  show WW W0 G 8 _ _ _ 6 [some (.ref l0), some (.int l1), some (.int l2), some (.int l3), some (.int l4), some (.long 0), none, some (.int 0)] [] h n _ _
  replace hr := Option.bind_eq_some_iff.mp hr
  obtain ⟨v20, e21, hr⟩ := hr
  refine rr_keep [true, true, true, true, true, true, false, true] (w_X1_allKnown_6 C (by omega) l0 l1 l2 l3 l4 K 0 0 e21 ?_)
  show WW W0 G 8 _ _ _ 65 [none, none, none, none, none, some (.long v20), none, none] [] h n _ _
  refine rr_lload C dX1_allKnown_65 rfl ?_
  obtain rfl := Option.some.inj hr
  exact rr_lret C dX1_allKnown_67 rfl ⟨rfl, rfl, rfl⟩
def q_X2_add (K : Nat) (h : mm_H) (n : Nat) (l0 : Nat) (l1 : Int32) (l2 : Int32) (l3 : Int32) : Option (mm_H) :=
  (rdI h n l0 2 4).bind fun v1 =>
  if 50 ≤ v1 then
    some h
  else
  (rdR h n l0 2 1).bind fun v3 =>
  (rdI h n l0 2 4).bind fun v5 =>
  v3.bind fun a7 =>
  (stI h n a7 v5 l1).bind fun h9 =>
  (rdR h9 n l0 2 2).bind fun v11 =>
  (rdI h9 n l0 2 4).bind fun v13 =>
  v11.bind fun a15 =>
  (stI h9 n a15 v13 l2).bind fun h17 =>
  (rdR h17 n l0 2 3).bind fun v19 =>
  (rdI h17 n l0 2 4).bind fun v21 =>
  v19.bind fun a23 =>
  (stI h17 n a23 v21 l3).bind fun h25 =>
  (rdI h25 n l0 2 4).bind fun v27 =>
  (wrF h25 n l0 2 4 (.int (v27 + 1))).bind fun h29 =>
  some h29
set_option maxRecDepth 100000 in
set_option maxHeartbeats 4000000 in
theorem c_X2_add {K : Nat} {G : mm_G} {l : Launch} {h : mm_H} {n : Nat} (l0 : Nat) (l1 : Int32) (l2 : Int32) (l3 : Int32) {r_ : mm_H} (hn : 48 ≤ n) (hr : q_X2_add K h n l0 l1 l2 l3 = some r_) : Sp G l yX2_add cX2_add 4 none 0 0 0 [.ref l0, .int l1, .int l2, .int l3] h n (fun v h' n' => v = none ∧ h' = r_ ∧ n' = n) := by
  refine Sp_of (by decide +kernel) (Nat.le_of_ble_eq_true rfl) hn ?_
  intro W0 hwl C
  subst hwl
  unfold q_X2_add at hr
  show WW W0 G 4 0 0 _ 0 [some (.ref l0), some (.int l1), some (.int l2), some (.int l3)] [] h n 0 0
  refine rr_aload_n (i := 0) C dX2_add_0 rfl rfl ?_
  replace hr := Option.bind_eq_some_iff.mp hr
  obtain ⟨v1, e2, hr⟩ := hr
  refine rr_rdI C dX2_add_1 fl_X2_25 e2 ?_
  refine rr_bipush (v := 50) C dX2_add_4 (by decide) ?_
  refine rr_icmp_ge (tgt := 49) C dX2_add_6 (by decide) (fun c6_ => ?_) (fun c6_ => ?_)
  · replace hr := (if_pos c6_).symm.trans hr
    obtain rfl := Option.some.inj hr
    exact rr_vret C dX2_add_49 rfl ⟨rfl, rfl, rfl⟩
  · replace hr := (if_neg c6_).symm.trans hr
    refine rr_aload_n (i := 0) C dX2_add_9 rfl rfl ?_
    replace hr := Option.bind_eq_some_iff.mp hr
    obtain ⟨v3, e4, hr⟩ := hr
    refine rr_rdR C dX2_add_10 fl_X2_11 e4 ?_
    refine rr_aload_n (i := 0) C dX2_add_13 rfl rfl ?_
    replace hr := Option.bind_eq_some_iff.mp hr
    obtain ⟨v5, e6, hr⟩ := hr
    refine rr_rdI C dX2_add_14 fl_X2_25 e6 ?_
    refine rr_iload_n (i := 1) C dX2_add_17 rfl rfl ?_
    replace hr := Option.bind_eq_some_iff.mp hr
    obtain ⟨a7, e8, hr⟩ := hr
    subst e8
    replace hr := Option.bind_eq_some_iff.mp hr
    obtain ⟨h9, e10, hr⟩ := hr
    refine rr_stI C dX2_add_18 e10 ?_
    refine rr_aload_n (i := 0) C dX2_add_19 rfl rfl ?_
    replace hr := Option.bind_eq_some_iff.mp hr
    obtain ⟨v11, e12, hr⟩ := hr
    refine rr_rdR C dX2_add_20 fl_X2_15 e12 ?_
    refine rr_aload_n (i := 0) C dX2_add_23 rfl rfl ?_
    replace hr := Option.bind_eq_some_iff.mp hr
    obtain ⟨v13, e14, hr⟩ := hr
    refine rr_rdI C dX2_add_24 fl_X2_25 e14 ?_
    refine rr_iload_n (i := 2) C dX2_add_27 rfl rfl ?_
    replace hr := Option.bind_eq_some_iff.mp hr
    obtain ⟨a15, e16, hr⟩ := hr
    subst e16
    replace hr := Option.bind_eq_some_iff.mp hr
    obtain ⟨h17, e18, hr⟩ := hr
    refine rr_stI C dX2_add_28 e18 ?_
    refine rr_aload_n (i := 0) C dX2_add_29 rfl rfl ?_
    replace hr := Option.bind_eq_some_iff.mp hr
    obtain ⟨v19, e20, hr⟩ := hr
    refine rr_rdR C dX2_add_30 fl_X2_18 e20 ?_
    refine rr_aload_n (i := 0) C dX2_add_33 rfl rfl ?_
    replace hr := Option.bind_eq_some_iff.mp hr
    obtain ⟨v21, e22, hr⟩ := hr
    refine rr_rdI C dX2_add_34 fl_X2_25 e22 ?_
    refine rr_iload_n (i := 3) C dX2_add_37 rfl rfl ?_
    replace hr := Option.bind_eq_some_iff.mp hr
    obtain ⟨a23, e24, hr⟩ := hr
    subst e24
    replace hr := Option.bind_eq_some_iff.mp hr
    obtain ⟨h25, e26, hr⟩ := hr
    refine rr_stI C dX2_add_38 e26 ?_
    refine rr_aload_n (i := 0) C dX2_add_39 rfl rfl ?_
    refine rr_dup C dX2_add_40 rfl ?_
    replace hr := Option.bind_eq_some_iff.mp hr
    obtain ⟨v27, e28, hr⟩ := hr
    refine rr_rdI C dX2_add_41 fl_X2_25 e28 ?_
    refine rr_iconst (v := 1) C dX2_add_44 (by decide) ?_
    refine rr_iadd C dX2_add_45 ?_
    replace hr := Option.bind_eq_some_iff.mp hr
    obtain ⟨h29, e30, hr⟩ := hr
    refine rr_wrF C dX2_add_46 fp_X2_25 rfl rfl e30 ?_
    obtain rfl := Option.some.inj hr
    exact rr_vret C dX2_add_49 rfl ⟨rfl, rfl, rfl⟩
def lp_X2_addUp_27 (K : Nat) (n : Nat) (l0 : Nat) (l1 : Int32) : Nat → Int32 → mm_H → Option (mm_H)
  | 0, _, _ => none
  | k_ + 1, l2, h =>
    (rdI h n l0 2 4).bind fun v11 =>
    if v11 ≤ l2 then
      some (h)
    else
    if 50 ≤ l2 then
      some (h)
    else
    (rdR h n l0 2 1).bind fun v13 =>
    v13.bind fun a15 =>
    (ldI h n a15 l2).bind fun v17 =>
    if v17 = l1 then
      lp_X2_addUp_27 K n l0 l1 k_ (l2 + 1) h
    else
    (rdR h n l0 2 2).bind fun v19 =>
    v19.bind fun a21 =>
    (ldI h n a21 l2).bind fun v23 =>
    (rdR h n l0 2 3).bind fun v26 =>
    v26.bind fun a28 =>
    (ldI h n a28 l2).bind fun v30 =>
    (rdJ h n l0 2 5).bind fun v33 =>
    (wrF h n l0 2 5 (.long (v33 + 1))).bind fun h35 =>
    (rdJ h35 n l0 2 6).bind fun v37 =>
    (wrF h35 n l0 2 6 (.long (v37 + (Int32.toInt64 v23)))).bind fun h39 =>
    (rdJ h39 n l0 2 7).bind fun v41 =>
    (wrF h39 n l0 2 7 (.long (v41 + (Int32.toInt64 v30)))).bind fun h43 =>
    (rdJ h43 n l0 2 8).bind fun v45 =>
    (wrF h43 n l0 2 8 (.long (v45 + ((Int32.toInt64 v23) * (Int32.toInt64 v23))))).bind fun h47 =>
    (rdJ h47 n l0 2 9).bind fun v49 =>
    (wrF h47 n l0 2 9 (.long (v49 + ((Int32.toInt64 v23) * (Int32.toInt64 v30))))).bind fun h51 =>
    lp_X2_addUp_27 K n l0 l1 k_ (l2 + 1) h51
def q_X2_addUp (K : Nat) (h : mm_H) (n : Nat) (l0 : Nat) (l1 : Int32) : Option (mm_H) :=
  (wrF h n l0 2 5 (.long 0)).bind fun h1 =>
  (wrF h1 n l0 2 6 (.long 0)).bind fun h3 =>
  (wrF h3 n l0 2 7 (.long 0)).bind fun h5 =>
  (wrF h5 n l0 2 8 (.long 0)).bind fun h7 =>
  (wrF h7 n l0 2 9 (.long 0)).bind fun h9 =>
  (lp_X2_addUp_27 K n l0 l1 K 0 h9).bind fun v53 =>
  some v53
set_option maxRecDepth 100000 in
set_option maxHeartbeats 4000000 in
theorem w_X2_addUp_27 {K : Nat} {W0 : mm_X} {G : mm_G} {mc ms kc ks : Nat} {Q_ : State → Prop} {n : Nat} (C : mm_C W0 G cX2_addUp yX2_addUp.cls 7 mc ms none 0 yX2_addUp.name) (hn : 48 ≤ n) (l0 : Nat) (l1 : Int32) : ∀ (k_ : Nat) (l2 : Int32) (h : mm_H) {r_ : mm_H} (hr : lp_X2_addUp_27 K n l0 l1 k_ l2 h = some r_) (hx0 : WW W0 G 7 mc ms Q_ 133 [none, none, none, none, none, none, none] [] r_ n kc ks), WW W0 G 7 mc ms Q_ 27 [some (.ref l0), some (.int l1), some (.int l2), none, none, none, none] [] h n kc ks := by
  intro k_
  induction k_ with
  | zero =>
    intro l2 h r_ hr
    cases hr
  | succ k_ ih_ =>
    intro l2 h r_ hr hx0
    unfold lp_X2_addUp_27 at hr
    refine rr_iload_n (i := 2) C dX2_addUp_27 rfl rfl ?_
    refine rr_aload_n (i := 0) C dX2_addUp_28 rfl rfl ?_
    replace hr := Option.bind_eq_some_iff.mp hr
    obtain ⟨v11, e12, hr⟩ := hr
    refine rr_rdI C dX2_addUp_29 fl_X2_25 e12 ?_
    refine rr_icmp_ge (tgt := 133) C dX2_addUp_32 (by decide) (fun c32_ => ?_) (fun c32_ => ?_)
    · replace hr := (if_pos c32_).symm.trans hr
      obtain rfl := Option.some.inj hr
      exact rr_keep [false, false, false, false, false, false, false] (hx0)
    · replace hr := (if_neg c32_).symm.trans hr
      refine rr_iload_n (i := 2) C dX2_addUp_35 rfl rfl ?_
      refine rr_bipush (v := 50) C dX2_addUp_36 (by decide) ?_
      refine rr_icmp_ge (tgt := 133) C dX2_addUp_38 (by decide) (fun c38_ => ?_) (fun c38_ => ?_)
      · replace hr := (if_pos c38_).symm.trans hr
        obtain rfl := Option.some.inj hr
        exact rr_keep [false, false, false, false, false, false, false] (hx0)
      · replace hr := (if_neg c38_).symm.trans hr
        refine rr_aload_n (i := 0) C dX2_addUp_41 rfl rfl ?_
        replace hr := Option.bind_eq_some_iff.mp hr
        obtain ⟨v13, e14, hr⟩ := hr
        refine rr_rdR C dX2_addUp_42 fl_X2_11 e14 ?_
        refine rr_iload_n (i := 2) C dX2_addUp_45 rfl rfl ?_
        replace hr := Option.bind_eq_some_iff.mp hr
        obtain ⟨a15, e16, hr⟩ := hr
        subst e16
        replace hr := Option.bind_eq_some_iff.mp hr
        obtain ⟨v17, e18, hr⟩ := hr
        refine rr_ldI C dX2_addUp_46 e18 ?_
        refine rr_iload_n (i := 1) C dX2_addUp_47 rfl rfl ?_
        refine rr_icmp_ne (tgt := 54) C dX2_addUp_48 (by decide) (fun c48_ => ?_) (fun c48_ => ?_)
        · replace hr := (if_neg c48_).symm.trans hr
          refine rr_aload_n (i := 0) C dX2_addUp_54 rfl rfl ?_
          replace hr := Option.bind_eq_some_iff.mp hr
          obtain ⟨v19, e20, hr⟩ := hr
          refine rr_rdR C dX2_addUp_55 fl_X2_15 e20 ?_
          refine rr_iload_n (i := 2) C dX2_addUp_58 rfl rfl ?_
          replace hr := Option.bind_eq_some_iff.mp hr
          obtain ⟨a21, e22, hr⟩ := hr
          subst e22
          replace hr := Option.bind_eq_some_iff.mp hr
          obtain ⟨v23, e24, hr⟩ := hr
          refine rr_ldI C dX2_addUp_59 e24 ?_
          refine rr_i2l C dX2_addUp_60 ?_
          refine rr_lstore_n (i := 3) C dX2_addUp_61 rfl (by decide) ?_
          show WW W0 G 7 _ _ _ 62 [some (.ref l0), some (.int l1), some (.int l2), some (.long (Int32.toInt64 v23)), none, none, none] [] h n _ _
          refine rr_aload_n (i := 0) C dX2_addUp_62 rfl rfl ?_
          replace hr := Option.bind_eq_some_iff.mp hr
          obtain ⟨v26, e27, hr⟩ := hr
          refine rr_rdR C dX2_addUp_63 fl_X2_18 e27 ?_
          refine rr_iload_n (i := 2) C dX2_addUp_66 rfl rfl ?_
          replace hr := Option.bind_eq_some_iff.mp hr
          obtain ⟨a28, e29, hr⟩ := hr
          subst e29
          replace hr := Option.bind_eq_some_iff.mp hr
          obtain ⟨v30, e31, hr⟩ := hr
          refine rr_ldI C dX2_addUp_67 e31 ?_
          refine rr_i2l C dX2_addUp_68 ?_
          refine rr_lstore C dX2_addUp_69 (by decide) ?_
          show WW W0 G 7 _ _ _ 71 [some (.ref l0), some (.int l1), some (.int l2), some (.long (Int32.toInt64 v23)), none, some (.long (Int32.toInt64 v30)), none] [] h n _ _
          refine rr_aload_n (i := 0) C dX2_addUp_71 rfl rfl ?_
          refine rr_dup C dX2_addUp_72 rfl ?_
          replace hr := Option.bind_eq_some_iff.mp hr
          obtain ⟨v33, e34, hr⟩ := hr
          refine rr_rdJ C dX2_addUp_73 fl_X2_52 e34 ?_
          refine rr_lconst (v := 1) C dX2_addUp_76 (by decide) ?_
          refine rr_ladd C dX2_addUp_77 ?_
          replace hr := Option.bind_eq_some_iff.mp hr
          obtain ⟨h35, e36, hr⟩ := hr
          refine rr_wrF C dX2_addUp_78 fp_X2_52 rfl rfl e36 ?_
          refine rr_aload_n (i := 0) C dX2_addUp_81 rfl rfl ?_
          refine rr_dup C dX2_addUp_82 rfl ?_
          replace hr := Option.bind_eq_some_iff.mp hr
          obtain ⟨v37, e38, hr⟩ := hr
          refine rr_rdJ C dX2_addUp_83 fl_X2_56 e38 ?_
          refine rr_lload_n (i := 3) C dX2_addUp_86 rfl rfl ?_
          refine rr_ladd C dX2_addUp_87 ?_
          replace hr := Option.bind_eq_some_iff.mp hr
          obtain ⟨h39, e40, hr⟩ := hr
          refine rr_wrF C dX2_addUp_88 fp_X2_56 rfl rfl e40 ?_
          refine rr_aload_n (i := 0) C dX2_addUp_91 rfl rfl ?_
          refine rr_dup C dX2_addUp_92 rfl ?_
          replace hr := Option.bind_eq_some_iff.mp hr
          obtain ⟨v41, e42, hr⟩ := hr
          refine rr_rdJ C dX2_addUp_93 fl_X2_59 e42 ?_
          refine rr_lload C dX2_addUp_96 rfl ?_
          refine rr_ladd C dX2_addUp_98 ?_
          replace hr := Option.bind_eq_some_iff.mp hr
          obtain ⟨h43, e44, hr⟩ := hr
          refine rr_wrF C dX2_addUp_99 fp_X2_59 rfl rfl e44 ?_
          refine rr_aload_n (i := 0) C dX2_addUp_102 rfl rfl ?_
          refine rr_dup C dX2_addUp_103 rfl ?_
          replace hr := Option.bind_eq_some_iff.mp hr
          obtain ⟨v45, e46, hr⟩ := hr
          refine rr_rdJ C dX2_addUp_104 fl_X2_62 e46 ?_
          refine rr_lload_n (i := 3) C dX2_addUp_107 rfl rfl ?_
          refine rr_lload_n (i := 3) C dX2_addUp_108 rfl rfl ?_
          refine rr_lmul C dX2_addUp_109 ?_
          refine rr_ladd C dX2_addUp_110 ?_
          replace hr := Option.bind_eq_some_iff.mp hr
          obtain ⟨h47, e48, hr⟩ := hr
          refine rr_wrF C dX2_addUp_111 fp_X2_62 rfl rfl e48 ?_
          refine rr_aload_n (i := 0) C dX2_addUp_114 rfl rfl ?_
          refine rr_dup C dX2_addUp_115 rfl ?_
          replace hr := Option.bind_eq_some_iff.mp hr
          obtain ⟨v49, e50, hr⟩ := hr
          refine rr_rdJ C dX2_addUp_116 fl_X2_65 e50 ?_
          refine rr_lload_n (i := 3) C dX2_addUp_119 rfl rfl ?_
          refine rr_lload C dX2_addUp_120 rfl ?_
          refine rr_lmul C dX2_addUp_122 ?_
          refine rr_ladd C dX2_addUp_123 ?_
          replace hr := Option.bind_eq_some_iff.mp hr
          obtain ⟨h51, e52, hr⟩ := hr
          refine rr_wrF C dX2_addUp_124 fp_X2_65 rfl rfl e52 ?_
          refine rr_iinc (v := l2 + 1) C dX2_addUp_127 rfl rfl ?_
          show WW W0 G 7 _ _ _ 130 [some (.ref l0), some (.int l1), some (.int (l2 + 1)), some (.long (Int32.toInt64 v23)), none, some (.long (Int32.toInt64 v30)), none] [] h51 n _ _
          refine rr_goto (tgt := 27) C dX2_addUp_130 (by decide) ?_
          exact rr_keep [true, true, true, false, false, false, false] (ih_ _ _ hr hx0)
        · replace hr := (if_pos c48_).symm.trans hr
          refine rr_goto (tgt := 127) C dX2_addUp_51 (by decide) ?_
          refine rr_iinc (v := l2 + 1) C dX2_addUp_127 rfl rfl ?_
          show WW W0 G 7 _ _ _ 130 [some (.ref l0), some (.int l1), some (.int (l2 + 1)), none, none, none, none] [] h n _ _
          refine rr_goto (tgt := 27) C dX2_addUp_130 (by decide) ?_
          exact rr_keep [true, true, true, false, false, false, false] (ih_ _ _ hr hx0)
set_option maxRecDepth 100000 in
set_option maxHeartbeats 4000000 in
theorem c_X2_addUp {K : Nat} {G : mm_G} {l : Launch} {h : mm_H} {n : Nat} (l0 : Nat) (l1 : Int32) {r_ : mm_H} (hn : 48 ≤ n) (hr : q_X2_addUp K h n l0 l1 = some r_) : Sp G l yX2_addUp cX2_addUp 7 none 0 0 0 [.ref l0, .int l1] h n (fun v h' n' => v = none ∧ h' = r_ ∧ n' = n) := by
  refine Sp_of (by decide +kernel) (Nat.le_of_ble_eq_true rfl) hn ?_
  intro W0 hwl C
  subst hwl
  unfold q_X2_addUp at hr
  show WW W0 G 7 0 0 _ 0 [some (.ref l0), some (.int l1), none, none, none, none, none] [] h n 0 0
  refine rr_aload_n (i := 0) C dX2_addUp_0 rfl rfl ?_
  refine rr_lconst (v := 0) C dX2_addUp_1 (by decide) ?_
  replace hr := Option.bind_eq_some_iff.mp hr
  obtain ⟨h1, e2, hr⟩ := hr
  refine rr_wrF C dX2_addUp_2 fp_X2_52 rfl rfl e2 ?_
  refine rr_aload_n (i := 0) C dX2_addUp_5 rfl rfl ?_
  refine rr_lconst (v := 0) C dX2_addUp_6 (by decide) ?_
  replace hr := Option.bind_eq_some_iff.mp hr
  obtain ⟨h3, e4, hr⟩ := hr
  refine rr_wrF C dX2_addUp_7 fp_X2_56 rfl rfl e4 ?_
  refine rr_aload_n (i := 0) C dX2_addUp_10 rfl rfl ?_
  refine rr_lconst (v := 0) C dX2_addUp_11 (by decide) ?_
  replace hr := Option.bind_eq_some_iff.mp hr
  obtain ⟨h5, e6, hr⟩ := hr
  refine rr_wrF C dX2_addUp_12 fp_X2_59 rfl rfl e6 ?_
  refine rr_aload_n (i := 0) C dX2_addUp_15 rfl rfl ?_
  refine rr_lconst (v := 0) C dX2_addUp_16 (by decide) ?_
  replace hr := Option.bind_eq_some_iff.mp hr
  obtain ⟨h7, e8, hr⟩ := hr
  refine rr_wrF C dX2_addUp_17 fp_X2_62 rfl rfl e8 ?_
  refine rr_aload_n (i := 0) C dX2_addUp_20 rfl rfl ?_
  refine rr_lconst (v := 0) C dX2_addUp_21 (by decide) ?_
  replace hr := Option.bind_eq_some_iff.mp hr
  obtain ⟨h9, e10, hr⟩ := hr
  refine rr_wrF C dX2_addUp_22 fp_X2_65 rfl rfl e10 ?_
  refine rr_iconst (v := 0) C dX2_addUp_25 (by decide) ?_
  refine rr_istore_n (i := 2) C dX2_addUp_26 rfl (by decide) ?_
  show WW W0 G 7 _ _ _ 27 [some (.ref l0), some (.int l1), some (.int 0), none, none, none, none] [] h9 n _ _
  replace hr := Option.bind_eq_some_iff.mp hr
  obtain ⟨v53, e54, hr⟩ := hr
  refine rr_keep [true, true, true, false, false, false, false] (w_X2_addUp_27 C (by omega) l0 l1 K 0 h9 e54 ?_)
  show WW W0 G 7 _ _ _ 133 [none, none, none, none, none, none, none] [] v53 n _ _
  obtain rfl := Option.some.inj hr
  exact rr_vret C dX2_addUp_133 rfl ⟨rfl, rfl, rfl⟩
def lp_X2_gather_38 (K : Nat) (n : Nat) (l0 : Nat) (l1 : Int32) (l2 : Int32) (l4 : Int32) (l5 : Int32) (l6 : Int32) (l7 : Int32) : Nat → Int32 → mm_H → Option (mm_H)
  | 0, _, _ => none
  | k_ + 1, l8, h =>
    if l5 ≤ l8 then
      some (h)
    else
    if l7 = l1 then
      some (h)
    else
    (rdR h n l0 2 0).bind fun v12 =>
    v12.bind fun a14 =>
    (rdR h n a14 4 1).bind fun v16 =>
    v16.bind fun a18 =>
    (ckq h n a18 0).bind fun u20 =>
    (q_X0_knownBy K h n a18 l7 l8 l4 l6).bind fun v22 =>
    (rdR h n l0 2 0).bind fun v24 =>
    v24.bind fun a26 =>
    (rdR h n a26 4 1).bind fun v28 =>
    v28.bind fun a30 =>
    (ckq h n a30 0).bind fun u32 =>
    (q_X0_knownBy K h n a30 l7 l8 (3 + l2) l6).bind fun v34 =>
    if v22 = (-1) then
      lp_X2_gather_38 K n l0 l1 l2 l4 l5 l6 l7 k_ (l8 + 1) h
    else
    if v34 = (-1) then
      lp_X2_gather_38 K n l0 l1 l2 l4 l5 l6 l7 k_ (l8 + 1) h
    else
    (ckq h n l0 2).bind fun u36 =>
    (q_X2_add K h n l0 l7 v22 v34).bind fun v38 =>
    lp_X2_gather_38 K n l0 l1 l2 l4 l5 l6 l7 k_ (l8 + 1) v38
def lp_X2_gather_20 (K : Nat) (n : Nat) (l0 : Nat) (l1 : Int32) (l2 : Int32) (l4 : Int32) (l5 : Int32) (l6 : Int32) : Nat → Int32 → mm_H → Option (mm_H)
  | 0, _, _ => none
  | k_ + 1, l7, h =>
    (rdR h n l0 2 0).bind fun v5 =>
    v5.bind fun a7 =>
    (rdI h n a7 4 5).bind fun v9 =>
    if v9 ≤ l7 then
      some (h)
    else
    (lp_X2_gather_38 K n l0 l1 l2 l4 l5 l6 l7 K (l5 - 5) h).bind fun v40 =>
    lp_X2_gather_20 K n l0 l1 l2 l4 l5 l6 k_ (l7 + 1) v40
def q_X2_gather (K : Nat) (h : mm_H) (n : Nat) (l0 : Nat) (l1 : Int32) (l2 : Int32) (l3 : Int32) (l4 : Int32) : Option (mm_H) :=
  (wrF h n l0 2 4 (.int 0)).bind fun h1 =>
  (lp_X2_gather_20 K n l0 l1 l2 l4 (l3 * 5) (l3 * 500) K 0 h1).bind fun v42 =>
  (ckq v42 n l0 2).bind fun u44 =>
  (q_X2_addUp K v42 n l0 (-1)).bind fun v46 =>
  some v46
set_option maxRecDepth 100000 in
set_option maxHeartbeats 4000000 in
theorem w_X2_gather_38 {K : Nat} {W0 : mm_X} {G : mm_G} {mc ms kc ks : Nat} {Q_ : State → Prop} {n : Nat} (C : mm_C W0 G cX2_gather yX2_gather.cls 11 mc ms none 2 yX2_gather.name) (hn : 48 ≤ n) (l0 : Nat) (l1 : Int32) (l2 : Int32) (l4 : Int32) (l5 : Int32) (l6 : Int32) (l7 : Int32) : ∀ (k_ : Nat) (l8 : Int32) (h : mm_H) {r_ : mm_H} (hr : lp_X2_gather_38 K n l0 l1 l2 l4 l5 l6 l7 k_ l8 h = some r_) (hx0 : WW W0 G 11 mc ms Q_ 120 [some (.ref l0), some (.int l1), some (.int l2), none, some (.int l4), some (.int l5), some (.int l6), some (.int l7), none, none, none] [] r_ n kc ks), WW W0 G 11 mc ms Q_ 38 [some (.ref l0), some (.int l1), some (.int l2), none, some (.int l4), some (.int l5), some (.int l6), some (.int l7), some (.int l8), none, none] [] h n kc ks := by
  intro k_
  induction k_ with
  | zero =>
    intro l8 h r_ hr
    cases hr
  | succ k_ ih_ =>
    intro l8 h r_ hr hx0
    unfold lp_X2_gather_38 at hr
    refine rr_iload C dX2_gather_38 rfl ?_
    refine rr_iload C dX2_gather_40 rfl ?_
    refine rr_icmp_ge (tgt := 120) C dX2_gather_42 (by decide) (fun c42_ => ?_) (fun c42_ => ?_)
    · replace hr := (if_pos c42_).symm.trans hr
      obtain rfl := Option.some.inj hr
      exact rr_keep [true, true, true, false, true, true, true, true, false, false, false] (hx0)
    · replace hr := (if_neg c42_).symm.trans hr
      refine rr_iload C dX2_gather_45 rfl ?_
      refine rr_iload_n (i := 1) C dX2_gather_47 rfl rfl ?_
      refine rr_icmp_eq (tgt := 120) C dX2_gather_48 (by decide) (fun c48_ => ?_) (fun c48_ => ?_)
      · replace hr := (if_pos c48_).symm.trans hr
        obtain rfl := Option.some.inj hr
        exact rr_keep [true, true, true, false, true, true, true, true, false, false, false] (hx0)
      · replace hr := (if_neg c48_).symm.trans hr
        refine rr_aload_n (i := 0) C dX2_gather_51 rfl rfl ?_
        replace hr := Option.bind_eq_some_iff.mp hr
        obtain ⟨v12, e13, hr⟩ := hr
        refine rr_rdR C dX2_gather_52 fl_X2_21 e13 ?_
        replace hr := Option.bind_eq_some_iff.mp hr
        obtain ⟨a14, e15, hr⟩ := hr
        subst e15
        replace hr := Option.bind_eq_some_iff.mp hr
        obtain ⟨v16, e17, hr⟩ := hr
        refine rr_rdR C dX2_gather_55 fl_X2_34 e17 ?_
        refine rr_iload C dX2_gather_58 rfl ?_
        refine rr_iload C dX2_gather_60 rfl ?_
        refine rr_iload C dX2_gather_62 rfl ?_
        refine rr_iload C dX2_gather_64 rfl ?_
        replace hr := Option.bind_eq_some_iff.mp hr
        obtain ⟨a18, e19, hr⟩ := hr
        subst e19
        replace hr := Option.bind_eq_some_iff.mp hr
        obtain ⟨u20, e21, hr⟩ := hr
        replace hr := Option.bind_eq_some_iff.mp hr
        obtain ⟨v22, e23, hr⟩ := hr
        refine rr_callVq (as := [.int l7, .int l8, .int l4, .int l6]) (st := []) (mc' := 0) (ms' := 0) C dX2_gather_66 iv_X2_38 (by decide) e21 rfl (Nat.le_of_ble_eq_true rfl) (c_X0_knownBy a18 l7 l8 l4 l6 (by omega) e23) (fun v_ h_ n_ q_ => ?_)
        obtain ⟨q1_, q2_, q3_⟩ := q_
        subst v_; subst h_; subst n_
        show WW W0 G 11 _ _ _ 69 [some (.ref l0), some (.int l1), some (.int l2), none, some (.int l4), some (.int l5), some (.int l6), some (.int l7), some (.int l8), none, none] [.int v22] h n _ _
        refine rr_istore C dX2_gather_69 (by decide) ?_
        show WW W0 G 11 _ _ _ 71 [some (.ref l0), some (.int l1), some (.int l2), none, some (.int l4), some (.int l5), some (.int l6), some (.int l7), some (.int l8), some (.int v22), none] [] h n _ _
        refine rr_aload_n (i := 0) C dX2_gather_71 rfl rfl ?_
        replace hr := Option.bind_eq_some_iff.mp hr
        obtain ⟨v24, e25, hr⟩ := hr
        refine rr_rdR C dX2_gather_72 fl_X2_21 e25 ?_
        replace hr := Option.bind_eq_some_iff.mp hr
        obtain ⟨a26, e27, hr⟩ := hr
        subst e27
        replace hr := Option.bind_eq_some_iff.mp hr
        obtain ⟨v28, e29, hr⟩ := hr
        refine rr_rdR C dX2_gather_75 fl_X2_34 e29 ?_
        refine rr_iload C dX2_gather_78 rfl ?_
        refine rr_iload C dX2_gather_80 rfl ?_
        refine rr_iconst (v := 3) C dX2_gather_82 (by decide) ?_
        refine rr_iload_n (i := 2) C dX2_gather_83 rfl rfl ?_
        refine rr_iadd C dX2_gather_84 ?_
        refine rr_iload C dX2_gather_85 rfl ?_
        replace hr := Option.bind_eq_some_iff.mp hr
        obtain ⟨a30, e31, hr⟩ := hr
        subst e31
        replace hr := Option.bind_eq_some_iff.mp hr
        obtain ⟨u32, e33, hr⟩ := hr
        replace hr := Option.bind_eq_some_iff.mp hr
        obtain ⟨v34, e35, hr⟩ := hr
        refine rr_callVq (as := [.int l7, .int l8, .int (3 + l2), .int l6]) (st := []) (mc' := 0) (ms' := 0) C dX2_gather_87 iv_X2_38 (by decide) e33 rfl (Nat.le_of_ble_eq_true rfl) (c_X0_knownBy a30 l7 l8 (3 + l2) l6 (by omega) e35) (fun v_ h_ n_ q_ => ?_)
        obtain ⟨q1_, q2_, q3_⟩ := q_
        subst v_; subst h_; subst n_
        show WW W0 G 11 _ _ _ 90 [some (.ref l0), some (.int l1), some (.int l2), none, some (.int l4), some (.int l5), some (.int l6), some (.int l7), some (.int l8), some (.int v22), none] [.int v34] h n _ _
        refine rr_istore C dX2_gather_90 (by decide) ?_
        show WW W0 G 11 _ _ _ 92 [some (.ref l0), some (.int l1), some (.int l2), none, some (.int l4), some (.int l5), some (.int l6), some (.int l7), some (.int l8), some (.int v22), some (.int v34)] [] h n _ _
        refine rr_iload C dX2_gather_92 rfl ?_
        refine rr_iconst (v := (-1)) C dX2_gather_94 (by decide) ?_
        refine rr_icmp_eq (tgt := 114) C dX2_gather_95 (by decide) (fun c95_ => ?_) (fun c95_ => ?_)
        · replace hr := (if_pos c95_).symm.trans hr
          refine rr_iinc (v := l8 + 1) C dX2_gather_114 rfl rfl ?_
          show WW W0 G 11 _ _ _ 117 [some (.ref l0), some (.int l1), some (.int l2), none, some (.int l4), some (.int l5), some (.int l6), some (.int l7), some (.int (l8 + 1)), some (.int v22), some (.int v34)] [] h n _ _
          refine rr_goto (tgt := 38) C dX2_gather_117 (by decide) ?_
          exact rr_keep [true, true, true, false, true, true, true, true, true, false, false] (ih_ _ _ hr hx0)
        · replace hr := (if_neg c95_).symm.trans hr
          refine rr_iload C dX2_gather_98 rfl ?_
          refine rr_iconst (v := (-1)) C dX2_gather_100 (by decide) ?_
          refine rr_icmp_eq (tgt := 114) C dX2_gather_101 (by decide) (fun c101_ => ?_) (fun c101_ => ?_)
          · replace hr := (if_pos c101_).symm.trans hr
            refine rr_iinc (v := l8 + 1) C dX2_gather_114 rfl rfl ?_
            show WW W0 G 11 _ _ _ 117 [some (.ref l0), some (.int l1), some (.int l2), none, some (.int l4), some (.int l5), some (.int l6), some (.int l7), some (.int (l8 + 1)), some (.int v22), some (.int v34)] [] h n _ _
            refine rr_goto (tgt := 38) C dX2_gather_117 (by decide) ?_
            exact rr_keep [true, true, true, false, true, true, true, true, true, false, false] (ih_ _ _ hr hx0)
          · replace hr := (if_neg c101_).symm.trans hr
            refine rr_aload_n (i := 0) C dX2_gather_104 rfl rfl ?_
            refine rr_iload C dX2_gather_105 rfl ?_
            refine rr_iload C dX2_gather_107 rfl ?_
            refine rr_iload C dX2_gather_109 rfl ?_
            replace hr := Option.bind_eq_some_iff.mp hr
            obtain ⟨u36, e37, hr⟩ := hr
            replace hr := Option.bind_eq_some_iff.mp hr
            obtain ⟨v38, e39, hr⟩ := hr
            refine rr_callVq (as := [.int l7, .int v22, .int v34]) (st := []) (mc' := 0) (ms' := 0) C dX2_gather_111 iv_X2_44 (by decide) e37 rfl (Nat.le_of_ble_eq_true rfl) (c_X2_add l0 l7 v22 v34 (by omega) e39) (fun v_ h_ n_ q_ => ?_)
            obtain ⟨q1_, q2_, q3_⟩ := q_
            subst v_; subst h_; subst n_
            show WW W0 G 11 _ _ _ 114 [some (.ref l0), some (.int l1), some (.int l2), none, some (.int l4), some (.int l5), some (.int l6), some (.int l7), some (.int l8), some (.int v22), some (.int v34)] [] v38 n _ _
            refine rr_iinc (v := l8 + 1) C dX2_gather_114 rfl rfl ?_
            show WW W0 G 11 _ _ _ 117 [some (.ref l0), some (.int l1), some (.int l2), none, some (.int l4), some (.int l5), some (.int l6), some (.int l7), some (.int (l8 + 1)), some (.int v22), some (.int v34)] [] v38 n _ _
            refine rr_goto (tgt := 38) C dX2_gather_117 (by decide) ?_
            exact rr_keep [true, true, true, false, true, true, true, true, true, false, false] (ih_ _ _ hr hx0)
set_option maxRecDepth 100000 in
set_option maxHeartbeats 4000000 in
theorem w_X2_gather_20 {K : Nat} {W0 : mm_X} {G : mm_G} {mc ms kc ks : Nat} {Q_ : State → Prop} {n : Nat} (C : mm_C W0 G cX2_gather yX2_gather.cls 11 mc ms none 2 yX2_gather.name) (hn : 48 ≤ n) (l0 : Nat) (l1 : Int32) (l2 : Int32) (l4 : Int32) (l5 : Int32) (l6 : Int32) : ∀ (k_ : Nat) (l7 : Int32) (h : mm_H) {r_ : mm_H} (hr : lp_X2_gather_20 K n l0 l1 l2 l4 l5 l6 k_ l7 h = some r_) (hx0 : WW W0 G 11 mc ms Q_ 126 [some (.ref l0), none, none, none, none, none, none, none, none, none, none] [] r_ n kc ks), WW W0 G 11 mc ms Q_ 20 [some (.ref l0), some (.int l1), some (.int l2), none, some (.int l4), some (.int l5), some (.int l6), some (.int l7), none, none, none] [] h n kc ks := by
  intro k_
  induction k_ with
  | zero =>
    intro l7 h r_ hr
    cases hr
  | succ k_ ih_ =>
    intro l7 h r_ hr hx0
    unfold lp_X2_gather_20 at hr
    refine rr_iload C dX2_gather_20 rfl ?_
    refine rr_aload_n (i := 0) C dX2_gather_22 rfl rfl ?_
    replace hr := Option.bind_eq_some_iff.mp hr
    obtain ⟨v5, e6, hr⟩ := hr
    refine rr_rdR C dX2_gather_23 fl_X2_21 e6 ?_
    replace hr := Option.bind_eq_some_iff.mp hr
    obtain ⟨a7, e8, hr⟩ := hr
    subst e8
    replace hr := Option.bind_eq_some_iff.mp hr
    obtain ⟨v9, e10, hr⟩ := hr
    refine rr_rdI C dX2_gather_26 fl_X2_29 e10 ?_
    refine rr_icmp_ge (tgt := 126) C dX2_gather_29 (by decide) (fun c29_ => ?_) (fun c29_ => ?_)
    · replace hr := (if_pos c29_).symm.trans hr
      obtain rfl := Option.some.inj hr
      exact rr_keep [true, false, false, false, false, false, false, false, false, false, false] (hx0)
    · replace hr := (if_neg c29_).symm.trans hr
      refine rr_iload C dX2_gather_32 rfl ?_
      refine rr_iconst (v := 5) C dX2_gather_34 (by decide) ?_
      refine rr_isub C dX2_gather_35 ?_
      refine rr_istore C dX2_gather_36 (by decide) ?_
      show WW W0 G 11 _ _ _ 38 [some (.ref l0), some (.int l1), some (.int l2), none, some (.int l4), some (.int l5), some (.int l6), some (.int l7), some (.int (l5 - 5)), none, none] [] h n _ _
      replace hr := Option.bind_eq_some_iff.mp hr
      obtain ⟨v40, e41, hr⟩ := hr
      refine rr_keep [true, true, true, false, true, true, true, true, true, false, false] (w_X2_gather_38 C (by omega) l0 l1 l2 l4 l5 l6 l7 K (l5 - 5) h e41 ?_)
      show WW W0 G 11 _ _ _ 120 [some (.ref l0), some (.int l1), some (.int l2), none, some (.int l4), some (.int l5), some (.int l6), some (.int l7), none, none, none] [] v40 n _ _
      refine rr_iinc (v := l7 + 1) C dX2_gather_120 rfl rfl ?_
      show WW W0 G 11 _ _ _ 123 [some (.ref l0), some (.int l1), some (.int l2), none, some (.int l4), some (.int l5), some (.int l6), some (.int (l7 + 1)), none, none, none] [] v40 n _ _
      refine rr_goto (tgt := 20) C dX2_gather_123 (by decide) ?_
      exact rr_keep [true, true, true, false, true, true, true, true, false, false, false] (ih_ _ _ hr hx0)
set_option maxRecDepth 100000 in
set_option maxHeartbeats 4000000 in
theorem c_X2_gather {K : Nat} {G : mm_G} {l : Launch} {h : mm_H} {n : Nat} (l0 : Nat) (l1 : Int32) (l2 : Int32) (l3 : Int32) (l4 : Int32) {r_ : mm_H} (hn : 48 ≤ n) (hr : q_X2_gather K h n l0 l1 l2 l3 l4 = some r_) : Sp G l yX2_gather cX2_gather 11 none 2 0 0 [.ref l0, .int l1, .int l2, .int l3, .int l4] h n (fun v h' n' => v = none ∧ h' = r_ ∧ n' = n) := by
  refine Sp_of (by decide +kernel) (Nat.le_of_ble_eq_true rfl) hn ?_
  intro W0 hwl C
  subst hwl
  unfold q_X2_gather at hr
  show WW W0 G 11 0 0 _ 0 [some (.ref l0), some (.int l1), some (.int l2), some (.int l3), some (.int l4), none, none, none, none, none, none] [] h n 0 0
  refine rr_aload_n (i := 0) C dX2_gather_0 rfl rfl ?_
  refine rr_iconst (v := 0) C dX2_gather_1 (by decide) ?_
  replace hr := Option.bind_eq_some_iff.mp hr
  obtain ⟨h1, e2, hr⟩ := hr
  refine rr_wrF C dX2_gather_2 fp_X2_25 rfl rfl e2 ?_
  refine rr_iload_n (i := 3) C dX2_gather_5 rfl rfl ?_
  refine rr_iconst (v := 5) C dX2_gather_6 (by decide) ?_
  refine rr_imul C dX2_gather_7 ?_
  refine rr_istore C dX2_gather_8 (by decide) ?_
  show WW W0 G 11 _ _ _ 10 [some (.ref l0), some (.int l1), some (.int l2), some (.int l3), some (.int l4), some (.int (l3 * 5)), none, none, none, none, none] [] h1 n _ _
  refine rr_iload_n (i := 3) C dX2_gather_10 rfl rfl ?_
  refine rr_sipush (v := 500) C dX2_gather_11 (by decide) ?_
  refine rr_imul C dX2_gather_14 ?_
  refine rr_istore C dX2_gather_15 (by decide) ?_
  show WW W0 G 11 _ _ _ 17 [some (.ref l0), some (.int l1), some (.int l2), some (.int l3), some (.int l4), some (.int (l3 * 5)), some (.int (l3 * 500)), none, none, none, none] [] h1 n _ _
  refine rr_iconst (v := 0) C dX2_gather_17 (by decide) ?_
  refine rr_istore C dX2_gather_18 (by decide) ?_
  show WW W0 G 11 _ _ _ 20 [some (.ref l0), some (.int l1), some (.int l2), some (.int l3), some (.int l4), some (.int (l3 * 5)), some (.int (l3 * 500)), some (.int 0), none, none, none] [] h1 n _ _
  replace hr := Option.bind_eq_some_iff.mp hr
  obtain ⟨v42, e43, hr⟩ := hr
  refine rr_keep [true, true, true, false, true, true, true, true, false, false, false] (w_X2_gather_20 C (by omega) l0 l1 l2 l4 (l3 * 5) (l3 * 500) K 0 h1 e43 ?_)
  show WW W0 G 11 _ _ _ 126 [some (.ref l0), none, none, none, none, none, none, none, none, none, none] [] v42 n _ _
  refine rr_aload_n (i := 0) C dX2_gather_126 rfl rfl ?_
  refine rr_iconst (v := (-1)) C dX2_gather_127 (by decide) ?_
  replace hr := Option.bind_eq_some_iff.mp hr
  obtain ⟨u44, e45, hr⟩ := hr
  replace hr := Option.bind_eq_some_iff.mp hr
  obtain ⟨v46, e47, hr⟩ := hr
  refine rr_callVq (as := [.int (-1)]) (st := []) (mc' := 0) (ms' := 0) C dX2_gather_128 iv_X2_48 (by decide) e45 rfl (Nat.le_of_ble_eq_true rfl) (c_X2_addUp l0 (-1) (by omega) e47) (fun v_ h_ n_ q_ => ?_)
  obtain ⟨q1_, q2_, q3_⟩ := q_
  subst v_; subst h_; subst n_
  show WW W0 G 11 _ _ _ 131 [some (.ref l0), none, none, none, none, none, none, none, none, none, none] [] v46 n _ _
  obtain rfl := Option.some.inj hr
  exact rr_vret C dX2_gather_131 rfl ⟨rfl, rfl, rfl⟩
def q_X8_held (K : Nat) (h : mm_H) (n : Nat) (l0 : Int64) (l2 : Int64) : Option (Int64) :=
  if (lg_cmp l2 0) = 0 then
    if 0 ≤ (lg_cmp 0 0) then
      if (lg_cmp 0 999999) ≤ 0 then
        some 0
      else
      some 999999
    else
    some 0
  else
  if l2 = 0 then none else
  if 0 ≤ (lg_cmp (l0 / l2) 0) then
    if (lg_cmp (l0 / l2) 999999) ≤ 0 then
      some (l0 / l2)
    else
    some 999999
  else
  some 0
set_option maxRecDepth 100000 in
set_option maxHeartbeats 4000000 in
theorem c_X8_held {K : Nat} {G : mm_G} {l : Launch} {h : mm_H} {n : Nat} (l0 : Int64) (l2 : Int64) {r_ : Int64} (hn : 48 ≤ n) (hr : q_X8_held K h n l0 l2 = some r_) : Sp G l yX8_held cX8_held 6 (some .long) 0 0 0 [.long l0, .long l2] h n (fun v h' n' => v = some (.long r_) ∧ h' = h ∧ n' = n) := by
  refine Sp_of (by decide +kernel) (Nat.le_of_ble_eq_true rfl) hn ?_
  intro W0 hwl C
  subst hwl
  unfold q_X8_held at hr
  show WW W0 G 6 0 0 _ 0 [some (.long l0), none, some (.long l2), none, none, none] [] h n 0 0
  refine rr_lload_n (i := 2) C dX8_held_0 rfl rfl ?_
  refine rr_lconst (v := 0) C dX8_held_1 (by decide) ?_
  refine rr_lcmp C dX8_held_2 ?_
  refine rr_if_ne (tgt := 10) C dX8_held_3 (by decide) (fun c3_ => ?_) (fun c3_ => ?_)
  · replace hr := (if_neg c3_).symm.trans hr
    refine rr_lload_n (i := 0) C dX8_held_10 rfl rfl ?_
    refine rr_lload_n (i := 2) C dX8_held_11 rfl rfl ?_
    by_cases z1 : l2 = 0
    · replace hr := (if_pos z1).symm.trans hr
      cases hr
    replace hr := (if_neg z1).symm.trans hr
    refine rr_ldiv C dX8_held_12 z1 ?_
    refine rr_lstore C dX8_held_13 (by decide) ?_
    show WW W0 G 6 _ _ _ 15 [some (.long l0), none, some (.long l2), none, some (.long (l0 / l2)), none] [] h n _ _
    refine rr_lload C dX8_held_15 rfl ?_
    refine rr_lconst (v := 0) C dX8_held_17 (by decide) ?_
    refine rr_lcmp C dX8_held_18 ?_
    refine rr_if_ge (tgt := 26) C dX8_held_19 (by decide) (fun c19_ => ?_) (fun c19_ => ?_)
    · replace hr := (if_pos c19_).symm.trans hr
      refine rr_lload C dX8_held_26 rfl ?_
      refine rr_ldc2 C dX8_held_28 ct_X8_11 ?_
      refine rr_lcmp C dX8_held_31 ?_
      refine rr_if_le (tgt := 41) C dX8_held_32 (by decide) (fun c32_ => ?_) (fun c32_ => ?_)
      · replace hr := (if_pos c32_).symm.trans hr
        refine rr_lload C dX8_held_41 rfl ?_
        obtain rfl := Option.some.inj hr
        exact rr_lret C dX8_held_43 rfl ⟨rfl, rfl, rfl⟩
      · replace hr := (if_neg c32_).symm.trans hr
        refine rr_ldc2 C dX8_held_35 ct_X8_11 ?_
        refine rr_goto (tgt := 43) C dX8_held_38 (by decide) ?_
        obtain rfl := Option.some.inj hr
        exact rr_lret C dX8_held_43 rfl ⟨rfl, rfl, rfl⟩
    · replace hr := (if_neg c19_).symm.trans hr
      refine rr_lconst (v := 0) C dX8_held_22 (by decide) ?_
      refine rr_goto (tgt := 43) C dX8_held_23 (by decide) ?_
      obtain rfl := Option.some.inj hr
      exact rr_lret C dX8_held_43 rfl ⟨rfl, rfl, rfl⟩
  · replace hr := (if_pos c3_).symm.trans hr
    refine rr_lconst (v := 0) C dX8_held_6 (by decide) ?_
    refine rr_goto (tgt := 13) C dX8_held_7 (by decide) ?_
    refine rr_lstore C dX8_held_13 (by decide) ?_
    show WW W0 G 6 _ _ _ 15 [some (.long l0), none, some (.long l2), none, some (.long 0), none] [] h n _ _
    refine rr_lload C dX8_held_15 rfl ?_
    refine rr_lconst (v := 0) C dX8_held_17 (by decide) ?_
    refine rr_lcmp C dX8_held_18 ?_
    refine rr_if_ge (tgt := 26) C dX8_held_19 (by decide) (fun c19_ => ?_) (fun c19_ => ?_)
    · replace hr := (if_pos c19_).symm.trans hr
      refine rr_lload C dX8_held_26 rfl ?_
      refine rr_ldc2 C dX8_held_28 ct_X8_11 ?_
      refine rr_lcmp C dX8_held_31 ?_
      refine rr_if_le (tgt := 41) C dX8_held_32 (by decide) (fun c32_ => ?_) (fun c32_ => ?_)
      · replace hr := (if_pos c32_).symm.trans hr
        refine rr_lload C dX8_held_41 rfl ?_
        obtain rfl := Option.some.inj hr
        exact rr_lret C dX8_held_43 rfl ⟨rfl, rfl, rfl⟩
      · replace hr := (if_neg c32_).symm.trans hr
        refine rr_ldc2 C dX8_held_35 ct_X8_11 ?_
        refine rr_goto (tgt := 43) C dX8_held_38 (by decide) ?_
        obtain rfl := Option.some.inj hr
        exact rr_lret C dX8_held_43 rfl ⟨rfl, rfl, rfl⟩
    · replace hr := (if_neg c19_).symm.trans hr
      refine rr_lconst (v := 0) C dX8_held_22 (by decide) ?_
      refine rr_goto (tgt := 43) C dX8_held_23 (by decide) ?_
      obtain rfl := Option.some.inj hr
      exact rr_lret C dX8_held_43 rfl ⟨rfl, rfl, rfl⟩
def q_X2_meanTells (K : Nat) (h : mm_H) (n : Nat) (l0 : Nat) (l1 : Int64) : Option (Int64) :=
  (rdJ h n l0 2 7).bind fun v1 =>
  (rdJ h n l0 2 6).bind fun v3 =>
  (q_X8_held K h n (v1 * l1) v3).bind fun v5 =>
  some v5
set_option maxRecDepth 100000 in
set_option maxHeartbeats 4000000 in
theorem c_X2_meanTells {K : Nat} {G : mm_G} {l : Launch} {h : mm_H} {n : Nat} (l0 : Nat) (l1 : Int64) {r_ : Int64} (hn : 48 ≤ n) (hr : q_X2_meanTells K h n l0 l1 = some r_) : Sp G l yX2_meanTells cX2_meanTells 3 (some .long) 1 0 0 [.ref l0, .long l1] h n (fun v h' n' => v = some (.long r_) ∧ h' = h ∧ n' = n) := by
  refine Sp_of (by decide +kernel) (Nat.le_of_ble_eq_true rfl) hn ?_
  intro W0 hwl C
  subst hwl
  unfold q_X2_meanTells at hr
  show WW W0 G 3 0 0 _ 0 [some (.ref l0), some (.long l1), none] [] h n 0 0
  refine rr_aload_n (i := 0) C dX2_meanTells_0 rfl rfl ?_
  replace hr := Option.bind_eq_some_iff.mp hr
  obtain ⟨v1, e2, hr⟩ := hr
  refine rr_rdJ C dX2_meanTells_1 fl_X2_59 e2 ?_
  refine rr_lload_n (i := 1) C dX2_meanTells_4 rfl rfl ?_
  refine rr_lmul C dX2_meanTells_5 ?_
  refine rr_aload_n (i := 0) C dX2_meanTells_6 rfl rfl ?_
  replace hr := Option.bind_eq_some_iff.mp hr
  obtain ⟨v3, e4, hr⟩ := hr
  refine rr_rdJ C dX2_meanTells_7 fl_X2_56 e4 ?_
  replace hr := Option.bind_eq_some_iff.mp hr
  obtain ⟨v5, e6, hr⟩ := hr
  refine rr_callS (as := [.long (v1 * l1), .long v3]) (st := []) (mc' := 0) (ms' := 0) C dX2_meanTells_10 it_X2_72 (by decide) (Nat.le_of_ble_eq_true rfl) (c_X8_held (v1 * l1) v3 (by omega) e6) (fun v_ h_ n_ q_ => ?_)
  obtain ⟨q1_, q2_, q3_⟩ := q_
  subst v_; subst h_; subst n_
  show WW W0 G 3 _ _ _ 13 [some (.ref l0), some (.long l1), none] [.long v5] h n _ _
  obtain rfl := Option.some.inj hr
  exact rr_lret C dX2_meanTells_13 rfl ⟨rfl, rfl, rfl⟩
def q_X2_lineTells (K : Nat) (h : mm_H) (n : Nat) (l0 : Nat) (l1 : Int64) : Option (Int64) :=
  (rdJ h n l0 2 5).bind fun v1 =>
  (rdJ h n l0 2 8).bind fun v3 =>
  (rdJ h n l0 2 6).bind fun v5 =>
  (rdJ h n l0 2 6).bind fun v7 =>
  if (lg_cmp ((v1 * v3) - (v5 * v7)) 0) = 0 then
    (ckq h n l0 2).bind fun u10 =>
    (q_X2_meanTells K h n l0 l1).bind fun v12 =>
    some v12
  else
  (rdJ h n l0 2 5).bind fun v14 =>
  (rdJ h n l0 2 9).bind fun v16 =>
  (rdJ h n l0 2 6).bind fun v18 =>
  (rdJ h n l0 2 7).bind fun v20 =>
  (rdJ h n l0 2 5).bind fun v22 =>
  (rdJ h n l0 2 6).bind fun v24 =>
  (rdJ h n l0 2 7).bind fun v27 =>
  (rdJ h n l0 2 5).bind fun v29 =>
  (q_X8_held K h n ((v27 * ((v1 * v3) - (v5 * v7))) + (((v14 * v16) - (v18 * v20)) * ((v22 * l1) - v24))) (v29 * ((v1 * v3) - (v5 * v7)))).bind fun v31 =>
  some v31
set_option maxRecDepth 100000 in
set_option maxHeartbeats 4000000 in
theorem c_X2_lineTells {K : Nat} {G : mm_G} {l : Launch} {h : mm_H} {n : Nat} (l0 : Nat) (l1 : Int64) {r_ : Int64} (hn : 48 ≤ n) (hr : q_X2_lineTells K h n l0 l1 = some r_) : Sp G l yX2_lineTells cX2_lineTells 7 (some .long) 2 0 0 [.ref l0, .long l1] h n (fun v h' n' => v = some (.long r_) ∧ h' = h ∧ n' = n) := by
  refine Sp_of (by decide +kernel) (Nat.le_of_ble_eq_true rfl) hn ?_
  intro W0 hwl C
  subst hwl
  unfold q_X2_lineTells at hr
  show WW W0 G 7 0 0 _ 0 [some (.ref l0), some (.long l1), none, none, none, none, none] [] h n 0 0
  refine rr_aload_n (i := 0) C dX2_lineTells_0 rfl rfl ?_
  replace hr := Option.bind_eq_some_iff.mp hr
  obtain ⟨v1, e2, hr⟩ := hr
  refine rr_rdJ C dX2_lineTells_1 fl_X2_52 e2 ?_
  refine rr_aload_n (i := 0) C dX2_lineTells_4 rfl rfl ?_
  replace hr := Option.bind_eq_some_iff.mp hr
  obtain ⟨v3, e4, hr⟩ := hr
  refine rr_rdJ C dX2_lineTells_5 fl_X2_62 e4 ?_
  refine rr_lmul C dX2_lineTells_8 ?_
  refine rr_aload_n (i := 0) C dX2_lineTells_9 rfl rfl ?_
  replace hr := Option.bind_eq_some_iff.mp hr
  obtain ⟨v5, e6, hr⟩ := hr
  refine rr_rdJ C dX2_lineTells_10 fl_X2_56 e6 ?_
  refine rr_aload_n (i := 0) C dX2_lineTells_13 rfl rfl ?_
  replace hr := Option.bind_eq_some_iff.mp hr
  obtain ⟨v7, e8, hr⟩ := hr
  refine rr_rdJ C dX2_lineTells_14 fl_X2_56 e8 ?_
  refine rr_lmul C dX2_lineTells_17 ?_
  refine rr_lsub C dX2_lineTells_18 ?_
  refine rr_lstore_n (i := 3) C dX2_lineTells_19 rfl (by decide) ?_
  show WW W0 G 7 _ _ _ 20 [some (.ref l0), some (.long l1), none, some (.long ((v1 * v3) - (v5 * v7))), none, none, none] [] h n _ _
  refine rr_lload_n (i := 3) C dX2_lineTells_20 rfl rfl ?_
  refine rr_lconst (v := 0) C dX2_lineTells_21 (by decide) ?_
  refine rr_lcmp C dX2_lineTells_22 ?_
  refine rr_if_ne (tgt := 32) C dX2_lineTells_23 (by decide) (fun c23_ => ?_) (fun c23_ => ?_)
  · replace hr := (if_neg c23_).symm.trans hr
    refine rr_aload_n (i := 0) C dX2_lineTells_32 rfl rfl ?_
    replace hr := Option.bind_eq_some_iff.mp hr
    obtain ⟨v14, e15, hr⟩ := hr
    refine rr_rdJ C dX2_lineTells_33 fl_X2_52 e15 ?_
    refine rr_aload_n (i := 0) C dX2_lineTells_36 rfl rfl ?_
    replace hr := Option.bind_eq_some_iff.mp hr
    obtain ⟨v16, e17, hr⟩ := hr
    refine rr_rdJ C dX2_lineTells_37 fl_X2_65 e17 ?_
    refine rr_lmul C dX2_lineTells_40 ?_
    refine rr_aload_n (i := 0) C dX2_lineTells_41 rfl rfl ?_
    replace hr := Option.bind_eq_some_iff.mp hr
    obtain ⟨v18, e19, hr⟩ := hr
    refine rr_rdJ C dX2_lineTells_42 fl_X2_56 e19 ?_
    refine rr_aload_n (i := 0) C dX2_lineTells_45 rfl rfl ?_
    replace hr := Option.bind_eq_some_iff.mp hr
    obtain ⟨v20, e21, hr⟩ := hr
    refine rr_rdJ C dX2_lineTells_46 fl_X2_59 e21 ?_
    refine rr_lmul C dX2_lineTells_49 ?_
    refine rr_lsub C dX2_lineTells_50 ?_
    refine rr_aload_n (i := 0) C dX2_lineTells_51 rfl rfl ?_
    replace hr := Option.bind_eq_some_iff.mp hr
    obtain ⟨v22, e23, hr⟩ := hr
    refine rr_rdJ C dX2_lineTells_52 fl_X2_52 e23 ?_
    refine rr_lload_n (i := 1) C dX2_lineTells_55 rfl rfl ?_
    refine rr_lmul C dX2_lineTells_56 ?_
    refine rr_aload_n (i := 0) C dX2_lineTells_57 rfl rfl ?_
    replace hr := Option.bind_eq_some_iff.mp hr
    obtain ⟨v24, e25, hr⟩ := hr
    refine rr_rdJ C dX2_lineTells_58 fl_X2_56 e25 ?_
    refine rr_lsub C dX2_lineTells_61 ?_
    refine rr_lmul C dX2_lineTells_62 ?_
    refine rr_lstore C dX2_lineTells_63 (by decide) ?_
    show WW W0 G 7 _ _ _ 65 [some (.ref l0), some (.long l1), none, some (.long ((v1 * v3) - (v5 * v7))), none, some (.long (((v14 * v16) - (v18 * v20)) * ((v22 * l1) - v24))), none] [] h n _ _
    refine rr_aload_n (i := 0) C dX2_lineTells_65 rfl rfl ?_
    replace hr := Option.bind_eq_some_iff.mp hr
    obtain ⟨v27, e28, hr⟩ := hr
    refine rr_rdJ C dX2_lineTells_66 fl_X2_59 e28 ?_
    refine rr_lload_n (i := 3) C dX2_lineTells_69 rfl rfl ?_
    refine rr_lmul C dX2_lineTells_70 ?_
    refine rr_lload C dX2_lineTells_71 rfl ?_
    refine rr_ladd C dX2_lineTells_73 ?_
    refine rr_aload_n (i := 0) C dX2_lineTells_74 rfl rfl ?_
    replace hr := Option.bind_eq_some_iff.mp hr
    obtain ⟨v29, e30, hr⟩ := hr
    refine rr_rdJ C dX2_lineTells_75 fl_X2_52 e30 ?_
    refine rr_lload_n (i := 3) C dX2_lineTells_78 rfl rfl ?_
    refine rr_lmul C dX2_lineTells_79 ?_
    replace hr := Option.bind_eq_some_iff.mp hr
    obtain ⟨v31, e32, hr⟩ := hr
    refine rr_callS (as := [.long ((v27 * ((v1 * v3) - (v5 * v7))) + (((v14 * v16) - (v18 * v20)) * ((v22 * l1) - v24))), .long (v29 * ((v1 * v3) - (v5 * v7)))]) (st := []) (mc' := 0) (ms' := 0) C dX2_lineTells_80 it_X2_72 (by decide) (Nat.le_of_ble_eq_true rfl) (c_X8_held ((v27 * ((v1 * v3) - (v5 * v7))) + (((v14 * v16) - (v18 * v20)) * ((v22 * l1) - v24))) (v29 * ((v1 * v3) - (v5 * v7))) (by omega) e32) (fun v_ h_ n_ q_ => ?_)
    obtain ⟨q1_, q2_, q3_⟩ := q_
    subst v_; subst h_; subst n_
    show WW W0 G 7 _ _ _ 83 [some (.ref l0), some (.long l1), none, some (.long ((v1 * v3) - (v5 * v7))), none, some (.long (((v14 * v16) - (v18 * v20)) * ((v22 * l1) - v24))), none] [.long v31] h n _ _
    obtain rfl := Option.some.inj hr
    exact rr_lret C dX2_lineTells_83 rfl ⟨rfl, rfl, rfl⟩
  · replace hr := (if_pos c23_).symm.trans hr
    refine rr_aload_n (i := 0) C dX2_lineTells_26 rfl rfl ?_
    refine rr_lload_n (i := 1) C dX2_lineTells_27 rfl rfl ?_
    replace hr := Option.bind_eq_some_iff.mp hr
    obtain ⟨u10, e11, hr⟩ := hr
    replace hr := Option.bind_eq_some_iff.mp hr
    obtain ⟨v12, e13, hr⟩ := hr
    refine rr_callVq (as := [.long l1]) (st := []) (mc' := 0) (ms' := 0) C dX2_lineTells_28 iv_X2_68 (by decide) e11 rfl (Nat.le_of_ble_eq_true rfl) (c_X2_meanTells l0 l1 (by omega) e13) (fun v_ h_ n_ q_ => ?_)
    obtain ⟨q1_, q2_, q3_⟩ := q_
    subst v_; subst h_; subst n_
    show WW W0 G 7 _ _ _ 31 [some (.ref l0), some (.long l1), none, some (.long ((v1 * v3) - (v5 * v7))), none, none, none] [.long v12] h n _ _
    obtain rfl := Option.some.inj hr
    exact rr_lret C dX2_lineTells_31 rfl ⟨rfl, rfl, rfl⟩
def lp_X2_bestTells_5 (K : Nat) (h : mm_H) (n : Nat) (l0 : Nat) (l1 : Int64) : Nat → Int32 → Int32 → Option (Int32)
  | 0, _, _ => none
  | k_ + 1, l3, l4 =>
    (rdI h n l0 2 4).bind fun v1 =>
    if v1 ≤ l4 then
      some (l3)
    else
    if 50 ≤ l4 then
      some (l3)
    else
    (rdR h n l0 2 2).bind fun v3 =>
    v3.bind fun a5 =>
    (ldI h n a5 l4).bind fun v7 =>
    if v7 ≤ 0 then
      lp_X2_bestTells_5 K h n l0 l1 k_ l3 (l4 + 1)
    else
    if l3 = (-1) then
      lp_X2_bestTells_5 K h n l0 l1 k_ l4 (l4 + 1)
    else
    (rdR h n l0 2 3).bind fun v9 =>
    v9.bind fun a11 =>
    (ldI h n a11 l4).bind fun v13 =>
    (rdR h n l0 2 2).bind fun v15 =>
    v15.bind fun a17 =>
    (ldI h n a17 l3).bind fun v19 =>
    (rdR h n l0 2 3).bind fun v21 =>
    v21.bind fun a23 =>
    (ldI h n a23 l3).bind fun v25 =>
    (rdR h n l0 2 2).bind fun v27 =>
    v27.bind fun a29 =>
    (ldI h n a29 l4).bind fun v31 =>
    if 0 ≤ (lg_cmp ((Int32.toInt64 v13) * (Int32.toInt64 v19)) ((Int32.toInt64 v25) * (Int32.toInt64 v31))) then
      lp_X2_bestTells_5 K h n l0 l1 k_ l3 (l4 + 1)
    else
    lp_X2_bestTells_5 K h n l0 l1 k_ l4 (l4 + 1)
def q_X2_bestTells (K : Nat) (h : mm_H) (n : Nat) (l0 : Nat) (l1 : Int64) : Option (Int64) :=
  (lp_X2_bestTells_5 K h n l0 l1 K (-1) 0).bind fun v33 =>
  if v33 = (-1) then
    some 0
  else
  (rdR h n l0 2 3).bind fun v35 =>
  v35.bind fun a37 =>
  (ldI h n a37 v33).bind fun v39 =>
  (rdR h n l0 2 2).bind fun v41 =>
  v41.bind fun a43 =>
  (ldI h n a43 v33).bind fun v45 =>
  (q_X8_held K h n ((Int32.toInt64 v39) * l1) (Int32.toInt64 v45)).bind fun v47 =>
  some v47
set_option maxRecDepth 100000 in
set_option maxHeartbeats 4000000 in
theorem w_X2_bestTells_5 {K : Nat} {W0 : mm_X} {G : mm_G} {mc ms kc ks : Nat} {Q_ : State → Prop} {h : mm_H} {n : Nat} (C : mm_C W0 G cX2_bestTells yX2_bestTells.cls 5 mc ms (some .long) 1 yX2_bestTells.name) (hn : 48 ≤ n) (l0 : Nat) (l1 : Int64) : ∀ (k_ : Nat) (l3 : Int32) (l4 : Int32) {r_ : Int32} (hr : lp_X2_bestTells_5 K h n l0 l1 k_ l3 l4 = some r_) (hx0 : WW W0 G 5 mc ms Q_ 81 [some (.ref l0), some (.long l1), none, some (.int r_), none] [] h n kc ks), WW W0 G 5 mc ms Q_ 5 [some (.ref l0), some (.long l1), none, some (.int l3), some (.int l4)] [] h n kc ks := by
  intro k_
  induction k_ with
  | zero =>
    intro l3 l4 r_ hr
    cases hr
  | succ k_ ih_ =>
    intro l3 l4 r_ hr hx0
    unfold lp_X2_bestTells_5 at hr
    refine rr_iload C dX2_bestTells_5 rfl ?_
    refine rr_aload_n (i := 0) C dX2_bestTells_7 rfl rfl ?_
    replace hr := Option.bind_eq_some_iff.mp hr
    obtain ⟨v1, e2, hr⟩ := hr
    refine rr_rdI C dX2_bestTells_8 fl_X2_25 e2 ?_
    refine rr_icmp_ge (tgt := 81) C dX2_bestTells_11 (by decide) (fun c11_ => ?_) (fun c11_ => ?_)
    · replace hr := (if_pos c11_).symm.trans hr
      obtain rfl := Option.some.inj hr
      exact rr_keep [true, true, false, true, false] (hx0)
    · replace hr := (if_neg c11_).symm.trans hr
      refine rr_iload C dX2_bestTells_14 rfl ?_
      refine rr_bipush (v := 50) C dX2_bestTells_16 (by decide) ?_
      refine rr_icmp_ge (tgt := 81) C dX2_bestTells_18 (by decide) (fun c18_ => ?_) (fun c18_ => ?_)
      · replace hr := (if_pos c18_).symm.trans hr
        obtain rfl := Option.some.inj hr
        exact rr_keep [true, true, false, true, false] (hx0)
      · replace hr := (if_neg c18_).symm.trans hr
        refine rr_aload_n (i := 0) C dX2_bestTells_21 rfl rfl ?_
        replace hr := Option.bind_eq_some_iff.mp hr
        obtain ⟨v3, e4, hr⟩ := hr
        refine rr_rdR C dX2_bestTells_22 fl_X2_15 e4 ?_
        refine rr_iload C dX2_bestTells_25 rfl ?_
        replace hr := Option.bind_eq_some_iff.mp hr
        obtain ⟨a5, e6, hr⟩ := hr
        subst e6
        replace hr := Option.bind_eq_some_iff.mp hr
        obtain ⟨v7, e8, hr⟩ := hr
        refine rr_ldI C dX2_bestTells_27 e8 ?_
        refine rr_if_le (tgt := 75) C dX2_bestTells_28 (by decide) (fun c28_ => ?_) (fun c28_ => ?_)
        · replace hr := (if_pos c28_).symm.trans hr
          refine rr_iinc (v := l4 + 1) C dX2_bestTells_75 rfl rfl ?_
          show WW W0 G 5 _ _ _ 78 [some (.ref l0), some (.long l1), none, some (.int l3), some (.int (l4 + 1))] [] h n _ _
          refine rr_goto (tgt := 5) C dX2_bestTells_78 (by decide) ?_
          exact rr_keep [true, true, false, true, true] (ih_ _ _ hr hx0)
        · replace hr := (if_neg c28_).symm.trans hr
          refine rr_iload_n (i := 3) C dX2_bestTells_31 rfl rfl ?_
          refine rr_iconst (v := (-1)) C dX2_bestTells_32 (by decide) ?_
          refine rr_icmp_eq (tgt := 72) C dX2_bestTells_33 (by decide) (fun c33_ => ?_) (fun c33_ => ?_)
          · replace hr := (if_pos c33_).symm.trans hr
            refine rr_iload C dX2_bestTells_72 rfl ?_
            refine rr_istore_n (i := 3) C dX2_bestTells_74 rfl (by decide) ?_
            show WW W0 G 5 _ _ _ 75 [some (.ref l0), some (.long l1), none, some (.int l4), some (.int l4)] [] h n _ _
            refine rr_iinc (v := l4 + 1) C dX2_bestTells_75 rfl rfl ?_
            show WW W0 G 5 _ _ _ 78 [some (.ref l0), some (.long l1), none, some (.int l4), some (.int (l4 + 1))] [] h n _ _
            refine rr_goto (tgt := 5) C dX2_bestTells_78 (by decide) ?_
            exact rr_keep [true, true, false, true, true] (ih_ _ _ hr hx0)
          · replace hr := (if_neg c33_).symm.trans hr
            refine rr_aload_n (i := 0) C dX2_bestTells_36 rfl rfl ?_
            replace hr := Option.bind_eq_some_iff.mp hr
            obtain ⟨v9, e10, hr⟩ := hr
            refine rr_rdR C dX2_bestTells_37 fl_X2_18 e10 ?_
            refine rr_iload C dX2_bestTells_40 rfl ?_
            replace hr := Option.bind_eq_some_iff.mp hr
            obtain ⟨a11, e12, hr⟩ := hr
            subst e12
            replace hr := Option.bind_eq_some_iff.mp hr
            obtain ⟨v13, e14, hr⟩ := hr
            refine rr_ldI C dX2_bestTells_42 e14 ?_
            refine rr_i2l C dX2_bestTells_43 ?_
            refine rr_aload_n (i := 0) C dX2_bestTells_44 rfl rfl ?_
            replace hr := Option.bind_eq_some_iff.mp hr
            obtain ⟨v15, e16, hr⟩ := hr
            refine rr_rdR C dX2_bestTells_45 fl_X2_15 e16 ?_
            refine rr_iload_n (i := 3) C dX2_bestTells_48 rfl rfl ?_
            replace hr := Option.bind_eq_some_iff.mp hr
            obtain ⟨a17, e18, hr⟩ := hr
            subst e18
            replace hr := Option.bind_eq_some_iff.mp hr
            obtain ⟨v19, e20, hr⟩ := hr
            refine rr_ldI C dX2_bestTells_49 e20 ?_
            refine rr_i2l C dX2_bestTells_50 ?_
            refine rr_lmul C dX2_bestTells_51 ?_
            refine rr_aload_n (i := 0) C dX2_bestTells_52 rfl rfl ?_
            replace hr := Option.bind_eq_some_iff.mp hr
            obtain ⟨v21, e22, hr⟩ := hr
            refine rr_rdR C dX2_bestTells_53 fl_X2_18 e22 ?_
            refine rr_iload_n (i := 3) C dX2_bestTells_56 rfl rfl ?_
            replace hr := Option.bind_eq_some_iff.mp hr
            obtain ⟨a23, e24, hr⟩ := hr
            subst e24
            replace hr := Option.bind_eq_some_iff.mp hr
            obtain ⟨v25, e26, hr⟩ := hr
            refine rr_ldI C dX2_bestTells_57 e26 ?_
            refine rr_i2l C dX2_bestTells_58 ?_
            refine rr_aload_n (i := 0) C dX2_bestTells_59 rfl rfl ?_
            replace hr := Option.bind_eq_some_iff.mp hr
            obtain ⟨v27, e28, hr⟩ := hr
            refine rr_rdR C dX2_bestTells_60 fl_X2_15 e28 ?_
            refine rr_iload C dX2_bestTells_63 rfl ?_
            replace hr := Option.bind_eq_some_iff.mp hr
            obtain ⟨a29, e30, hr⟩ := hr
            subst e30
            replace hr := Option.bind_eq_some_iff.mp hr
            obtain ⟨v31, e32, hr⟩ := hr
            refine rr_ldI C dX2_bestTells_65 e32 ?_
            refine rr_i2l C dX2_bestTells_66 ?_
            refine rr_lmul C dX2_bestTells_67 ?_
            refine rr_lcmp C dX2_bestTells_68 ?_
            refine rr_if_ge (tgt := 75) C dX2_bestTells_69 (by decide) (fun c69_ => ?_) (fun c69_ => ?_)
            · replace hr := (if_pos c69_).symm.trans hr
              refine rr_iinc (v := l4 + 1) C dX2_bestTells_75 rfl rfl ?_
              show WW W0 G 5 _ _ _ 78 [some (.ref l0), some (.long l1), none, some (.int l3), some (.int (l4 + 1))] [] h n _ _
              refine rr_goto (tgt := 5) C dX2_bestTells_78 (by decide) ?_
              exact rr_keep [true, true, false, true, true] (ih_ _ _ hr hx0)
            · replace hr := (if_neg c69_).symm.trans hr
              refine rr_iload C dX2_bestTells_72 rfl ?_
              refine rr_istore_n (i := 3) C dX2_bestTells_74 rfl (by decide) ?_
              show WW W0 G 5 _ _ _ 75 [some (.ref l0), some (.long l1), none, some (.int l4), some (.int l4)] [] h n _ _
              refine rr_iinc (v := l4 + 1) C dX2_bestTells_75 rfl rfl ?_
              show WW W0 G 5 _ _ _ 78 [some (.ref l0), some (.long l1), none, some (.int l4), some (.int (l4 + 1))] [] h n _ _
              refine rr_goto (tgt := 5) C dX2_bestTells_78 (by decide) ?_
              exact rr_keep [true, true, false, true, true] (ih_ _ _ hr hx0)
set_option maxRecDepth 100000 in
set_option maxHeartbeats 4000000 in
theorem c_X2_bestTells {K : Nat} {G : mm_G} {l : Launch} {h : mm_H} {n : Nat} (l0 : Nat) (l1 : Int64) {r_ : Int64} (hn : 48 ≤ n) (hr : q_X2_bestTells K h n l0 l1 = some r_) : Sp G l yX2_bestTells cX2_bestTells 5 (some .long) 1 0 0 [.ref l0, .long l1] h n (fun v h' n' => v = some (.long r_) ∧ h' = h ∧ n' = n) := by
  refine Sp_of (by decide +kernel) (Nat.le_of_ble_eq_true rfl) hn ?_
  intro W0 hwl C
  subst hwl
  unfold q_X2_bestTells at hr
  show WW W0 G 5 0 0 _ 0 [some (.ref l0), some (.long l1), none, none, none] [] h n 0 0
  refine rr_iconst (v := (-1)) C dX2_bestTells_0 (by decide) ?_
  refine rr_istore_n (i := 3) C dX2_bestTells_1 rfl (by decide) ?_
  show WW W0 G 5 _ _ _ 2 [some (.ref l0), some (.long l1), none, some (.int (-1)), none] [] h n _ _
  refine rr_iconst (v := 0) C dX2_bestTells_2 (by decide) ?_
  refine rr_istore C dX2_bestTells_3 (by decide) ?_
  show WW W0 G 5 _ _ _ 5 [some (.ref l0), some (.long l1), none, some (.int (-1)), some (.int 0)] [] h n _ _
  replace hr := Option.bind_eq_some_iff.mp hr
  obtain ⟨v33, e34, hr⟩ := hr
  refine rr_keep [true, true, false, true, true] (w_X2_bestTells_5 C (by omega) l0 l1 K (-1) 0 e34 ?_)
  show WW W0 G 5 _ _ _ 81 [some (.ref l0), some (.long l1), none, some (.int v33), none] [] h n _ _
  refine rr_iload_n (i := 3) C dX2_bestTells_81 rfl rfl ?_
  refine rr_iconst (v := (-1)) C dX2_bestTells_82 (by decide) ?_
  refine rr_icmp_ne (tgt := 90) C dX2_bestTells_83 (by decide) (fun c83_ => ?_) (fun c83_ => ?_)
  · replace hr := (if_neg c83_).symm.trans hr
    refine rr_aload_n (i := 0) C dX2_bestTells_90 rfl rfl ?_
    replace hr := Option.bind_eq_some_iff.mp hr
    obtain ⟨v35, e36, hr⟩ := hr
    refine rr_rdR C dX2_bestTells_91 fl_X2_18 e36 ?_
    refine rr_iload_n (i := 3) C dX2_bestTells_94 rfl rfl ?_
    replace hr := Option.bind_eq_some_iff.mp hr
    obtain ⟨a37, e38, hr⟩ := hr
    subst e38
    replace hr := Option.bind_eq_some_iff.mp hr
    obtain ⟨v39, e40, hr⟩ := hr
    refine rr_ldI C dX2_bestTells_95 e40 ?_
    refine rr_i2l C dX2_bestTells_96 ?_
    refine rr_lload_n (i := 1) C dX2_bestTells_97 rfl rfl ?_
    refine rr_lmul C dX2_bestTells_98 ?_
    refine rr_aload_n (i := 0) C dX2_bestTells_99 rfl rfl ?_
    replace hr := Option.bind_eq_some_iff.mp hr
    obtain ⟨v41, e42, hr⟩ := hr
    refine rr_rdR C dX2_bestTells_100 fl_X2_15 e42 ?_
    refine rr_iload_n (i := 3) C dX2_bestTells_103 rfl rfl ?_
    replace hr := Option.bind_eq_some_iff.mp hr
    obtain ⟨a43, e44, hr⟩ := hr
    subst e44
    replace hr := Option.bind_eq_some_iff.mp hr
    obtain ⟨v45, e46, hr⟩ := hr
    refine rr_ldI C dX2_bestTells_104 e46 ?_
    refine rr_i2l C dX2_bestTells_105 ?_
    replace hr := Option.bind_eq_some_iff.mp hr
    obtain ⟨v47, e48, hr⟩ := hr
    refine rr_callS (as := [.long ((Int32.toInt64 v39) * l1), .long (Int32.toInt64 v45)]) (st := []) (mc' := 0) (ms' := 0) C dX2_bestTells_106 it_X2_72 (by decide) (Nat.le_of_ble_eq_true rfl) (c_X8_held ((Int32.toInt64 v39) * l1) (Int32.toInt64 v45) (by omega) e48) (fun v_ h_ n_ q_ => ?_)
    obtain ⟨q1_, q2_, q3_⟩ := q_
    subst v_; subst h_; subst n_
    show WW W0 G 5 _ _ _ 109 [some (.ref l0), some (.long l1), none, some (.int v33), none] [.long v47] h n _ _
    obtain rfl := Option.some.inj hr
    exact rr_lret C dX2_bestTells_109 rfl ⟨rfl, rfl, rfl⟩
  · replace hr := (if_pos c83_).symm.trans hr
    refine rr_lconst (v := 0) C dX2_bestTells_86 (by decide) ?_
    refine rr_goto (tgt := 109) C dX2_bestTells_87 (by decide) ?_
    obtain rfl := Option.some.inj hr
    exact rr_lret C dX2_bestTells_109 rfl ⟨rfl, rfl, rfl⟩
def lp_J7_fill_53178_5 (K : Nat) (n : Nat) (l0 : Nat) (l1 : Int32) (l3 : Int32) : Nat → Int32 → mm_H → Option (mm_H)
  | 0, _, _ => none
  | k_ + 1, l2, h =>
    if l3 ≤ l2 then
      some (h)
    else
    (stI h n l0 l2 l1).bind fun h5 =>
    lp_J7_fill_53178_5 K n l0 l1 l3 k_ (l2 + 1) h5
def q_J7_fill_53178 (K : Nat) (h : mm_H) (n : Nat) (l0 : Option Nat) (l1 : Int32) : Option (mm_H) :=
  l0.bind fun a1 =>
  (lenA h n a1 0).bind fun v3 =>
  (lp_J7_fill_53178_5 K n a1 l1 v3 K 0 h).bind fun v7 =>
  some v7
set_option maxRecDepth 100000 in
set_option maxHeartbeats 4000000 in
theorem w_J7_fill_53178_5 {K : Nat} {W0 : mm_X} {G : mm_G} {mc ms kc ks : Nat} {Q_ : State → Prop} {n : Nat} (C : mm_C W0 G cJ7_fill_53178 yJ7_fill_53178.cls 4 mc ms none 0 yJ7_fill_53178.name) (hn : 48 ≤ n) (l0 : Nat) (l1 : Int32) (l3 : Int32) : ∀ (k_ : Nat) (l2 : Int32) (h : mm_H) {r_ : mm_H} (hr : lp_J7_fill_53178_5 K n l0 l1 l3 k_ l2 h = some r_) (hx0 : WW W0 G 4 mc ms Q_ 20 [none, none, none, none] [] r_ n kc ks), WW W0 G 4 mc ms Q_ 5 [some (.ref l0), some (.int l1), some (.int l2), some (.int l3)] [] h n kc ks := by
  intro k_
  induction k_ with
  | zero =>
    intro l2 h r_ hr
    cases hr
  | succ k_ ih_ =>
    intro l2 h r_ hr hx0
    unfold lp_J7_fill_53178_5 at hr
    refine rr_iload_n (i := 2) C dJ7_fill_53178_5 rfl rfl ?_
    refine rr_iload_n (i := 3) C dJ7_fill_53178_6 rfl rfl ?_
    refine rr_icmp_ge (tgt := 20) C dJ7_fill_53178_7 (by decide) (fun c7_ => ?_) (fun c7_ => ?_)
    · replace hr := (if_pos c7_).symm.trans hr
      obtain rfl := Option.some.inj hr
      exact rr_keep [false, false, false, false] (hx0)
    · replace hr := (if_neg c7_).symm.trans hr
      refine rr_aload_n (i := 0) C dJ7_fill_53178_10 rfl rfl ?_
      refine rr_iload_n (i := 2) C dJ7_fill_53178_11 rfl rfl ?_
      refine rr_iload_n (i := 1) C dJ7_fill_53178_12 rfl rfl ?_
      replace hr := Option.bind_eq_some_iff.mp hr
      obtain ⟨h5, e6, hr⟩ := hr
      refine rr_stI C dJ7_fill_53178_13 e6 ?_
      refine rr_iinc (v := l2 + 1) C dJ7_fill_53178_14 rfl rfl ?_
      show WW W0 G 4 _ _ _ 17 [some (.ref l0), some (.int l1), some (.int (l2 + 1)), some (.int l3)] [] h5 n _ _
      refine rr_goto (tgt := 5) C dJ7_fill_53178_17 (by decide) ?_
      exact rr_keep [true, true, true, true] (ih_ _ _ hr hx0)
set_option maxRecDepth 100000 in
set_option maxHeartbeats 4000000 in
theorem c_J7_fill_53178 {K : Nat} {G : mm_G} {l : Launch} {h : mm_H} {n : Nat} (l0 : Option Nat) (l1 : Int32) {r_ : mm_H} (hn : 48 ≤ n) (hr : q_J7_fill_53178 K h n l0 l1 = some r_) : Sp G l yJ7_fill_53178 cJ7_fill_53178 4 none 0 0 0 [va_rf l0, .int l1] h n (fun v h' n' => v = none ∧ h' = r_ ∧ n' = n) := by
  refine Sp_of (by decide +kernel) (by rcases l0 with _ | _ <;> exact Nat.le_of_ble_eq_true rfl) hn ?_
  intro W0 hwl C
  subst hwl
  unfold q_J7_fill_53178 at hr
  rw [show mm_en 4 [va_rf l0, .int l1] = [some (va_rf l0), some (.int l1), none, none] from by rcases l0 with _ | _ <;> rfl]
  show WW W0 G 4 0 0 _ 0 [some (va_rf l0), some (.int l1), none, none] [] h n 0 0
  refine rr_iconst (v := 0) C dJ7_fill_53178_0 (by decide) ?_
  refine rr_istore_n (i := 2) C dJ7_fill_53178_1 rfl (by decide) ?_
  show WW W0 G 4 _ _ _ 2 [some (va_rf l0), some (.int l1), some (.int 0), none] [] h n _ _
  refine rr_aload_nO (i := 0) C dJ7_fill_53178_2 rfl rfl ?_
  replace hr := Option.bind_eq_some_iff.mp hr
  obtain ⟨a1, e2, hr⟩ := hr
  subst e2
  replace hr := Option.bind_eq_some_iff.mp hr
  obtain ⟨v3, e4, hr⟩ := hr
  refine rr_lenA C dJ7_fill_53178_3 e4 ?_
  refine rr_istore_n (i := 3) C dJ7_fill_53178_4 rfl (by decide) ?_
  show WW W0 G 4 _ _ _ 5 [some (.ref a1), some (.int l1), some (.int 0), some (.int v3)] [] h n _ _
  replace hr := Option.bind_eq_some_iff.mp hr
  obtain ⟨v7, e8, hr⟩ := hr
  refine rr_keep [true, true, true, true] (w_J7_fill_53178_5 C (by omega) a1 l1 v3 K 0 h e8 ?_)
  show WW W0 G 4 _ _ _ 20 [none, none, none, none] [] v7 n _ _
  obtain rfl := Option.some.inj hr
  exact rr_vret C dJ7_fill_53178_20 rfl ⟨rfl, rfl, rfl⟩
def q_X3_byteAt (K : Nat) (h : mm_H) (n : Nat) (l0 : Nat) (l1 : Int32) : Option (Int32) :=
  if l1 < 0 then
    some (-1)
  else
  (rdI h n l0 3 1).bind fun v1 =>
  if v1 ≤ l1 then
    some (-1)
  else
  (rdR h n l0 3 0).bind fun v3 =>
  v3.bind fun a5 =>
  (lenA h n a5 0).bind fun v7 =>
  if v7 ≤ l1 then
    some (-1)
  else
  (rdR h n l0 3 0).bind fun v9 =>
  v9.bind fun a11 =>
  (ldI h n a11 l1).bind fun v13 =>
  some v13
set_option maxRecDepth 100000 in
set_option maxHeartbeats 4000000 in
theorem c_X3_byteAt {K : Nat} {G : mm_G} {l : Launch} {h : mm_H} {n : Nat} (l0 : Nat) (l1 : Int32) {r_ : Int32} (hn : 48 ≤ n) (hr : q_X3_byteAt K h n l0 l1 = some r_) : Sp G l yX3_byteAt cX3_byteAt 2 (some .int) 0 0 0 [.ref l0, .int l1] h n (fun v h' n' => v = some (.int r_) ∧ h' = h ∧ n' = n) := by
  refine Sp_of (by decide +kernel) (Nat.le_of_ble_eq_true rfl) hn ?_
  intro W0 hwl C
  subst hwl
  unfold q_X3_byteAt at hr
  show WW W0 G 2 0 0 _ 0 [some (.ref l0), some (.int l1)] [] h n 0 0
  refine rr_iload_n (i := 1) C dX3_byteAt_0 rfl rfl ?_
  refine rr_if_lt (tgt := 30) C dX3_byteAt_1 (by decide) (fun c1_ => ?_) (fun c1_ => ?_)
  · replace hr := (if_pos c1_).symm.trans hr
    refine rr_iconst (v := (-1)) C dX3_byteAt_30 (by decide) ?_
    obtain rfl := Option.some.inj hr
    exact rr_iret (ty := .int) C dX3_byteAt_31 rfl rfl ⟨rfl, rfl, rfl⟩
  · replace hr := (if_neg c1_).symm.trans hr
    refine rr_iload_n (i := 1) C dX3_byteAt_4 rfl rfl ?_
    refine rr_aload_n (i := 0) C dX3_byteAt_5 rfl rfl ?_
    replace hr := Option.bind_eq_some_iff.mp hr
    obtain ⟨v1, e2, hr⟩ := hr
    refine rr_rdI C dX3_byteAt_6 fl_X3_43 e2 ?_
    refine rr_icmp_ge (tgt := 30) C dX3_byteAt_9 (by decide) (fun c9_ => ?_) (fun c9_ => ?_)
    · replace hr := (if_pos c9_).symm.trans hr
      refine rr_iconst (v := (-1)) C dX3_byteAt_30 (by decide) ?_
      obtain rfl := Option.some.inj hr
      exact rr_iret (ty := .int) C dX3_byteAt_31 rfl rfl ⟨rfl, rfl, rfl⟩
    · replace hr := (if_neg c9_).symm.trans hr
      refine rr_iload_n (i := 1) C dX3_byteAt_12 rfl rfl ?_
      refine rr_aload_n (i := 0) C dX3_byteAt_13 rfl rfl ?_
      replace hr := Option.bind_eq_some_iff.mp hr
      obtain ⟨v3, e4, hr⟩ := hr
      refine rr_rdR C dX3_byteAt_14 fl_X3_13 e4 ?_
      replace hr := Option.bind_eq_some_iff.mp hr
      obtain ⟨a5, e6, hr⟩ := hr
      subst e6
      replace hr := Option.bind_eq_some_iff.mp hr
      obtain ⟨v7, e8, hr⟩ := hr
      refine rr_lenA C dX3_byteAt_17 e8 ?_
      refine rr_icmp_ge (tgt := 30) C dX3_byteAt_18 (by decide) (fun c18_ => ?_) (fun c18_ => ?_)
      · replace hr := (if_pos c18_).symm.trans hr
        refine rr_iconst (v := (-1)) C dX3_byteAt_30 (by decide) ?_
        obtain rfl := Option.some.inj hr
        exact rr_iret (ty := .int) C dX3_byteAt_31 rfl rfl ⟨rfl, rfl, rfl⟩
      · replace hr := (if_neg c18_).symm.trans hr
        refine rr_aload_n (i := 0) C dX3_byteAt_21 rfl rfl ?_
        replace hr := Option.bind_eq_some_iff.mp hr
        obtain ⟨v9, e10, hr⟩ := hr
        refine rr_rdR C dX3_byteAt_22 fl_X3_13 e10 ?_
        refine rr_iload_n (i := 1) C dX3_byteAt_25 rfl rfl ?_
        replace hr := Option.bind_eq_some_iff.mp hr
        obtain ⟨a11, e12, hr⟩ := hr
        subst e12
        replace hr := Option.bind_eq_some_iff.mp hr
        obtain ⟨v13, e14, hr⟩ := hr
        refine rr_ldI C dX3_byteAt_26 e14 ?_
        refine rr_goto (tgt := 31) C dX3_byteAt_27 (by decide) ?_
        obtain rfl := Option.some.inj hr
        exact rr_iret (ty := .int) C dX3_byteAt_31 rfl rfl ⟨rfl, rfl, rfl⟩

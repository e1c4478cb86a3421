def lp_X10_best_31 (K : Nat) (n : Nat) (l0 : Nat) (l1 : Int32) (l2 : Int32) : Nat → Int32 → Int64 → Int32 → mm_H → Option (Int32 × mm_H)
  | 0, _, _, _, _ => none
  | k_ + 1, l3, l4, l6, h =>
    (rdI h n l0 9 10).bind fun v9 =>
    if v9 ≤ l6 then
      some (l3, h)
    else
    (rdR h n l0 9 1).bind fun v11 =>
    (rdR h n l0 9 9).bind fun v13 =>
    v13.bind fun a15 =>
    (ldR h n a15 5 l6).bind fun v17 =>
    v11.bind fun a19 =>
    (ckq h n a19 7).bind fun u21 =>
    (q_X7_useRules K h n a19 l1 v17).bind fun v23 =>
    (ckq v23 n l0 9).bind fun u25 =>
    (q_X10_isBorneWithin K v23 n l0 l1 l2).bind fun v27 =>
    if v27.1 = 0 then
      lp_X10_best_31 K n l0 l1 l2 k_ l3 l4 (l6 + 1) v27.2
    else
    (ckq v27.2 n l0 9).bind fun u29 =>
    (q_X10_allRevenues K v27.2 n l0 l1).bind fun v31 =>
    if l3 = (-1) then
      lp_X10_best_31 K n l0 l1 l2 k_ l6 v31.1 (l6 + 1) v31.2
    else
    if 0 ≤ (lg_cmp v31.1 l4) then
      lp_X10_best_31 K n l0 l1 l2 k_ l3 l4 (l6 + 1) v31.2
    else
    lp_X10_best_31 K n l0 l1 l2 k_ l6 v31.1 (l6 + 1) v31.2
def q_X10_best (K : Nat) (h : mm_H) (n : Nat) (l0 : Nat) (l1 : Int32) (l2 : Int32) : Option (Int32 × mm_H) :=
  (q_X10_isReview K h n l1).bind fun v1 =>
  if v1 = 0 then
    some ((-1), h)
  else
  (q_X10_isWithin K h n l2 0 99999).bind fun v3 =>
  if v3 = 0 then
    some ((-1), h)
  else
  (ckq h n l0 9).bind fun u5 =>
  (q_X10_useOwnRules K h n l0).bind fun v7 =>
  (lp_X10_best_31 K n l0 l1 l2 K (-1) 0 0 v7).bind fun v36 =>
  some (v36.1, v36.2)
set_option maxRecDepth 100000 in
set_option maxHeartbeats 4000000 in
theorem w_X10_best_31 {K : Nat} {W0 : mm_X} {G : mm_G} {mc ms kc ks : Nat} {Q_ : State → Prop} {n : Nat} (C : mm_C W0 G cX10_best yX10_best.cls 9 mc ms (some .int) 7 yX10_best.name) (hn : 48 ≤ n) (l0 : Nat) (l1 : Int32) (l2 : Int32) : ∀ (k_ : Nat) (l3 : Int32) (l4 : Int64) (l6 : Int32) (h : mm_H) {r_ : Int32 × mm_H} (hr : lp_X10_best_31 K n l0 l1 l2 k_ l3 l4 l6 h = some r_) (hx0 : WW W0 G 9 mc ms Q_ 100 [none, none, none, some (.int r_.1), none, none, none, none, none] [] r_.2 n kc ks), WW W0 G 9 mc ms Q_ 31 [some (.ref l0), some (.int l1), some (.int l2), some (.int l3), some (.long l4), none, some (.int l6), none, none] [] h n kc ks := by
  intro k_
  induction k_ with
  | zero =>
    intro l3 l4 l6 h r_ hr
    cases hr
  | succ k_ ih_ =>
    intro l3 l4 l6 h r_ hr hx0
    unfold lp_X10_best_31 at hr
    refine rr_iload C dX10_best_31 rfl ?_
    refine rr_aload_n (i := 0) C dX10_best_33 rfl rfl ?_
    replace hr := Option.bind_eq_some_iff.mp hr
    obtain ⟨v9, e10, hr⟩ := hr
    refine rr_rdI C dX10_best_34 fl_X10_274 e10 ?_
    refine rr_icmp_ge (tgt := 100) C dX10_best_37 (by decide) (fun c37_ => ?_) (fun c37_ => ?_)
    · replace hr := (if_pos c37_).symm.trans hr
      obtain rfl := Option.some.inj hr
      exact rr_keep [false, false, false, true, false, false, false, false, false] (hx0)
    · replace hr := (if_neg c37_).symm.trans hr
      refine rr_aload_n (i := 0) C dX10_best_40 rfl rfl ?_
      replace hr := Option.bind_eq_some_iff.mp hr
      obtain ⟨v11, e12, hr⟩ := hr
      refine rr_rdR C dX10_best_41 fl_X10_21 e12 ?_
      refine rr_iload_n (i := 1) C dX10_best_44 rfl rfl ?_
      refine rr_aload_n (i := 0) C dX10_best_45 rfl rfl ?_
      replace hr := Option.bind_eq_some_iff.mp hr
      obtain ⟨v13, e14, hr⟩ := hr
      refine rr_rdR C dX10_best_46 fl_X10_49 e14 ?_
      refine rr_iload C dX10_best_49 rfl ?_
      replace hr := Option.bind_eq_some_iff.mp hr
      obtain ⟨a15, e16, hr⟩ := hr
      subst e16
      replace hr := Option.bind_eq_some_iff.mp hr
      obtain ⟨v17, e18, hr⟩ := hr
      refine rr_ldR C dX10_best_51 e18 ?_
      replace hr := Option.bind_eq_some_iff.mp hr
      obtain ⟨a19, e20, hr⟩ := hr
      subst e20
      replace hr := Option.bind_eq_some_iff.mp hr
      obtain ⟨u21, e22, hr⟩ := hr
      replace hr := Option.bind_eq_some_iff.mp hr
      obtain ⟨v23, e24, hr⟩ := hr
      refine rr_callVq (as := [.int l1, va_rf v17]) (st := []) (mc' := 0) (ms' := 0) C dX10_best_52 iv_X10_240 (by decide) e22 rfl (Nat.le_of_ble_eq_true rfl) (c_X7_useRules a19 l1 v17 (by omega) e24) (fun v_ h_ n_ q_ => ?_)
      obtain ⟨q1_, q2_, q3_⟩ := q_
      subst v_; subst h_; subst n_
      show WW W0 G 9 _ _ _ 55 [some (.ref l0), some (.int l1), some (.int l2), some (.int l3), some (.long l4), none, some (.int l6), none, none] [] v23 n _ _
      refine rr_aload_n (i := 0) C dX10_best_55 rfl rfl ?_
      refine rr_iload_n (i := 1) C dX10_best_56 rfl rfl ?_
      refine rr_iload_n (i := 2) C dX10_best_57 rfl rfl ?_
      replace hr := Option.bind_eq_some_iff.mp hr
      obtain ⟨u25, e26, hr⟩ := hr
      replace hr := Option.bind_eq_some_iff.mp hr
      obtain ⟨v27, e28, hr⟩ := hr
      refine rr_callVq (as := [.int l1, .int l2]) (st := []) (mc' := 0) (ms' := 0) C dX10_best_58 iv_X10_283 (by decide) e26 rfl (Nat.le_of_ble_eq_true rfl) (c_X10_isBorneWithin l0 l1 l2 (by omega) e28) (fun v_ h_ n_ q_ => ?_)
      obtain ⟨q1_, q2_, q3_⟩ := q_
      subst v_; subst h_; subst n_
      show WW W0 G 9 _ _ _ 61 [some (.ref l0), some (.int l1), some (.int l2), some (.int l3), some (.long l4), none, some (.int l6), none, none] [.int v27.1] v27.2 n _ _
      refine rr_if_ne (tgt := 67) C dX10_best_61 (by decide) (fun c61_ => ?_) (fun c61_ => ?_)
      · replace hr := (if_neg c61_).symm.trans hr
        refine rr_aload_n (i := 0) C dX10_best_67 rfl rfl ?_
        refine rr_iload_n (i := 1) C dX10_best_68 rfl rfl ?_
        replace hr := Option.bind_eq_some_iff.mp hr
        obtain ⟨u29, e30, hr⟩ := hr
        replace hr := Option.bind_eq_some_iff.mp hr
        obtain ⟨v31, e32, hr⟩ := hr
        refine rr_callVq (as := [.int l1]) (st := []) (mc' := 0) (ms' := 0) C dX10_best_69 iv_X10_286 (by decide) e30 rfl (Nat.le_of_ble_eq_true rfl) (c_X10_allRevenues l0 l1 (by omega) e32) (fun v_ h_ n_ q_ => ?_)
        obtain ⟨q1_, q2_, q3_⟩ := q_
        subst v_; subst h_; subst n_
        show WW W0 G 9 _ _ _ 72 [some (.ref l0), some (.int l1), some (.int l2), some (.int l3), some (.long l4), none, some (.int l6), none, none] [.long v31.1] v31.2 n _ _
        refine rr_lstore C dX10_best_72 (by decide) ?_
        show WW W0 G 9 _ _ _ 74 [some (.ref l0), some (.int l1), some (.int l2), some (.int l3), some (.long l4), none, some (.int l6), some (.long v31.1), none] [] v31.2 n _ _
        refine rr_iload_n (i := 3) C dX10_best_74 rfl rfl ?_
        refine rr_iconst (v := (-1)) C dX10_best_75 (by decide) ?_
        refine rr_icmp_eq (tgt := 87) C dX10_best_76 (by decide) (fun c76_ => ?_) (fun c76_ => ?_)
        · replace hr := (if_pos c76_).symm.trans hr
          refine rr_iload C dX10_best_87 rfl ?_
          refine rr_istore_n (i := 3) C dX10_best_89 rfl (by decide) ?_
          show WW W0 G 9 _ _ _ 90 [some (.ref l0), some (.int l1), some (.int l2), some (.int l6), some (.long l4), none, some (.int l6), some (.long v31.1), none] [] v31.2 n _ _
          refine rr_lload C dX10_best_90 rfl ?_
          refine rr_lstore C dX10_best_92 (by decide) ?_
          show WW W0 G 9 _ _ _ 94 [some (.ref l0), some (.int l1), some (.int l2), some (.int l6), some (.long v31.1), none, some (.int l6), some (.long v31.1), none] [] v31.2 n _ _
          refine rr_iinc (v := l6 + 1) C dX10_best_94 rfl rfl ?_
          show WW W0 G 9 _ _ _ 97 [some (.ref l0), some (.int l1), some (.int l2), some (.int l6), some (.long v31.1), none, some (.int (l6 + 1)), some (.long v31.1), none] [] v31.2 n _ _
          refine rr_goto (tgt := 31) C dX10_best_97 (by decide) ?_
          exact rr_keep [true, true, true, true, true, false, true, false, false] (ih_ _ _ _ _ hr hx0)
        · replace hr := (if_neg c76_).symm.trans hr
          refine rr_lload C dX10_best_79 rfl ?_
          refine rr_lload C dX10_best_81 rfl ?_
          refine rr_lcmp C dX10_best_83 ?_
          refine rr_if_ge (tgt := 94) C dX10_best_84 (by decide) (fun c84_ => ?_) (fun c84_ => ?_)
          · replace hr := (if_pos c84_).symm.trans hr
            refine rr_iinc (v := l6 + 1) C dX10_best_94 rfl rfl ?_
            show WW W0 G 9 _ _ _ 97 [some (.ref l0), some (.int l1), some (.int l2), some (.int l3), some (.long l4), none, some (.int (l6 + 1)), some (.long v31.1), none] [] v31.2 n _ _
            refine rr_goto (tgt := 31) C dX10_best_97 (by decide) ?_
            exact rr_keep [true, true, true, true, true, false, true, false, false] (ih_ _ _ _ _ hr hx0)
          · replace hr := (if_neg c84_).symm.trans hr
            refine rr_iload C dX10_best_87 rfl ?_
            refine rr_istore_n (i := 3) C dX10_best_89 rfl (by decide) ?_
            show WW W0 G 9 _ _ _ 90 [some (.ref l0), some (.int l1), some (.int l2), some (.int l6), some (.long l4), none, some (.int l6), some (.long v31.1), none] [] v31.2 n _ _
            refine rr_lload C dX10_best_90 rfl ?_
            refine rr_lstore C dX10_best_92 (by decide) ?_
            show WW W0 G 9 _ _ _ 94 [some (.ref l0), some (.int l1), some (.int l2), some (.int l6), some (.long v31.1), none, some (.int l6), some (.long v31.1), none] [] v31.2 n _ _
            refine rr_iinc (v := l6 + 1) C dX10_best_94 rfl rfl ?_
            show WW W0 G 9 _ _ _ 97 [some (.ref l0), some (.int l1), some (.int l2), some (.int l6), some (.long v31.1), none, some (.int (l6 + 1)), some (.long v31.1), none] [] v31.2 n _ _
            refine rr_goto (tgt := 31) C dX10_best_97 (by decide) ?_
            exact rr_keep [true, true, true, true, true, false, true, false, false] (ih_ _ _ _ _ hr hx0)
      · replace hr := (if_pos c61_).symm.trans hr
        refine rr_goto (tgt := 94) C dX10_best_64 (by decide) ?_
        refine rr_iinc (v := l6 + 1) C dX10_best_94 rfl rfl ?_
        show WW W0 G 9 _ _ _ 97 [some (.ref l0), some (.int l1), some (.int l2), some (.int l3), some (.long l4), none, some (.int (l6 + 1)), none, none] [] v27.2 n _ _
        refine rr_goto (tgt := 31) C dX10_best_97 (by decide) ?_
        exact rr_keep [true, true, true, true, true, false, true, false, false] (ih_ _ _ _ _ hr hx0)
set_option maxRecDepth 100000 in
set_option maxHeartbeats 4000000 in
theorem c_X10_best {K : Nat} {G : mm_G} {l : Launch} {h : mm_H} {n : Nat} (l0 : Nat) (l1 : Int32) (l2 : Int32) {r_ : Int32 × mm_H} (hn : 48 ≤ n) (hr : q_X10_best K h n l0 l1 l2 = some r_) : Sp G l yX10_best cX10_best 9 (some .int) 7 0 0 [.ref l0, .int l1, .int l2] h n (fun v h' n' => v = some (.int r_.1) ∧ h' = r_.2 ∧ n' = n) := by
  refine Sp_of (by decide +kernel) (Nat.le_of_ble_eq_true rfl) hn ?_
  intro W0 hwl C
  subst hwl
  unfold q_X10_best at hr
  show WW W0 G 9 0 0 _ 0 [some (.ref l0), some (.int l1), some (.int l2), none, none, none, none, none, none] [] h n 0 0
  refine rr_iload_n (i := 1) C dX10_best_0 rfl rfl ?_
  replace hr := Option.bind_eq_some_iff.mp hr
  obtain ⟨v1, e2, hr⟩ := hr
  refine rr_callS (as := [.int l1]) (st := []) (mc' := 0) (ms' := 0) C dX10_best_1 it_X10_126 (by decide) (Nat.le_of_ble_eq_true rfl) (c_X10_isReview l1 (by omega) e2) (fun v_ h_ n_ q_ => ?_)
  obtain ⟨q1_, q2_, q3_⟩ := q_
  subst v_; subst h_; subst n_
  show WW W0 G 9 _ _ _ 4 [some (.ref l0), some (.int l1), some (.int l2), none, none, none, none, none, none] [.int v1] h n _ _
  refine rr_if_eq (tgt := 17) C dX10_best_4 (by decide) (fun c4_ => ?_) (fun c4_ => ?_)
  · replace hr := (if_pos c4_).symm.trans hr
    refine rr_iconst (v := (-1)) C dX10_best_17 (by decide) ?_
    obtain rfl := Option.some.inj hr
    exact rr_iret (ty := .int) C dX10_best_18 rfl rfl ⟨rfl, rfl, rfl⟩
  · replace hr := (if_neg c4_).symm.trans hr
    refine rr_iload_n (i := 2) C dX10_best_7 rfl rfl ?_
    refine rr_iconst (v := 0) C dX10_best_8 (by decide) ?_
    refine rr_ldc C dX10_best_9 ct_X10_93 ?_
    replace hr := Option.bind_eq_some_iff.mp hr
    obtain ⟨v3, e4, hr⟩ := hr
    refine rr_callS (as := [.int l2, .int 0, .int 99999]) (st := []) (mc' := 0) (ms' := 0) C dX10_best_11 it_X10_60 (by decide) (Nat.le_of_ble_eq_true rfl) (c_X10_isWithin l2 0 99999 (by omega) e4) (fun v_ h_ n_ q_ => ?_)
    obtain ⟨q1_, q2_, q3_⟩ := q_
    subst v_; subst h_; subst n_
    show WW W0 G 9 _ _ _ 14 [some (.ref l0), some (.int l1), some (.int l2), none, none, none, none, none, none] [.int v3] h n _ _
    refine rr_if_ne (tgt := 19) C dX10_best_14 (by decide) (fun c14_ => ?_) (fun c14_ => ?_)
    · replace hr := (if_neg c14_).symm.trans hr
      refine rr_aload_n (i := 0) C dX10_best_19 rfl rfl ?_
      replace hr := Option.bind_eq_some_iff.mp hr
      obtain ⟨u5, e6, hr⟩ := hr
      replace hr := Option.bind_eq_some_iff.mp hr
      obtain ⟨v7, e8, hr⟩ := hr
      refine rr_callVq (as := []) (st := []) (mc' := 0) (ms' := 0) C dX10_best_20 iv_X10_237 (by decide) e6 rfl (Nat.le_of_ble_eq_true rfl) (c_X10_useOwnRules l0 (by omega) e8) (fun v_ h_ n_ q_ => ?_)
      obtain ⟨q1_, q2_, q3_⟩ := q_
      subst v_; subst h_; subst n_
      show WW W0 G 9 _ _ _ 23 [some (.ref l0), some (.int l1), some (.int l2), none, none, none, none, none, none] [] v7 n _ _
      refine rr_iconst (v := (-1)) C dX10_best_23 (by decide) ?_
      refine rr_istore_n (i := 3) C dX10_best_24 rfl (by decide) ?_
      show WW W0 G 9 _ _ _ 25 [some (.ref l0), some (.int l1), some (.int l2), some (.int (-1)), none, none, none, none, none] [] v7 n _ _
      refine rr_lconst (v := 0) C dX10_best_25 (by decide) ?_
      refine rr_lstore C dX10_best_26 (by decide) ?_
      show WW W0 G 9 _ _ _ 28 [some (.ref l0), some (.int l1), some (.int l2), some (.int (-1)), some (.long 0), none, none, none, none] [] v7 n _ _
      refine rr_iconst (v := 0) C dX10_best_28 (by decide) ?_
      refine rr_istore C dX10_best_29 (by decide) ?_
      show WW W0 G 9 _ _ _ 31 [some (.ref l0), some (.int l1), some (.int l2), some (.int (-1)), some (.long 0), none, some (.int 0), none, none] [] v7 n _ _
      replace hr := Option.bind_eq_some_iff.mp hr
      obtain ⟨v36, e37, hr⟩ := hr
      refine rr_keep [true, true, true, true, true, false, true, false, false] (w_X10_best_31 C (by omega) l0 l1 l2 K (-1) 0 0 v7 e37 ?_)
      show WW W0 G 9 _ _ _ 100 [none, none, none, some (.int v36.1), none, none, none, none, none] [] v36.2 n _ _
      refine rr_iload_n (i := 3) C dX10_best_100 rfl rfl ?_
      obtain rfl := Option.some.inj hr
      exact rr_iret (ty := .int) C dX10_best_101 rfl rfl ⟨rfl, rfl, rfl⟩
    · replace hr := (if_pos c14_).symm.trans hr
      refine rr_iconst (v := (-1)) C dX10_best_17 (by decide) ?_
      obtain rfl := Option.some.inj hr
      exact rr_iret (ty := .int) C dX10_best_18 rfl rfl ⟨rfl, rfl, rfl⟩
def q_X10_tell (K : Nat) (h : mm_H) (n : Nat) (l0 : Nat) (l1 : Int32) (l2 : Int32) : Option (Int32 × mm_H) :=
  (q_X10_isWithin K h n l1 0 14).bind fun v1 =>
  if v1 = 0 then
    some (0, h)
  else
  (rdR h n l0 9 11).bind fun v3 =>
  v3.bind fun a5 =>
  (stI h n a5 l1 l2).bind fun h7 =>
  some (1, h7)
set_option maxRecDepth 100000 in
set_option maxHeartbeats 4000000 in
theorem c_X10_tell {K : Nat} {G : mm_G} {l : Launch} {h : mm_H} {n : Nat} (l0 : Nat) (l1 : Int32) (l2 : Int32) {r_ : Int32 × mm_H} (hn : 48 ≤ n) (hr : q_X10_tell K h n l0 l1 l2 = some r_) : Sp G l yX10_tell cX10_tell 3 (some .boolean) 1 0 0 [.ref l0, .int l1, .int l2] h n (fun v h' n' => v = some (.int r_.1) ∧ h' = r_.2 ∧ n' = n) := by
  refine Sp_of (by decide +kernel) (Nat.le_of_ble_eq_true rfl) hn ?_
  intro W0 hwl C
  subst hwl
  unfold q_X10_tell at hr
  show WW W0 G 3 0 0 _ 0 [some (.ref l0), some (.int l1), some (.int l2)] [] h n 0 0
  refine rr_iload_n (i := 1) C dX10_tell_0 rfl rfl ?_
  refine rr_iconst (v := 0) C dX10_tell_1 (by decide) ?_
  refine rr_bipush (v := 14) C dX10_tell_2 (by decide) ?_
  replace hr := Option.bind_eq_some_iff.mp hr
  obtain ⟨v1, e2, hr⟩ := hr
  refine rr_callS (as := [.int l1, .int 0, .int 14]) (st := []) (mc' := 0) (ms' := 0) C dX10_tell_4 it_X10_60 (by decide) (Nat.le_of_ble_eq_true rfl) (c_X10_isWithin l1 0 14 (by omega) e2) (fun v_ h_ n_ q_ => ?_)
  obtain ⟨q1_, q2_, q3_⟩ := q_
  subst v_; subst h_; subst n_
  show WW W0 G 3 _ _ _ 7 [some (.ref l0), some (.int l1), some (.int l2)] [.int v1] h n _ _
  refine rr_if_ne (tgt := 12) C dX10_tell_7 (by decide) (fun c7_ => ?_) (fun c7_ => ?_)
  · replace hr := (if_neg c7_).symm.trans hr
    refine rr_aload_n (i := 0) C dX10_tell_12 rfl rfl ?_
    replace hr := Option.bind_eq_some_iff.mp hr
    obtain ⟨v3, e4, hr⟩ := hr
    refine rr_rdR C dX10_tell_13 fl_X10_52 e4 ?_
    refine rr_iload_n (i := 1) C dX10_tell_16 rfl rfl ?_
    refine rr_iload_n (i := 2) C dX10_tell_17 rfl rfl ?_
    replace hr := Option.bind_eq_some_iff.mp hr
    obtain ⟨a5, e6, hr⟩ := hr
    subst e6
    replace hr := Option.bind_eq_some_iff.mp hr
    obtain ⟨h7, e8, hr⟩ := hr
    refine rr_stI C dX10_tell_18 e8 ?_
    refine rr_iconst (v := 1) C dX10_tell_19 (by decide) ?_
    obtain rfl := Option.some.inj hr
    exact rr_iret (ty := .boolean) C dX10_tell_20 rfl rfl ⟨rfl, rfl, rfl⟩
  · replace hr := (if_pos c7_).symm.trans hr
    refine rr_iconst (v := 0) C dX10_tell_10 (by decide) ?_
    obtain rfl := Option.some.inj hr
    exact rr_iret (ty := .boolean) C dX10_tell_11 rfl rfl ⟨rfl, rfl, rfl⟩
def lp_X10_check_38 (K : Nat) (h : mm_H) (n : Nat) (l0 : Nat) (l2 : Int32) : Nat → Int32 → Option (Nat × Int32)
  | 0, _ => none
  | k_ + 1, l4 =>
    if 15 ≤ l4 then
      some (1, l4)
    else
    (rdR h n l0 9 1).bind fun v19 =>
    v19.bind fun a21 =>
    (ckq h n a21 7).bind fun u23 =>
    (q_X7_lineAt K h n a21 l2 l4).bind fun v25 =>
    (rdR h n l0 9 11).bind fun v27 =>
    v27.bind fun a29 =>
    (ldI h n a29 l4).bind fun v31 =>
    if (lg_cmp v25 (Int32.toInt64 v31)) = 0 then
      lp_X10_check_38 K h n l0 l2 k_ (l4 + 1)
    else
    some (0, l4)
def q_X10_check (K : Nat) (h : mm_H) (n : Nat) (l0 : Nat) (l1 : Int32) (l2 : Int32) (l3 : Int32) : Option (Int32 × mm_H) :=
  (ckq h n l0 9).bind fun u1 =>
  (q_X10_isFirmsYear K h n l0 l1 l2).bind fun v3 =>
  if v3 = 0 then
    some ((-2), h)
  else
  (q_X10_isDay K h n l3).bind fun v5 =>
  if v5 = 0 then
    some ((-2), h)
  else
  (ckq h n l0 9).bind fun u7 =>
  (q_X10_openOwn K h n l0 l1 l2 l3).bind fun v9 =>
  (rdR v9 n l0 9 1).bind fun v11 =>
  v11.bind fun a13 =>
  (ckq v9 n a13 7).bind fun u15 =>
  (q_X7_fillLines K v9 n a13 l2 l2).bind fun v17 =>
  (lp_X10_check_38 K v17 n l0 l2 K 0).bind fun v33 =>
  if v33.1 = 0 then
    some (v33.2, v17)
  else
  if v33.1 = 1 then
    some ((-1), v17)
  else
    none
set_option maxRecDepth 100000 in
set_option maxHeartbeats 4000000 in
theorem w_X10_check_38 {K : Nat} {W0 : mm_X} {G : mm_G} {mc ms kc ks : Nat} {Q_ : State → Prop} {h : mm_H} {n : Nat} (C : mm_C W0 G cX10_check yX10_check.cls 5 mc ms (some .int) 7 yX10_check.name) (hn : 48 ≤ n) (l0 : Nat) (l2 : Int32) : ∀ (k_ : Nat) (l4 : Int32) {r_ : Nat × Int32} (hr : lp_X10_check_38 K h n l0 l2 k_ l4 = some r_) (hx0 : r_.1 = 0 → WW W0 G 5 mc ms Q_ 67 [none, none, none, none, some (.int r_.2)] [] h n kc ks) (hx1 : r_.1 = 1 → WW W0 G 5 mc ms Q_ 76 [none, none, none, none, none] [] h n kc ks), WW W0 G 5 mc ms Q_ 38 [some (.ref l0), none, some (.int l2), none, some (.int l4)] [] h n kc ks := by
  intro k_
  induction k_ with
  | zero =>
    intro l4 r_ hr
    cases hr
  | succ k_ ih_ =>
    intro l4 r_ hr hx0 hx1
    unfold lp_X10_check_38 at hr
    refine rr_iload C dX10_check_38 rfl ?_
    refine rr_bipush (v := 15) C dX10_check_40 (by decide) ?_
    refine rr_icmp_ge (tgt := 76) C dX10_check_42 (by decide) (fun c42_ => ?_) (fun c42_ => ?_)
    · replace hr := (if_pos c42_).symm.trans hr
      obtain rfl := Option.some.inj hr
      exact rr_keep [false, false, false, false, false] (hx1 rfl)
    · replace hr := (if_neg c42_).symm.trans hr
      refine rr_aload_n (i := 0) C dX10_check_45 rfl rfl ?_
      replace hr := Option.bind_eq_some_iff.mp hr
      obtain ⟨v19, e20, hr⟩ := hr
      refine rr_rdR C dX10_check_46 fl_X10_21 e20 ?_
      refine rr_iload_n (i := 2) C dX10_check_49 rfl rfl ?_
      refine rr_iload C dX10_check_50 rfl ?_
      replace hr := Option.bind_eq_some_iff.mp hr
      obtain ⟨a21, e22, hr⟩ := hr
      subst e22
      replace hr := Option.bind_eq_some_iff.mp hr
      obtain ⟨u23, e24, hr⟩ := hr
      replace hr := Option.bind_eq_some_iff.mp hr
      obtain ⟨v25, e26, hr⟩ := hr
      refine rr_callVq (as := [.int l2, .int l4]) (st := []) (mc' := 0) (ms' := 0) C dX10_check_52 iv_X10_215 (by decide) e24 rfl (Nat.le_of_ble_eq_true rfl) (c_X7_lineAt a21 l2 l4 (by omega) e26) (fun v_ h_ n_ q_ => ?_)
      obtain ⟨q1_, q2_, q3_⟩ := q_
      subst v_; subst h_; subst n_
      show WW W0 G 5 _ _ _ 55 [some (.ref l0), none, some (.int l2), none, some (.int l4)] [.long v25] h n _ _
      refine rr_aload_n (i := 0) C dX10_check_55 rfl rfl ?_
      replace hr := Option.bind_eq_some_iff.mp hr
      obtain ⟨v27, e28, hr⟩ := hr
      refine rr_rdR C dX10_check_56 fl_X10_52 e28 ?_
      refine rr_iload C dX10_check_59 rfl ?_
      replace hr := Option.bind_eq_some_iff.mp hr
      obtain ⟨a29, e30, hr⟩ := hr
      subst e30
      replace hr := Option.bind_eq_some_iff.mp hr
      obtain ⟨v31, e32, hr⟩ := hr
      refine rr_ldI C dX10_check_61 e32 ?_
      refine rr_i2l C dX10_check_62 ?_
      refine rr_lcmp C dX10_check_63 ?_
      refine rr_if_eq (tgt := 70) C dX10_check_64 (by decide) (fun c64_ => ?_) (fun c64_ => ?_)
      · replace hr := (if_pos c64_).symm.trans hr
        refine rr_iinc (v := l4 + 1) C dX10_check_70 rfl rfl ?_
        show WW W0 G 5 _ _ _ 73 [some (.ref l0), none, some (.int l2), none, some (.int (l4 + 1))] [] h n _ _
        refine rr_goto (tgt := 38) C dX10_check_73 (by decide) ?_
        exact rr_keep [true, false, true, false, true] (ih_ _ hr hx0 hx1)
      · replace hr := (if_neg c64_).symm.trans hr
        obtain rfl := Option.some.inj hr
        exact rr_keep [false, false, false, false, true] (hx0 rfl)
set_option maxRecDepth 100000 in
set_option maxHeartbeats 4000000 in
theorem c_X10_check {K : Nat} {G : mm_G} {l : Launch} {h : mm_H} {n : Nat} (l0 : Nat) (l1 : Int32) (l2 : Int32) (l3 : Int32) {r_ : Int32 × mm_H} (hn : 48 ≤ n) (hr : q_X10_check K h n l0 l1 l2 l3 = some r_) : Sp G l yX10_check cX10_check 5 (some .int) 7 0 0 [.ref l0, .int l1, .int l2, .int l3] h n (fun v h' n' => v = some (.int r_.1) ∧ h' = r_.2 ∧ n' = n) := by
  refine Sp_of (by decide +kernel) (Nat.le_of_ble_eq_true rfl) hn ?_
  intro W0 hwl C
  subst hwl
  unfold q_X10_check at hr
  show WW W0 G 5 0 0 _ 0 [some (.ref l0), some (.int l1), some (.int l2), some (.int l3), none] [] h n 0 0
  refine rr_aload_n (i := 0) C dX10_check_0 rfl rfl ?_
  refine rr_iload_n (i := 1) C dX10_check_1 rfl rfl ?_
  refine rr_iload_n (i := 2) C dX10_check_2 rfl rfl ?_
  replace hr := Option.bind_eq_some_iff.mp hr
  obtain ⟨u1, e2, hr⟩ := hr
  replace hr := Option.bind_eq_some_iff.mp hr
  obtain ⟨v3, e4, hr⟩ := hr
  refine rr_callVq (as := [.int l1, .int l2]) (st := []) (mc' := 0) (ms' := 0) C dX10_check_3 iv_X10_68 (by decide) e2 rfl (Nat.le_of_ble_eq_true rfl) (c_X10_isFirmsYear l0 l1 l2 (by omega) e4) (fun v_ h_ n_ q_ => ?_)
  obtain ⟨q1_, q2_, q3_⟩ := q_
  subst v_; subst h_; subst n_
  show WW W0 G 5 _ _ _ 6 [some (.ref l0), some (.int l1), some (.int l2), some (.int l3), none] [.int v3] h n _ _
  refine rr_if_eq (tgt := 16) C dX10_check_6 (by decide) (fun c6_ => ?_) (fun c6_ => ?_)
  · replace hr := (if_pos c6_).symm.trans hr
    refine rr_bipush (v := (-2)) C dX10_check_16 (by decide) ?_
    obtain rfl := Option.some.inj hr
    exact rr_iret (ty := .int) C dX10_check_18 rfl rfl ⟨rfl, rfl, rfl⟩
  · replace hr := (if_neg c6_).symm.trans hr
    refine rr_iload_n (i := 3) C dX10_check_9 rfl rfl ?_
    replace hr := Option.bind_eq_some_iff.mp hr
    obtain ⟨v5, e6, hr⟩ := hr
    refine rr_callS (as := [.int l3]) (st := []) (mc' := 0) (ms' := 0) C dX10_check_10 it_X10_85 (by decide) (Nat.le_of_ble_eq_true rfl) (c_X10_isDay l3 (by omega) e6) (fun v_ h_ n_ q_ => ?_)
    obtain ⟨q1_, q2_, q3_⟩ := q_
    subst v_; subst h_; subst n_
    show WW W0 G 5 _ _ _ 13 [some (.ref l0), some (.int l1), some (.int l2), some (.int l3), none] [.int v5] h n _ _
    refine rr_if_ne (tgt := 19) C dX10_check_13 (by decide) (fun c13_ => ?_) (fun c13_ => ?_)
    · replace hr := (if_neg c13_).symm.trans hr
      refine rr_aload_n (i := 0) C dX10_check_19 rfl rfl ?_
      refine rr_iload_n (i := 1) C dX10_check_20 rfl rfl ?_
      refine rr_iload_n (i := 2) C dX10_check_21 rfl rfl ?_
      refine rr_iload_n (i := 3) C dX10_check_22 rfl rfl ?_
      replace hr := Option.bind_eq_some_iff.mp hr
      obtain ⟨u7, e8, hr⟩ := hr
      replace hr := Option.bind_eq_some_iff.mp hr
      obtain ⟨v9, e10, hr⟩ := hr
      refine rr_callVq (as := [.int l1, .int l2, .int l3]) (st := []) (mc' := 0) (ms' := 0) C dX10_check_23 iv_X10_170 (by decide) e8 rfl (Nat.le_of_ble_eq_true rfl) (c_X10_openOwn l0 l1 l2 l3 (by omega) e10) (fun v_ h_ n_ q_ => ?_)
      obtain ⟨q1_, q2_, q3_⟩ := q_
      subst v_; subst h_; subst n_
      show WW W0 G 5 _ _ _ 26 [some (.ref l0), some (.int l1), some (.int l2), some (.int l3), none] [] v9 n _ _
      refine rr_aload_n (i := 0) C dX10_check_26 rfl rfl ?_
      replace hr := Option.bind_eq_some_iff.mp hr
      obtain ⟨v11, e12, hr⟩ := hr
      refine rr_rdR C dX10_check_27 fl_X10_21 e12 ?_
      refine rr_iload_n (i := 2) C dX10_check_30 rfl rfl ?_
      refine rr_iload_n (i := 2) C dX10_check_31 rfl rfl ?_
      replace hr := Option.bind_eq_some_iff.mp hr
      obtain ⟨a13, e14, hr⟩ := hr
      subst e14
      replace hr := Option.bind_eq_some_iff.mp hr
      obtain ⟨u15, e16, hr⟩ := hr
      replace hr := Option.bind_eq_some_iff.mp hr
      obtain ⟨v17, e18, hr⟩ := hr
      refine rr_callVq (as := [.int l2, .int l2]) (st := []) (mc' := 0) (ms' := 0) C dX10_check_32 iv_X10_211 (by decide) e16 rfl (Nat.le_of_ble_eq_true rfl) (c_X7_fillLines a13 l2 l2 (by omega) e18) (fun v_ h_ n_ q_ => ?_)
      obtain ⟨q1_, q2_, q3_⟩ := q_
      subst v_; subst h_; subst n_
      show WW W0 G 5 _ _ _ 35 [some (.ref l0), some (.int l1), some (.int l2), some (.int l3), none] [] v17 n _ _
      refine rr_iconst (v := 0) C dX10_check_35 (by decide) ?_
      refine rr_istore C dX10_check_36 (by decide) ?_
      show WW W0 G 5 _ _ _ 38 [some (.ref l0), some (.int l1), some (.int l2), some (.int l3), some (.int 0)] [] v17 n _ _
      replace hr := Option.bind_eq_some_iff.mp hr
      obtain ⟨v33, e34, hr⟩ := hr
      refine rr_keep [true, false, true, false, true] (w_X10_check_38 C (by omega) l0 l2 K 0 e34 ?_ ?_)
      · intro cx_
        replace hr := (if_pos cx_).symm.trans hr
        show WW W0 G 5 _ _ _ 67 [none, none, none, none, some (.int v33.2)] [] v17 n _ _
        refine rr_iload C dX10_check_67 rfl ?_
        obtain rfl := Option.some.inj hr
        exact rr_iret (ty := .int) C dX10_check_69 rfl rfl ⟨rfl, rfl, rfl⟩
      · intro cx_
        replace hr := (if_neg (fun z_ => absurd (z_.symm.trans cx_) (by decide))).symm.trans hr
        replace hr := (if_pos cx_).symm.trans hr
        show WW W0 G 5 _ _ _ 76 [none, none, none, none, none] [] v17 n _ _
        refine rr_iconst (v := (-1)) C dX10_check_76 (by decide) ?_
        obtain rfl := Option.some.inj hr
        exact rr_iret (ty := .int) C dX10_check_77 rfl rfl ⟨rfl, rfl, rfl⟩
    · replace hr := (if_pos c13_).symm.trans hr
      refine rr_bipush (v := (-2)) C dX10_check_16 (by decide) ?_
      obtain rfl := Option.some.inj hr
      exact rr_iret (ty := .int) C dX10_check_18 rfl rfl ⟨rfl, rfl, rfl⟩
def q_X10_twice (K : Nat) (h : mm_H) (n : Nat) (l0 : Nat) (l1 : Int32) (l2 : Int32) : Option (Int32) :=
  if l1 < 0 then
    some (-1)
  else
  (q_X10_isWithin K h n l2 0 1).bind fun v1 =>
  if v1 = 0 then
    some (-1)
  else
  (rdR h n l0 9 0).bind fun v3 =>
  v3.bind fun a5 =>
  (rdR h n a5 4 2).bind fun v7 =>
  v7.bind fun a9 =>
  (ckq h n a9 8).bind fun u11 =>
  (q_X9_pair K h n a9 l1 l2).bind fun v13 =>
  some v13
set_option maxRecDepth 100000 in
set_option maxHeartbeats 4000000 in
theorem c_X10_twice {K : Nat} {G : mm_G} {l : Launch} {h : mm_H} {n : Nat} (l0 : Nat) (l1 : Int32) (l2 : Int32) {r_ : Int32} (hn : 48 ≤ n) (hr : q_X10_twice K h n l0 l1 l2 = some r_) : Sp G l yX10_twice cX10_twice 3 (some .int) 3 0 0 [.ref l0, .int l1, .int l2] h n (fun v h' n' => v = some (.int r_) ∧ h' = h ∧ n' = n) := by
  refine Sp_of (by decide +kernel) (Nat.le_of_ble_eq_true rfl) hn ?_
  intro W0 hwl C
  subst hwl
  unfold q_X10_twice at hr
  show WW W0 G 3 0 0 _ 0 [some (.ref l0), some (.int l1), some (.int l2)] [] h n 0 0
  refine rr_iload_n (i := 1) C dX10_twice_0 rfl rfl ?_
  refine rr_if_lt (tgt := 28) C dX10_twice_1 (by decide) (fun c1_ => ?_) (fun c1_ => ?_)
  · replace hr := (if_pos c1_).symm.trans hr
    refine rr_iconst (v := (-1)) C dX10_twice_28 (by decide) ?_
    obtain rfl := Option.some.inj hr
    exact rr_iret (ty := .int) C dX10_twice_29 rfl rfl ⟨rfl, rfl, rfl⟩
  · replace hr := (if_neg c1_).symm.trans hr
    refine rr_iload_n (i := 2) C dX10_twice_4 rfl rfl ?_
    refine rr_iconst (v := 0) C dX10_twice_5 (by decide) ?_
    refine rr_iconst (v := 1) C dX10_twice_6 (by decide) ?_
    replace hr := Option.bind_eq_some_iff.mp hr
    obtain ⟨v1, e2, hr⟩ := hr
    refine rr_callS (as := [.int l2, .int 0, .int 1]) (st := []) (mc' := 0) (ms' := 0) C dX10_twice_7 it_X10_60 (by decide) (Nat.le_of_ble_eq_true rfl) (c_X10_isWithin l2 0 1 (by omega) e2) (fun v_ h_ n_ q_ => ?_)
    obtain ⟨q1_, q2_, q3_⟩ := q_
    subst v_; subst h_; subst n_
    show WW W0 G 3 _ _ _ 10 [some (.ref l0), some (.int l1), some (.int l2)] [.int v1] h n _ _
    refine rr_if_eq (tgt := 28) C dX10_twice_10 (by decide) (fun c10_ => ?_) (fun c10_ => ?_)
    · replace hr := (if_pos c10_).symm.trans hr
      refine rr_iconst (v := (-1)) C dX10_twice_28 (by decide) ?_
      obtain rfl := Option.some.inj hr
      exact rr_iret (ty := .int) C dX10_twice_29 rfl rfl ⟨rfl, rfl, rfl⟩
    · replace hr := (if_neg c10_).symm.trans hr
      refine rr_aload_n (i := 0) C dX10_twice_13 rfl rfl ?_
      replace hr := Option.bind_eq_some_iff.mp hr
      obtain ⟨v3, e4, hr⟩ := hr
      refine rr_rdR C dX10_twice_14 fl_X10_12 e4 ?_
      replace hr := Option.bind_eq_some_iff.mp hr
      obtain ⟨a5, e6, hr⟩ := hr
      subst e6
      replace hr := Option.bind_eq_some_iff.mp hr
      obtain ⟨v7, e8, hr⟩ := hr
      refine rr_rdR C dX10_twice_17 fl_X10_94 e8 ?_
      refine rr_iload_n (i := 1) C dX10_twice_20 rfl rfl ?_
      refine rr_iload_n (i := 2) C dX10_twice_21 rfl rfl ?_
      replace hr := Option.bind_eq_some_iff.mp hr
      obtain ⟨a9, e10, hr⟩ := hr
      subst e10
      replace hr := Option.bind_eq_some_iff.mp hr
      obtain ⟨u11, e12, hr⟩ := hr
      replace hr := Option.bind_eq_some_iff.mp hr
      obtain ⟨v13, e14, hr⟩ := hr
      refine rr_callVq (as := [.int l1, .int l2]) (st := []) (mc' := 0) (ms' := 0) C dX10_twice_22 iv_X10_289 (by decide) e12 rfl (Nat.le_of_ble_eq_true rfl) (c_X9_pair a9 l1 l2 (by omega) e14) (fun v_ h_ n_ q_ => ?_)
      obtain ⟨q1_, q2_, q3_⟩ := q_
      subst v_; subst h_; subst n_
      show WW W0 G 3 _ _ _ 25 [some (.ref l0), some (.int l1), some (.int l2)] [.int v13] h n _ _
      refine rr_goto (tgt := 29) C dX10_twice_25 (by decide) ?_
      obtain rfl := Option.some.inj hr
      exact rr_iret (ty := .int) C dX10_twice_29 rfl rfl ⟨rfl, rfl, rfl⟩
def q_X10_who (K : Nat) (h : mm_H) (n : Nat) (l0 : Nat) (l1 : Int32) (l2 : Int32) (l3 : Int32) (l4 : Int32) (l5 : Int32) : Option (Int64 × mm_H) :=
  (ckq h n l0 9).bind fun u1 =>
  (q_X10_isFirmsYear K h n l0 l1 l2).bind fun v3 =>
  if v3 = 0 then
    some ((-2000000000000), h)
  else
  (q_X10_isDay K h n l3).bind fun v5 =>
  if v5 = 0 then
    some ((-2000000000000), h)
  else
  (q_X10_isWithin K h n l4 0 2).bind fun v7 =>
  if v7 = 0 then
    some ((-2000000000000), h)
  else
  (q_X10_isWithin K h n l5 0 14).bind fun v9 =>
  if v9 = 0 then
    some ((-2000000000000), h)
  else
  (ckq h n l0 9).bind fun u11 =>
  (q_X10_openOwn K h n l0 l1 l2 l3).bind fun v13 =>
  (rdR v13 n l0 9 1).bind fun v15 =>
  v15.bind fun a17 =>
  (ckq v13 n a17 7).bind fun u19 =>
  (q_X7_fillLines K v13 n a17 l2 l2).bind fun v21 =>
  (rdR v21 n l0 9 0).bind fun v23 =>
  (rdR v21 n l0 9 1).bind fun v25 =>
  v25.bind fun a27 =>
  (ckq v21 n a27 7).bind fun u29 =>
  (q_X7_lineAt K v21 n a27 l2 l5).bind fun v31 =>
  v23.bind fun a33 =>
  (ckq v21 n a33 4).bind fun u35 =>
  (q_X4_partOf K v21 n a33 v31 l4 l1 l2 l3).bind fun v37 =>
  some (v37, v21)
set_option maxRecDepth 100000 in
set_option maxHeartbeats 4000000 in
theorem c_X10_who {K : Nat} {G : mm_G} {l : Launch} {h : mm_H} {n : Nat} (l0 : Nat) (l1 : Int32) (l2 : Int32) (l3 : Int32) (l4 : Int32) (l5 : Int32) {r_ : Int64 × mm_H} (hn : 48 ≤ n) (hr : q_X10_who K h n l0 l1 l2 l3 l4 l5 = some r_) : Sp G l yX10_who cX10_who 6 (some .long) 7 0 0 [.ref l0, .int l1, .int l2, .int l3, .int l4, .int l5] h n (fun v h' n' => v = some (.long r_.1) ∧ h' = r_.2 ∧ n' = n) := by
  refine Sp_of (by decide +kernel) (Nat.le_of_ble_eq_true rfl) hn ?_
  intro W0 hwl C
  subst hwl
  unfold q_X10_who at hr
  show WW W0 G 6 0 0 _ 0 [some (.ref l0), some (.int l1), some (.int l2), some (.int l3), some (.int l4), some (.int l5)] [] h n 0 0
  refine rr_aload_n (i := 0) C dX10_who_0 rfl rfl ?_
  refine rr_iload_n (i := 1) C dX10_who_1 rfl rfl ?_
  refine rr_iload_n (i := 2) C dX10_who_2 rfl rfl ?_
  replace hr := Option.bind_eq_some_iff.mp hr
  obtain ⟨u1, e2, hr⟩ := hr
  replace hr := Option.bind_eq_some_iff.mp hr
  obtain ⟨v3, e4, hr⟩ := hr
  refine rr_callVq (as := [.int l1, .int l2]) (st := []) (mc' := 0) (ms' := 0) C dX10_who_3 iv_X10_68 (by decide) e2 rfl (Nat.le_of_ble_eq_true rfl) (c_X10_isFirmsYear l0 l1 l2 (by omega) e4) (fun v_ h_ n_ q_ => ?_)
  obtain ⟨q1_, q2_, q3_⟩ := q_
  subst v_; subst h_; subst n_
  show WW W0 G 6 _ _ _ 6 [some (.ref l0), some (.int l1), some (.int l2), some (.int l3), some (.int l4), some (.int l5)] [.int v3] h n _ _
  refine rr_if_eq (tgt := 37) C dX10_who_6 (by decide) (fun c6_ => ?_) (fun c6_ => ?_)
  · replace hr := (if_pos c6_).symm.trans hr
    refine rr_ldc2 C dX10_who_37 ct_X10_205 ?_
    obtain rfl := Option.some.inj hr
    exact rr_lret C dX10_who_40 rfl ⟨rfl, rfl, rfl⟩
  · replace hr := (if_neg c6_).symm.trans hr
    refine rr_iload_n (i := 3) C dX10_who_9 rfl rfl ?_
    replace hr := Option.bind_eq_some_iff.mp hr
    obtain ⟨v5, e6, hr⟩ := hr
    refine rr_callS (as := [.int l3]) (st := []) (mc' := 0) (ms' := 0) C dX10_who_10 it_X10_85 (by decide) (Nat.le_of_ble_eq_true rfl) (c_X10_isDay l3 (by omega) e6) (fun v_ h_ n_ q_ => ?_)
    obtain ⟨q1_, q2_, q3_⟩ := q_
    subst v_; subst h_; subst n_
    show WW W0 G 6 _ _ _ 13 [some (.ref l0), some (.int l1), some (.int l2), some (.int l3), some (.int l4), some (.int l5)] [.int v5] h n _ _
    refine rr_if_eq (tgt := 37) C dX10_who_13 (by decide) (fun c13_ => ?_) (fun c13_ => ?_)
    · replace hr := (if_pos c13_).symm.trans hr
      refine rr_ldc2 C dX10_who_37 ct_X10_205 ?_
      obtain rfl := Option.some.inj hr
      exact rr_lret C dX10_who_40 rfl ⟨rfl, rfl, rfl⟩
    · replace hr := (if_neg c13_).symm.trans hr
      refine rr_iload C dX10_who_16 rfl ?_
      refine rr_iconst (v := 0) C dX10_who_18 (by decide) ?_
      refine rr_iconst (v := 2) C dX10_who_19 (by decide) ?_
      replace hr := Option.bind_eq_some_iff.mp hr
      obtain ⟨v7, e8, hr⟩ := hr
      refine rr_callS (as := [.int l4, .int 0, .int 2]) (st := []) (mc' := 0) (ms' := 0) C dX10_who_20 it_X10_60 (by decide) (Nat.le_of_ble_eq_true rfl) (c_X10_isWithin l4 0 2 (by omega) e8) (fun v_ h_ n_ q_ => ?_)
      obtain ⟨q1_, q2_, q3_⟩ := q_
      subst v_; subst h_; subst n_
      show WW W0 G 6 _ _ _ 23 [some (.ref l0), some (.int l1), some (.int l2), some (.int l3), some (.int l4), some (.int l5)] [.int v7] h n _ _
      refine rr_if_eq (tgt := 37) C dX10_who_23 (by decide) (fun c23_ => ?_) (fun c23_ => ?_)
      · replace hr := (if_pos c23_).symm.trans hr
        refine rr_ldc2 C dX10_who_37 ct_X10_205 ?_
        obtain rfl := Option.some.inj hr
        exact rr_lret C dX10_who_40 rfl ⟨rfl, rfl, rfl⟩
      · replace hr := (if_neg c23_).symm.trans hr
        refine rr_iload C dX10_who_26 rfl ?_
        refine rr_iconst (v := 0) C dX10_who_28 (by decide) ?_
        refine rr_bipush (v := 14) C dX10_who_29 (by decide) ?_
        replace hr := Option.bind_eq_some_iff.mp hr
        obtain ⟨v9, e10, hr⟩ := hr
        refine rr_callS (as := [.int l5, .int 0, .int 14]) (st := []) (mc' := 0) (ms' := 0) C dX10_who_31 it_X10_60 (by decide) (Nat.le_of_ble_eq_true rfl) (c_X10_isWithin l5 0 14 (by omega) e10) (fun v_ h_ n_ q_ => ?_)
        obtain ⟨q1_, q2_, q3_⟩ := q_
        subst v_; subst h_; subst n_
        show WW W0 G 6 _ _ _ 34 [some (.ref l0), some (.int l1), some (.int l2), some (.int l3), some (.int l4), some (.int l5)] [.int v9] h n _ _
        refine rr_if_ne (tgt := 41) C dX10_who_34 (by decide) (fun c34_ => ?_) (fun c34_ => ?_)
        · replace hr := (if_neg c34_).symm.trans hr
          refine rr_aload_n (i := 0) C dX10_who_41 rfl rfl ?_
          refine rr_iload_n (i := 1) C dX10_who_42 rfl rfl ?_
          refine rr_iload_n (i := 2) C dX10_who_43 rfl rfl ?_
          refine rr_iload_n (i := 3) C dX10_who_44 rfl rfl ?_
          replace hr := Option.bind_eq_some_iff.mp hr
          obtain ⟨u11, e12, hr⟩ := hr
          replace hr := Option.bind_eq_some_iff.mp hr
          obtain ⟨v13, e14, hr⟩ := hr
          refine rr_callVq (as := [.int l1, .int l2, .int l3]) (st := []) (mc' := 0) (ms' := 0) C dX10_who_45 iv_X10_170 (by decide) e12 rfl (Nat.le_of_ble_eq_true rfl) (c_X10_openOwn l0 l1 l2 l3 (by omega) e14) (fun v_ h_ n_ q_ => ?_)
          obtain ⟨q1_, q2_, q3_⟩ := q_
          subst v_; subst h_; subst n_
          show WW W0 G 6 _ _ _ 48 [some (.ref l0), some (.int l1), some (.int l2), some (.int l3), some (.int l4), some (.int l5)] [] v13 n _ _
          refine rr_aload_n (i := 0) C dX10_who_48 rfl rfl ?_
          replace hr := Option.bind_eq_some_iff.mp hr
          obtain ⟨v15, e16, hr⟩ := hr
          refine rr_rdR C dX10_who_49 fl_X10_21 e16 ?_
          refine rr_iload_n (i := 2) C dX10_who_52 rfl rfl ?_
          refine rr_iload_n (i := 2) C dX10_who_53 rfl rfl ?_
          replace hr := Option.bind_eq_some_iff.mp hr
          obtain ⟨a17, e18, hr⟩ := hr
          subst e18
          replace hr := Option.bind_eq_some_iff.mp hr
          obtain ⟨u19, e20, hr⟩ := hr
          replace hr := Option.bind_eq_some_iff.mp hr
          obtain ⟨v21, e22, hr⟩ := hr
          refine rr_callVq (as := [.int l2, .int l2]) (st := []) (mc' := 0) (ms' := 0) C dX10_who_54 iv_X10_211 (by decide) e20 rfl (Nat.le_of_ble_eq_true rfl) (c_X7_fillLines a17 l2 l2 (by omega) e22) (fun v_ h_ n_ q_ => ?_)
          obtain ⟨q1_, q2_, q3_⟩ := q_
          subst v_; subst h_; subst n_
          show WW W0 G 6 _ _ _ 57 [some (.ref l0), some (.int l1), some (.int l2), some (.int l3), some (.int l4), some (.int l5)] [] v21 n _ _
          refine rr_aload_n (i := 0) C dX10_who_57 rfl rfl ?_
          replace hr := Option.bind_eq_some_iff.mp hr
          obtain ⟨v23, e24, hr⟩ := hr
          refine rr_rdR C dX10_who_58 fl_X10_12 e24 ?_
          refine rr_aload_n (i := 0) C dX10_who_61 rfl rfl ?_
          replace hr := Option.bind_eq_some_iff.mp hr
          obtain ⟨v25, e26, hr⟩ := hr
          refine rr_rdR C dX10_who_62 fl_X10_21 e26 ?_
          refine rr_iload_n (i := 2) C dX10_who_65 rfl rfl ?_
          refine rr_iload C dX10_who_66 rfl ?_
          replace hr := Option.bind_eq_some_iff.mp hr
          obtain ⟨a27, e28, hr⟩ := hr
          subst e28
          replace hr := Option.bind_eq_some_iff.mp hr
          obtain ⟨u29, e30, hr⟩ := hr
          replace hr := Option.bind_eq_some_iff.mp hr
          obtain ⟨v31, e32, hr⟩ := hr
          refine rr_callVq (as := [.int l2, .int l5]) (st := [va_rf v23]) (mc' := 0) (ms' := 0) C dX10_who_68 iv_X10_215 (by decide) e30 rfl (by rcases v23 with _ | _ <;> exact Nat.le_of_ble_eq_true rfl) (c_X7_lineAt a27 l2 l5 (by omega) e32) (fun v_ h_ n_ q_ => ?_)
          obtain ⟨q1_, q2_, q3_⟩ := q_
          subst v_; subst h_; subst n_
          show WW W0 G 6 _ _ _ 71 [some (.ref l0), some (.int l1), some (.int l2), some (.int l3), some (.int l4), some (.int l5)] [.long v31, va_rf v23] v21 n _ _
          refine rr_iload C dX10_who_71 rfl ?_
          refine rr_iload_n (i := 1) C dX10_who_73 rfl rfl ?_
          refine rr_iload_n (i := 2) C dX10_who_74 rfl rfl ?_
          refine rr_iload_n (i := 3) C dX10_who_75 rfl rfl ?_
          replace hr := Option.bind_eq_some_iff.mp hr
          obtain ⟨a33, e34, hr⟩ := hr
          subst e34
          replace hr := Option.bind_eq_some_iff.mp hr
          obtain ⟨u35, e36, hr⟩ := hr
          replace hr := Option.bind_eq_some_iff.mp hr
          obtain ⟨v37, e38, hr⟩ := hr
          refine rr_callVq (as := [.long v31, .int l4, .int l1, .int l2, .int l3]) (st := []) (mc' := 0) (ms' := 0) C dX10_who_76 iv_X10_230 (by decide) e36 rfl (Nat.le_of_ble_eq_true rfl) (c_X4_partOf a33 v31 l4 l1 l2 l3 (by omega) e38) (fun v_ h_ n_ q_ => ?_)
          obtain ⟨q1_, q2_, q3_⟩ := q_
          subst v_; subst h_; subst n_
          show WW W0 G 6 _ _ _ 79 [some (.ref l0), some (.int l1), some (.int l2), some (.int l3), some (.int l4), some (.int l5)] [.long v37] v21 n _ _
          obtain rfl := Option.some.inj hr
          exact rr_lret C dX10_who_79 rfl ⟨rfl, rfl, rfl⟩
        · replace hr := (if_pos c34_).symm.trans hr
          refine rr_ldc2 C dX10_who_37 ct_X10_205 ?_
          obtain rfl := Option.some.inj hr
          exact rr_lret C dX10_who_40 rfl ⟨rfl, rfl, rfl⟩
def q_X10_count (K : Nat) (h : mm_H) (n : Nat) (l0 : Nat) (l1 : Int32) : Option (Int32) :=
  if l1 = 0 then
    (rdR h n l0 9 0).bind fun v1 =>
    v1.bind fun a3 =>
    (rdI h n a3 4 6).bind fun v5 =>
    some v5
  else
  if l1 = 1 then
    (rdR h n l0 9 0).bind fun v7 =>
    v7.bind fun a9 =>
    (rdI h n a9 4 5).bind fun v11 =>
    some v11
  else
  if l1 = 2 then
    (rdR h n l0 9 0).bind fun v13 =>
    v13.bind fun a15 =>
    (rdR h n a15 4 1).bind fun v17 =>
    v17.bind fun a19 =>
    (rdI h n a19 0 4).bind fun v21 =>
    some v21
  else
  if l1 = 3 then
    (rdR h n l0 9 0).bind fun v23 =>
    v23.bind fun a25 =>
    (rdR h n a25 4 2).bind fun v27 =>
    v27.bind fun a29 =>
    (rdI h n a29 8 4).bind fun v31 =>
    some v31
  else
  if l1 = 4 then
    (rdR h n l0 9 0).bind fun v33 =>
    v33.bind fun a35 =>
    (rdR h n a35 4 2).bind fun v37 =>
    v37.bind fun a39 =>
    (rdI h n a39 8 5).bind fun v41 =>
    some v41
  else
  if l1 = 5 then
    (rdR h n l0 9 0).bind fun v43 =>
    v43.bind fun a45 =>
    (rdR h n a45 4 3).bind fun v47 =>
    v47.bind fun a49 =>
    (rdI h n a49 1 5).bind fun v51 =>
    some v51
  else
  if l1 = 6 then
    (rdR h n l0 9 0).bind fun v53 =>
    v53.bind fun a55 =>
    (rdR h n a55 4 4).bind fun v57 =>
    v57.bind fun a59 =>
    (rdI h n a59 1 5).bind fun v61 =>
    some v61
  else
  if l1 = 7 then
    (rdI h n l0 9 7).bind fun v63 =>
    some v63
  else
  if l1 = 8 then
    (rdR h n l0 9 8).bind fun v65 =>
    match v65 with
    | none =>
      some 0
    | some a67 =>
      some 1
  else
  if l1 = 9 then
    (rdI h n l0 9 5).bind fun v68 =>
    some v68
  else
  if l1 = 10 then
    (rdI h n l0 9 10).bind fun v70 =>
    some v70
  else
  some (-1)
set_option maxRecDepth 100000 in
set_option maxHeartbeats 4000000 in
theorem c_X10_count {K : Nat} {G : mm_G} {l : Launch} {h : mm_H} {n : Nat} (l0 : Nat) (l1 : Int32) {r_ : Int32} (hn : 48 ≤ n) (hr : q_X10_count K h n l0 l1 = some r_) : Sp G l yX10_count cX10_count 2 (some .int) 0 0 0 [.ref l0, .int l1] h n (fun v h' n' => v = some (.int r_) ∧ h' = h ∧ n' = n) := by
  refine Sp_of (by decide +kernel) (Nat.le_of_ble_eq_true rfl) hn ?_
  intro W0 hwl C
  subst hwl
  unfold q_X10_count at hr
  show WW W0 G 2 0 0 _ 0 [some (.ref l0), some (.int l1)] [] h n 0 0
  refine rr_iload_n (i := 1) C dX10_count_0 rfl rfl ?_
  by_cases s1_0 : l1 = 0
  · replace hr := (if_pos s1_0).symm.trans hr
    refine rr_tabIn (off := 59) (tgt := 60) C dX10_count_1 (by rw [s1_0]; decide) (by rw [s1_0]; decide) (by rw [s1_0]; rfl) (by decide) ?_
    refine rr_aload_n (i := 0) C dX10_count_60 rfl rfl ?_
    replace hr := Option.bind_eq_some_iff.mp hr
    obtain ⟨v1, e2, hr⟩ := hr
    refine rr_rdR C dX10_count_61 fl_X10_12 e2 ?_
    replace hr := Option.bind_eq_some_iff.mp hr
    obtain ⟨a3, e4, hr⟩ := hr
    subst e4
    replace hr := Option.bind_eq_some_iff.mp hr
    obtain ⟨v5, e6, hr⟩ := hr
    refine rr_rdI C dX10_count_64 fl_X10_55 e6 ?_
    obtain rfl := Option.some.inj hr
    exact rr_iret (ty := .int) C dX10_count_67 rfl rfl ⟨rfl, rfl, rfl⟩
  replace hr := (if_neg s1_0).symm.trans hr
  by_cases s1_1 : l1 = 1
  · replace hr := (if_pos s1_1).symm.trans hr
    refine rr_tabIn (off := 67) (tgt := 68) C dX10_count_1 (by rw [s1_1]; decide) (by rw [s1_1]; decide) (by rw [s1_1]; rfl) (by decide) ?_
    refine rr_aload_n (i := 0) C dX10_count_68 rfl rfl ?_
    replace hr := Option.bind_eq_some_iff.mp hr
    obtain ⟨v7, e8, hr⟩ := hr
    refine rr_rdR C dX10_count_69 fl_X10_12 e8 ?_
    replace hr := Option.bind_eq_some_iff.mp hr
    obtain ⟨a9, e10, hr⟩ := hr
    subst e10
    replace hr := Option.bind_eq_some_iff.mp hr
    obtain ⟨v11, e12, hr⟩ := hr
    refine rr_rdI C dX10_count_72 fl_X10_292 e12 ?_
    obtain rfl := Option.some.inj hr
    exact rr_iret (ty := .int) C dX10_count_75 rfl rfl ⟨rfl, rfl, rfl⟩
  replace hr := (if_neg s1_1).symm.trans hr
  by_cases s1_2 : l1 = 2
  · replace hr := (if_pos s1_2).symm.trans hr
    refine rr_tabIn (off := 75) (tgt := 76) C dX10_count_1 (by rw [s1_2]; decide) (by rw [s1_2]; decide) (by rw [s1_2]; rfl) (by decide) ?_
    refine rr_aload_n (i := 0) C dX10_count_76 rfl rfl ?_
    replace hr := Option.bind_eq_some_iff.mp hr
    obtain ⟨v13, e14, hr⟩ := hr
    refine rr_rdR C dX10_count_77 fl_X10_12 e14 ?_
    replace hr := Option.bind_eq_some_iff.mp hr
    obtain ⟨a15, e16, hr⟩ := hr
    subst e16
    replace hr := Option.bind_eq_some_iff.mp hr
    obtain ⟨v17, e18, hr⟩ := hr
    refine rr_rdR C dX10_count_80 fl_X10_75 e18 ?_
    replace hr := Option.bind_eq_some_iff.mp hr
    obtain ⟨a19, e20, hr⟩ := hr
    subst e20
    replace hr := Option.bind_eq_some_iff.mp hr
    obtain ⟨v21, e22, hr⟩ := hr
    refine rr_rdI C dX10_count_83 fl_X10_295 e22 ?_
    obtain rfl := Option.some.inj hr
    exact rr_iret (ty := .int) C dX10_count_86 rfl rfl ⟨rfl, rfl, rfl⟩
  replace hr := (if_neg s1_2).symm.trans hr
  by_cases s1_3 : l1 = 3
  · replace hr := (if_pos s1_3).symm.trans hr
    refine rr_tabIn (off := 86) (tgt := 87) C dX10_count_1 (by rw [s1_3]; decide) (by rw [s1_3]; decide) (by rw [s1_3]; rfl) (by decide) ?_
    refine rr_aload_n (i := 0) C dX10_count_87 rfl rfl ?_
    replace hr := Option.bind_eq_some_iff.mp hr
    obtain ⟨v23, e24, hr⟩ := hr
    refine rr_rdR C dX10_count_88 fl_X10_12 e24 ?_
    replace hr := Option.bind_eq_some_iff.mp hr
    obtain ⟨a25, e26, hr⟩ := hr
    subst e26
    replace hr := Option.bind_eq_some_iff.mp hr
    obtain ⟨v27, e28, hr⟩ := hr
    refine rr_rdR C dX10_count_91 fl_X10_94 e28 ?_
    replace hr := Option.bind_eq_some_iff.mp hr
    obtain ⟨a29, e30, hr⟩ := hr
    subst e30
    replace hr := Option.bind_eq_some_iff.mp hr
    obtain ⟨v31, e32, hr⟩ := hr
    refine rr_rdI C dX10_count_94 fl_X10_298 e32 ?_
    obtain rfl := Option.some.inj hr
    exact rr_iret (ty := .int) C dX10_count_97 rfl rfl ⟨rfl, rfl, rfl⟩
  replace hr := (if_neg s1_3).symm.trans hr
  by_cases s1_4 : l1 = 4
  · replace hr := (if_pos s1_4).symm.trans hr
    refine rr_tabIn (off := 97) (tgt := 98) C dX10_count_1 (by rw [s1_4]; decide) (by rw [s1_4]; decide) (by rw [s1_4]; rfl) (by decide) ?_
    refine rr_aload_n (i := 0) C dX10_count_98 rfl rfl ?_
    replace hr := Option.bind_eq_some_iff.mp hr
    obtain ⟨v33, e34, hr⟩ := hr
    refine rr_rdR C dX10_count_99 fl_X10_12 e34 ?_
    replace hr := Option.bind_eq_some_iff.mp hr
    obtain ⟨a35, e36, hr⟩ := hr
    subst e36
    replace hr := Option.bind_eq_some_iff.mp hr
    obtain ⟨v37, e38, hr⟩ := hr
    refine rr_rdR C dX10_count_102 fl_X10_94 e38 ?_
    replace hr := Option.bind_eq_some_iff.mp hr
    obtain ⟨a39, e40, hr⟩ := hr
    subst e40
    replace hr := Option.bind_eq_some_iff.mp hr
    obtain ⟨v41, e42, hr⟩ := hr
    refine rr_rdI C dX10_count_105 fl_X10_299 e42 ?_
    obtain rfl := Option.some.inj hr
    exact rr_iret (ty := .int) C dX10_count_108 rfl rfl ⟨rfl, rfl, rfl⟩
  replace hr := (if_neg s1_4).symm.trans hr
  by_cases s1_5 : l1 = 5
  · replace hr := (if_pos s1_5).symm.trans hr
    refine rr_tabIn (off := 108) (tgt := 109) C dX10_count_1 (by rw [s1_5]; decide) (by rw [s1_5]; decide) (by rw [s1_5]; rfl) (by decide) ?_
    refine rr_aload_n (i := 0) C dX10_count_109 rfl rfl ?_
    replace hr := Option.bind_eq_some_iff.mp hr
    obtain ⟨v43, e44, hr⟩ := hr
    refine rr_rdR C dX10_count_110 fl_X10_12 e44 ?_
    replace hr := Option.bind_eq_some_iff.mp hr
    obtain ⟨a45, e46, hr⟩ := hr
    subst e46
    replace hr := Option.bind_eq_some_iff.mp hr
    obtain ⟨v47, e48, hr⟩ := hr
    refine rr_rdR C dX10_count_113 fl_X10_109 e48 ?_
    replace hr := Option.bind_eq_some_iff.mp hr
    obtain ⟨a49, e50, hr⟩ := hr
    subst e50
    replace hr := Option.bind_eq_some_iff.mp hr
    obtain ⟨v51, e52, hr⟩ := hr
    refine rr_rdI C dX10_count_116 fl_X10_302 e52 ?_
    obtain rfl := Option.some.inj hr
    exact rr_iret (ty := .int) C dX10_count_119 rfl rfl ⟨rfl, rfl, rfl⟩
  replace hr := (if_neg s1_5).symm.trans hr
  by_cases s1_6 : l1 = 6
  · replace hr := (if_pos s1_6).symm.trans hr
    refine rr_tabIn (off := 119) (tgt := 120) C dX10_count_1 (by rw [s1_6]; decide) (by rw [s1_6]; decide) (by rw [s1_6]; rfl) (by decide) ?_
    refine rr_aload_n (i := 0) C dX10_count_120 rfl rfl ?_
    replace hr := Option.bind_eq_some_iff.mp hr
    obtain ⟨v53, e54, hr⟩ := hr
    refine rr_rdR C dX10_count_121 fl_X10_12 e54 ?_
    replace hr := Option.bind_eq_some_iff.mp hr
    obtain ⟨a55, e56, hr⟩ := hr
    subst e56
    replace hr := Option.bind_eq_some_iff.mp hr
    obtain ⟨v57, e58, hr⟩ := hr
    refine rr_rdR C dX10_count_124 fl_X10_116 e58 ?_
    replace hr := Option.bind_eq_some_iff.mp hr
    obtain ⟨a59, e60, hr⟩ := hr
    subst e60
    replace hr := Option.bind_eq_some_iff.mp hr
    obtain ⟨v61, e62, hr⟩ := hr
    refine rr_rdI C dX10_count_127 fl_X10_302 e62 ?_
    obtain rfl := Option.some.inj hr
    exact rr_iret (ty := .int) C dX10_count_130 rfl rfl ⟨rfl, rfl, rfl⟩
  replace hr := (if_neg s1_6).symm.trans hr
  by_cases s1_7 : l1 = 7
  · replace hr := (if_pos s1_7).symm.trans hr
    refine rr_tabIn (off := 130) (tgt := 131) C dX10_count_1 (by rw [s1_7]; decide) (by rw [s1_7]; decide) (by rw [s1_7]; rfl) (by decide) ?_
    refine rr_aload_n (i := 0) C dX10_count_131 rfl rfl ?_
    replace hr := Option.bind_eq_some_iff.mp hr
    obtain ⟨v63, e64, hr⟩ := hr
    refine rr_rdI C dX10_count_132 fl_X10_129 e64 ?_
    obtain rfl := Option.some.inj hr
    exact rr_iret (ty := .int) C dX10_count_135 rfl rfl ⟨rfl, rfl, rfl⟩
  replace hr := (if_neg s1_7).symm.trans hr
  by_cases s1_8 : l1 = 8
  · replace hr := (if_pos s1_8).symm.trans hr
    refine rr_tabIn (off := 135) (tgt := 136) C dX10_count_1 (by rw [s1_8]; decide) (by rw [s1_8]; decide) (by rw [s1_8]; rfl) (by decide) ?_
    refine rr_aload_n (i := 0) C dX10_count_136 rfl rfl ?_
    replace hr := Option.bind_eq_some_iff.mp hr
    obtain ⟨v65, e66, hr⟩ := hr
    refine rr_rdR C dX10_count_137 fl_X10_150 e66 ?_
    rcases v65 with _ | a67
    · dsimp only at hr
      refine rr_ifnonnullN C dX10_count_140 ?_
      refine rr_iconst (v := 0) C dX10_count_143 (by decide) ?_
      refine rr_goto (tgt := 148) C dX10_count_144 (by decide) ?_
      obtain rfl := Option.some.inj hr
      exact rr_iret (ty := .int) C dX10_count_148 rfl rfl ⟨rfl, rfl, rfl⟩
    · dsimp only at hr
      refine rr_ifnonnull (tgt := 147) C dX10_count_140 (by decide) ?_
      refine rr_iconst (v := 1) C dX10_count_147 (by decide) ?_
      obtain rfl := Option.some.inj hr
      exact rr_iret (ty := .int) C dX10_count_148 rfl rfl ⟨rfl, rfl, rfl⟩
  replace hr := (if_neg s1_8).symm.trans hr
  by_cases s1_9 : l1 = 9
  · replace hr := (if_pos s1_9).symm.trans hr
    refine rr_tabIn (off := 148) (tgt := 149) C dX10_count_1 (by rw [s1_9]; decide) (by rw [s1_9]; decide) (by rw [s1_9]; rfl) (by decide) ?_
    refine rr_aload_n (i := 0) C dX10_count_149 rfl rfl ?_
    replace hr := Option.bind_eq_some_iff.mp hr
    obtain ⟨v68, e69, hr⟩ := hr
    refine rr_rdI C dX10_count_150 fl_X10_119 e69 ?_
    obtain rfl := Option.some.inj hr
    exact rr_iret (ty := .int) C dX10_count_153 rfl rfl ⟨rfl, rfl, rfl⟩
  replace hr := (if_neg s1_9).symm.trans hr
  by_cases s1_10 : l1 = 10
  · replace hr := (if_pos s1_10).symm.trans hr
    refine rr_tabIn (off := 153) (tgt := 154) C dX10_count_1 (by rw [s1_10]; decide) (by rw [s1_10]; decide) (by rw [s1_10]; rfl) (by decide) ?_
    refine rr_aload_n (i := 0) C dX10_count_154 rfl rfl ?_
    replace hr := Option.bind_eq_some_iff.mp hr
    obtain ⟨v70, e71, hr⟩ := hr
    refine rr_rdI C dX10_count_155 fl_X10_274 e71 ?_
    obtain rfl := Option.some.inj hr
    exact rr_iret (ty := .int) C dX10_count_158 rfl rfl ⟨rfl, rfl, rfl⟩
  replace hr := (if_neg s1_10).symm.trans hr
  refine rr_tabOut (tgt := 159) C dX10_count_1 (by have t0 : ¬ Int32.toInt l1 = 0 := (fun q => s1_0 (Int32.toInt_inj.mp (show Int32.toInt l1 = (0 : Int32).toInt from q))); have t1 : ¬ Int32.toInt l1 = 1 := (fun q => s1_1 (Int32.toInt_inj.mp (show Int32.toInt l1 = (1 : Int32).toInt from q))); have t2 : ¬ Int32.toInt l1 = 2 := (fun q => s1_2 (Int32.toInt_inj.mp (show Int32.toInt l1 = (2 : Int32).toInt from q))); have t3 : ¬ Int32.toInt l1 = 3 := (fun q => s1_3 (Int32.toInt_inj.mp (show Int32.toInt l1 = (3 : Int32).toInt from q))); have t4 : ¬ Int32.toInt l1 = 4 := (fun q => s1_4 (Int32.toInt_inj.mp (show Int32.toInt l1 = (4 : Int32).toInt from q))); have t5 : ¬ Int32.toInt l1 = 5 := (fun q => s1_5 (Int32.toInt_inj.mp (show Int32.toInt l1 = (5 : Int32).toInt from q))); have t6 : ¬ Int32.toInt l1 = 6 := (fun q => s1_6 (Int32.toInt_inj.mp (show Int32.toInt l1 = (6 : Int32).toInt from q))); have t7 : ¬ Int32.toInt l1 = 7 := (fun q => s1_7 (Int32.toInt_inj.mp (show Int32.toInt l1 = (7 : Int32).toInt from q))); have t8 : ¬ Int32.toInt l1 = 8 := (fun q => s1_8 (Int32.toInt_inj.mp (show Int32.toInt l1 = (8 : Int32).toInt from q))); have t9 : ¬ Int32.toInt l1 = 9 := (fun q => s1_9 (Int32.toInt_inj.mp (show Int32.toInt l1 = (9 : Int32).toInt from q))); have t10 : ¬ Int32.toInt l1 = 10 := (fun q => s1_10 (Int32.toInt_inj.mp (show Int32.toInt l1 = (10 : Int32).toInt from q))); omega) (by decide) ?_
  refine rr_iconst (v := (-1)) C dX10_count_159 (by decide) ?_
  obtain rfl := Option.some.inj hr
  exact rr_iret (ty := .int) C dX10_count_160 rfl rfl ⟨rfl, rfl, rfl⟩
def q_X11_isIn (K : Nat) (h : mm_H) (n : Nat) (l0 : Int32) (l1 : Int32) (l2 : Int32) : Option (Int32) :=
  if l0 < l1 then
    some 0
  else
  if l2 < l0 then
    some 0
  else
  some 1
set_option maxRecDepth 100000 in
set_option maxHeartbeats 4000000 in
theorem c_X11_isIn {K : Nat} {G : mm_G} {l : Launch} {h : mm_H} {n : Nat} (l0 : Int32) (l1 : Int32) (l2 : Int32) {r_ : Int32} (hn : 48 ≤ n) (hr : q_X11_isIn K h n l0 l1 l2 = some r_) : Sp G l yX11_isIn cX11_isIn 3 (some .boolean) 0 0 0 [.int l0, .int l1, .int l2] h n (fun v h' n' => v = some (.int r_) ∧ h' = h ∧ n' = n) := by
  refine Sp_of (by decide +kernel) (Nat.le_of_ble_eq_true rfl) hn ?_
  intro W0 hwl C
  subst hwl
  unfold q_X11_isIn at hr
  show WW W0 G 3 0 0 _ 0 [some (.int l0), some (.int l1), some (.int l2)] [] h n 0 0
  refine rr_iload_n (i := 0) C dX11_isIn_0 rfl rfl ?_
  refine rr_iload_n (i := 1) C dX11_isIn_1 rfl rfl ?_
  refine rr_icmp_lt (tgt := 14) C dX11_isIn_2 (by decide) (fun c2_ => ?_) (fun c2_ => ?_)
  · replace hr := (if_pos c2_).symm.trans hr
    refine rr_iconst (v := 0) C dX11_isIn_14 (by decide) ?_
    obtain rfl := Option.some.inj hr
    exact rr_iret (ty := .boolean) C dX11_isIn_15 rfl rfl ⟨rfl, rfl, rfl⟩
  · replace hr := (if_neg c2_).symm.trans hr
    refine rr_iload_n (i := 0) C dX11_isIn_5 rfl rfl ?_
    refine rr_iload_n (i := 2) C dX11_isIn_6 rfl rfl ?_
    refine rr_icmp_gt (tgt := 14) C dX11_isIn_7 (by decide) (fun c7_ => ?_) (fun c7_ => ?_)
    · replace hr := (if_pos c7_).symm.trans hr
      refine rr_iconst (v := 0) C dX11_isIn_14 (by decide) ?_
      obtain rfl := Option.some.inj hr
      exact rr_iret (ty := .boolean) C dX11_isIn_15 rfl rfl ⟨rfl, rfl, rfl⟩
    · replace hr := (if_neg c7_).symm.trans hr
      refine rr_iconst (v := 1) C dX11_isIn_10 (by decide) ?_
      refine rr_goto (tgt := 15) C dX11_isIn_11 (by decide) ?_
      obtain rfl := Option.some.inj hr
      exact rr_iret (ty := .boolean) C dX11_isIn_15 rfl rfl ⟨rfl, rfl, rfl⟩
def q_X11_one (K : Nat) (h : mm_H) (n : Nat) (l0 : Int32) : Option (Int32) :=
  if l0 = 0 then
    some 0
  else
  some 1
set_option maxRecDepth 100000 in
set_option maxHeartbeats 4000000 in
theorem c_X11_one {K : Nat} {G : mm_G} {l : Launch} {h : mm_H} {n : Nat} (l0 : Int32) {r_ : Int32} (hn : 48 ≤ n) (hr : q_X11_one K h n l0 = some r_) : Sp G l yX11_one cX11_one 1 (some .int) 0 0 0 [.int l0] h n (fun v h' n' => v = some (.int r_) ∧ h' = h ∧ n' = n) := by
  refine Sp_of (by decide +kernel) (Nat.le_of_ble_eq_true rfl) hn ?_
  intro W0 hwl C
  subst hwl
  unfold q_X11_one at hr
  show WW W0 G 1 0 0 _ 0 [some (.int l0)] [] h n 0 0
  refine rr_iload_n (i := 0) C dX11_one_0 rfl rfl ?_
  refine rr_if_eq (tgt := 8) C dX11_one_1 (by decide) (fun c1_ => ?_) (fun c1_ => ?_)
  · replace hr := (if_pos c1_).symm.trans hr
    refine rr_iconst (v := 0) C dX11_one_8 (by decide) ?_
    obtain rfl := Option.some.inj hr
    exact rr_iret (ty := .int) C dX11_one_9 rfl rfl ⟨rfl, rfl, rfl⟩
  · replace hr := (if_neg c1_).symm.trans hr
    refine rr_iconst (v := 1) C dX11_one_4 (by decide) ?_
    refine rr_goto (tgt := 9) C dX11_one_5 (by decide) ?_
    obtain rfl := Option.some.inj hr
    exact rr_iret (ty := .int) C dX11_one_9 rfl rfl ⟨rfl, rfl, rfl⟩
def q_X11_isDay (K : Nat) (h : mm_H) (n : Nat) (l0 : Int32) : Option (Int32) :=
  (q_X11_isIn K h n l0 0 1499).bind fun v1 =>
  (ckz v1).bind fun u3 =>
  some v1
set_option maxRecDepth 100000 in
set_option maxHeartbeats 4000000 in
theorem c_X11_isDay {K : Nat} {G : mm_G} {l : Launch} {h : mm_H} {n : Nat} (l0 : Int32) {r_ : Int32} (hn : 48 ≤ n) (hr : q_X11_isDay K h n l0 = some r_) : Sp G l yX11_isDay cX11_isDay 1 (some .boolean) 1 0 0 [.int l0] h n (fun v h' n' => v = some (.int r_) ∧ h' = h ∧ n' = n) := by
  refine Sp_of (by decide +kernel) (Nat.le_of_ble_eq_true rfl) hn ?_
  intro W0 hwl C
  subst hwl
  unfold q_X11_isDay at hr
  show WW W0 G 1 0 0 _ 0 [some (.int l0)] [] h n 0 0
  refine rr_iload_n (i := 0) C dX11_isDay_0 rfl rfl ?_
  refine rr_iconst (v := 0) C dX11_isDay_1 (by decide) ?_
  refine rr_sipush (v := 1499) C dX11_isDay_2 (by decide) ?_
  replace hr := Option.bind_eq_some_iff.mp hr
  obtain ⟨v1, e2, hr⟩ := hr
  refine rr_callS (as := [.int l0, .int 0, .int 1499]) (st := []) (mc' := 0) (ms' := 0) C dX11_isDay_5 it_X11_165 (by decide) (Nat.le_of_ble_eq_true rfl) (c_X11_isIn l0 0 1499 (by omega) e2) (fun v_ h_ n_ q_ => ?_)
  obtain ⟨q1_, q2_, q3_⟩ := q_
  subst v_; subst h_; subst n_
  show WW W0 G 1 _ _ _ 8 [some (.int l0)] [.int v1] h n _ _
  replace hr := Option.bind_eq_some_iff.mp hr
  obtain ⟨u3, e4, hr⟩ := hr
  obtain rfl := Option.some.inj hr
  exact rr_iret (ty := .boolean) C dX11_isDay_8 rfl (ckz_s e4) ⟨rfl, rfl, rfl⟩
def q_X11_isYear (K : Nat) (h : mm_H) (n : Nat) (l0 : Int32) : Option (Int32) :=
  (q_X11_isIn K h n l0 0 14).bind fun v1 =>
  (ckz v1).bind fun u3 =>
  some v1
set_option maxRecDepth 100000 in
set_option maxHeartbeats 4000000 in
theorem c_X11_isYear {K : Nat} {G : mm_G} {l : Launch} {h : mm_H} {n : Nat} (l0 : Int32) {r_ : Int32} (hn : 48 ≤ n) (hr : q_X11_isYear K h n l0 = some r_) : Sp G l yX11_isYear cX11_isYear 1 (some .boolean) 1 0 0 [.int l0] h n (fun v h' n' => v = some (.int r_) ∧ h' = h ∧ n' = n) := by
  refine Sp_of (by decide +kernel) (Nat.le_of_ble_eq_true rfl) hn ?_
  intro W0 hwl C
  subst hwl
  unfold q_X11_isYear at hr
  show WW W0 G 1 0 0 _ 0 [some (.int l0)] [] h n 0 0
  refine rr_iload_n (i := 0) C dX11_isYear_0 rfl rfl ?_
  refine rr_iconst (v := 0) C dX11_isYear_1 (by decide) ?_
  refine rr_bipush (v := 14) C dX11_isYear_2 (by decide) ?_
  replace hr := Option.bind_eq_some_iff.mp hr
  obtain ⟨v1, e2, hr⟩ := hr
  refine rr_callS (as := [.int l0, .int 0, .int 14]) (st := []) (mc' := 0) (ms' := 0) C dX11_isYear_4 it_X11_165 (by decide) (Nat.le_of_ble_eq_true rfl) (c_X11_isIn l0 0 14 (by omega) e2) (fun v_ h_ n_ q_ => ?_)
  obtain ⟨q1_, q2_, q3_⟩ := q_
  subst v_; subst h_; subst n_
  show WW W0 G 1 _ _ _ 7 [some (.int l0)] [.int v1] h n _ _
  replace hr := Option.bind_eq_some_iff.mp hr
  obtain ⟨u3, e4, hr⟩ := hr
  obtain rfl := Option.some.inj hr
  exact rr_iret (ty := .boolean) C dX11_isYear_7 rfl (ckz_s e4) ⟨rfl, rfl, rfl⟩
def q_X11_isHead (K : Nat) (h : mm_H) (n : Nat) (l0 : Int32) : Option (Int32) :=
  (q_X11_isIn K h n l0 0 3).bind fun v1 =>
  (ckz v1).bind fun u3 =>
  some v1
set_option maxRecDepth 100000 in
set_option maxHeartbeats 4000000 in
theorem c_X11_isHead {K : Nat} {G : mm_G} {l : Launch} {h : mm_H} {n : Nat} (l0 : Int32) {r_ : Int32} (hn : 48 ≤ n) (hr : q_X11_isHead K h n l0 = some r_) : Sp G l yX11_isHead cX11_isHead 1 (some .boolean) 1 0 0 [.int l0] h n (fun v h' n' => v = some (.int r_) ∧ h' = h ∧ n' = n) := by
  refine Sp_of (by decide +kernel) (Nat.le_of_ble_eq_true rfl) hn ?_
  intro W0 hwl C
  subst hwl
  unfold q_X11_isHead at hr
  show WW W0 G 1 0 0 _ 0 [some (.int l0)] [] h n 0 0
  refine rr_iload_n (i := 0) C dX11_isHead_0 rfl rfl ?_
  refine rr_iconst (v := 0) C dX11_isHead_1 (by decide) ?_
  refine rr_iconst (v := 3) C dX11_isHead_2 (by decide) ?_
  replace hr := Option.bind_eq_some_iff.mp hr
  obtain ⟨v1, e2, hr⟩ := hr
  refine rr_callS (as := [.int l0, .int 0, .int 3]) (st := []) (mc' := 0) (ms' := 0) C dX11_isHead_3 it_X11_165 (by decide) (Nat.le_of_ble_eq_true rfl) (c_X11_isIn l0 0 3 (by omega) e2) (fun v_ h_ n_ q_ => ?_)
  obtain ⟨q1_, q2_, q3_⟩ := q_
  subst v_; subst h_; subst n_
  show WW W0 G 1 _ _ _ 6 [some (.int l0)] [.int v1] h n _ _
  replace hr := Option.bind_eq_some_iff.mp hr
  obtain ⟨u3, e4, hr⟩ := hr
  obtain rfl := Option.some.inj hr
  exact rr_iret (ty := .boolean) C dX11_isHead_6 rfl (ckz_s e4) ⟨rfl, rfl, rfl⟩
def q_X11_isReview (K : Nat) (h : mm_H) (n : Nat) (l0 : Int32) : Option (Int32) :=
  (q_X11_isIn K h n l0 0 2).bind fun v1 =>
  (ckz v1).bind fun u3 =>
  some v1
set_option maxRecDepth 100000 in
set_option maxHeartbeats 4000000 in
theorem c_X11_isReview {K : Nat} {G : mm_G} {l : Launch} {h : mm_H} {n : Nat} (l0 : Int32) {r_ : Int32} (hn : 48 ≤ n) (hr : q_X11_isReview K h n l0 = some r_) : Sp G l yX11_isReview cX11_isReview 1 (some .boolean) 1 0 0 [.int l0] h n (fun v h' n' => v = some (.int r_) ∧ h' = h ∧ n' = n) := by
  refine Sp_of (by decide +kernel) (Nat.le_of_ble_eq_true rfl) hn ?_
  intro W0 hwl C
  subst hwl
  unfold q_X11_isReview at hr
  show WW W0 G 1 0 0 _ 0 [some (.int l0)] [] h n 0 0
  refine rr_iload_n (i := 0) C dX11_isReview_0 rfl rfl ?_
  refine rr_iconst (v := 0) C dX11_isReview_1 (by decide) ?_
  refine rr_iconst (v := 2) C dX11_isReview_2 (by decide) ?_
  replace hr := Option.bind_eq_some_iff.mp hr
  obtain ⟨v1, e2, hr⟩ := hr
  refine rr_callS (as := [.int l0, .int 0, .int 2]) (st := []) (mc' := 0) (ms' := 0) C dX11_isReview_3 it_X11_165 (by decide) (Nat.le_of_ble_eq_true rfl) (c_X11_isIn l0 0 2 (by omega) e2) (fun v_ h_ n_ q_ => ?_)
  obtain ⟨q1_, q2_, q3_⟩ := q_
  subst v_; subst h_; subst n_
  show WW W0 G 1 _ _ _ 6 [some (.int l0)] [.int v1] h n _ _
  replace hr := Option.bind_eq_some_iff.mp hr
  obtain ⟨u3, e4, hr⟩ := hr
  obtain rfl := Option.some.inj hr
  exact rr_iret (ty := .boolean) C dX11_isReview_6 rfl (ckz_s e4) ⟨rfl, rfl, rfl⟩
def q_X11_isFirm (K : Nat) (h : mm_H) (n : Nat) (l0 : Nat) (l1 : Int32) : Option (Int32) :=
  (rdI h n l0 10 1).bind fun v1 =>
  (q_X11_isIn K h n l1 0 (v1 - 1)).bind fun v3 =>
  (ckz v3).bind fun u5 =>
  some v3
set_option maxRecDepth 100000 in
set_option maxHeartbeats 4000000 in
theorem c_X11_isFirm {K : Nat} {G : mm_G} {l : Launch} {h : mm_H} {n : Nat} (l0 : Nat) (l1 : Int32) {r_ : Int32} (hn : 48 ≤ n) (hr : q_X11_isFirm K h n l0 l1 = some r_) : Sp G l yX11_isFirm cX11_isFirm 2 (some .boolean) 1 0 0 [.ref l0, .int l1] h n (fun v h' n' => v = some (.int r_) ∧ h' = h ∧ n' = n) := by
  refine Sp_of (by decide +kernel) (Nat.le_of_ble_eq_true rfl) hn ?_
  intro W0 hwl C
  subst hwl
  unfold q_X11_isFirm at hr
  show WW W0 G 2 0 0 _ 0 [some (.ref l0), some (.int l1)] [] h n 0 0
  refine rr_iload_n (i := 1) C dX11_isFirm_0 rfl rfl ?_
  refine rr_iconst (v := 0) C dX11_isFirm_1 (by decide) ?_
  refine rr_aload_n (i := 0) C dX11_isFirm_2 rfl rfl ?_
  replace hr := Option.bind_eq_some_iff.mp hr
  obtain ⟨v1, e2, hr⟩ := hr
  refine rr_rdI C dX11_isFirm_3 fl_X11_169 e2 ?_
  refine rr_iconst (v := 1) C dX11_isFirm_6 (by decide) ?_
  refine rr_isub C dX11_isFirm_7 ?_
  replace hr := Option.bind_eq_some_iff.mp hr
  obtain ⟨v3, e4, hr⟩ := hr
  refine rr_callS (as := [.int l1, .int 0, .int (v1 - 1)]) (st := []) (mc' := 0) (ms' := 0) C dX11_isFirm_8 it_X11_165 (by decide) (Nat.le_of_ble_eq_true rfl) (c_X11_isIn l1 0 (v1 - 1) (by omega) e4) (fun v_ h_ n_ q_ => ?_)
  obtain ⟨q1_, q2_, q3_⟩ := q_
  subst v_; subst h_; subst n_
  show WW W0 G 2 _ _ _ 11 [some (.ref l0), some (.int l1)] [.int v3] h n _ _
  replace hr := Option.bind_eq_some_iff.mp hr
  obtain ⟨u5, e6, hr⟩ := hr
  obtain rfl := Option.some.inj hr
  exact rr_iret (ty := .boolean) C dX11_isFirm_11 rfl (ckz_s e6) ⟨rfl, rfl, rfl⟩
def q_X11_day (K : Nat) (h : mm_H) (n : Nat) (l0 : Nat) (l1 : Int32) : Option (Int32 × mm_H) :=
  (rdI h n l0 10 0).bind fun v1 =>
  if l1 ≤ v1 then
    some (0, h)
  else
  if l1 ≤ 1499 then
    (wrF h n l0 10 0 (.int l1)).bind fun h3 =>
    some (1, h3)
  else
  some (0, h)
set_option maxRecDepth 100000 in
set_option maxHeartbeats 4000000 in
theorem c_X11_day {K : Nat} {G : mm_G} {l : Launch} {h : mm_H} {n : Nat} (l0 : Nat) (l1 : Int32) {r_ : Int32 × mm_H} (hn : 48 ≤ n) (hr : q_X11_day K h n l0 l1 = some r_) : Sp G l yX11_day cX11_day 2 (some .boolean) 0 0 0 [.ref l0, .int l1] h n (fun v h' n' => v = some (.int r_.1) ∧ h' = r_.2 ∧ n' = n) := by
  refine Sp_of (by decide +kernel) (Nat.le_of_ble_eq_true rfl) hn ?_
  intro W0 hwl C
  subst hwl
  unfold q_X11_day at hr
  show WW W0 G 2 0 0 _ 0 [some (.ref l0), some (.int l1)] [] h n 0 0
  refine rr_iload_n (i := 1) C dX11_day_0 rfl rfl ?_
  refine rr_aload_n (i := 0) C dX11_day_1 rfl rfl ?_
  replace hr := Option.bind_eq_some_iff.mp hr
  obtain ⟨v1, e2, hr⟩ := hr
  refine rr_rdI C dX11_day_2 fl_X11_172 e2 ?_
  refine rr_icmp_le (tgt := 15) C dX11_day_5 (by decide) (fun c5_ => ?_) (fun c5_ => ?_)
  · replace hr := (if_pos c5_).symm.trans hr
    refine rr_iconst (v := 0) C dX11_day_15 (by decide) ?_
    obtain rfl := Option.some.inj hr
    exact rr_iret (ty := .boolean) C dX11_day_16 rfl rfl ⟨rfl, rfl, rfl⟩
  · replace hr := (if_neg c5_).symm.trans hr
    refine rr_iload_n (i := 1) C dX11_day_8 rfl rfl ?_
    refine rr_sipush (v := 1499) C dX11_day_9 (by decide) ?_
    refine rr_icmp_le (tgt := 17) C dX11_day_12 (by decide) (fun c12_ => ?_) (fun c12_ => ?_)
    · replace hr := (if_pos c12_).symm.trans hr
      refine rr_aload_n (i := 0) C dX11_day_17 rfl rfl ?_
      refine rr_iload_n (i := 1) C dX11_day_18 rfl rfl ?_
      replace hr := Option.bind_eq_some_iff.mp hr
      obtain ⟨h3, e4, hr⟩ := hr
      refine rr_wrF C dX11_day_19 fp_X11_172 rfl rfl e4 ?_
      refine rr_iconst (v := 1) C dX11_day_22 (by decide) ?_
      obtain rfl := Option.some.inj hr
      exact rr_iret (ty := .boolean) C dX11_day_23 rfl rfl ⟨rfl, rfl, rfl⟩
    · replace hr := (if_neg c12_).symm.trans hr
      refine rr_iconst (v := 0) C dX11_day_15 (by decide) ?_
      obtain rfl := Option.some.inj hr
      exact rr_iret (ty := .boolean) C dX11_day_16 rfl rfl ⟨rfl, rfl, rfl⟩
def q_X11_firm (K : Nat) (h : mm_H) (n : Nat) (l0 : Nat) (l1 : Int32) : Option (Int32 × mm_H) :=
  (q_X11_isIn K h n l1 0 999999).bind fun v1 =>
  if v1 = 0 then
    some ((-1), h)
  else
  (rdI h n l0 10 1).bind fun v3 =>
  if v3 = 11 then
    some ((-1), h)
  else
  (rdR h n l0 10 5).bind fun v5 =>
  (rdI h n l0 10 1).bind fun v7 =>
  v5.bind fun a9 =>
  (stJ h n a9 v7 (Int32.toInt64 l1)).bind fun h11 =>
  (rdI h11 n l0 10 1).bind fun v13 =>
  (wrF h11 n l0 10 1 (.int (v13 + 1))).bind fun h15 =>
  (rdI h15 n l0 10 1).bind fun v17 =>
  some (v17 - 1, h15)
set_option maxRecDepth 100000 in
set_option maxHeartbeats 4000000 in
theorem c_X11_firm {K : Nat} {G : mm_G} {l : Launch} {h : mm_H} {n : Nat} (l0 : Nat) (l1 : Int32) {r_ : Int32 × mm_H} (hn : 48 ≤ n) (hr : q_X11_firm K h n l0 l1 = some r_) : Sp G l yX11_firm cX11_firm 2 (some .int) 1 0 0 [.ref l0, .int l1] h n (fun v h' n' => v = some (.int r_.1) ∧ h' = r_.2 ∧ n' = n) := by
  refine Sp_of (by decide +kernel) (Nat.le_of_ble_eq_true rfl) hn ?_
  intro W0 hwl C
  subst hwl
  unfold q_X11_firm at hr
  show WW W0 G 2 0 0 _ 0 [some (.ref l0), some (.int l1)] [] h n 0 0
  refine rr_iload_n (i := 1) C dX11_firm_0 rfl rfl ?_
  refine rr_iconst (v := 0) C dX11_firm_1 (by decide) ?_
  refine rr_ldc C dX11_firm_2 ct_X11_175 ?_
  replace hr := Option.bind_eq_some_iff.mp hr
  obtain ⟨v1, e2, hr⟩ := hr
  refine rr_callS (as := [.int l1, .int 0, .int 999999]) (st := []) (mc' := 0) (ms' := 0) C dX11_firm_4 it_X11_165 (by decide) (Nat.le_of_ble_eq_true rfl) (c_X11_isIn l1 0 999999 (by omega) e2) (fun v_ h_ n_ q_ => ?_)
  obtain ⟨q1_, q2_, q3_⟩ := q_
  subst v_; subst h_; subst n_
  show WW W0 G 2 _ _ _ 7 [some (.ref l0), some (.int l1)] [.int v1] h n _ _
  refine rr_if_eq (tgt := 19) C dX11_firm_7 (by decide) (fun c7_ => ?_) (fun c7_ => ?_)
  · replace hr := (if_pos c7_).symm.trans hr
    refine rr_iconst (v := (-1)) C dX11_firm_19 (by decide) ?_
    obtain rfl := Option.some.inj hr
    exact rr_iret (ty := .int) C dX11_firm_20 rfl rfl ⟨rfl, rfl, rfl⟩
  · replace hr := (if_neg c7_).symm.trans hr
    refine rr_aload_n (i := 0) C dX11_firm_10 rfl rfl ?_
    replace hr := Option.bind_eq_some_iff.mp hr
    obtain ⟨v3, e4, hr⟩ := hr
    refine rr_rdI C dX11_firm_11 fl_X11_169 e4 ?_
    refine rr_bipush (v := 11) C dX11_firm_14 (by decide) ?_
    refine rr_icmp_ne (tgt := 21) C dX11_firm_16 (by decide) (fun c16_ => ?_) (fun c16_ => ?_)
    · replace hr := (if_neg c16_).symm.trans hr
      refine rr_aload_n (i := 0) C dX11_firm_21 rfl rfl ?_
      replace hr := Option.bind_eq_some_iff.mp hr
      obtain ⟨v5, e6, hr⟩ := hr
      refine rr_rdR C dX11_firm_22 fl_X11_16 e6 ?_
      refine rr_aload_n (i := 0) C dX11_firm_25 rfl rfl ?_
      replace hr := Option.bind_eq_some_iff.mp hr
      obtain ⟨v7, e8, hr⟩ := hr
      refine rr_rdI C dX11_firm_26 fl_X11_169 e8 ?_
      refine rr_iload_n (i := 1) C dX11_firm_29 rfl rfl ?_
      refine rr_i2l C dX11_firm_30 ?_
      replace hr := Option.bind_eq_some_iff.mp hr
      obtain ⟨a9, e10, hr⟩ := hr
      subst e10
      replace hr := Option.bind_eq_some_iff.mp hr
      obtain ⟨h11, e12, hr⟩ := hr
      refine rr_stJ C dX11_firm_31 e12 ?_
      refine rr_aload_n (i := 0) C dX11_firm_32 rfl rfl ?_
      refine rr_dup C dX11_firm_33 rfl ?_
      replace hr := Option.bind_eq_some_iff.mp hr
      obtain ⟨v13, e14, hr⟩ := hr
      refine rr_rdI C dX11_firm_34 fl_X11_169 e14 ?_
      refine rr_iconst (v := 1) C dX11_firm_37 (by decide) ?_
      refine rr_iadd C dX11_firm_38 ?_
      replace hr := Option.bind_eq_some_iff.mp hr
      obtain ⟨h15, e16, hr⟩ := hr
      refine rr_wrF C dX11_firm_39 fp_X11_169 rfl rfl e16 ?_
      refine rr_aload_n (i := 0) C dX11_firm_42 rfl rfl ?_
      replace hr := Option.bind_eq_some_iff.mp hr
      obtain ⟨v17, e18, hr⟩ := hr
      refine rr_rdI C dX11_firm_43 fl_X11_169 e18 ?_
      refine rr_iconst (v := 1) C dX11_firm_46 (by decide) ?_
      refine rr_isub C dX11_firm_47 ?_
      obtain rfl := Option.some.inj hr
      exact rr_iret (ty := .int) C dX11_firm_48 rfl rfl ⟨rfl, rfl, rfl⟩
    · replace hr := (if_pos c16_).symm.trans hr
      refine rr_iconst (v := (-1)) C dX11_firm_19 (by decide) ?_
      obtain rfl := Option.some.inj hr
      exact rr_iret (ty := .int) C dX11_firm_20 rfl rfl ⟨rfl, rfl, rfl⟩
def q_X11_keyOf (K : Nat) (h : mm_H) (n : Nat) (l0 : Int32) (l1 : Int32) (l2 : Int32) : Option (Int32) :=
  some ((17 * ((15 * l0) + l1)) + l2)
set_option maxRecDepth 100000 in
set_option maxHeartbeats 4000000 in
theorem c_X11_keyOf {K : Nat} {G : mm_G} {l : Launch} {h : mm_H} {n : Nat} (l0 : Int32) (l1 : Int32) (l2 : Int32) {r_ : Int32} (hn : 48 ≤ n) (hr : q_X11_keyOf K h n l0 l1 l2 = some r_) : Sp G l yX11_keyOf cX11_keyOf 3 (some .int) 0 0 0 [.int l0, .int l1, .int l2] h n (fun v h' n' => v = some (.int r_) ∧ h' = h ∧ n' = n) := by
  refine Sp_of (by decide +kernel) (Nat.le_of_ble_eq_true rfl) hn ?_
  intro W0 hwl C
  subst hwl
  unfold q_X11_keyOf at hr
  show WW W0 G 3 0 0 _ 0 [some (.int l0), some (.int l1), some (.int l2)] [] h n 0 0
  refine rr_bipush (v := 17) C dX11_keyOf_0 (by decide) ?_
  refine rr_bipush (v := 15) C dX11_keyOf_2 (by decide) ?_
  refine rr_iload_n (i := 0) C dX11_keyOf_4 rfl rfl ?_
  refine rr_imul C dX11_keyOf_5 ?_
  refine rr_iload_n (i := 1) C dX11_keyOf_6 rfl rfl ?_
  refine rr_iadd C dX11_keyOf_7 ?_
  refine rr_imul C dX11_keyOf_8 ?_
  refine rr_iload_n (i := 2) C dX11_keyOf_9 rfl rfl ?_
  refine rr_iadd C dX11_keyOf_10 ?_
  obtain rfl := Option.some.inj hr
  exact rr_iret (ty := .int) C dX11_keyOf_11 rfl rfl ⟨rfl, rfl, rfl⟩
def q_X11_mostOf (K : Nat) (h : mm_H) (n : Nat) (l0 : Int32) : Option (Int32) :=
  if 3 ≤ l0 then
    if 11 ≤ l0 then
      some 9999
    else
    some 99999
  else
  some 999
set_option maxRecDepth 100000 in
set_option maxHeartbeats 4000000 in
theorem c_X11_mostOf {K : Nat} {G : mm_G} {l : Launch} {h : mm_H} {n : Nat} (l0 : Int32) {r_ : Int32} (hn : 48 ≤ n) (hr : q_X11_mostOf K h n l0 = some r_) : Sp G l yX11_mostOf cX11_mostOf 1 (some .int) 0 0 0 [.int l0] h n (fun v h' n' => v = some (.int r_) ∧ h' = h ∧ n' = n) := by
  refine Sp_of (by decide +kernel) (Nat.le_of_ble_eq_true rfl) hn ?_
  intro W0 hwl C
  subst hwl
  unfold q_X11_mostOf at hr
  show WW W0 G 1 0 0 _ 0 [some (.int l0)] [] h n 0 0
  refine rr_iload_n (i := 0) C dX11_mostOf_0 rfl rfl ?_
  refine rr_iconst (v := 3) C dX11_mostOf_1 (by decide) ?_
  refine rr_icmp_ge (tgt := 11) C dX11_mostOf_2 (by decide) (fun c2_ => ?_) (fun c2_ => ?_)
  · replace hr := (if_pos c2_).symm.trans hr
    refine rr_iload_n (i := 0) C dX11_mostOf_11 rfl rfl ?_
    refine rr_bipush (v := 11) C dX11_mostOf_12 (by decide) ?_
    refine rr_icmp_ge (tgt := 22) C dX11_mostOf_14 (by decide) (fun c14_ => ?_) (fun c14_ => ?_)
    · replace hr := (if_pos c14_).symm.trans hr
      refine rr_sipush (v := 9999) C dX11_mostOf_22 (by decide) ?_
      obtain rfl := Option.some.inj hr
      exact rr_iret (ty := .int) C dX11_mostOf_25 rfl rfl ⟨rfl, rfl, rfl⟩
    · replace hr := (if_neg c14_).symm.trans hr
      refine rr_ldc C dX11_mostOf_17 ct_X11_176 ?_
      refine rr_goto (tgt := 25) C dX11_mostOf_19 (by decide) ?_
      obtain rfl := Option.some.inj hr
      exact rr_iret (ty := .int) C dX11_mostOf_25 rfl rfl ⟨rfl, rfl, rfl⟩
  · replace hr := (if_neg c2_).symm.trans hr
    refine rr_sipush (v := 999) C dX11_mostOf_5 (by decide) ?_
    refine rr_goto (tgt := 25) C dX11_mostOf_8 (by decide) ?_
    obtain rfl := Option.some.inj hr
    exact rr_iret (ty := .int) C dX11_mostOf_25 rfl rfl ⟨rfl, rfl, rfl⟩
def q_X11_fact (K : Nat) (h : mm_H) (n : Nat) (l0 : Nat) (l1 : Int32) (l2 : Int32) (l3 : Int32) (l4 : Int32) : Option (Int32 × mm_H) :=
  (ckq h n l0 10).bind fun u1 =>
  (q_X11_isFirm K h n l0 l1).bind fun v3 =>
  if v3 = 0 then
    some ((-1), h)
  else
  (q_X11_isYear K h n l2).bind fun v5 =>
  if v5 = 0 then
    some ((-1), h)
  else
  (q_X11_isIn K h n l3 0 16).bind fun v7 =>
  if v7 = 0 then
    some ((-1), h)
  else
  (q_X11_mostOf K h n l3).bind fun v9 =>
  (q_X11_isIn K h n l4 0 v9).bind fun v11 =>
  if v11 = 0 then
    some ((-1), h)
  else
  (rdI h n l0 10 2).bind fun v13 =>
  if v13 = 500 then
    some ((-1), h)
  else
  (rdR h n l0 10 3).bind fun v15 =>
  (rdI h n l0 10 2).bind fun v17 =>
  v15.bind fun a19 =>
  (stI h n a19 v17 l4).bind fun h21 =>
  (rdR h21 n l0 10 4).bind fun v23 =>
  (rdI h21 n l0 10 2).bind fun v25 =>
  (rdI h21 n l0 10 0).bind fun v27 =>
  v23.bind fun a29 =>
  (stI h21 n a29 v25 v27).bind fun h31 =>
  (rdR h31 n l0 10 7).bind fun v33 =>
  (rdI h31 n l0 10 2).bind fun v35 =>
  (rdR h31 n l0 10 6).bind fun v37 =>
  (q_X11_keyOf K h31 n l1 l2 l3).bind fun v39 =>
  v37.bind fun a41 =>
  (ldI h31 n a41 v39).bind fun v43 =>
  v33.bind fun a45 =>
  (stI h31 n a45 v35 v43).bind fun h47 =>
  (rdR h47 n l0 10 6).bind fun v49 =>
  (q_X11_keyOf K h47 n l1 l2 l3).bind fun v51 =>
  (rdI h47 n l0 10 2).bind fun v53 =>
  v49.bind fun a55 =>
  (stI h47 n a55 v51 v53).bind fun h57 =>
  (rdI h57 n l0 10 2).bind fun v59 =>
  (wrF h57 n l0 10 2 (.int (v59 + 1))).bind fun h61 =>
  (rdI h61 n l0 10 2).bind fun v63 =>
  some (v63 - 1, h61)
set_option maxRecDepth 100000 in
set_option maxHeartbeats 4000000 in
theorem c_X11_fact {K : Nat} {G : mm_G} {l : Launch} {h : mm_H} {n : Nat} (l0 : Nat) (l1 : Int32) (l2 : Int32) (l3 : Int32) (l4 : Int32) {r_ : Int32 × mm_H} (hn : 48 ≤ n) (hr : q_X11_fact K h n l0 l1 l2 l3 l4 = some r_) : Sp G l yX11_fact cX11_fact 5 (some .int) 2 0 0 [.ref l0, .int l1, .int l2, .int l3, .int l4] h n (fun v h' n' => v = some (.int r_.1) ∧ h' = r_.2 ∧ n' = n) := by
  refine Sp_of (by decide +kernel) (Nat.le_of_ble_eq_true rfl) hn ?_
  intro W0 hwl C
  subst hwl
  unfold q_X11_fact at hr
  show WW W0 G 5 0 0 _ 0 [some (.ref l0), some (.int l1), some (.int l2), some (.int l3), some (.int l4)] [] h n 0 0
  refine rr_aload_n (i := 0) C dX11_fact_0 rfl rfl ?_
  refine rr_iload_n (i := 1) C dX11_fact_1 rfl rfl ?_
  replace hr := Option.bind_eq_some_iff.mp hr
  obtain ⟨u1, e2, hr⟩ := hr
  replace hr := Option.bind_eq_some_iff.mp hr
  obtain ⟨v3, e4, hr⟩ := hr
  refine rr_callVq (as := [.int l1]) (st := []) (mc' := 0) (ms' := 0) C dX11_fact_2 iv_X11_177 (by decide) e2 rfl (Nat.le_of_ble_eq_true rfl) (c_X11_isFirm l0 l1 (by omega) e4) (fun v_ h_ n_ q_ => ?_)
  obtain ⟨q1_, q2_, q3_⟩ := q_
  subst v_; subst h_; subst n_
  show WW W0 G 5 _ _ _ 5 [some (.ref l0), some (.int l1), some (.int l2), some (.int l3), some (.int l4)] [.int v3] h n _ _
  refine rr_if_eq (tgt := 48) C dX11_fact_5 (by decide) (fun c5_ => ?_) (fun c5_ => ?_)
  · replace hr := (if_pos c5_).symm.trans hr
    refine rr_iconst (v := (-1)) C dX11_fact_48 (by decide) ?_
    obtain rfl := Option.some.inj hr
    exact rr_iret (ty := .int) C dX11_fact_49 rfl rfl ⟨rfl, rfl, rfl⟩
  · replace hr := (if_neg c5_).symm.trans hr
    refine rr_iload_n (i := 2) C dX11_fact_8 rfl rfl ?_
    replace hr := Option.bind_eq_some_iff.mp hr
    obtain ⟨v5, e6, hr⟩ := hr
    refine rr_callS (as := [.int l2]) (st := []) (mc' := 0) (ms' := 0) C dX11_fact_9 it_X11_181 (by decide) (Nat.le_of_ble_eq_true rfl) (c_X11_isYear l2 (by omega) e6) (fun v_ h_ n_ q_ => ?_)
    obtain ⟨q1_, q2_, q3_⟩ := q_
    subst v_; subst h_; subst n_
    show WW W0 G 5 _ _ _ 12 [some (.ref l0), some (.int l1), some (.int l2), some (.int l3), some (.int l4)] [.int v5] h n _ _
    refine rr_if_eq (tgt := 48) C dX11_fact_12 (by decide) (fun c12_ => ?_) (fun c12_ => ?_)
    · replace hr := (if_pos c12_).symm.trans hr
      refine rr_iconst (v := (-1)) C dX11_fact_48 (by decide) ?_
      obtain rfl := Option.some.inj hr
      exact rr_iret (ty := .int) C dX11_fact_49 rfl rfl ⟨rfl, rfl, rfl⟩
    · replace hr := (if_neg c12_).symm.trans hr
      refine rr_iload_n (i := 3) C dX11_fact_15 rfl rfl ?_
      refine rr_iconst (v := 0) C dX11_fact_16 (by decide) ?_
      refine rr_bipush (v := 16) C dX11_fact_17 (by decide) ?_
      replace hr := Option.bind_eq_some_iff.mp hr
      obtain ⟨v7, e8, hr⟩ := hr
      refine rr_callS (as := [.int l3, .int 0, .int 16]) (st := []) (mc' := 0) (ms' := 0) C dX11_fact_19 it_X11_165 (by decide) (Nat.le_of_ble_eq_true rfl) (c_X11_isIn l3 0 16 (by omega) e8) (fun v_ h_ n_ q_ => ?_)
      obtain ⟨q1_, q2_, q3_⟩ := q_
      subst v_; subst h_; subst n_
      show WW W0 G 5 _ _ _ 22 [some (.ref l0), some (.int l1), some (.int l2), some (.int l3), some (.int l4)] [.int v7] h n _ _
      refine rr_if_eq (tgt := 48) C dX11_fact_22 (by decide) (fun c22_ => ?_) (fun c22_ => ?_)
      · replace hr := (if_pos c22_).symm.trans hr
        refine rr_iconst (v := (-1)) C dX11_fact_48 (by decide) ?_
        obtain rfl := Option.some.inj hr
        exact rr_iret (ty := .int) C dX11_fact_49 rfl rfl ⟨rfl, rfl, rfl⟩
      · replace hr := (if_neg c22_).symm.trans hr
        refine rr_iload C dX11_fact_25 rfl ?_
        refine rr_iconst (v := 0) C dX11_fact_27 (by decide) ?_
        refine rr_iload_n (i := 3) C dX11_fact_28 rfl rfl ?_
        replace hr := Option.bind_eq_some_iff.mp hr
        obtain ⟨v9, e10, hr⟩ := hr
        refine rr_callS (as := [.int l3]) (st := [.int 0, .int l4]) (mc' := 0) (ms' := 0) C dX11_fact_29 it_X11_184 (by decide) (Nat.le_of_ble_eq_true rfl) (c_X11_mostOf l3 (by omega) e10) (fun v_ h_ n_ q_ => ?_)
        obtain ⟨q1_, q2_, q3_⟩ := q_
        subst v_; subst h_; subst n_
        show WW W0 G 5 _ _ _ 32 [some (.ref l0), some (.int l1), some (.int l2), some (.int l3), some (.int l4)] [.int v9, .int 0, .int l4] h n _ _
        replace hr := Option.bind_eq_some_iff.mp hr
        obtain ⟨v11, e12, hr⟩ := hr
        refine rr_callS (as := [.int l4, .int 0, .int v9]) (st := []) (mc' := 0) (ms' := 0) C dX11_fact_32 it_X11_165 (by decide) (Nat.le_of_ble_eq_true rfl) (c_X11_isIn l4 0 v9 (by omega) e12) (fun v_ h_ n_ q_ => ?_)
        obtain ⟨q1_, q2_, q3_⟩ := q_
        subst v_; subst h_; subst n_
        show WW W0 G 5 _ _ _ 35 [some (.ref l0), some (.int l1), some (.int l2), some (.int l3), some (.int l4)] [.int v11] h n _ _
        refine rr_if_eq (tgt := 48) C dX11_fact_35 (by decide) (fun c35_ => ?_) (fun c35_ => ?_)
        · replace hr := (if_pos c35_).symm.trans hr
          refine rr_iconst (v := (-1)) C dX11_fact_48 (by decide) ?_
          obtain rfl := Option.some.inj hr
          exact rr_iret (ty := .int) C dX11_fact_49 rfl rfl ⟨rfl, rfl, rfl⟩
        · replace hr := (if_neg c35_).symm.trans hr
          refine rr_aload_n (i := 0) C dX11_fact_38 rfl rfl ?_
          replace hr := Option.bind_eq_some_iff.mp hr
          obtain ⟨v13, e14, hr⟩ := hr
          refine rr_rdI C dX11_fact_39 fl_X11_188 e14 ?_
          refine rr_sipush (v := 500) C dX11_fact_42 (by decide) ?_
          refine rr_icmp_ne (tgt := 50) C dX11_fact_45 (by decide) (fun c45_ => ?_) (fun c45_ => ?_)
          · replace hr := (if_neg c45_).symm.trans hr
            refine rr_aload_n (i := 0) C dX11_fact_50 rfl rfl ?_
            replace hr := Option.bind_eq_some_iff.mp hr
            obtain ⟨v15, e16, hr⟩ := hr
            refine rr_rdR C dX11_fact_51 fl_X11_9 e16 ?_
            refine rr_aload_n (i := 0) C dX11_fact_54 rfl rfl ?_
            replace hr := Option.bind_eq_some_iff.mp hr
            obtain ⟨v17, e18, hr⟩ := hr
            refine rr_rdI C dX11_fact_55 fl_X11_188 e18 ?_
            refine rr_iload C dX11_fact_58 rfl ?_
            replace hr := Option.bind_eq_some_iff.mp hr
            obtain ⟨a19, e20, hr⟩ := hr
            subst e20
            replace hr := Option.bind_eq_some_iff.mp hr
            obtain ⟨h21, e22, hr⟩ := hr
            refine rr_stI C dX11_fact_60 e22 ?_
            refine rr_aload_n (i := 0) C dX11_fact_61 rfl rfl ?_
            replace hr := Option.bind_eq_some_iff.mp hr
            obtain ⟨v23, e24, hr⟩ := hr
            refine rr_rdR C dX11_fact_62 fl_X11_13 e24 ?_
            refine rr_aload_n (i := 0) C dX11_fact_65 rfl rfl ?_
            replace hr := Option.bind_eq_some_iff.mp hr
            obtain ⟨v25, e26, hr⟩ := hr
            refine rr_rdI C dX11_fact_66 fl_X11_188 e26 ?_
            refine rr_aload_n (i := 0) C dX11_fact_69 rfl rfl ?_
            replace hr := Option.bind_eq_some_iff.mp hr
            obtain ⟨v27, e28, hr⟩ := hr
            refine rr_rdI C dX11_fact_70 fl_X11_172 e28 ?_
            replace hr := Option.bind_eq_some_iff.mp hr
            obtain ⟨a29, e30, hr⟩ := hr
            subst e30
            replace hr := Option.bind_eq_some_iff.mp hr
            obtain ⟨h31, e32, hr⟩ := hr
            refine rr_stI C dX11_fact_73 e32 ?_
            refine rr_aload_n (i := 0) C dX11_fact_74 rfl rfl ?_
            replace hr := Option.bind_eq_some_iff.mp hr
            obtain ⟨v33, e34, hr⟩ := hr
            refine rr_rdR C dX11_fact_75 fl_X11_23 e34 ?_
            refine rr_aload_n (i := 0) C dX11_fact_78 rfl rfl ?_
            replace hr := Option.bind_eq_some_iff.mp hr
            obtain ⟨v35, e36, hr⟩ := hr
            refine rr_rdI C dX11_fact_79 fl_X11_188 e36 ?_
            refine rr_aload_n (i := 0) C dX11_fact_82 rfl rfl ?_
            replace hr := Option.bind_eq_some_iff.mp hr
            obtain ⟨v37, e38, hr⟩ := hr
            refine rr_rdR C dX11_fact_83 fl_X11_20 e38 ?_
            refine rr_iload_n (i := 1) C dX11_fact_86 rfl rfl ?_
            refine rr_iload_n (i := 2) C dX11_fact_87 rfl rfl ?_
            refine rr_iload_n (i := 3) C dX11_fact_88 rfl rfl ?_
            replace hr := Option.bind_eq_some_iff.mp hr
            obtain ⟨v39, e40, hr⟩ := hr
            refine rr_callS (as := [.int l1, .int l2, .int l3]) (st := [va_rf v37, .int v35, va_rf v33]) (mc' := 0) (ms' := 0) C dX11_fact_89 it_X11_191 (by decide) (by rcases v33 with _ | _ <;> rcases v37 with _ | _ <;> exact Nat.le_of_ble_eq_true rfl) (c_X11_keyOf l1 l2 l3 (by omega) e40) (fun v_ h_ n_ q_ => ?_)
            obtain ⟨q1_, q2_, q3_⟩ := q_
            subst v_; subst h_; subst n_
            show WW W0 G 5 _ _ _ 92 [some (.ref l0), some (.int l1), some (.int l2), some (.int l3), some (.int l4)] [.int v39, va_rf v37, .int v35, va_rf v33] h31 n _ _
            replace hr := Option.bind_eq_some_iff.mp hr
            obtain ⟨a41, e42, hr⟩ := hr
            subst e42
            replace hr := Option.bind_eq_some_iff.mp hr
            obtain ⟨v43, e44, hr⟩ := hr
            refine rr_ldI C dX11_fact_92 e44 ?_
            replace hr := Option.bind_eq_some_iff.mp hr
            obtain ⟨a45, e46, hr⟩ := hr
            subst e46
            replace hr := Option.bind_eq_some_iff.mp hr
            obtain ⟨h47, e48, hr⟩ := hr
            refine rr_stI C dX11_fact_93 e48 ?_
            refine rr_aload_n (i := 0) C dX11_fact_94 rfl rfl ?_
            replace hr := Option.bind_eq_some_iff.mp hr
            obtain ⟨v49, e50, hr⟩ := hr
            refine rr_rdR C dX11_fact_95 fl_X11_20 e50 ?_
            refine rr_iload_n (i := 1) C dX11_fact_98 rfl rfl ?_
            refine rr_iload_n (i := 2) C dX11_fact_99 rfl rfl ?_
            refine rr_iload_n (i := 3) C dX11_fact_100 rfl rfl ?_
            replace hr := Option.bind_eq_some_iff.mp hr
            obtain ⟨v51, e52, hr⟩ := hr
            refine rr_callS (as := [.int l1, .int l2, .int l3]) (st := [va_rf v49]) (mc' := 0) (ms' := 0) C dX11_fact_101 it_X11_191 (by decide) (by rcases v49 with _ | _ <;> exact Nat.le_of_ble_eq_true rfl) (c_X11_keyOf l1 l2 l3 (by omega) e52) (fun v_ h_ n_ q_ => ?_)
            obtain ⟨q1_, q2_, q3_⟩ := q_
            subst v_; subst h_; subst n_
            show WW W0 G 5 _ _ _ 104 [some (.ref l0), some (.int l1), some (.int l2), some (.int l3), some (.int l4)] [.int v51, va_rf v49] h47 n _ _
            refine rr_aload_n (i := 0) C dX11_fact_104 rfl rfl ?_
            replace hr := Option.bind_eq_some_iff.mp hr
            obtain ⟨v53, e54, hr⟩ := hr
            refine rr_rdI C dX11_fact_105 fl_X11_188 e54 ?_
            replace hr := Option.bind_eq_some_iff.mp hr
            obtain ⟨a55, e56, hr⟩ := hr
            subst e56
            replace hr := Option.bind_eq_some_iff.mp hr
            obtain ⟨h57, e58, hr⟩ := hr
            refine rr_stI C dX11_fact_108 e58 ?_
            refine rr_aload_n (i := 0) C dX11_fact_109 rfl rfl ?_
            refine rr_dup C dX11_fact_110 rfl ?_
            replace hr := Option.bind_eq_some_iff.mp hr
            obtain ⟨v59, e60, hr⟩ := hr
            refine rr_rdI C dX11_fact_111 fl_X11_188 e60 ?_
            refine rr_iconst (v := 1) C dX11_fact_114 (by decide) ?_
            refine rr_iadd C dX11_fact_115 ?_
            replace hr := Option.bind_eq_some_iff.mp hr
            obtain ⟨h61, e62, hr⟩ := hr
            refine rr_wrF C dX11_fact_116 fp_X11_188 rfl rfl e62 ?_
            refine rr_aload_n (i := 0) C dX11_fact_119 rfl rfl ?_
            replace hr := Option.bind_eq_some_iff.mp hr
            obtain ⟨v63, e64, hr⟩ := hr
            refine rr_rdI C dX11_fact_120 fl_X11_188 e64 ?_
            refine rr_iconst (v := 1) C dX11_fact_123 (by decide) ?_
            refine rr_isub C dX11_fact_124 ?_
            obtain rfl := Option.some.inj hr
            exact rr_iret (ty := .int) C dX11_fact_125 rfl rfl ⟨rfl, rfl, rfl⟩
          · replace hr := (if_pos c45_).symm.trans hr
            refine rr_iconst (v := (-1)) C dX11_fact_48 (by decide) ?_
            obtain rfl := Option.some.inj hr
            exact rr_iret (ty := .int) C dX11_fact_49 rfl rfl ⟨rfl, rfl, rfl⟩
def lp_X11_factBy_13 (K : Nat) (h : mm_H) (n : Nat) (l0 : Nat) (l4 : Int32) : Nat → Int32 → Option (Int32)
  | 0, _ => none
  | k_ + 1, l5 =>
    if l5 = (-1) then
      some (l5)
    else
    (rdR h n l0 10 4).bind fun v9 =>
    v9.bind fun a11 =>
    (ldI h n a11 l5).bind fun v13 =>
    if v13 ≤ l4 then
      some (l5)
    else
    (rdR h n l0 10 7).bind fun v15 =>
    v15.bind fun a17 =>
    (ldI h n a17 l5).bind fun v19 =>
    lp_X11_factBy_13 K h n l0 l4 k_ v19
def q_X11_factBy (K : Nat) (h : mm_H) (n : Nat) (l0 : Nat) (l1 : Int32) (l2 : Int32) (l3 : Int32) (l4 : Int32) : Option (Int32) :=
  (rdR h n l0 10 6).bind fun v1 =>
  (q_X11_keyOf K h n l1 l2 l3).bind fun v3 =>
  v1.bind fun a5 =>
  (ldI h n a5 v3).bind fun v7 =>
  (lp_X11_factBy_13 K h n l0 l4 K v7).bind fun v21 =>
  if v21 = (-1) then
    some (-1)
  else
  (rdR h n l0 10 3).bind fun v23 =>
  v23.bind fun a25 =>
  (ldI h n a25 v21).bind fun v27 =>
  some v27
set_option maxRecDepth 100000 in
set_option maxHeartbeats 4000000 in
theorem w_X11_factBy_13 {K : Nat} {W0 : mm_X} {G : mm_G} {mc ms kc ks : Nat} {Q_ : State → Prop} {h : mm_H} {n : Nat} (C : mm_C W0 G cX11_factBy yX11_factBy.cls 6 mc ms (some .int) 1 yX11_factBy.name) (hn : 48 ≤ n) (l0 : Nat) (l4 : Int32) : ∀ (k_ : Nat) (l5 : Int32) {r_ : Int32} (hr : lp_X11_factBy_13 K h n l0 l4 k_ l5 = some r_) (hx0 : WW W0 G 6 mc ms Q_ 43 [some (.ref l0), none, none, none, none, some (.int r_)] [] h n kc ks), WW W0 G 6 mc ms Q_ 13 [some (.ref l0), none, none, none, some (.int l4), some (.int l5)] [] h n kc ks := by
  intro k_
  induction k_ with
  | zero =>
    intro l5 r_ hr
    cases hr
  | succ k_ ih_ =>
    intro l5 r_ hr hx0
    unfold lp_X11_factBy_13 at hr
    refine rr_iload C dX11_factBy_13 rfl ?_
    refine rr_iconst (v := (-1)) C dX11_factBy_15 (by decide) ?_
    refine rr_icmp_eq (tgt := 43) C dX11_factBy_16 (by decide) (fun c16_ => ?_) (fun c16_ => ?_)
    · replace hr := (if_pos c16_).symm.trans hr
      obtain rfl := Option.some.inj hr
      exact rr_keep [true, false, false, false, false, true] (hx0)
    · replace hr := (if_neg c16_).symm.trans hr
      refine rr_aload_n (i := 0) C dX11_factBy_19 rfl rfl ?_
      replace hr := Option.bind_eq_some_iff.mp hr
      obtain ⟨v9, e10, hr⟩ := hr
      refine rr_rdR C dX11_factBy_20 fl_X11_13 e10 ?_
      refine rr_iload C dX11_factBy_23 rfl ?_
      replace hr := Option.bind_eq_some_iff.mp hr
      obtain ⟨a11, e12, hr⟩ := hr
      subst e12
      replace hr := Option.bind_eq_some_iff.mp hr
      obtain ⟨v13, e14, hr⟩ := hr
      refine rr_ldI C dX11_factBy_25 e14 ?_
      refine rr_iload C dX11_factBy_26 rfl ?_
      refine rr_icmp_le (tgt := 43) C dX11_factBy_28 (by decide) (fun c28_ => ?_) (fun c28_ => ?_)
      · replace hr := (if_pos c28_).symm.trans hr
        obtain rfl := Option.some.inj hr
        exact rr_keep [true, false, false, false, false, true] (hx0)
      · replace hr := (if_neg c28_).symm.trans hr
        refine rr_aload_n (i := 0) C dX11_factBy_31 rfl rfl ?_
        replace hr := Option.bind_eq_some_iff.mp hr
        obtain ⟨v15, e16, hr⟩ := hr
        refine rr_rdR C dX11_factBy_32 fl_X11_23 e16 ?_
        refine rr_iload C dX11_factBy_35 rfl ?_
        replace hr := Option.bind_eq_some_iff.mp hr
        obtain ⟨a17, e18, hr⟩ := hr
        subst e18
        replace hr := Option.bind_eq_some_iff.mp hr
        obtain ⟨v19, e20, hr⟩ := hr
        refine rr_ldI C dX11_factBy_37 e20 ?_
        refine rr_istore C dX11_factBy_38 (by decide) ?_
        show WW W0 G 6 _ _ _ 40 [some (.ref l0), none, none, none, some (.int l4), some (.int v19)] [] h n _ _
        refine rr_goto (tgt := 13) C dX11_factBy_40 (by decide) ?_
        exact rr_keep [true, false, false, false, true, true] (ih_ _ hr hx0)
set_option maxRecDepth 100000 in
set_option maxHeartbeats 4000000 in
theorem c_X11_factBy {K : Nat} {G : mm_G} {l : Launch} {h : mm_H} {n : Nat} (l0 : Nat) (l1 : Int32) (l2 : Int32) (l3 : Int32) (l4 : Int32) {r_ : Int32} (hn : 48 ≤ n) (hr : q_X11_factBy K h n l0 l1 l2 l3 l4 = some r_) : Sp G l yX11_factBy cX11_factBy 6 (some .int) 1 0 0 [.ref l0, .int l1, .int l2, .int l3, .int l4] h n (fun v h' n' => v = some (.int r_) ∧ h' = h ∧ n' = n) := by
  refine Sp_of (by decide +kernel) (Nat.le_of_ble_eq_true rfl) hn ?_
  intro W0 hwl C
  subst hwl
  unfold q_X11_factBy at hr
  show WW W0 G 6 0 0 _ 0 [some (.ref l0), some (.int l1), some (.int l2), some (.int l3), some (.int l4), none] [] h n 0 0
  refine rr_aload_n (i := 0) C dX11_factBy_0 rfl rfl ?_
  replace hr := Option.bind_eq_some_iff.mp hr
  obtain ⟨v1, e2, hr⟩ := hr
  refine rr_rdR C dX11_factBy_1 fl_X11_20 e2 ?_
  refine rr_iload_n (i := 1) C dX11_factBy_4 rfl rfl ?_
  refine rr_iload_n (i := 2) C dX11_factBy_5 rfl rfl ?_
  refine rr_iload_n (i := 3) C dX11_factBy_6 rfl rfl ?_
  replace hr := Option.bind_eq_some_iff.mp hr
  obtain ⟨v3, e4, hr⟩ := hr
  refine rr_callS (as := [.int l1, .int l2, .int l3]) (st := [va_rf v1]) (mc' := 0) (ms' := 0) C dX11_factBy_7 it_X11_191 (by decide) (by rcases v1 with _ | _ <;> exact Nat.le_of_ble_eq_true rfl) (c_X11_keyOf l1 l2 l3 (by omega) e4) (fun v_ h_ n_ q_ => ?_)
  obtain ⟨q1_, q2_, q3_⟩ := q_
  subst v_; subst h_; subst n_
  show WW W0 G 6 _ _ _ 10 [some (.ref l0), some (.int l1), some (.int l2), some (.int l3), some (.int l4), none] [.int v3, va_rf v1] h n _ _
  replace hr := Option.bind_eq_some_iff.mp hr
  obtain ⟨a5, e6, hr⟩ := hr
  subst e6
  replace hr := Option.bind_eq_some_iff.mp hr
  obtain ⟨v7, e8, hr⟩ := hr
  refine rr_ldI C dX11_factBy_10 e8 ?_
  refine rr_istore C dX11_factBy_11 (by decide) ?_
  show WW W0 G 6 _ _ _ 13 [some (.ref l0), some (.int l1), some (.int l2), some (.int l3), some (.int l4), some (.int v7)] [] h n _ _
  replace hr := Option.bind_eq_some_iff.mp hr
  obtain ⟨v21, e22, hr⟩ := hr
  refine rr_keep [true, false, false, false, true, true] (w_X11_factBy_13 C (by omega) l0 l4 K v7 e22 ?_)
  show WW W0 G 6 _ _ _ 43 [some (.ref l0), none, none, none, none, some (.int v21)] [] h n _ _
  refine rr_iload C dX11_factBy_43 rfl ?_
  refine rr_iconst (v := (-1)) C dX11_factBy_45 (by decide) ?_
  refine rr_icmp_ne (tgt := 53) C dX11_factBy_46 (by decide) (fun c46_ => ?_) (fun c46_ => ?_)
  · replace hr := (if_neg c46_).symm.trans hr
    refine rr_aload_n (i := 0) C dX11_factBy_53 rfl rfl ?_
    replace hr := Option.bind_eq_some_iff.mp hr
    obtain ⟨v23, e24, hr⟩ := hr
    refine rr_rdR C dX11_factBy_54 fl_X11_9 e24 ?_
    refine rr_iload C dX11_factBy_57 rfl ?_
    replace hr := Option.bind_eq_some_iff.mp hr
    obtain ⟨a25, e26, hr⟩ := hr
    subst e26
    replace hr := Option.bind_eq_some_iff.mp hr
    obtain ⟨v27, e28, hr⟩ := hr
    refine rr_ldI C dX11_factBy_59 e28 ?_
    obtain rfl := Option.some.inj hr
    exact rr_iret (ty := .int) C dX11_factBy_60 rfl rfl ⟨rfl, rfl, rfl⟩
  · replace hr := (if_pos c46_).symm.trans hr
    refine rr_iconst (v := (-1)) C dX11_factBy_49 (by decide) ?_
    refine rr_goto (tgt := 60) C dX11_factBy_50 (by decide) ?_
    obtain rfl := Option.some.inj hr
    exact rr_iret (ty := .int) C dX11_factBy_60 rfl rfl ⟨rfl, rfl, rfl⟩
def q_X11_known (K : Nat) (h : mm_H) (n : Nat) (l0 : Nat) (l1 : Int32) (l2 : Int32) (l3 : Int32) (l4 : Int32) : Option (Int32) :=
  (ckq h n l0 10).bind fun u1 =>
  (q_X11_isFirm K h n l0 l1).bind fun v3 =>
  if v3 = 0 then
    some (-1)
  else
  (q_X11_isYear K h n l2).bind fun v5 =>
  if v5 = 0 then
    some (-1)
  else
  (q_X11_isIn K h n l3 0 16).bind fun v7 =>
  if v7 = 0 then
    some (-1)
  else
  (q_X11_isDay K h n l4).bind fun v9 =>
  if v9 = 0 then
    some (-1)
  else
  (ckq h n l0 10).bind fun u11 =>
  (q_X11_factBy K h n l0 l1 l2 l3 l4).bind fun v13 =>
  some v13
set_option maxRecDepth 100000 in
set_option maxHeartbeats 4000000 in
theorem c_X11_known {K : Nat} {G : mm_G} {l : Launch} {h : mm_H} {n : Nat} (l0 : Nat) (l1 : Int32) (l2 : Int32) (l3 : Int32) (l4 : Int32) {r_ : Int32} (hn : 48 ≤ n) (hr : q_X11_known K h n l0 l1 l2 l3 l4 = some r_) : Sp G l yX11_known cX11_known 5 (some .int) 2 0 0 [.ref l0, .int l1, .int l2, .int l3, .int l4] h n (fun v h' n' => v = some (.int r_) ∧ h' = h ∧ n' = n) := by
  refine Sp_of (by decide +kernel) (Nat.le_of_ble_eq_true rfl) hn ?_
  intro W0 hwl C
  subst hwl
  unfold q_X11_known at hr
  show WW W0 G 5 0 0 _ 0 [some (.ref l0), some (.int l1), some (.int l2), some (.int l3), some (.int l4)] [] h n 0 0
  refine rr_aload_n (i := 0) C dX11_known_0 rfl rfl ?_
  refine rr_iload_n (i := 1) C dX11_known_1 rfl rfl ?_
  replace hr := Option.bind_eq_some_iff.mp hr
  obtain ⟨u1, e2, hr⟩ := hr
  replace hr := Option.bind_eq_some_iff.mp hr
  obtain ⟨v3, e4, hr⟩ := hr
  refine rr_callVq (as := [.int l1]) (st := []) (mc' := 0) (ms' := 0) C dX11_known_2 iv_X11_177 (by decide) e2 rfl (Nat.le_of_ble_eq_true rfl) (c_X11_isFirm l0 l1 (by omega) e4) (fun v_ h_ n_ q_ => ?_)
  obtain ⟨q1_, q2_, q3_⟩ := q_
  subst v_; subst h_; subst n_
  show WW W0 G 5 _ _ _ 5 [some (.ref l0), some (.int l1), some (.int l2), some (.int l3), some (.int l4)] [.int v3] h n _ _
  refine rr_if_eq (tgt := 45) C dX11_known_5 (by decide) (fun c5_ => ?_) (fun c5_ => ?_)
  · replace hr := (if_pos c5_).symm.trans hr
    refine rr_iconst (v := (-1)) C dX11_known_45 (by decide) ?_
    obtain rfl := Option.some.inj hr
    exact rr_iret (ty := .int) C dX11_known_46 rfl rfl ⟨rfl, rfl, rfl⟩
  · replace hr := (if_neg c5_).symm.trans hr
    refine rr_iload_n (i := 2) C dX11_known_8 rfl rfl ?_
    replace hr := Option.bind_eq_some_iff.mp hr
    obtain ⟨v5, e6, hr⟩ := hr
    refine rr_callS (as := [.int l2]) (st := []) (mc' := 0) (ms' := 0) C dX11_known_9 it_X11_181 (by decide) (Nat.le_of_ble_eq_true rfl) (c_X11_isYear l2 (by omega) e6) (fun v_ h_ n_ q_ => ?_)
    obtain ⟨q1_, q2_, q3_⟩ := q_
    subst v_; subst h_; subst n_
    show WW W0 G 5 _ _ _ 12 [some (.ref l0), some (.int l1), some (.int l2), some (.int l3), some (.int l4)] [.int v5] h n _ _
    refine rr_if_eq (tgt := 45) C dX11_known_12 (by decide) (fun c12_ => ?_) (fun c12_ => ?_)
    · replace hr := (if_pos c12_).symm.trans hr
      refine rr_iconst (v := (-1)) C dX11_known_45 (by decide) ?_
      obtain rfl := Option.some.inj hr
      exact rr_iret (ty := .int) C dX11_known_46 rfl rfl ⟨rfl, rfl, rfl⟩
    · replace hr := (if_neg c12_).symm.trans hr
      refine rr_iload_n (i := 3) C dX11_known_15 rfl rfl ?_
      refine rr_iconst (v := 0) C dX11_known_16 (by decide) ?_
      refine rr_bipush (v := 16) C dX11_known_17 (by decide) ?_
      replace hr := Option.bind_eq_some_iff.mp hr
      obtain ⟨v7, e8, hr⟩ := hr
      refine rr_callS (as := [.int l3, .int 0, .int 16]) (st := []) (mc' := 0) (ms' := 0) C dX11_known_19 it_X11_165 (by decide) (Nat.le_of_ble_eq_true rfl) (c_X11_isIn l3 0 16 (by omega) e8) (fun v_ h_ n_ q_ => ?_)
      obtain ⟨q1_, q2_, q3_⟩ := q_
      subst v_; subst h_; subst n_
      show WW W0 G 5 _ _ _ 22 [some (.ref l0), some (.int l1), some (.int l2), some (.int l3), some (.int l4)] [.int v7] h n _ _
      refine rr_if_eq (tgt := 45) C dX11_known_22 (by decide) (fun c22_ => ?_) (fun c22_ => ?_)
      · replace hr := (if_pos c22_).symm.trans hr
        refine rr_iconst (v := (-1)) C dX11_known_45 (by decide) ?_
        obtain rfl := Option.some.inj hr
        exact rr_iret (ty := .int) C dX11_known_46 rfl rfl ⟨rfl, rfl, rfl⟩
      · replace hr := (if_neg c22_).symm.trans hr
        refine rr_iload C dX11_known_25 rfl ?_
        replace hr := Option.bind_eq_some_iff.mp hr
        obtain ⟨v9, e10, hr⟩ := hr
        refine rr_callS (as := [.int l4]) (st := []) (mc' := 0) (ms' := 0) C dX11_known_27 it_X11_195 (by decide) (Nat.le_of_ble_eq_true rfl) (c_X11_isDay l4 (by omega) e10) (fun v_ h_ n_ q_ => ?_)
        obtain ⟨q1_, q2_, q3_⟩ := q_
        subst v_; subst h_; subst n_
        show WW W0 G 5 _ _ _ 30 [some (.ref l0), some (.int l1), some (.int l2), some (.int l3), some (.int l4)] [.int v9] h n _ _
        refine rr_if_eq (tgt := 45) C dX11_known_30 (by decide) (fun c30_ => ?_) (fun c30_ => ?_)
        · replace hr := (if_pos c30_).symm.trans hr
          refine rr_iconst (v := (-1)) C dX11_known_45 (by decide) ?_
          obtain rfl := Option.some.inj hr
          exact rr_iret (ty := .int) C dX11_known_46 rfl rfl ⟨rfl, rfl, rfl⟩
        · replace hr := (if_neg c30_).symm.trans hr
          refine rr_aload_n (i := 0) C dX11_known_33 rfl rfl ?_
          refine rr_iload_n (i := 1) C dX11_known_34 rfl rfl ?_
          refine rr_iload_n (i := 2) C dX11_known_35 rfl rfl ?_
          refine rr_iload_n (i := 3) C dX11_known_36 rfl rfl ?_
          refine rr_iload C dX11_known_37 rfl ?_
          replace hr := Option.bind_eq_some_iff.mp hr
          obtain ⟨u11, e12, hr⟩ := hr
          replace hr := Option.bind_eq_some_iff.mp hr
          obtain ⟨v13, e14, hr⟩ := hr
          refine rr_callVq (as := [.int l1, .int l2, .int l3, .int l4]) (st := []) (mc' := 0) (ms' := 0) C dX11_known_39 iv_X11_198 (by decide) e12 rfl (Nat.le_of_ble_eq_true rfl) (c_X11_factBy l0 l1 l2 l3 l4 (by omega) e14) (fun v_ h_ n_ q_ => ?_)
          obtain ⟨q1_, q2_, q3_⟩ := q_
          subst v_; subst h_; subst n_
          show WW W0 G 5 _ _ _ 42 [some (.ref l0), some (.int l1), some (.int l2), some (.int l3), some (.int l4)] [.int v13] h n _ _
          refine rr_goto (tgt := 46) C dX11_known_42 (by decide) ?_
          obtain rfl := Option.some.inj hr
          exact rr_iret (ty := .int) C dX11_known_46 rfl rfl ⟨rfl, rfl, rfl⟩
def q_X11_work (K : Nat) (h : mm_H) (n : Nat) (l0 : Nat) (l1 : Int32) (l2 : Int32) (l3 : Int32) : Option (Int32 × mm_H) :=
  (ckq h n l0 10).bind fun u1 =>
  (q_X11_isFirm K h n l0 l1).bind fun v3 =>
  if v3 = 0 then
    some ((-1), h)
  else
  (q_X11_isIn K h n l2 1 99999).bind fun v5 =>
  if v5 = 0 then
    some ((-1), h)
  else
  (q_X11_isYear K h n l3).bind fun v7 =>
  if v7 = 0 then
    some ((-1), h)
  else
  (rdI h n l0 10 8).bind fun v9 =>
  if v9 = 40 then
    some ((-1), h)
  else
  (rdR h n l0 10 11).bind fun v11 =>
  (rdI h n l0 10 8).bind fun v13 =>
  v11.bind fun a15 =>
  (stI h n a15 v13 l1).bind fun h17 =>
  (rdR h17 n l0 10 12).bind fun v19 =>
  (rdI h17 n l0 10 8).bind fun v21 =>
  v19.bind fun a23 =>
  (stI h17 n a23 v21 l2).bind fun h25 =>
  (rdR h25 n l0 10 13).bind fun v27 =>
  (rdI h25 n l0 10 8).bind fun v29 =>
  v27.bind fun a31 =>
  (stI h25 n a31 v29 l3).bind fun h33 =>
  (rdR h33 n l0 10 14).bind fun v35 =>
  (rdI h33 n l0 10 8).bind fun v37 =>
  v35.bind fun a39 =>
  (stI h33 n a39 v37 5000).bind fun h41 =>
  (rdI h41 n l0 10 8).bind fun v43 =>
  (wrF h41 n l0 10 8 (.int (v43 + 1))).bind fun h45 =>
  (rdI h45 n l0 10 8).bind fun v47 =>
  some (v47 - 1, h45)
set_option maxRecDepth 100000 in
set_option maxHeartbeats 4000000 in
theorem c_X11_work {K : Nat} {G : mm_G} {l : Launch} {h : mm_H} {n : Nat} (l0 : Nat) (l1 : Int32) (l2 : Int32) (l3 : Int32) {r_ : Int32 × mm_H} (hn : 48 ≤ n) (hr : q_X11_work K h n l0 l1 l2 l3 = some r_) : Sp G l yX11_work cX11_work 4 (some .int) 2 0 0 [.ref l0, .int l1, .int l2, .int l3] h n (fun v h' n' => v = some (.int r_.1) ∧ h' = r_.2 ∧ n' = n) := by
  refine Sp_of (by decide +kernel) (Nat.le_of_ble_eq_true rfl) hn ?_
  intro W0 hwl C
  subst hwl
  unfold q_X11_work at hr
  show WW W0 G 4 0 0 _ 0 [some (.ref l0), some (.int l1), some (.int l2), some (.int l3)] [] h n 0 0
  refine rr_aload_n (i := 0) C dX11_work_0 rfl rfl ?_
  refine rr_iload_n (i := 1) C dX11_work_1 rfl rfl ?_
  replace hr := Option.bind_eq_some_iff.mp hr
  obtain ⟨u1, e2, hr⟩ := hr
  replace hr := Option.bind_eq_some_iff.mp hr
  obtain ⟨v3, e4, hr⟩ := hr
  refine rr_callVq (as := [.int l1]) (st := []) (mc' := 0) (ms' := 0) C dX11_work_2 iv_X11_177 (by decide) e2 rfl (Nat.le_of_ble_eq_true rfl) (c_X11_isFirm l0 l1 (by omega) e4) (fun v_ h_ n_ q_ => ?_)
  obtain ⟨q1_, q2_, q3_⟩ := q_
  subst v_; subst h_; subst n_
  show WW W0 G 4 _ _ _ 5 [some (.ref l0), some (.int l1), some (.int l2), some (.int l3)] [.int v3] h n _ _
  refine rr_if_eq (tgt := 34) C dX11_work_5 (by decide) (fun c5_ => ?_) (fun c5_ => ?_)
  · replace hr := (if_pos c5_).symm.trans hr
    refine rr_iconst (v := (-1)) C dX11_work_34 (by decide) ?_
    obtain rfl := Option.some.inj hr
    exact rr_iret (ty := .int) C dX11_work_35 rfl rfl ⟨rfl, rfl, rfl⟩
  · replace hr := (if_neg c5_).symm.trans hr
    refine rr_iload_n (i := 2) C dX11_work_8 rfl rfl ?_
    refine rr_iconst (v := 1) C dX11_work_9 (by decide) ?_
    refine rr_ldc C dX11_work_10 ct_X11_176 ?_
    replace hr := Option.bind_eq_some_iff.mp hr
    obtain ⟨v5, e6, hr⟩ := hr
    refine rr_callS (as := [.int l2, .int 1, .int 99999]) (st := []) (mc' := 0) (ms' := 0) C dX11_work_12 it_X11_165 (by decide) (Nat.le_of_ble_eq_true rfl) (c_X11_isIn l2 1 99999 (by omega) e6) (fun v_ h_ n_ q_ => ?_)
    obtain ⟨q1_, q2_, q3_⟩ := q_
    subst v_; subst h_; subst n_
    show WW W0 G 4 _ _ _ 15 [some (.ref l0), some (.int l1), some (.int l2), some (.int l3)] [.int v5] h n _ _
    refine rr_if_eq (tgt := 34) C dX11_work_15 (by decide) (fun c15_ => ?_) (fun c15_ => ?_)
    · replace hr := (if_pos c15_).symm.trans hr
      refine rr_iconst (v := (-1)) C dX11_work_34 (by decide) ?_
      obtain rfl := Option.some.inj hr
      exact rr_iret (ty := .int) C dX11_work_35 rfl rfl ⟨rfl, rfl, rfl⟩
    · replace hr := (if_neg c15_).symm.trans hr
      refine rr_iload_n (i := 3) C dX11_work_18 rfl rfl ?_
      replace hr := Option.bind_eq_some_iff.mp hr
      obtain ⟨v7, e8, hr⟩ := hr
      refine rr_callS (as := [.int l3]) (st := []) (mc' := 0) (ms' := 0) C dX11_work_19 it_X11_181 (by decide) (Nat.le_of_ble_eq_true rfl) (c_X11_isYear l3 (by omega) e8) (fun v_ h_ n_ q_ => ?_)
      obtain ⟨q1_, q2_, q3_⟩ := q_
      subst v_; subst h_; subst n_
      show WW W0 G 4 _ _ _ 22 [some (.ref l0), some (.int l1), some (.int l2), some (.int l3)] [.int v7] h n _ _
      refine rr_if_eq (tgt := 34) C dX11_work_22 (by decide) (fun c22_ => ?_) (fun c22_ => ?_)
      · replace hr := (if_pos c22_).symm.trans hr
        refine rr_iconst (v := (-1)) C dX11_work_34 (by decide) ?_
        obtain rfl := Option.some.inj hr
        exact rr_iret (ty := .int) C dX11_work_35 rfl rfl ⟨rfl, rfl, rfl⟩
      · replace hr := (if_neg c22_).symm.trans hr
        refine rr_aload_n (i := 0) C dX11_work_25 rfl rfl ?_
        replace hr := Option.bind_eq_some_iff.mp hr
        obtain ⟨v9, e10, hr⟩ := hr
        refine rr_rdI C dX11_work_26 fl_X11_202 e10 ?_
        refine rr_bipush (v := 40) C dX11_work_29 (by decide) ?_
        refine rr_icmp_ne (tgt := 36) C dX11_work_31 (by decide) (fun c31_ => ?_) (fun c31_ => ?_)
        · replace hr := (if_neg c31_).symm.trans hr
          refine rr_aload_n (i := 0) C dX11_work_36 rfl rfl ?_
          replace hr := Option.bind_eq_some_iff.mp hr
          obtain ⟨v11, e12, hr⟩ := hr
          refine rr_rdR C dX11_work_37 fl_X11_26 e12 ?_
          refine rr_aload_n (i := 0) C dX11_work_40 rfl rfl ?_
          replace hr := Option.bind_eq_some_iff.mp hr
          obtain ⟨v13, e14, hr⟩ := hr
          refine rr_rdI C dX11_work_41 fl_X11_202 e14 ?_
          refine rr_iload_n (i := 1) C dX11_work_44 rfl rfl ?_
          replace hr := Option.bind_eq_some_iff.mp hr
          obtain ⟨a15, e16, hr⟩ := hr
          subst e16
          replace hr := Option.bind_eq_some_iff.mp hr
          obtain ⟨h17, e18, hr⟩ := hr
          refine rr_stI C dX11_work_45 e18 ?_
          refine rr_aload_n (i := 0) C dX11_work_46 rfl rfl ?_
          replace hr := Option.bind_eq_some_iff.mp hr
          obtain ⟨v19, e20, hr⟩ := hr
          refine rr_rdR C dX11_work_47 fl_X11_29 e20 ?_
          refine rr_aload_n (i := 0) C dX11_work_50 rfl rfl ?_
          replace hr := Option.bind_eq_some_iff.mp hr
          obtain ⟨v21, e22, hr⟩ := hr
          refine rr_rdI C dX11_work_51 fl_X11_202 e22 ?_
          refine rr_iload_n (i := 2) C dX11_work_54 rfl rfl ?_
          replace hr := Option.bind_eq_some_iff.mp hr
          obtain ⟨a23, e24, hr⟩ := hr
          subst e24
          replace hr := Option.bind_eq_some_iff.mp hr
          obtain ⟨h25, e26, hr⟩ := hr
          refine rr_stI C dX11_work_55 e26 ?_
          refine rr_aload_n (i := 0) C dX11_work_56 rfl rfl ?_
          replace hr := Option.bind_eq_some_iff.mp hr
          obtain ⟨v27, e28, hr⟩ := hr
          refine rr_rdR C dX11_work_57 fl_X11_32 e28 ?_
          refine rr_aload_n (i := 0) C dX11_work_60 rfl rfl ?_
          replace hr := Option.bind_eq_some_iff.mp hr
          obtain ⟨v29, e30, hr⟩ := hr
          refine rr_rdI C dX11_work_61 fl_X11_202 e30 ?_
          refine rr_iload_n (i := 3) C dX11_work_64 rfl rfl ?_
          replace hr := Option.bind_eq_some_iff.mp hr
          obtain ⟨a31, e32, hr⟩ := hr
          subst e32
          replace hr := Option.bind_eq_some_iff.mp hr
          obtain ⟨h33, e34, hr⟩ := hr
          refine rr_stI C dX11_work_65 e34 ?_
          refine rr_aload_n (i := 0) C dX11_work_66 rfl rfl ?_
          replace hr := Option.bind_eq_some_iff.mp hr
          obtain ⟨v35, e36, hr⟩ := hr
          refine rr_rdR C dX11_work_67 fl_X11_35 e36 ?_
          refine rr_aload_n (i := 0) C dX11_work_70 rfl rfl ?_
          replace hr := Option.bind_eq_some_iff.mp hr
          obtain ⟨v37, e38, hr⟩ := hr
          refine rr_rdI C dX11_work_71 fl_X11_202 e38 ?_
          refine rr_sipush (v := 5000) C dX11_work_74 (by decide) ?_
          replace hr := Option.bind_eq_some_iff.mp hr
          obtain ⟨a39, e40, hr⟩ := hr
          subst e40
          replace hr := Option.bind_eq_some_iff.mp hr
          obtain ⟨h41, e42, hr⟩ := hr
          refine rr_stI C dX11_work_77 e42 ?_
          refine rr_aload_n (i := 0) C dX11_work_78 rfl rfl ?_
          refine rr_dup C dX11_work_79 rfl ?_
          replace hr := Option.bind_eq_some_iff.mp hr
          obtain ⟨v43, e44, hr⟩ := hr
          refine rr_rdI C dX11_work_80 fl_X11_202 e44 ?_
          refine rr_iconst (v := 1) C dX11_work_83 (by decide) ?_
          refine rr_iadd C dX11_work_84 ?_
          replace hr := Option.bind_eq_some_iff.mp hr
          obtain ⟨h45, e46, hr⟩ := hr
          refine rr_wrF C dX11_work_85 fp_X11_202 rfl rfl e46 ?_
          refine rr_aload_n (i := 0) C dX11_work_88 rfl rfl ?_
          replace hr := Option.bind_eq_some_iff.mp hr
          obtain ⟨v47, e48, hr⟩ := hr
          refine rr_rdI C dX11_work_89 fl_X11_202 e48 ?_
          refine rr_iconst (v := 1) C dX11_work_92 (by decide) ?_
          refine rr_isub C dX11_work_93 ?_
          obtain rfl := Option.some.inj hr
          exact rr_iret (ty := .int) C dX11_work_94 rfl rfl ⟨rfl, rfl, rfl⟩
        · replace hr := (if_pos c31_).symm.trans hr
          refine rr_iconst (v := (-1)) C dX11_work_34 (by decide) ?_
          obtain rfl := Option.some.inj hr
          exact rr_iret (ty := .int) C dX11_work_35 rfl rfl ⟨rfl, rfl, rfl⟩
def q_X11_done (K : Nat) (h : mm_H) (n : Nat) (l0 : Nat) (l1 : Int32) : Option (Int32 × mm_H) :=
  (rdI h n l0 10 8).bind fun v1 =>
  (q_X11_isIn K h n l1 0 (v1 - 1)).bind fun v3 =>
  if v3 = 0 then
    some (0, h)
  else
  (rdR h n l0 10 14).bind fun v5 =>
  v5.bind fun a7 =>
  (ldI h n a7 l1).bind fun v9 =>
  if v9 = 5000 then
    (rdR h n l0 10 14).bind fun v11 =>
    (rdI h n l0 10 0).bind fun v13 =>
    v11.bind fun a15 =>
    (stI h n a15 l1 v13).bind fun h17 =>
    some (1, h17)
  else
  some (0, h)
set_option maxRecDepth 100000 in
set_option maxHeartbeats 4000000 in
theorem c_X11_done {K : Nat} {G : mm_G} {l : Launch} {h : mm_H} {n : Nat} (l0 : Nat) (l1 : Int32) {r_ : Int32 × mm_H} (hn : 48 ≤ n) (hr : q_X11_done K h n l0 l1 = some r_) : Sp G l yX11_done cX11_done 2 (some .boolean) 1 0 0 [.ref l0, .int l1] h n (fun v h' n' => v = some (.int r_.1) ∧ h' = r_.2 ∧ n' = n) := by
  refine Sp_of (by decide +kernel) (Nat.le_of_ble_eq_true rfl) hn ?_
  intro W0 hwl C
  subst hwl
  unfold q_X11_done at hr
  show WW W0 G 2 0 0 _ 0 [some (.ref l0), some (.int l1)] [] h n 0 0
  refine rr_iload_n (i := 1) C dX11_done_0 rfl rfl ?_
  refine rr_iconst (v := 0) C dX11_done_1 (by decide) ?_
  refine rr_aload_n (i := 0) C dX11_done_2 rfl rfl ?_
  replace hr := Option.bind_eq_some_iff.mp hr
  obtain ⟨v1, e2, hr⟩ := hr
  refine rr_rdI C dX11_done_3 fl_X11_202 e2 ?_
  refine rr_iconst (v := 1) C dX11_done_6 (by decide) ?_
  refine rr_isub C dX11_done_7 ?_
  replace hr := Option.bind_eq_some_iff.mp hr
  obtain ⟨v3, e4, hr⟩ := hr
  refine rr_callS (as := [.int l1, .int 0, .int (v1 - 1)]) (st := []) (mc' := 0) (ms' := 0) C dX11_done_8 it_X11_165 (by decide) (Nat.le_of_ble_eq_true rfl) (c_X11_isIn l1 0 (v1 - 1) (by omega) e4) (fun v_ h_ n_ q_ => ?_)
  obtain ⟨q1_, q2_, q3_⟩ := q_
  subst v_; subst h_; subst n_
  show WW W0 G 2 _ _ _ 11 [some (.ref l0), some (.int l1)] [.int v3] h n _ _
  refine rr_if_eq (tgt := 26) C dX11_done_11 (by decide) (fun c11_ => ?_) (fun c11_ => ?_)
  · replace hr := (if_pos c11_).symm.trans hr
    refine rr_iconst (v := 0) C dX11_done_26 (by decide) ?_
    obtain rfl := Option.some.inj hr
    exact rr_iret (ty := .boolean) C dX11_done_27 rfl rfl ⟨rfl, rfl, rfl⟩
  · replace hr := (if_neg c11_).symm.trans hr
    refine rr_aload_n (i := 0) C dX11_done_14 rfl rfl ?_
    replace hr := Option.bind_eq_some_iff.mp hr
    obtain ⟨v5, e6, hr⟩ := hr
    refine rr_rdR C dX11_done_15 fl_X11_35 e6 ?_
    refine rr_iload_n (i := 1) C dX11_done_18 rfl rfl ?_
    replace hr := Option.bind_eq_some_iff.mp hr
    obtain ⟨a7, e8, hr⟩ := hr
    subst e8
    replace hr := Option.bind_eq_some_iff.mp hr
    obtain ⟨v9, e10, hr⟩ := hr
    refine rr_ldI C dX11_done_19 e10 ?_
    refine rr_sipush (v := 5000) C dX11_done_20 (by decide) ?_
    refine rr_icmp_eq (tgt := 28) C dX11_done_23 (by decide) (fun c23_ => ?_) (fun c23_ => ?_)
    · replace hr := (if_pos c23_).symm.trans hr
      refine rr_aload_n (i := 0) C dX11_done_28 rfl rfl ?_
      replace hr := Option.bind_eq_some_iff.mp hr
      obtain ⟨v11, e12, hr⟩ := hr
      refine rr_rdR C dX11_done_29 fl_X11_35 e12 ?_
      refine rr_iload_n (i := 1) C dX11_done_32 rfl rfl ?_
      refine rr_aload_n (i := 0) C dX11_done_33 rfl rfl ?_
      replace hr := Option.bind_eq_some_iff.mp hr
      obtain ⟨v13, e14, hr⟩ := hr
      refine rr_rdI C dX11_done_34 fl_X11_172 e14 ?_
      replace hr := Option.bind_eq_some_iff.mp hr
      obtain ⟨a15, e16, hr⟩ := hr
      subst e16
      replace hr := Option.bind_eq_some_iff.mp hr
      obtain ⟨h17, e18, hr⟩ := hr
      refine rr_stI C dX11_done_37 e18 ?_
      refine rr_iconst (v := 1) C dX11_done_38 (by decide) ?_
      obtain rfl := Option.some.inj hr
      exact rr_iret (ty := .boolean) C dX11_done_39 rfl rfl ⟨rfl, rfl, rfl⟩
    · replace hr := (if_neg c23_).symm.trans hr
      refine rr_iconst (v := 0) C dX11_done_26 (by decide) ?_
      obtain rfl := Option.some.inj hr
      exact rr_iret (ty := .boolean) C dX11_done_27 rfl rfl ⟨rfl, rfl, rfl⟩
def q_X11_wasDone (K : Nat) (h : mm_H) (n : Nat) (l0 : Nat) (l1 : Int32) (l2 : Int32) : Option (Int32) :=
  (rdR h n l0 10 14).bind fun v1 =>
  v1.bind fun a3 =>
  (ldI h n a3 l1).bind fun v5 =>
  if (100 * l2) ≤ v5 then
    some 0
  else
  some 1
set_option maxRecDepth 100000 in
set_option maxHeartbeats 4000000 in
theorem c_X11_wasDone {K : Nat} {G : mm_G} {l : Launch} {h : mm_H} {n : Nat} (l0 : Nat) (l1 : Int32) (l2 : Int32) {r_ : Int32} (hn : 48 ≤ n) (hr : q_X11_wasDone K h n l0 l1 l2 = some r_) : Sp G l yX11_wasDone cX11_wasDone 3 (some .boolean) 0 0 0 [.ref l0, .int l1, .int l2] h n (fun v h' n' => v = some (.int r_) ∧ h' = h ∧ n' = n) := by
  refine Sp_of (by decide +kernel) (Nat.le_of_ble_eq_true rfl) hn ?_
  intro W0 hwl C
  subst hwl
  unfold q_X11_wasDone at hr
  show WW W0 G 3 0 0 _ 0 [some (.ref l0), some (.int l1), some (.int l2)] [] h n 0 0
  refine rr_aload_n (i := 0) C dX11_wasDone_0 rfl rfl ?_
  replace hr := Option.bind_eq_some_iff.mp hr
  obtain ⟨v1, e2, hr⟩ := hr
  refine rr_rdR C dX11_wasDone_1 fl_X11_35 e2 ?_
  refine rr_iload_n (i := 1) C dX11_wasDone_4 rfl rfl ?_
  replace hr := Option.bind_eq_some_iff.mp hr
  obtain ⟨a3, e4, hr⟩ := hr
  subst e4
  replace hr := Option.bind_eq_some_iff.mp hr
  obtain ⟨v5, e6, hr⟩ := hr
  refine rr_ldI C dX11_wasDone_5 e6 ?_
  refine rr_bipush (v := 100) C dX11_wasDone_6 (by decide) ?_
  refine rr_iload_n (i := 2) C dX11_wasDone_8 rfl rfl ?_
  refine rr_imul C dX11_wasDone_9 ?_
  refine rr_icmp_ge (tgt := 17) C dX11_wasDone_10 (by decide) (fun c10_ => ?_) (fun c10_ => ?_)
  · replace hr := (if_pos c10_).symm.trans hr
    refine rr_iconst (v := 0) C dX11_wasDone_17 (by decide) ?_
    obtain rfl := Option.some.inj hr
    exact rr_iret (ty := .boolean) C dX11_wasDone_18 rfl rfl ⟨rfl, rfl, rfl⟩
  · replace hr := (if_neg c10_).symm.trans hr
    refine rr_iconst (v := 1) C dX11_wasDone_13 (by decide) ?_
    refine rr_goto (tgt := 18) C dX11_wasDone_14 (by decide) ?_
    obtain rfl := Option.some.inj hr
    exact rr_iret (ty := .boolean) C dX11_wasDone_18 rfl rfl ⟨rfl, rfl, rfl⟩
def q_X11_bench (K : Nat) (h : mm_H) (n : Nat) (l0 : Nat) (l1 : Int32) (l2 : Int32) (l3 : Int32) (l4 : Int32) : Option (Int32 × mm_H) :=
  (ckq h n l0 10).bind fun u1 =>
  (q_X11_isFirm K h n l0 l1).bind fun v3 =>
  if v3 = 0 then
    some ((-1), h)
  else
  (q_X11_isHead K h n l2).bind fun v5 =>
  if v5 = 0 then
    some ((-1), h)
  else
  (q_X11_isYear K h n l3).bind fun v7 =>
  if v7 = 0 then
    some ((-1), h)
  else
  (q_X11_isIn K h n l4 0 99999).bind fun v9 =>
  if v9 = 0 then
    some ((-1), h)
  else
  (rdI h n l0 10 9).bind fun v11 =>
  if v11 = 20 then
    some ((-1), h)
  else
  (rdR h n l0 10 15).bind fun v13 =>
  (rdI h n l0 10 9).bind fun v15 =>
  v13.bind fun a17 =>
  (stI h n a17 v15 l1).bind fun h19 =>
  (rdR h19 n l0 10 16).bind fun v21 =>
  (rdI h19 n l0 10 9).bind fun v23 =>
  v21.bind fun a25 =>
  (stI h19 n a25 v23 l2).bind fun h27 =>
  (rdR h27 n l0 10 17).bind fun v29 =>
  (rdI h27 n l0 10 9).bind fun v31 =>
  v29.bind fun a33 =>
  (stI h27 n a33 v31 l3).bind fun h35 =>
  (rdR h35 n l0 10 18).bind fun v37 =>
  (rdI h35 n l0 10 9).bind fun v39 =>
  v37.bind fun a41 =>
  (stI h35 n a41 v39 l4).bind fun h43 =>
  (rdR h43 n l0 10 19).bind fun v45 =>
  (rdI h43 n l0 10 9).bind fun v47 =>
  (rdI h43 n l0 10 0).bind fun v49 =>
  v45.bind fun a51 =>
  (stI h43 n a51 v47 v49).bind fun h53 =>
  (rdI h53 n l0 10 9).bind fun v55 =>
  (wrF h53 n l0 10 9 (.int (v55 + 1))).bind fun h57 =>
  (rdI h57 n l0 10 9).bind fun v59 =>
  some (v59, h57)
set_option maxRecDepth 100000 in
set_option maxHeartbeats 4000000 in
theorem c_X11_bench {K : Nat} {G : mm_G} {l : Launch} {h : mm_H} {n : Nat} (l0 : Nat) (l1 : Int32) (l2 : Int32) (l3 : Int32) (l4 : Int32) {r_ : Int32 × mm_H} (hn : 48 ≤ n) (hr : q_X11_bench K h n l0 l1 l2 l3 l4 = some r_) : Sp G l yX11_bench cX11_bench 5 (some .int) 2 0 0 [.ref l0, .int l1, .int l2, .int l3, .int l4] h n (fun v h' n' => v = some (.int r_.1) ∧ h' = r_.2 ∧ n' = n) := by
  refine Sp_of (by decide +kernel) (Nat.le_of_ble_eq_true rfl) hn ?_
  intro W0 hwl C
  subst hwl
  unfold q_X11_bench at hr
  show WW W0 G 5 0 0 _ 0 [some (.ref l0), some (.int l1), some (.int l2), some (.int l3), some (.int l4)] [] h n 0 0
  refine rr_aload_n (i := 0) C dX11_bench_0 rfl rfl ?_
  refine rr_iload_n (i := 1) C dX11_bench_1 rfl rfl ?_
  replace hr := Option.bind_eq_some_iff.mp hr
  obtain ⟨u1, e2, hr⟩ := hr
  replace hr := Option.bind_eq_some_iff.mp hr
  obtain ⟨v3, e4, hr⟩ := hr
  refine rr_callVq (as := [.int l1]) (st := []) (mc' := 0) (ms' := 0) C dX11_bench_2 iv_X11_177 (by decide) e2 rfl (Nat.le_of_ble_eq_true rfl) (c_X11_isFirm l0 l1 (by omega) e4) (fun v_ h_ n_ q_ => ?_)
  obtain ⟨q1_, q2_, q3_⟩ := q_
  subst v_; subst h_; subst n_
  show WW W0 G 5 _ _ _ 5 [some (.ref l0), some (.int l1), some (.int l2), some (.int l3), some (.int l4)] [.int v3] h n _ _
  refine rr_if_eq (tgt := 42) C dX11_bench_5 (by decide) (fun c5_ => ?_) (fun c5_ => ?_)
  · replace hr := (if_pos c5_).symm.trans hr
    refine rr_iconst (v := (-1)) C dX11_bench_42 (by decide) ?_
    obtain rfl := Option.some.inj hr
    exact rr_iret (ty := .int) C dX11_bench_43 rfl rfl ⟨rfl, rfl, rfl⟩
  · replace hr := (if_neg c5_).symm.trans hr
    refine rr_iload_n (i := 2) C dX11_bench_8 rfl rfl ?_
    replace hr := Option.bind_eq_some_iff.mp hr
    obtain ⟨v5, e6, hr⟩ := hr
    refine rr_callS (as := [.int l2]) (st := []) (mc' := 0) (ms' := 0) C dX11_bench_9 it_X11_205 (by decide) (Nat.le_of_ble_eq_true rfl) (c_X11_isHead l2 (by omega) e6) (fun v_ h_ n_ q_ => ?_)
    obtain ⟨q1_, q2_, q3_⟩ := q_
    subst v_; subst h_; subst n_
    show WW W0 G 5 _ _ _ 12 [some (.ref l0), some (.int l1), some (.int l2), some (.int l3), some (.int l4)] [.int v5] h n _ _
    refine rr_if_eq (tgt := 42) C dX11_bench_12 (by decide) (fun c12_ => ?_) (fun c12_ => ?_)
    · replace hr := (if_pos c12_).symm.trans hr
      refine rr_iconst (v := (-1)) C dX11_bench_42 (by decide) ?_
      obtain rfl := Option.some.inj hr
      exact rr_iret (ty := .int) C dX11_bench_43 rfl rfl ⟨rfl, rfl, rfl⟩
    · replace hr := (if_neg c12_).symm.trans hr
      refine rr_iload_n (i := 3) C dX11_bench_15 rfl rfl ?_
      replace hr := Option.bind_eq_some_iff.mp hr
      obtain ⟨v7, e8, hr⟩ := hr
      refine rr_callS (as := [.int l3]) (st := []) (mc' := 0) (ms' := 0) C dX11_bench_16 it_X11_181 (by decide) (Nat.le_of_ble_eq_true rfl) (c_X11_isYear l3 (by omega) e8) (fun v_ h_ n_ q_ => ?_)
      obtain ⟨q1_, q2_, q3_⟩ := q_
      subst v_; subst h_; subst n_
      show WW W0 G 5 _ _ _ 19 [some (.ref l0), some (.int l1), some (.int l2), some (.int l3), some (.int l4)] [.int v7] h n _ _
      refine rr_if_eq (tgt := 42) C dX11_bench_19 (by decide) (fun c19_ => ?_) (fun c19_ => ?_)
      · replace hr := (if_pos c19_).symm.trans hr
        refine rr_iconst (v := (-1)) C dX11_bench_42 (by decide) ?_
        obtain rfl := Option.some.inj hr
        exact rr_iret (ty := .int) C dX11_bench_43 rfl rfl ⟨rfl, rfl, rfl⟩
      · replace hr := (if_neg c19_).symm.trans hr
        refine rr_iload C dX11_bench_22 rfl ?_
        refine rr_iconst (v := 0) C dX11_bench_24 (by decide) ?_
        refine rr_ldc C dX11_bench_25 ct_X11_176 ?_
        replace hr := Option.bind_eq_some_iff.mp hr
        obtain ⟨v9, e10, hr⟩ := hr
        refine rr_callS (as := [.int l4, .int 0, .int 99999]) (st := []) (mc' := 0) (ms' := 0) C dX11_bench_27 it_X11_165 (by decide) (Nat.le_of_ble_eq_true rfl) (c_X11_isIn l4 0 99999 (by omega) e10) (fun v_ h_ n_ q_ => ?_)
        obtain ⟨q1_, q2_, q3_⟩ := q_
        subst v_; subst h_; subst n_
        show WW W0 G 5 _ _ _ 30 [some (.ref l0), some (.int l1), some (.int l2), some (.int l3), some (.int l4)] [.int v9] h n _ _
        refine rr_if_eq (tgt := 42) C dX11_bench_30 (by decide) (fun c30_ => ?_) (fun c30_ => ?_)
        · replace hr := (if_pos c30_).symm.trans hr
          refine rr_iconst (v := (-1)) C dX11_bench_42 (by decide) ?_
          obtain rfl := Option.some.inj hr
          exact rr_iret (ty := .int) C dX11_bench_43 rfl rfl ⟨rfl, rfl, rfl⟩
        · replace hr := (if_neg c30_).symm.trans hr
          refine rr_aload_n (i := 0) C dX11_bench_33 rfl rfl ?_
          replace hr := Option.bind_eq_some_iff.mp hr
          obtain ⟨v11, e12, hr⟩ := hr
          refine rr_rdI C dX11_bench_34 fl_X11_208 e12 ?_
          refine rr_bipush (v := 20) C dX11_bench_37 (by decide) ?_
          refine rr_icmp_ne (tgt := 44) C dX11_bench_39 (by decide) (fun c39_ => ?_) (fun c39_ => ?_)
          · replace hr := (if_neg c39_).symm.trans hr
            refine rr_aload_n (i := 0) C dX11_bench_44 rfl rfl ?_
            replace hr := Option.bind_eq_some_iff.mp hr
            obtain ⟨v13, e14, hr⟩ := hr
            refine rr_rdR C dX11_bench_45 fl_X11_38 e14 ?_
            refine rr_aload_n (i := 0) C dX11_bench_48 rfl rfl ?_
            replace hr := Option.bind_eq_some_iff.mp hr
            obtain ⟨v15, e16, hr⟩ := hr
            refine rr_rdI C dX11_bench_49 fl_X11_208 e16 ?_
            refine rr_iload_n (i := 1) C dX11_bench_52 rfl rfl ?_
            replace hr := Option.bind_eq_some_iff.mp hr
            obtain ⟨a17, e18, hr⟩ := hr
            subst e18
            replace hr := Option.bind_eq_some_iff.mp hr
            obtain ⟨h19, e20, hr⟩ := hr
            refine rr_stI C dX11_bench_53 e20 ?_
            refine rr_aload_n (i := 0) C dX11_bench_54 rfl rfl ?_
            replace hr := Option.bind_eq_some_iff.mp hr
            obtain ⟨v21, e22, hr⟩ := hr
            refine rr_rdR C dX11_bench_55 fl_X11_41 e22 ?_
            refine rr_aload_n (i := 0) C dX11_bench_58 rfl rfl ?_
            replace hr := Option.bind_eq_some_iff.mp hr
            obtain ⟨v23, e24, hr⟩ := hr
            refine rr_rdI C dX11_bench_59 fl_X11_208 e24 ?_
            refine rr_iload_n (i := 2) C dX11_bench_62 rfl rfl ?_
            replace hr := Option.bind_eq_some_iff.mp hr
            obtain ⟨a25, e26, hr⟩ := hr
            subst e26
            replace hr := Option.bind_eq_some_iff.mp hr
            obtain ⟨h27, e28, hr⟩ := hr
            refine rr_stI C dX11_bench_63 e28 ?_
            refine rr_aload_n (i := 0) C dX11_bench_64 rfl rfl ?_
            replace hr := Option.bind_eq_some_iff.mp hr
            obtain ⟨v29, e30, hr⟩ := hr
            refine rr_rdR C dX11_bench_65 fl_X11_44 e30 ?_
            refine rr_aload_n (i := 0) C dX11_bench_68 rfl rfl ?_
            replace hr := Option.bind_eq_some_iff.mp hr
            obtain ⟨v31, e32, hr⟩ := hr
            refine rr_rdI C dX11_bench_69 fl_X11_208 e32 ?_
            refine rr_iload_n (i := 3) C dX11_bench_72 rfl rfl ?_
            replace hr := Option.bind_eq_some_iff.mp hr
            obtain ⟨a33, e34, hr⟩ := hr
            subst e34
            replace hr := Option.bind_eq_some_iff.mp hr
            obtain ⟨h35, e36, hr⟩ := hr
            refine rr_stI C dX11_bench_73 e36 ?_
            refine rr_aload_n (i := 0) C dX11_bench_74 rfl rfl ?_
            replace hr := Option.bind_eq_some_iff.mp hr
            obtain ⟨v37, e38, hr⟩ := hr
            refine rr_rdR C dX11_bench_75 fl_X11_47 e38 ?_
            refine rr_aload_n (i := 0) C dX11_bench_78 rfl rfl ?_
            replace hr := Option.bind_eq_some_iff.mp hr
            obtain ⟨v39, e40, hr⟩ := hr
            refine rr_rdI C dX11_bench_79 fl_X11_208 e40 ?_
            refine rr_iload C dX11_bench_82 rfl ?_
            replace hr := Option.bind_eq_some_iff.mp hr
            obtain ⟨a41, e42, hr⟩ := hr
            subst e42
            replace hr := Option.bind_eq_some_iff.mp hr
            obtain ⟨h43, e44, hr⟩ := hr
            refine rr_stI C dX11_bench_84 e44 ?_
            refine rr_aload_n (i := 0) C dX11_bench_85 rfl rfl ?_
            replace hr := Option.bind_eq_some_iff.mp hr
            obtain ⟨v45, e46, hr⟩ := hr
            refine rr_rdR C dX11_bench_86 fl_X11_50 e46 ?_
            refine rr_aload_n (i := 0) C dX11_bench_89 rfl rfl ?_
            replace hr := Option.bind_eq_some_iff.mp hr
            obtain ⟨v47, e48, hr⟩ := hr
            refine rr_rdI C dX11_bench_90 fl_X11_208 e48 ?_
            refine rr_aload_n (i := 0) C dX11_bench_93 rfl rfl ?_
            replace hr := Option.bind_eq_some_iff.mp hr
            obtain ⟨v49, e50, hr⟩ := hr
            refine rr_rdI C dX11_bench_94 fl_X11_172 e50 ?_
            replace hr := Option.bind_eq_some_iff.mp hr
            obtain ⟨a51, e52, hr⟩ := hr
            subst e52
            replace hr := Option.bind_eq_some_iff.mp hr
            obtain ⟨h53, e54, hr⟩ := hr
            refine rr_stI C dX11_bench_97 e54 ?_
            refine rr_aload_n (i := 0) C dX11_bench_98 rfl rfl ?_
            refine rr_dup C dX11_bench_99 rfl ?_
            replace hr := Option.bind_eq_some_iff.mp hr
            obtain ⟨v55, e56, hr⟩ := hr
            refine rr_rdI C dX11_bench_100 fl_X11_208 e56 ?_
            refine rr_iconst (v := 1) C dX11_bench_103 (by decide) ?_
            refine rr_iadd C dX11_bench_104 ?_
            replace hr := Option.bind_eq_some_iff.mp hr
            obtain ⟨h57, e58, hr⟩ := hr
            refine rr_wrF C dX11_bench_105 fp_X11_208 rfl rfl e58 ?_
            refine rr_aload_n (i := 0) C dX11_bench_108 rfl rfl ?_
            replace hr := Option.bind_eq_some_iff.mp hr
            obtain ⟨v59, e60, hr⟩ := hr
            refine rr_rdI C dX11_bench_109 fl_X11_208 e60 ?_
            obtain rfl := Option.some.inj hr
            exact rr_iret (ty := .int) C dX11_bench_112 rfl rfl ⟨rfl, rfl, rfl⟩
          · replace hr := (if_pos c39_).symm.trans hr
            refine rr_iconst (v := (-1)) C dX11_bench_42 (by decide) ?_
            obtain rfl := Option.some.inj hr
            exact rr_iret (ty := .int) C dX11_bench_43 rfl rfl ⟨rfl, rfl, rfl⟩
def q_X11_log (K : Nat) (h : mm_H) (n : Nat) (l0 : Nat) (l1 : Int32) (l2 : Int32) (l3 : Int32) : Option (Int32 × mm_H) :=
  (ckq h n l0 10).bind fun u1 =>
  (q_X11_isFirm K h n l0 l1).bind fun v3 =>
  if v3 = 0 then
    some ((-1), h)
  else
  (rdI h n l0 10 0).bind fun v5 =>
  (q_X11_isIn K h n l2 ((v5 / 100) + 1) 14).bind fun v7 =>
  if v7 = 0 then
    some ((-1), h)
  else
  (q_X11_isIn K h n l3 1 99999).bind fun v9 =>
  if v9 = 0 then
    some ((-1), h)
  else
  (rdI h n l0 10 10).bind fun v11 =>
  if v11 = 20 then
    some ((-1), h)
  else
  (rdR h n l0 10 20).bind fun v13 =>
  (rdI h n l0 10 10).bind fun v15 =>
  v13.bind fun a17 =>
  (stI h n a17 v15 l1).bind fun h19 =>
  (rdR h19 n l0 10 21).bind fun v21 =>
  (rdI h19 n l0 10 10).bind fun v23 =>
  v21.bind fun a25 =>
  (stI h19 n a25 v23 l2).bind fun h27 =>
  (rdR h27 n l0 10 22).bind fun v29 =>
  (rdI h27 n l0 10 10).bind fun v31 =>
  v29.bind fun a33 =>
  (stI h27 n a33 v31 l3).bind fun h35 =>
  (rdR h35 n l0 10 23).bind fun v37 =>
  (rdI h35 n l0 10 10).bind fun v39 =>
  (rdI h35 n l0 10 0).bind fun v41 =>
  v37.bind fun a43 =>
  (stI h35 n a43 v39 v41).bind fun h45 =>
  (rdI h45 n l0 10 10).bind fun v47 =>
  (wrF h45 n l0 10 10 (.int (v47 + 1))).bind fun h49 =>
  (rdI h49 n l0 10 10).bind fun v51 =>
  some (v51, h49)
set_option maxRecDepth 100000 in
set_option maxHeartbeats 4000000 in
theorem c_X11_log {K : Nat} {G : mm_G} {l : Launch} {h : mm_H} {n : Nat} (l0 : Nat) (l1 : Int32) (l2 : Int32) (l3 : Int32) {r_ : Int32 × mm_H} (hn : 48 ≤ n) (hr : q_X11_log K h n l0 l1 l2 l3 = some r_) : Sp G l yX11_log cX11_log 4 (some .int) 2 0 0 [.ref l0, .int l1, .int l2, .int l3] h n (fun v h' n' => v = some (.int r_.1) ∧ h' = r_.2 ∧ n' = n) := by
  refine Sp_of (by decide +kernel) (Nat.le_of_ble_eq_true rfl) hn ?_
  intro W0 hwl C
  subst hwl
  unfold q_X11_log at hr
  show WW W0 G 4 0 0 _ 0 [some (.ref l0), some (.int l1), some (.int l2), some (.int l3)] [] h n 0 0
  refine rr_aload_n (i := 0) C dX11_log_0 rfl rfl ?_
  refine rr_iload_n (i := 1) C dX11_log_1 rfl rfl ?_
  replace hr := Option.bind_eq_some_iff.mp hr
  obtain ⟨u1, e2, hr⟩ := hr
  replace hr := Option.bind_eq_some_iff.mp hr
  obtain ⟨v3, e4, hr⟩ := hr
  refine rr_callVq (as := [.int l1]) (st := []) (mc' := 0) (ms' := 0) C dX11_log_2 iv_X11_177 (by decide) e2 rfl (Nat.le_of_ble_eq_true rfl) (c_X11_isFirm l0 l1 (by omega) e4) (fun v_ h_ n_ q_ => ?_)
  obtain ⟨q1_, q2_, q3_⟩ := q_
  subst v_; subst h_; subst n_
  show WW W0 G 4 _ _ _ 5 [some (.ref l0), some (.int l1), some (.int l2), some (.int l3)] [.int v3] h n _ _
  refine rr_if_eq (tgt := 45) C dX11_log_5 (by decide) (fun c5_ => ?_) (fun c5_ => ?_)
  · replace hr := (if_pos c5_).symm.trans hr
    refine rr_iconst (v := (-1)) C dX11_log_45 (by decide) ?_
    obtain rfl := Option.some.inj hr
    exact rr_iret (ty := .int) C dX11_log_46 rfl rfl ⟨rfl, rfl, rfl⟩
  · replace hr := (if_neg c5_).symm.trans hr
    refine rr_iload_n (i := 2) C dX11_log_8 rfl rfl ?_
    refine rr_aload_n (i := 0) C dX11_log_9 rfl rfl ?_
    replace hr := Option.bind_eq_some_iff.mp hr
    obtain ⟨v5, e6, hr⟩ := hr
    refine rr_rdI C dX11_log_10 fl_X11_172 e6 ?_
    refine rr_bipush (v := 100) C dX11_log_13 (by decide) ?_
    refine rr_idiv C dX11_log_15 (by decide) ?_
    refine rr_iconst (v := 1) C dX11_log_16 (by decide) ?_
    refine rr_iadd C dX11_log_17 ?_
    refine rr_bipush (v := 14) C dX11_log_18 (by decide) ?_
    replace hr := Option.bind_eq_some_iff.mp hr
    obtain ⟨v7, e8, hr⟩ := hr
    refine rr_callS (as := [.int l2, .int ((v5 / 100) + 1), .int 14]) (st := []) (mc' := 0) (ms' := 0) C dX11_log_20 it_X11_165 (by decide) (Nat.le_of_ble_eq_true rfl) (c_X11_isIn l2 ((v5 / 100) + 1) 14 (by omega) e8) (fun v_ h_ n_ q_ => ?_)
    obtain ⟨q1_, q2_, q3_⟩ := q_
    subst v_; subst h_; subst n_
    show WW W0 G 4 _ _ _ 23 [some (.ref l0), some (.int l1), some (.int l2), some (.int l3)] [.int v7] h n _ _
    refine rr_if_eq (tgt := 45) C dX11_log_23 (by decide) (fun c23_ => ?_) (fun c23_ => ?_)
    · replace hr := (if_pos c23_).symm.trans hr
      refine rr_iconst (v := (-1)) C dX11_log_45 (by decide) ?_
      obtain rfl := Option.some.inj hr
      exact rr_iret (ty := .int) C dX11_log_46 rfl rfl ⟨rfl, rfl, rfl⟩
    · replace hr := (if_neg c23_).symm.trans hr
      refine rr_iload_n (i := 3) C dX11_log_26 rfl rfl ?_
      refine rr_iconst (v := 1) C dX11_log_27 (by decide) ?_
      refine rr_ldc C dX11_log_28 ct_X11_176 ?_
      replace hr := Option.bind_eq_some_iff.mp hr
      obtain ⟨v9, e10, hr⟩ := hr
      refine rr_callS (as := [.int l3, .int 1, .int 99999]) (st := []) (mc' := 0) (ms' := 0) C dX11_log_30 it_X11_165 (by decide) (Nat.le_of_ble_eq_true rfl) (c_X11_isIn l3 1 99999 (by omega) e10) (fun v_ h_ n_ q_ => ?_)
      obtain ⟨q1_, q2_, q3_⟩ := q_
      subst v_; subst h_; subst n_
      show WW W0 G 4 _ _ _ 33 [some (.ref l0), some (.int l1), some (.int l2), some (.int l3)] [.int v9] h n _ _
      refine rr_if_eq (tgt := 45) C dX11_log_33 (by decide) (fun c33_ => ?_) (fun c33_ => ?_)
      · replace hr := (if_pos c33_).symm.trans hr
        refine rr_iconst (v := (-1)) C dX11_log_45 (by decide) ?_
        obtain rfl := Option.some.inj hr
        exact rr_iret (ty := .int) C dX11_log_46 rfl rfl ⟨rfl, rfl, rfl⟩
      · replace hr := (if_neg c33_).symm.trans hr
        refine rr_aload_n (i := 0) C dX11_log_36 rfl rfl ?_
        replace hr := Option.bind_eq_some_iff.mp hr
        obtain ⟨v11, e12, hr⟩ := hr
        refine rr_rdI C dX11_log_37 fl_X11_211 e12 ?_
        refine rr_bipush (v := 20) C dX11_log_40 (by decide) ?_
        refine rr_icmp_ne (tgt := 47) C dX11_log_42 (by decide) (fun c42_ => ?_) (fun c42_ => ?_)
        · replace hr := (if_neg c42_).symm.trans hr
          refine rr_aload_n (i := 0) C dX11_log_47 rfl rfl ?_
          replace hr := Option.bind_eq_some_iff.mp hr
          obtain ⟨v13, e14, hr⟩ := hr
          refine rr_rdR C dX11_log_48 fl_X11_53 e14 ?_
          refine rr_aload_n (i := 0) C dX11_log_51 rfl rfl ?_
          replace hr := Option.bind_eq_some_iff.mp hr
          obtain ⟨v15, e16, hr⟩ := hr
          refine rr_rdI C dX11_log_52 fl_X11_211 e16 ?_
          refine rr_iload_n (i := 1) C dX11_log_55 rfl rfl ?_
          replace hr := Option.bind_eq_some_iff.mp hr
          obtain ⟨a17, e18, hr⟩ := hr
          subst e18
          replace hr := Option.bind_eq_some_iff.mp hr
          obtain ⟨h19, e20, hr⟩ := hr
          refine rr_stI C dX11_log_56 e20 ?_
          refine rr_aload_n (i := 0) C dX11_log_57 rfl rfl ?_
          replace hr := Option.bind_eq_some_iff.mp hr
          obtain ⟨v21, e22, hr⟩ := hr
          refine rr_rdR C dX11_log_58 fl_X11_56 e22 ?_
          refine rr_aload_n (i := 0) C dX11_log_61 rfl rfl ?_
          replace hr := Option.bind_eq_some_iff.mp hr
          obtain ⟨v23, e24, hr⟩ := hr
          refine rr_rdI C dX11_log_62 fl_X11_211 e24 ?_
          refine rr_iload_n (i := 2) C dX11_log_65 rfl rfl ?_
          replace hr := Option.bind_eq_some_iff.mp hr
          obtain ⟨a25, e26, hr⟩ := hr
          subst e26
          replace hr := Option.bind_eq_some_iff.mp hr
          obtain ⟨h27, e28, hr⟩ := hr
          refine rr_stI C dX11_log_66 e28 ?_
          refine rr_aload_n (i := 0) C dX11_log_67 rfl rfl ?_
          replace hr := Option.bind_eq_some_iff.mp hr
          obtain ⟨v29, e30, hr⟩ := hr
          refine rr_rdR C dX11_log_68 fl_X11_59 e30 ?_
          refine rr_aload_n (i := 0) C dX11_log_71 rfl rfl ?_
          replace hr := Option.bind_eq_some_iff.mp hr
          obtain ⟨v31, e32, hr⟩ := hr
          refine rr_rdI C dX11_log_72 fl_X11_211 e32 ?_
          refine rr_iload_n (i := 3) C dX11_log_75 rfl rfl ?_
          replace hr := Option.bind_eq_some_iff.mp hr
          obtain ⟨a33, e34, hr⟩ := hr
          subst e34
          replace hr := Option.bind_eq_some_iff.mp hr
          obtain ⟨h35, e36, hr⟩ := hr
          refine rr_stI C dX11_log_76 e36 ?_
          refine rr_aload_n (i := 0) C dX11_log_77 rfl rfl ?_
          replace hr := Option.bind_eq_some_iff.mp hr
          obtain ⟨v37, e38, hr⟩ := hr
          refine rr_rdR C dX11_log_78 fl_X11_62 e38 ?_
          refine rr_aload_n (i := 0) C dX11_log_81 rfl rfl ?_
          replace hr := Option.bind_eq_some_iff.mp hr
          obtain ⟨v39, e40, hr⟩ := hr
          refine rr_rdI C dX11_log_82 fl_X11_211 e40 ?_
          refine rr_aload_n (i := 0) C dX11_log_85 rfl rfl ?_
          replace hr := Option.bind_eq_some_iff.mp hr
          obtain ⟨v41, e42, hr⟩ := hr
          refine rr_rdI C dX11_log_86 fl_X11_172 e42 ?_
          replace hr := Option.bind_eq_some_iff.mp hr
          obtain ⟨a43, e44, hr⟩ := hr
          subst e44
          replace hr := Option.bind_eq_some_iff.mp hr
          obtain ⟨h45, e46, hr⟩ := hr
          refine rr_stI C dX11_log_89 e46 ?_
          refine rr_aload_n (i := 0) C dX11_log_90 rfl rfl ?_
          refine rr_dup C dX11_log_91 rfl ?_
          replace hr := Option.bind_eq_some_iff.mp hr
          obtain ⟨v47, e48, hr⟩ := hr
          refine rr_rdI C dX11_log_92 fl_X11_211 e48 ?_
          refine rr_iconst (v := 1) C dX11_log_95 (by decide) ?_
          refine rr_iadd C dX11_log_96 ?_
          replace hr := Option.bind_eq_some_iff.mp hr
          obtain ⟨h49, e50, hr⟩ := hr
          refine rr_wrF C dX11_log_97 fp_X11_211 rfl rfl e50 ?_
          refine rr_aload_n (i := 0) C dX11_log_100 rfl rfl ?_
          replace hr := Option.bind_eq_some_iff.mp hr
          obtain ⟨v51, e52, hr⟩ := hr
          refine rr_rdI C dX11_log_101 fl_X11_211 e52 ?_
          obtain rfl := Option.some.inj hr
          exact rr_iret (ty := .int) C dX11_log_104 rfl rfl ⟨rfl, rfl, rfl⟩
        · replace hr := (if_pos c42_).symm.trans hr
          refine rr_iconst (v := (-1)) C dX11_log_45 (by decide) ?_
          obtain rfl := Option.some.inj hr
          exact rr_iret (ty := .int) C dX11_log_46 rfl rfl ⟨rfl, rfl, rfl⟩
def lp_X11_four_3 (K : Nat) (n : Nat) (l0 : Nat) (l1 : Int32) : Nat → Int32 → mm_H → Option (mm_H)
  | 0, _, _ => none
  | k_ + 1, l2, h =>
    if l2 < 0 then
      some (h)
    else
    (rdR h n l0 10 52).bind fun v1 =>
    (rdI h n l0 10 26).bind fun v3 =>
    v1.bind fun a5 =>
    (stB h n a5 v3 ((Int32.toInt8 (l1 >>> (l2 &&& 31))).toInt32)).bind fun h7 =>
    (rdI h7 n l0 10 26).bind fun v9 =>
    (wrF h7 n l0 10 26 (.int (v9 + 1))).bind fun h11 =>
    lp_X11_four_3 K n l0 l1 k_ (l2 + (-8)) h11
def q_X11_four (K : Nat) (h : mm_H) (n : Nat) (l0 : Nat) (l1 : Int32) : Option (mm_H) :=
  (lp_X11_four_3 K n l0 l1 K 24 h).bind fun v13 =>
  some v13
set_option maxRecDepth 100000 in
set_option maxHeartbeats 4000000 in
theorem w_X11_four_3 {K : Nat} {W0 : mm_X} {G : mm_G} {mc ms kc ks : Nat} {Q_ : State → Prop} {n : Nat} (C : mm_C W0 G cX11_four yX11_four.cls 3 mc ms none 0 yX11_four.name) (hn : 48 ≤ n) (l0 : Nat) (l1 : Int32) : ∀ (k_ : Nat) (l2 : Int32) (h : mm_H) {r_ : mm_H} (hr : lp_X11_four_3 K n l0 l1 k_ l2 h = some r_) (hx0 : WW W0 G 3 mc ms Q_ 36 [none, none, none] [] r_ n kc ks), WW W0 G 3 mc ms Q_ 3 [some (.ref l0), some (.int l1), some (.int l2)] [] h n kc ks := by
  intro k_
  induction k_ with
  | zero =>
    intro l2 h r_ hr
    cases hr
  | succ k_ ih_ =>
    intro l2 h r_ hr hx0
    unfold lp_X11_four_3 at hr
    refine rr_iload_n (i := 2) C dX11_four_3 rfl rfl ?_
    refine rr_if_lt (tgt := 36) C dX11_four_4 (by decide) (fun c4_ => ?_) (fun c4_ => ?_)
    · replace hr := (if_pos c4_).symm.trans hr
      obtain rfl := Option.some.inj hr
      exact rr_keep [false, false, false] (hx0)
    · replace hr := (if_neg c4_).symm.trans hr
      refine rr_aload_n (i := 0) C dX11_four_7 rfl rfl ?_
      replace hr := Option.bind_eq_some_iff.mp hr
      obtain ⟨v1, e2, hr⟩ := hr
      refine rr_rdR C dX11_four_8 fl_X11_131 e2 ?_
      refine rr_aload_n (i := 0) C dX11_four_11 rfl rfl ?_
      replace hr := Option.bind_eq_some_iff.mp hr
      obtain ⟨v3, e4, hr⟩ := hr
      refine rr_rdI C dX11_four_12 fl_X11_214 e4 ?_
      refine rr_iload_n (i := 1) C dX11_four_15 rfl rfl ?_
      refine rr_iload_n (i := 2) C dX11_four_16 rfl rfl ?_
      refine rr_ishr C dX11_four_17 ?_
      refine rr_i2b C dX11_four_18 ?_
      replace hr := Option.bind_eq_some_iff.mp hr
      obtain ⟨a5, e6, hr⟩ := hr
      subst e6
      replace hr := Option.bind_eq_some_iff.mp hr
      obtain ⟨h7, e8, hr⟩ := hr
      refine rr_stB C dX11_four_19 e8 ?_
      refine rr_aload_n (i := 0) C dX11_four_20 rfl rfl ?_
      refine rr_dup C dX11_four_21 rfl ?_
      replace hr := Option.bind_eq_some_iff.mp hr
      obtain ⟨v9, e10, hr⟩ := hr
      refine rr_rdI C dX11_four_22 fl_X11_214 e10 ?_
      refine rr_iconst (v := 1) C dX11_four_25 (by decide) ?_
      refine rr_iadd C dX11_four_26 ?_
      replace hr := Option.bind_eq_some_iff.mp hr
      obtain ⟨h11, e12, hr⟩ := hr
      refine rr_wrF C dX11_four_27 fp_X11_214 rfl rfl e12 ?_
      refine rr_iinc (v := l2 + (-8)) C dX11_four_30 rfl rfl ?_
      show WW W0 G 3 _ _ _ 33 [some (.ref l0), some (.int l1), some (.int (l2 + (-8)))] [] h11 n _ _
      refine rr_goto (tgt := 3) C dX11_four_33 (by decide) ?_
      exact rr_keep [true, true, true] (ih_ _ _ hr hx0)
set_option maxRecDepth 100000 in
set_option maxHeartbeats 4000000 in
theorem c_X11_four {K : Nat} {G : mm_G} {l : Launch} {h : mm_H} {n : Nat} (l0 : Nat) (l1 : Int32) {r_ : mm_H} (hn : 48 ≤ n) (hr : q_X11_four K h n l0 l1 = some r_) : Sp G l yX11_four cX11_four 3 none 0 0 0 [.ref l0, .int l1] h n (fun v h' n' => v = none ∧ h' = r_ ∧ n' = n) := by
  refine Sp_of (by decide +kernel) (Nat.le_of_ble_eq_true rfl) hn ?_
  intro W0 hwl C
  subst hwl
  unfold q_X11_four at hr
  show WW W0 G 3 0 0 _ 0 [some (.ref l0), some (.int l1), none] [] h n 0 0
  refine rr_bipush (v := 24) C dX11_four_0 (by decide) ?_
  refine rr_istore_n (i := 2) C dX11_four_2 rfl (by decide) ?_
  show WW W0 G 3 _ _ _ 3 [some (.ref l0), some (.int l1), some (.int 24)] [] h n _ _
  replace hr := Option.bind_eq_some_iff.mp hr
  obtain ⟨v13, e14, hr⟩ := hr
  refine rr_keep [true, true, true] (w_X11_four_3 C (by omega) l0 l1 K 24 h e14 ?_)
  show WW W0 G 3 _ _ _ 36 [none, none, none] [] v13 n _ _
  obtain rfl := Option.some.inj hr
  exact rr_vret C dX11_four_36 rfl ⟨rfl, rfl, rfl⟩
def q_X11_feed (K : Nat) (h : mm_H) (n : Nat) (l0 : Nat) (l1 : Int32) (l2 : Int32) (l3 : Int32) (l4 : Int32) (l5 : Int32) : Option (Int32 × mm_H) :=
  (rdI h n l0 10 26).bind fun v1 =>
  if (v1 + 20) ≤ 900 then
    (ckq h n l0 10).bind fun u3 =>
    (q_X11_four K h n l0 l1).bind fun v5 =>
    (ckq v5 n l0 10).bind fun u7 =>
    (q_X11_four K v5 n l0 l2).bind fun v9 =>
    (ckq v9 n l0 10).bind fun u11 =>
    (q_X11_four K v9 n l0 l3).bind fun v13 =>
    (ckq v13 n l0 10).bind fun u15 =>
    (q_X11_four K v13 n l0 l4).bind fun v17 =>
    (ckq v17 n l0 10).bind fun u19 =>
    (q_X11_four K v17 n l0 l5).bind fun v21 =>
    (rdI v21 n l0 10 26).bind fun v23 =>
    some (v23, v21)
  else
  some ((-1), h)
set_option maxRecDepth 100000 in
set_option maxHeartbeats 4000000 in
theorem c_X11_feed {K : Nat} {G : mm_G} {l : Launch} {h : mm_H} {n : Nat} (l0 : Nat) (l1 : Int32) (l2 : Int32) (l3 : Int32) (l4 : Int32) (l5 : Int32) {r_ : Int32 × mm_H} (hn : 48 ≤ n) (hr : q_X11_feed K h n l0 l1 l2 l3 l4 l5 = some r_) : Sp G l yX11_feed cX11_feed 6 (some .int) 1 0 0 [.ref l0, .int l1, .int l2, .int l3, .int l4, .int l5] h n (fun v h' n' => v = some (.int r_.1) ∧ h' = r_.2 ∧ n' = n) := by
  refine Sp_of (by decide +kernel) (Nat.le_of_ble_eq_true rfl) hn ?_
  intro W0 hwl C
  subst hwl
  unfold q_X11_feed at hr
  show WW W0 G 6 0 0 _ 0 [some (.ref l0), some (.int l1), some (.int l2), some (.int l3), some (.int l4), some (.int l5)] [] h n 0 0
  refine rr_aload_n (i := 0) C dX11_feed_0 rfl rfl ?_
  replace hr := Option.bind_eq_some_iff.mp hr
  obtain ⟨v1, e2, hr⟩ := hr
  refine rr_rdI C dX11_feed_1 fl_X11_214 e2 ?_
  refine rr_bipush (v := 20) C dX11_feed_4 (by decide) ?_
  refine rr_iadd C dX11_feed_6 ?_
  refine rr_sipush (v := 900) C dX11_feed_7 (by decide) ?_
  refine rr_icmp_le (tgt := 15) C dX11_feed_10 (by decide) (fun c10_ => ?_) (fun c10_ => ?_)
  · replace hr := (if_pos c10_).symm.trans hr
    refine rr_aload_n (i := 0) C dX11_feed_15 rfl rfl ?_
    refine rr_iload_n (i := 1) C dX11_feed_16 rfl rfl ?_
    replace hr := Option.bind_eq_some_iff.mp hr
    obtain ⟨u3, e4, hr⟩ := hr
    replace hr := Option.bind_eq_some_iff.mp hr
    obtain ⟨v5, e6, hr⟩ := hr
    refine rr_callVq (as := [.int l1]) (st := []) (mc' := 0) (ms' := 0) C dX11_feed_17 iv_X11_217 (by decide) e4 rfl (Nat.le_of_ble_eq_true rfl) (c_X11_four l0 l1 (by omega) e6) (fun v_ h_ n_ q_ => ?_)
    obtain ⟨q1_, q2_, q3_⟩ := q_
    subst v_; subst h_; subst n_
    show WW W0 G 6 _ _ _ 20 [some (.ref l0), some (.int l1), some (.int l2), some (.int l3), some (.int l4), some (.int l5)] [] v5 n _ _
    refine rr_aload_n (i := 0) C dX11_feed_20 rfl rfl ?_
    refine rr_iload_n (i := 2) C dX11_feed_21 rfl rfl ?_
    replace hr := Option.bind_eq_some_iff.mp hr
    obtain ⟨u7, e8, hr⟩ := hr
    replace hr := Option.bind_eq_some_iff.mp hr
    obtain ⟨v9, e10, hr⟩ := hr
    refine rr_callVq (as := [.int l2]) (st := []) (mc' := 0) (ms' := 0) C dX11_feed_22 iv_X11_217 (by decide) e8 rfl (Nat.le_of_ble_eq_true rfl) (c_X11_four l0 l2 (by omega) e10) (fun v_ h_ n_ q_ => ?_)
    obtain ⟨q1_, q2_, q3_⟩ := q_
    subst v_; subst h_; subst n_
    show WW W0 G 6 _ _ _ 25 [some (.ref l0), some (.int l1), some (.int l2), some (.int l3), some (.int l4), some (.int l5)] [] v9 n _ _
    refine rr_aload_n (i := 0) C dX11_feed_25 rfl rfl ?_
    refine rr_iload_n (i := 3) C dX11_feed_26 rfl rfl ?_
    replace hr := Option.bind_eq_some_iff.mp hr
    obtain ⟨u11, e12, hr⟩ := hr
    replace hr := Option.bind_eq_some_iff.mp hr
    obtain ⟨v13, e14, hr⟩ := hr
    refine rr_callVq (as := [.int l3]) (st := []) (mc' := 0) (ms' := 0) C dX11_feed_27 iv_X11_217 (by decide) e12 rfl (Nat.le_of_ble_eq_true rfl) (c_X11_four l0 l3 (by omega) e14) (fun v_ h_ n_ q_ => ?_)
    obtain ⟨q1_, q2_, q3_⟩ := q_
    subst v_; subst h_; subst n_
    show WW W0 G 6 _ _ _ 30 [some (.ref l0), some (.int l1), some (.int l2), some (.int l3), some (.int l4), some (.int l5)] [] v13 n _ _
    refine rr_aload_n (i := 0) C dX11_feed_30 rfl rfl ?_
    refine rr_iload C dX11_feed_31 rfl ?_
    replace hr := Option.bind_eq_some_iff.mp hr
    obtain ⟨u15, e16, hr⟩ := hr
    replace hr := Option.bind_eq_some_iff.mp hr
    obtain ⟨v17, e18, hr⟩ := hr
    refine rr_callVq (as := [.int l4]) (st := []) (mc' := 0) (ms' := 0) C dX11_feed_33 iv_X11_217 (by decide) e16 rfl (Nat.le_of_ble_eq_true rfl) (c_X11_four l0 l4 (by omega) e18) (fun v_ h_ n_ q_ => ?_)
    obtain ⟨q1_, q2_, q3_⟩ := q_
    subst v_; subst h_; subst n_
    show WW W0 G 6 _ _ _ 36 [some (.ref l0), some (.int l1), some (.int l2), some (.int l3), some (.int l4), some (.int l5)] [] v17 n _ _
    refine rr_aload_n (i := 0) C dX11_feed_36 rfl rfl ?_
    refine rr_iload C dX11_feed_37 rfl ?_
    replace hr := Option.bind_eq_some_iff.mp hr
    obtain ⟨u19, e20, hr⟩ := hr
    replace hr := Option.bind_eq_some_iff.mp hr
    obtain ⟨v21, e22, hr⟩ := hr
    refine rr_callVq (as := [.int l5]) (st := []) (mc' := 0) (ms' := 0) C dX11_feed_39 iv_X11_217 (by decide) e20 rfl (Nat.le_of_ble_eq_true rfl) (c_X11_four l0 l5 (by omega) e22) (fun v_ h_ n_ q_ => ?_)
    obtain ⟨q1_, q2_, q3_⟩ := q_
    subst v_; subst h_; subst n_
    show WW W0 G 6 _ _ _ 42 [some (.ref l0), some (.int l1), some (.int l2), some (.int l3), some (.int l4), some (.int l5)] [] v21 n _ _
    refine rr_aload_n (i := 0) C dX11_feed_42 rfl rfl ?_
    replace hr := Option.bind_eq_some_iff.mp hr
    obtain ⟨v23, e24, hr⟩ := hr
    refine rr_rdI C dX11_feed_43 fl_X11_214 e24 ?_
    obtain rfl := Option.some.inj hr
    exact rr_iret (ty := .int) C dX11_feed_46 rfl rfl ⟨rfl, rfl, rfl⟩
  · replace hr := (if_neg c10_).symm.trans hr
    refine rr_iconst (v := (-1)) C dX11_feed_13 (by decide) ?_
    obtain rfl := Option.some.inj hr
    exact rr_iret (ty := .int) C dX11_feed_14 rfl rfl ⟨rfl, rfl, rfl⟩

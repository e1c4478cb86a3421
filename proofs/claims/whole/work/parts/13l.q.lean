def lp_X11_due_5 (K : Nat) (h : mm_H) (n : Nat) (l0 : Nat) (l1 : Int32) (l2 : Int32) : Nat → Int64 → Int32 → Option (Int64)
  | 0, _, _ => none
  | k_ + 1, l3, l5 =>
    (rdI h n l0 10 8).bind fun v1 =>
    if v1 ≤ l5 then
      some (l3)
    else
    (rdR h n l0 10 11).bind fun v3 =>
    v3.bind fun a5 =>
    (ldI h n a5 l5).bind fun v7 =>
    if v7 = l1 then
      (rdR h n l0 10 13).bind fun v9 =>
      v9.bind fun a11 =>
      (ldI h n a11 l5).bind fun v13 =>
      if v13 = l2 then
        (rdR h n l0 10 12).bind fun v15 =>
        v15.bind fun a17 =>
        (ldI h n a17 l5).bind fun v19 =>
        lp_X11_due_5 K h n l0 l1 l2 k_ (l3 + (Int32.toInt64 v19)) (l5 + 1)
      else
      lp_X11_due_5 K h n l0 l1 l2 k_ l3 (l5 + 1)
    else
    lp_X11_due_5 K h n l0 l1 l2 k_ l3 (l5 + 1)
def q_X11_due (K : Nat) (h : mm_H) (n : Nat) (l0 : Nat) (l1 : Int32) (l2 : Int32) : Option (Int64) :=
  (lp_X11_due_5 K h n l0 l1 l2 K 0 0).bind fun v22 =>
  some v22
set_option maxRecDepth 100000 in
set_option maxHeartbeats 4000000 in
theorem w_X11_due_5 {K : Nat} {W0 : mm_X} {G : mm_G} {mc ms kc ks : Nat} {Q_ : State → Prop} {h : mm_H} {n : Nat} (C : mm_C W0 G cX11_due yX11_due.cls 6 mc ms (some .long) 0 yX11_due.name) (hn : 32 ≤ n) (l0 : Nat) (l1 : Int32) (l2 : Int32) : ∀ (k_ : Nat) (l3 : Int64) (l5 : Int32) {r_ : Int64} (hr : lp_X11_due_5 K h n l0 l1 l2 k_ l3 l5 = some r_) (hx0 : WW W0 G 6 mc ms Q_ 53 [none, none, none, some (.long r_), none, none] [] h n kc ks), WW W0 G 6 mc ms Q_ 5 [some (.ref l0), some (.int l1), some (.int l2), some (.long l3), none, some (.int l5)] [] h n kc ks := by
  intro k_
  induction k_ with
  | zero =>
    intro l3 l5 r_ hr
    cases hr
  | succ k_ ih_ =>
    intro l3 l5 r_ hr hx0
    unfold lp_X11_due_5 at hr
    refine rr_iload C dX11_due_5 rfl ?_
    refine rr_aload_n (i := 0) C dX11_due_7 rfl rfl ?_
    replace hr := Option.bind_eq_some_iff.mp hr
    obtain ⟨v1, e2, hr⟩ := hr
    refine rr_rdI C dX11_due_8 fl_X11_202 e2 ?_
    refine rr_icmp_ge (tgt := 53) C dX11_due_11 (by decide) (fun c11_ => ?_) (fun c11_ => ?_)
    · replace hr := (if_pos c11_).symm.trans hr
      obtain rfl := Option.some.inj hr
      exact rr_keep [false, false, false, true, false, false] (hx0)
    · replace hr := (if_neg c11_).symm.trans hr
      refine rr_aload_n (i := 0) C dX11_due_14 rfl rfl ?_
      replace hr := Option.bind_eq_some_iff.mp hr
      obtain ⟨v3, e4, hr⟩ := hr
      refine rr_rdR C dX11_due_15 fl_X11_26 e4 ?_
      refine rr_iload C dX11_due_18 rfl ?_
      replace hr := Option.bind_eq_some_iff.mp hr
      obtain ⟨a5, e6, hr⟩ := hr
      subst e6
      replace hr := Option.bind_eq_some_iff.mp hr
      obtain ⟨v7, e8, hr⟩ := hr
      refine rr_ldI C dX11_due_20 e8 ?_
      refine rr_iload_n (i := 1) C dX11_due_21 rfl rfl ?_
      refine rr_icmp_ne (tgt := 47) C dX11_due_22 (by decide) (fun c22_ => ?_) (fun c22_ => ?_)
      · replace hr := (if_neg c22_).symm.trans hr
        refine rr_iinc (v := l5 + 1) C dX11_due_47 rfl rfl ?_
        show WW W0 G 6 _ _ _ 50 [some (.ref l0), some (.int l1), some (.int l2), some (.long l3), none, some (.int (l5 + 1))] [] h n _ _
        refine rr_goto (tgt := 5) C dX11_due_50 (by decide) ?_
        exact rr_keep [true, true, true, true, false, true] (ih_ _ _ hr hx0)
      · replace hr := (if_pos c22_).symm.trans hr
        refine rr_aload_n (i := 0) C dX11_due_25 rfl rfl ?_
        replace hr := Option.bind_eq_some_iff.mp hr
        obtain ⟨v9, e10, hr⟩ := hr
        refine rr_rdR C dX11_due_26 fl_X11_32 e10 ?_
        refine rr_iload C dX11_due_29 rfl ?_
        replace hr := Option.bind_eq_some_iff.mp hr
        obtain ⟨a11, e12, hr⟩ := hr
        subst e12
        replace hr := Option.bind_eq_some_iff.mp hr
        obtain ⟨v13, e14, hr⟩ := hr
        refine rr_ldI C dX11_due_31 e14 ?_
        refine rr_iload_n (i := 2) C dX11_due_32 rfl rfl ?_
        refine rr_icmp_ne (tgt := 47) C dX11_due_33 (by decide) (fun c33_ => ?_) (fun c33_ => ?_)
        · replace hr := (if_neg c33_).symm.trans hr
          refine rr_iinc (v := l5 + 1) C dX11_due_47 rfl rfl ?_
          show WW W0 G 6 _ _ _ 50 [some (.ref l0), some (.int l1), some (.int l2), some (.long l3), none, some (.int (l5 + 1))] [] h n _ _
          refine rr_goto (tgt := 5) C dX11_due_50 (by decide) ?_
          exact rr_keep [true, true, true, true, false, true] (ih_ _ _ hr hx0)
        · replace hr := (if_pos c33_).symm.trans hr
          refine rr_lload_n (i := 3) C dX11_due_36 rfl rfl ?_
          refine rr_aload_n (i := 0) C dX11_due_37 rfl rfl ?_
          replace hr := Option.bind_eq_some_iff.mp hr
          obtain ⟨v15, e16, hr⟩ := hr
          refine rr_rdR C dX11_due_38 fl_X11_29 e16 ?_
          refine rr_iload C dX11_due_41 rfl ?_
          replace hr := Option.bind_eq_some_iff.mp hr
          obtain ⟨a17, e18, hr⟩ := hr
          subst e18
          replace hr := Option.bind_eq_some_iff.mp hr
          obtain ⟨v19, e20, hr⟩ := hr
          refine rr_ldI C dX11_due_43 e20 ?_
          refine rr_i2l C dX11_due_44 ?_
          refine rr_ladd C dX11_due_45 ?_
          refine rr_lstore_n (i := 3) C dX11_due_46 rfl (by decide) ?_
          show WW W0 G 6 _ _ _ 47 [some (.ref l0), some (.int l1), some (.int l2), some (.long (l3 + (Int32.toInt64 v19))), none, some (.int l5)] [] h n _ _
          refine rr_iinc (v := l5 + 1) C dX11_due_47 rfl rfl ?_
          show WW W0 G 6 _ _ _ 50 [some (.ref l0), some (.int l1), some (.int l2), some (.long (l3 + (Int32.toInt64 v19))), none, some (.int (l5 + 1))] [] h n _ _
          refine rr_goto (tgt := 5) C dX11_due_50 (by decide) ?_
          exact rr_keep [true, true, true, true, false, true] (ih_ _ _ hr hx0)
set_option maxRecDepth 100000 in
set_option maxHeartbeats 4000000 in
theorem c_X11_due {K : Nat} {G : mm_G} {l : Launch} {h : mm_H} {n : Nat} (l0 : Nat) (l1 : Int32) (l2 : Int32) {r_ : Int64} (hn : 32 ≤ n) (hr : q_X11_due K h n l0 l1 l2 = some r_) : Sp G l yX11_due cX11_due 6 (some .long) 0 0 0 [.ref l0, .int l1, .int l2] h n (fun v h' n' => v = some (.long r_) ∧ h' = h ∧ n' = n) := by
  refine Sp_of (by decide +kernel) (Nat.le_of_ble_eq_true rfl) hn ?_
  intro W0 hwl C
  subst hwl
  unfold q_X11_due at hr
  show WW W0 G 6 0 0 _ 0 [some (.ref l0), some (.int l1), some (.int l2), none, none, none] [] h n 0 0
  refine rr_lconst (v := 0) C dX11_due_0 (by decide) ?_
  refine rr_lstore_n (i := 3) C dX11_due_1 rfl (by decide) ?_
  show WW W0 G 6 _ _ _ 2 [some (.ref l0), some (.int l1), some (.int l2), some (.long 0), none, none] [] h n _ _
  refine rr_iconst (v := 0) C dX11_due_2 (by decide) ?_
  refine rr_istore C dX11_due_3 (by decide) ?_
  show WW W0 G 6 _ _ _ 5 [some (.ref l0), some (.int l1), some (.int l2), some (.long 0), none, some (.int 0)] [] h n _ _
  replace hr := Option.bind_eq_some_iff.mp hr
  obtain ⟨v22, e23, hr⟩ := hr
  refine rr_keep [true, true, true, true, false, true] (w_X11_due_5 C (by omega) l0 l1 l2 K 0 0 e23 ?_)
  show WW W0 G 6 _ _ _ 53 [none, none, none, some (.long v22), none, none] [] h n _ _
  refine rr_lload_n (i := 3) C dX11_due_53 rfl rfl ?_
  obtain rfl := Option.some.inj hr
  exact rr_lret C dX11_due_54 rfl ⟨rfl, rfl, rfl⟩
def q_X11_isYearOf (K : Nat) (h : mm_H) (n : Nat) (l0 : Nat) (l1 : Int32) (l2 : Int32) (l3 : Int32) : Option (Int32) :=
  (ckq h n l0 10).bind fun u1 =>
  (q_X11_isFirm K h n l0 l1).bind fun v3 =>
  if v3 = 0 then
    some 0
  else
  (q_X11_isYear K h n l2).bind fun v5 =>
  if v5 = 0 then
    some 0
  else
  (q_X11_isDay K h n l3).bind fun v7 =>
  if v7 = 0 then
    some 0
  else
  some 1
set_option maxRecDepth 100000 in
set_option maxHeartbeats 4000000 in
theorem c_X11_isYearOf {K : Nat} {G : mm_G} {l : Launch} {h : mm_H} {n : Nat} (l0 : Nat) (l1 : Int32) (l2 : Int32) (l3 : Int32) {r_ : Int32} (hn : 32 ≤ n) (hr : q_X11_isYearOf K h n l0 l1 l2 l3 = some r_) : Sp G l yX11_isYearOf cX11_isYearOf 4 (some .boolean) 2 0 0 [.ref l0, .int l1, .int l2, .int l3] h n (fun v h' n' => v = some (.int r_) ∧ h' = h ∧ n' = n) := by
  refine Sp_of (by decide +kernel) (Nat.le_of_ble_eq_true rfl) hn ?_
  intro W0 hwl C
  subst hwl
  unfold q_X11_isYearOf at hr
  show WW W0 G 4 0 0 _ 0 [some (.ref l0), some (.int l1), some (.int l2), some (.int l3)] [] h n 0 0
  refine rr_aload_n (i := 0) C dX11_isYearOf_0 rfl rfl ?_
  refine rr_iload_n (i := 1) C dX11_isYearOf_1 rfl rfl ?_
  replace hr := Option.bind_eq_some_iff.mp hr
  obtain ⟨u1, e2, hr⟩ := hr
  replace hr := Option.bind_eq_some_iff.mp hr
  obtain ⟨v3, e4, hr⟩ := hr
  refine rr_callVq (as := [.int l1]) (st := []) (mc' := 0) (ms' := 0) C dX11_isYearOf_2 iv_X11_177 (by decide) e2 rfl (Nat.le_of_ble_eq_true rfl) (c_X11_isFirm l0 l1 (by omega) e4) (fun v_ h_ n_ q_ => ?_)
  obtain ⟨q1_, q2_, q3_⟩ := q_
  subst v_; subst h_; subst n_
  show WW W0 G 4 _ _ _ 5 [some (.ref l0), some (.int l1), some (.int l2), some (.int l3)] [.int v3] h n _ _
  refine rr_if_eq (tgt := 26) C dX11_isYearOf_5 (by decide) (fun c5_ => ?_) (fun c5_ => ?_)
  · replace hr := (if_pos c5_).symm.trans hr
    refine rr_iconst (v := 0) C dX11_isYearOf_26 (by decide) ?_
    obtain rfl := Option.some.inj hr
    exact rr_iret (ty := .boolean) C dX11_isYearOf_27 rfl rfl ⟨rfl, rfl, rfl⟩
  · replace hr := (if_neg c5_).symm.trans hr
    refine rr_iload_n (i := 2) C dX11_isYearOf_8 rfl rfl ?_
    replace hr := Option.bind_eq_some_iff.mp hr
    obtain ⟨v5, e6, hr⟩ := hr
    refine rr_callS (as := [.int l2]) (st := []) (mc' := 0) (ms' := 0) C dX11_isYearOf_9 it_X11_181 (by decide) (Nat.le_of_ble_eq_true rfl) (c_X11_isYear l2 (by omega) e6) (fun v_ h_ n_ q_ => ?_)
    obtain ⟨q1_, q2_, q3_⟩ := q_
    subst v_; subst h_; subst n_
    show WW W0 G 4 _ _ _ 12 [some (.ref l0), some (.int l1), some (.int l2), some (.int l3)] [.int v5] h n _ _
    refine rr_if_eq (tgt := 26) C dX11_isYearOf_12 (by decide) (fun c12_ => ?_) (fun c12_ => ?_)
    · replace hr := (if_pos c12_).symm.trans hr
      refine rr_iconst (v := 0) C dX11_isYearOf_26 (by decide) ?_
      obtain rfl := Option.some.inj hr
      exact rr_iret (ty := .boolean) C dX11_isYearOf_27 rfl rfl ⟨rfl, rfl, rfl⟩
    · replace hr := (if_neg c12_).symm.trans hr
      refine rr_iload_n (i := 3) C dX11_isYearOf_15 rfl rfl ?_
      replace hr := Option.bind_eq_some_iff.mp hr
      obtain ⟨v7, e8, hr⟩ := hr
      refine rr_callS (as := [.int l3]) (st := []) (mc' := 0) (ms' := 0) C dX11_isYearOf_16 it_X11_195 (by decide) (Nat.le_of_ble_eq_true rfl) (c_X11_isDay l3 (by omega) e8) (fun v_ h_ n_ q_ => ?_)
      obtain ⟨q1_, q2_, q3_⟩ := q_
      subst v_; subst h_; subst n_
      show WW W0 G 4 _ _ _ 19 [some (.ref l0), some (.int l1), some (.int l2), some (.int l3)] [.int v7] h n _ _
      refine rr_if_eq (tgt := 26) C dX11_isYearOf_19 (by decide) (fun c19_ => ?_) (fun c19_ => ?_)
      · replace hr := (if_pos c19_).symm.trans hr
        refine rr_iconst (v := 0) C dX11_isYearOf_26 (by decide) ?_
        obtain rfl := Option.some.inj hr
        exact rr_iret (ty := .boolean) C dX11_isYearOf_27 rfl rfl ⟨rfl, rfl, rfl⟩
      · replace hr := (if_neg c19_).symm.trans hr
        refine rr_iconst (v := 1) C dX11_isYearOf_22 (by decide) ?_
        refine rr_goto (tgt := 27) C dX11_isYearOf_23 (by decide) ?_
        obtain rfl := Option.some.inj hr
        exact rr_iret (ty := .boolean) C dX11_isYearOf_27 rfl rfl ⟨rfl, rfl, rfl⟩
def q_X11_partsOf (K : Nat) (h : mm_H) (n : Nat) (l0 : Int32) : Option (Int32) :=
  if l0 = 0 then
    some 2
  else
  if l0 = 1 then
    some 3
  else
  some 5
set_option maxRecDepth 100000 in
set_option maxHeartbeats 4000000 in
theorem c_X11_partsOf {K : Nat} {G : mm_G} {l : Launch} {h : mm_H} {n : Nat} (l0 : Int32) {r_ : Int32} (hn : 32 ≤ n) (hr : q_X11_partsOf K h n l0 = some r_) : Sp G l yX11_partsOf cX11_partsOf 1 (some .int) 0 0 0 [.int l0] h n (fun v h' n' => v = some (.int r_) ∧ h' = h ∧ n' = n) := by
  refine Sp_of (by decide +kernel) (Nat.le_of_ble_eq_true rfl) hn ?_
  intro W0 hwl C
  subst hwl
  unfold q_X11_partsOf at hr
  show WW W0 G 1 0 0 _ 0 [some (.int l0)] [] h n 0 0
  refine rr_iload_n (i := 0) C dX11_partsOf_0 rfl rfl ?_
  refine rr_if_ne (tgt := 8) C dX11_partsOf_1 (by decide) (fun c1_ => ?_) (fun c1_ => ?_)
  · replace hr := (if_neg c1_).symm.trans hr
    refine rr_iload_n (i := 0) C dX11_partsOf_8 rfl rfl ?_
    refine rr_iconst (v := 1) C dX11_partsOf_9 (by decide) ?_
    refine rr_icmp_ne (tgt := 17) C dX11_partsOf_10 (by decide) (fun c10_ => ?_) (fun c10_ => ?_)
    · replace hr := (if_neg c10_).symm.trans hr
      refine rr_iconst (v := 5) C dX11_partsOf_17 (by decide) ?_
      obtain rfl := Option.some.inj hr
      exact rr_iret (ty := .int) C dX11_partsOf_18 rfl rfl ⟨rfl, rfl, rfl⟩
    · replace hr := (if_pos c10_).symm.trans hr
      refine rr_iconst (v := 3) C dX11_partsOf_13 (by decide) ?_
      refine rr_goto (tgt := 18) C dX11_partsOf_14 (by decide) ?_
      obtain rfl := Option.some.inj hr
      exact rr_iret (ty := .int) C dX11_partsOf_18 rfl rfl ⟨rfl, rfl, rfl⟩
  · replace hr := (if_pos c1_).symm.trans hr
    refine rr_iconst (v := 2) C dX11_partsOf_4 (by decide) ?_
    refine rr_goto (tgt := 18) C dX11_partsOf_5 (by decide) ?_
    obtain rfl := Option.some.inj hr
    exact rr_iret (ty := .int) C dX11_partsOf_18 rfl rfl ⟨rfl, rfl, rfl⟩
def q_X11_homes (K : Nat) (h : mm_H) (n : Nat) (l0 : Nat) (l1 : Int32) (l2 : Int32) (l3 : Int32) (l4 : Int32) : Option (Int32) :=
  (ckq h n l0 10).bind fun u1 =>
  (q_X11_factBy K h n l0 l1 l2 (11 + l4) l3).bind fun v3 =>
  some (i_max 0 v3)
set_option maxRecDepth 100000 in
set_option maxHeartbeats 4000000 in
theorem c_X11_homes {K : Nat} {G : mm_G} {l : Launch} {h : mm_H} {n : Nat} (l0 : Nat) (l1 : Int32) (l2 : Int32) (l3 : Int32) (l4 : Int32) {r_ : Int32} (hn : 32 ≤ n) (hr : q_X11_homes K h n l0 l1 l2 l3 l4 = some r_) : Sp G l yX11_homes cX11_homes 5 (some .int) 2 0 0 [.ref l0, .int l1, .int l2, .int l3, .int l4] h n (fun v h' n' => v = some (.int r_) ∧ h' = h ∧ n' = n) := by
  refine Sp_of (by decide +kernel) (Nat.le_of_ble_eq_true rfl) hn ?_
  intro W0 hwl C
  subst hwl
  unfold q_X11_homes at hr
  show WW W0 G 5 0 0 _ 0 [some (.ref l0), some (.int l1), some (.int l2), some (.int l3), some (.int l4)] [] h n 0 0
  refine rr_iconst (v := 0) C dX11_homes_0 (by decide) ?_
  refine rr_aload_n (i := 0) C dX11_homes_1 rfl rfl ?_
  refine rr_iload_n (i := 1) C dX11_homes_2 rfl rfl ?_
  refine rr_iload_n (i := 2) C dX11_homes_3 rfl rfl ?_
  refine rr_bipush (v := 11) C dX11_homes_4 (by decide) ?_
  refine rr_iload C dX11_homes_6 rfl ?_
  refine rr_iadd C dX11_homes_8 ?_
  refine rr_iload_n (i := 3) C dX11_homes_9 rfl rfl ?_
  replace hr := Option.bind_eq_some_iff.mp hr
  obtain ⟨u1, e2, hr⟩ := hr
  replace hr := Option.bind_eq_some_iff.mp hr
  obtain ⟨v3, e4, hr⟩ := hr
  refine rr_callVq (as := [.int l1, .int l2, .int (11 + l4), .int l3]) (st := [.int 0]) (mc' := 0) (ms' := 0) C dX11_homes_10 iv_X11_198 (by decide) e2 rfl (Nat.le_of_ble_eq_true rfl) (c_X11_factBy l0 l1 l2 (11 + l4) l3 (by omega) e4) (fun v_ h_ n_ q_ => ?_)
  obtain ⟨q1_, q2_, q3_⟩ := q_
  subst v_; subst h_; subst n_
  show WW W0 G 5 _ _ _ 13 [some (.ref l0), some (.int l1), some (.int l2), some (.int l3), some (.int l4)] [.int v3, .int 0] h n _ _
  refine rr_mmax C dX11_homes_13 ma_X11_406 (by decide) (Nat.le_of_ble_eq_true rfl) ?_
  obtain rfl := Option.some.inj hr
  exact rr_iret (ty := .int) C dX11_homes_16 rfl rfl ⟨rfl, rfl, rfl⟩
def lp_X11_paid_6 (K : Nat) (h : mm_H) (n : Nat) (l0 : Nat) (l1 : Int64) (l3 : Int32) (l4 : Int32) (l5 : Int32) (l6 : Int32) : Nat → Int64 → Int32 → Option (Int64)
  | 0, _, _ => none
  | k_ + 1, l7, l9 =>
    if 3 ≤ l9 then
      some (l7)
    else
    (ckq h n l0 10).bind fun u1 =>
    (q_X11_homes K h n l0 l3 l4 l5 l9).bind fun v3 =>
    (q_X11_partsOf K h n l9).bind fun v5 =>
    lp_X11_paid_6 K h n l0 l1 l3 l4 l5 l6 k_ (l7 + ((Int32.toInt64 v3) * (Int32.toInt64 v5))) (l9 + 1)
def q_X11_paid (K : Nat) (h : mm_H) (n : Nat) (l0 : Nat) (l1 : Int64) (l3 : Int32) (l4 : Int32) (l5 : Int32) (l6 : Int32) : Option (Int64) :=
  (lp_X11_paid_6 K h n l0 l1 l3 l4 l5 l6 K 0 0).bind fun v8 =>
  if (lg_cmp v8 0) = 0 then
    some 0
  else
  (q_X11_partsOf K h n l6).bind fun v10 =>
  if v8 = 0 then none else
  some ((l1 * (Int32.toInt64 v10)) / v8)
set_option maxRecDepth 100000 in
set_option maxHeartbeats 4000000 in
theorem w_X11_paid_6 {K : Nat} {W0 : mm_X} {G : mm_G} {mc ms kc ks : Nat} {Q_ : State → Prop} {h : mm_H} {n : Nat} (C : mm_C W0 G cX11_paid yX11_paid.cls 10 mc ms (some .long) 3 yX11_paid.name) (hn : 32 ≤ n) (l0 : Nat) (l1 : Int64) (l3 : Int32) (l4 : Int32) (l5 : Int32) (l6 : Int32) : ∀ (k_ : Nat) (l7 : Int64) (l9 : Int32) {r_ : Int64} (hr : lp_X11_paid_6 K h n l0 l1 l3 l4 l5 l6 k_ l7 l9 = some r_) (hx0 : WW W0 G 10 mc ms Q_ 42 [none, some (.long l1), none, none, none, none, some (.int l6), some (.long r_), none, none] [] h n kc ks), WW W0 G 10 mc ms Q_ 6 [some (.ref l0), some (.long l1), none, some (.int l3), some (.int l4), some (.int l5), some (.int l6), some (.long l7), none, some (.int l9)] [] h n kc ks := by
  intro k_
  induction k_ with
  | zero =>
    intro l7 l9 r_ hr
    cases hr
  | succ k_ ih_ =>
    intro l7 l9 r_ hr hx0
    unfold lp_X11_paid_6 at hr
    refine rr_iload C dX11_paid_6 rfl ?_
    refine rr_iconst (v := 3) C dX11_paid_8 (by decide) ?_
    refine rr_icmp_ge (tgt := 42) C dX11_paid_9 (by decide) (fun c9_ => ?_) (fun c9_ => ?_)
    · replace hr := (if_pos c9_).symm.trans hr
      obtain rfl := Option.some.inj hr
      exact rr_keep [false, true, false, false, false, false, true, true, false, false] (hx0)
    · replace hr := (if_neg c9_).symm.trans hr
      refine rr_lload C dX11_paid_12 rfl ?_
      refine rr_aload_n (i := 0) C dX11_paid_14 rfl rfl ?_
      refine rr_iload_n (i := 3) C dX11_paid_15 rfl rfl ?_
      refine rr_iload C dX11_paid_16 rfl ?_
      refine rr_iload C dX11_paid_18 rfl ?_
      refine rr_iload C dX11_paid_20 rfl ?_
      replace hr := Option.bind_eq_some_iff.mp hr
      obtain ⟨u1, e2, hr⟩ := hr
      replace hr := Option.bind_eq_some_iff.mp hr
      obtain ⟨v3, e4, hr⟩ := hr
      refine rr_callVq (as := [.int l3, .int l4, .int l5, .int l9]) (st := [.long l7]) (mc' := 0) (ms' := 0) C dX11_paid_22 iv_X11_535 (by decide) e2 rfl (Nat.le_of_ble_eq_true rfl) (c_X11_homes l0 l3 l4 l5 l9 (by omega) e4) (fun v_ h_ n_ q_ => ?_)
      obtain ⟨q1_, q2_, q3_⟩ := q_
      subst v_; subst h_; subst n_
      show WW W0 G 10 _ _ _ 25 [some (.ref l0), some (.long l1), none, some (.int l3), some (.int l4), some (.int l5), some (.int l6), some (.long l7), none, some (.int l9)] [.int v3, .long l7] h n _ _
      refine rr_i2l C dX11_paid_25 ?_
      refine rr_iload C dX11_paid_26 rfl ?_
      replace hr := Option.bind_eq_some_iff.mp hr
      obtain ⟨v5, e6, hr⟩ := hr
      refine rr_callS (as := [.int l9]) (st := [.long (Int32.toInt64 v3), .long l7]) (mc' := 0) (ms' := 0) C dX11_paid_28 it_X11_538 (by decide) (Nat.le_of_ble_eq_true rfl) (c_X11_partsOf l9 (by omega) e6) (fun v_ h_ n_ q_ => ?_)
      obtain ⟨q1_, q2_, q3_⟩ := q_
      subst v_; subst h_; subst n_
      show WW W0 G 10 _ _ _ 31 [some (.ref l0), some (.long l1), none, some (.int l3), some (.int l4), some (.int l5), some (.int l6), some (.long l7), none, some (.int l9)] [.int v5, .long (Int32.toInt64 v3), .long l7] h n _ _
      refine rr_i2l C dX11_paid_31 ?_
      refine rr_lmul C dX11_paid_32 ?_
      refine rr_ladd C dX11_paid_33 ?_
      refine rr_lstore C dX11_paid_34 (by decide) ?_
      show WW W0 G 10 _ _ _ 36 [some (.ref l0), some (.long l1), none, some (.int l3), some (.int l4), some (.int l5), some (.int l6), some (.long (l7 + ((Int32.toInt64 v3) * (Int32.toInt64 v5)))), none, some (.int l9)] [] h n _ _
      refine rr_iinc (v := l9 + 1) C dX11_paid_36 rfl rfl ?_
      show WW W0 G 10 _ _ _ 39 [some (.ref l0), some (.long l1), none, some (.int l3), some (.int l4), some (.int l5), some (.int l6), some (.long (l7 + ((Int32.toInt64 v3) * (Int32.toInt64 v5)))), none, some (.int (l9 + 1))] [] h n _ _
      refine rr_goto (tgt := 6) C dX11_paid_39 (by decide) ?_
      exact rr_keep [true, true, false, true, true, true, true, true, false, true] (ih_ _ _ hr hx0)
set_option maxRecDepth 100000 in
set_option maxHeartbeats 4000000 in
theorem c_X11_paid {K : Nat} {G : mm_G} {l : Launch} {h : mm_H} {n : Nat} (l0 : Nat) (l1 : Int64) (l3 : Int32) (l4 : Int32) (l5 : Int32) (l6 : Int32) {r_ : Int64} (hn : 32 ≤ n) (hr : q_X11_paid K h n l0 l1 l3 l4 l5 l6 = some r_) : Sp G l yX11_paid cX11_paid 10 (some .long) 3 0 0 [.ref l0, .long l1, .int l3, .int l4, .int l5, .int l6] h n (fun v h' n' => v = some (.long r_) ∧ h' = h ∧ n' = n) := by
  refine Sp_of (by decide +kernel) (Nat.le_of_ble_eq_true rfl) hn ?_
  intro W0 hwl C
  subst hwl
  unfold q_X11_paid at hr
  show WW W0 G 10 0 0 _ 0 [some (.ref l0), some (.long l1), none, some (.int l3), some (.int l4), some (.int l5), some (.int l6), none, none, none] [] h n 0 0
  refine rr_lconst (v := 0) C dX11_paid_0 (by decide) ?_
  refine rr_lstore C dX11_paid_1 (by decide) ?_
  show WW W0 G 10 _ _ _ 3 [some (.ref l0), some (.long l1), none, some (.int l3), some (.int l4), some (.int l5), some (.int l6), some (.long 0), none, none] [] h n _ _
  refine rr_iconst (v := 0) C dX11_paid_3 (by decide) ?_
  refine rr_istore C dX11_paid_4 (by decide) ?_
  show WW W0 G 10 _ _ _ 6 [some (.ref l0), some (.long l1), none, some (.int l3), some (.int l4), some (.int l5), some (.int l6), some (.long 0), none, some (.int 0)] [] h n _ _
  replace hr := Option.bind_eq_some_iff.mp hr
  obtain ⟨v8, e9, hr⟩ := hr
  refine rr_keep [true, true, false, true, true, true, true, true, false, true] (w_X11_paid_6 C (by omega) l0 l1 l3 l4 l5 l6 K 0 0 e9 ?_)
  show WW W0 G 10 _ _ _ 42 [none, some (.long l1), none, none, none, none, some (.int l6), some (.long v8), none, none] [] h n _ _
  refine rr_lload C dX11_paid_42 rfl ?_
  refine rr_lconst (v := 0) C dX11_paid_44 (by decide) ?_
  refine rr_lcmp C dX11_paid_45 ?_
  refine rr_if_ne (tgt := 53) C dX11_paid_46 (by decide) (fun c46_ => ?_) (fun c46_ => ?_)
  · replace hr := (if_neg c46_).symm.trans hr
    refine rr_lload_n (i := 1) C dX11_paid_53 rfl rfl ?_
    refine rr_iload C dX11_paid_54 rfl ?_
    replace hr := Option.bind_eq_some_iff.mp hr
    obtain ⟨v10, e11, hr⟩ := hr
    refine rr_callS (as := [.int l6]) (st := [.long l1]) (mc' := 0) (ms' := 0) C dX11_paid_56 it_X11_538 (by decide) (Nat.le_of_ble_eq_true rfl) (c_X11_partsOf l6 (by omega) e11) (fun v_ h_ n_ q_ => ?_)
    obtain ⟨q1_, q2_, q3_⟩ := q_
    subst v_; subst h_; subst n_
    show WW W0 G 10 _ _ _ 59 [none, some (.long l1), none, none, none, none, some (.int l6), some (.long v8), none, none] [.int v10, .long l1] h n _ _
    refine rr_i2l C dX11_paid_59 ?_
    refine rr_lmul C dX11_paid_60 ?_
    refine rr_lload C dX11_paid_61 rfl ?_
    by_cases z12 : v8 = 0
    · replace hr := (if_pos z12).symm.trans hr
      cases hr
    replace hr := (if_neg z12).symm.trans hr
    refine rr_ldiv C dX11_paid_63 z12 ?_
    obtain rfl := Option.some.inj hr
    exact rr_lret C dX11_paid_64 rfl ⟨rfl, rfl, rfl⟩
  · replace hr := (if_pos c46_).symm.trans hr
    refine rr_lconst (v := 0) C dX11_paid_49 (by decide) ?_
    refine rr_goto (tgt := 64) C dX11_paid_50 (by decide) ?_
    obtain rfl := Option.some.inj hr
    exact rr_lret C dX11_paid_64 rfl ⟨rfl, rfl, rfl⟩
def q_X11_putBy (K : Nat) (h : mm_H) (n : Nat) (l0 : Nat) : Option (Int32 × mm_H) :=
  (rdI h n l0 10 31).bind fun v1 =>
  if v1 = 0 then
    some ((-1), h)
  else
  (rdI h n l0 10 25).bind fun v3 =>
  if v3 = 4 then
    some ((-1), h)
  else
  (rdI h n l0 10 25).bind fun v5 =>
  (ckq h n l0 10).bind fun u7 =>
  (q_X11_copies K h n l0 8 (9 + v5)).bind fun v9 =>
  (rdI v9 n l0 10 25).bind fun v11 =>
  (wrF v9 n l0 10 25 (.int (v11 + 1))).bind fun h13 =>
  (rdI h13 n l0 10 25).bind fun v15 =>
  some (v15 - 1, h13)
set_option maxRecDepth 100000 in
set_option maxHeartbeats 4000000 in
theorem c_X11_putBy {K : Nat} {G : mm_G} {l : Launch} {h : mm_H} {n : Nat} (l0 : Nat) {r_ : Int32 × mm_H} (hn : 32 ≤ n) (hr : q_X11_putBy K h n l0 = some r_) : Sp G l yX11_putBy cX11_putBy 1 (some .int) 2 0 0 [.ref l0] h n (fun v h' n' => v = some (.int r_.1) ∧ h' = r_.2 ∧ n' = n) := by
  refine Sp_of (by decide +kernel) (Nat.le_of_ble_eq_true rfl) hn ?_
  intro W0 hwl C
  subst hwl
  unfold q_X11_putBy at hr
  show WW W0 G 1 0 0 _ 0 [some (.ref l0)] [] h n 0 0
  refine rr_aload_n (i := 0) C dX11_putBy_0 rfl rfl ?_
  replace hr := Option.bind_eq_some_iff.mp hr
  obtain ⟨v1, e2, hr⟩ := hr
  refine rr_rdI C dX11_putBy_1 fl_X11_393 e2 ?_
  refine rr_if_eq (tgt := 15) C dX11_putBy_4 (by decide) (fun c4_ => ?_) (fun c4_ => ?_)
  · replace hr := (if_pos c4_).symm.trans hr
    refine rr_iconst (v := (-1)) C dX11_putBy_15 (by decide) ?_
    obtain rfl := Option.some.inj hr
    exact rr_iret (ty := .int) C dX11_putBy_16 rfl rfl ⟨rfl, rfl, rfl⟩
  · replace hr := (if_neg c4_).symm.trans hr
    refine rr_aload_n (i := 0) C dX11_putBy_7 rfl rfl ?_
    replace hr := Option.bind_eq_some_iff.mp hr
    obtain ⟨v3, e4, hr⟩ := hr
    refine rr_rdI C dX11_putBy_8 fl_X11_549 e4 ?_
    refine rr_iconst (v := 4) C dX11_putBy_11 (by decide) ?_
    refine rr_icmp_ne (tgt := 17) C dX11_putBy_12 (by decide) (fun c12_ => ?_) (fun c12_ => ?_)
    · replace hr := (if_neg c12_).symm.trans hr
      refine rr_aload_n (i := 0) C dX11_putBy_17 rfl rfl ?_
      refine rr_bipush (v := 8) C dX11_putBy_18 (by decide) ?_
      refine rr_bipush (v := 9) C dX11_putBy_20 (by decide) ?_
      refine rr_aload_n (i := 0) C dX11_putBy_22 rfl rfl ?_
      replace hr := Option.bind_eq_some_iff.mp hr
      obtain ⟨v5, e6, hr⟩ := hr
      refine rr_rdI C dX11_putBy_23 fl_X11_549 e6 ?_
      refine rr_iadd C dX11_putBy_26 ?_
      replace hr := Option.bind_eq_some_iff.mp hr
      obtain ⟨u7, e8, hr⟩ := hr
      replace hr := Option.bind_eq_some_iff.mp hr
      obtain ⟨v9, e10, hr⟩ := hr
      refine rr_callVq (as := [.int 8, .int (9 + v5)]) (st := []) (mc' := 0) (ms' := 0) C dX11_putBy_27 iv_X11_361 (by decide) e8 rfl (Nat.le_of_ble_eq_true rfl) (c_X11_copies l0 8 (9 + v5) (by omega) e10) (fun v_ h_ n_ q_ => ?_)
      obtain ⟨q1_, q2_, q3_⟩ := q_
      subst v_; subst h_; subst n_
      show WW W0 G 1 _ _ _ 30 [some (.ref l0)] [] v9 n _ _
      refine rr_aload_n (i := 0) C dX11_putBy_30 rfl rfl ?_
      refine rr_dup C dX11_putBy_31 rfl ?_
      replace hr := Option.bind_eq_some_iff.mp hr
      obtain ⟨v11, e12, hr⟩ := hr
      refine rr_rdI C dX11_putBy_32 fl_X11_549 e12 ?_
      refine rr_iconst (v := 1) C dX11_putBy_35 (by decide) ?_
      refine rr_iadd C dX11_putBy_36 ?_
      replace hr := Option.bind_eq_some_iff.mp hr
      obtain ⟨h13, e14, hr⟩ := hr
      refine rr_wrF C dX11_putBy_37 fp_X11_549 rfl rfl e14 ?_
      refine rr_aload_n (i := 0) C dX11_putBy_40 rfl rfl ?_
      replace hr := Option.bind_eq_some_iff.mp hr
      obtain ⟨v15, e16, hr⟩ := hr
      refine rr_rdI C dX11_putBy_41 fl_X11_549 e16 ?_
      refine rr_iconst (v := 1) C dX11_putBy_44 (by decide) ?_
      refine rr_isub C dX11_putBy_45 ?_
      obtain rfl := Option.some.inj hr
      exact rr_iret (ty := .int) C dX11_putBy_46 rfl rfl ⟨rfl, rfl, rfl⟩
    · replace hr := (if_pos c12_).symm.trans hr
      refine rr_iconst (v := (-1)) C dX11_putBy_15 (by decide) ?_
      obtain rfl := Option.some.inj hr
      exact rr_iret (ty := .int) C dX11_putBy_16 rfl rfl ⟨rfl, rfl, rfl⟩
def q_X11_tell (K : Nat) (h : mm_H) (n : Nat) (l0 : Nat) (l1 : Int32) (l2 : Int32) : Option (Int32 × mm_H) :=
  (q_X11_isIn K h n l1 0 14).bind fun v1 =>
  if v1 = 0 then
    some (0, h)
  else
  (rdR h n l0 10 67).bind fun v3 =>
  v3.bind fun a5 =>
  (stI h n a5 l1 l2).bind fun h7 =>
  some (1, h7)
set_option maxRecDepth 100000 in
set_option maxHeartbeats 4000000 in
theorem c_X11_tell {K : Nat} {G : mm_G} {l : Launch} {h : mm_H} {n : Nat} (l0 : Nat) (l1 : Int32) (l2 : Int32) {r_ : Int32 × mm_H} (hn : 32 ≤ n) (hr : q_X11_tell K h n l0 l1 l2 = some r_) : Sp G l yX11_tell cX11_tell 3 (some .boolean) 1 0 0 [.ref l0, .int l1, .int l2] h n (fun v h' n' => v = some (.int r_.1) ∧ h' = r_.2 ∧ n' = n) := by
  refine Sp_of (by decide +kernel) (Nat.le_of_ble_eq_true rfl) hn ?_
  intro W0 hwl C
  subst hwl
  unfold q_X11_tell at hr
  show WW W0 G 3 0 0 _ 0 [some (.ref l0), some (.int l1), some (.int l2)] [] h n 0 0
  refine rr_iload_n (i := 1) C dX11_tell_0 rfl rfl ?_
  refine rr_iconst (v := 0) C dX11_tell_1 (by decide) ?_
  refine rr_bipush (v := 14) C dX11_tell_2 (by decide) ?_
  replace hr := Option.bind_eq_some_iff.mp hr
  obtain ⟨v1, e2, hr⟩ := hr
  refine rr_callS (as := [.int l1, .int 0, .int 14]) (st := []) (mc' := 0) (ms' := 0) C dX11_tell_4 it_X11_165 (by decide) (Nat.le_of_ble_eq_true rfl) (c_X11_isIn l1 0 14 (by omega) e2) (fun v_ h_ n_ q_ => ?_)
  obtain ⟨q1_, q2_, q3_⟩ := q_
  subst v_; subst h_; subst n_
  show WW W0 G 3 _ _ _ 7 [some (.ref l0), some (.int l1), some (.int l2)] [.int v1] h n _ _
  refine rr_if_ne (tgt := 12) C dX11_tell_7 (by decide) (fun c7_ => ?_) (fun c7_ => ?_)
  · replace hr := (if_neg c7_).symm.trans hr
    refine rr_aload_n (i := 0) C dX11_tell_12 rfl rfl ?_
    replace hr := Option.bind_eq_some_iff.mp hr
    obtain ⟨v3, e4, hr⟩ := hr
    refine rr_rdR C dX11_tell_13 fl_X11_162 e4 ?_
    refine rr_iload_n (i := 1) C dX11_tell_16 rfl rfl ?_
    refine rr_iload_n (i := 2) C dX11_tell_17 rfl rfl ?_
    replace hr := Option.bind_eq_some_iff.mp hr
    obtain ⟨a5, e6, hr⟩ := hr
    subst e6
    replace hr := Option.bind_eq_some_iff.mp hr
    obtain ⟨h7, e8, hr⟩ := hr
    refine rr_stI C dX11_tell_18 e8 ?_
    refine rr_iconst (v := 1) C dX11_tell_19 (by decide) ?_
    obtain rfl := Option.some.inj hr
    exact rr_iret (ty := .boolean) C dX11_tell_20 rfl rfl ⟨rfl, rfl, rfl⟩
  · replace hr := (if_pos c7_).symm.trans hr
    refine rr_iconst (v := 0) C dX11_tell_10 (by decide) ?_
    obtain rfl := Option.some.inj hr
    exact rr_iret (ty := .boolean) C dX11_tell_11 rfl rfl ⟨rfl, rfl, rfl⟩
def lp_X11_twice_33 (K : Nat) (h : mm_H) (n : Nat) (l0 : Nat) (l1 : Int32) (l2 : Int32) (l4 : Int32) : Nat → Int32 → Int32 → Option (Nat × Int32 × Int32)
  | 0, _, _ => none
  | k_ + 1, l3, l5 =>
    (rdI h n l0 10 8).bind fun v6 =>
    if v6 ≤ l5 then
      some (1, l3, l5)
    else
    (rdR h n l0 10 11).bind fun v8 =>
    v8.bind fun a10 =>
    (ldI h n a10 l4).bind fun v12 =>
    (rdR h n l0 10 11).bind fun v14 =>
    v14.bind fun a16 =>
    (ldI h n a16 l5).bind fun v18 =>
    if v12 = v18 then
      (rdR h n l0 10 12).bind fun v20 =>
      v20.bind fun a22 =>
      (ldI h n a22 l4).bind fun v24 =>
      (rdR h n l0 10 12).bind fun v26 =>
      v26.bind fun a28 =>
      (ldI h n a28 l5).bind fun v30 =>
      if v24 = v30 then
        (rdR h n l0 10 13).bind fun v32 =>
        v32.bind fun a34 =>
        (ldI h n a34 l4).bind fun v36 =>
        (rdR h n l0 10 13).bind fun v38 =>
        v38.bind fun a40 =>
        (ldI h n a40 l5).bind fun v42 =>
        if (i_abs (v36 - v42)) ≤ 1 then
          if l3 = 0 then
            some (0, l3, l5)
          else
          lp_X11_twice_33 K h n l0 l1 l2 l4 k_ (l3 + (-1)) (l5 + 1)
        else
        lp_X11_twice_33 K h n l0 l1 l2 l4 k_ l3 (l5 + 1)
      else
      lp_X11_twice_33 K h n l0 l1 l2 l4 k_ l3 (l5 + 1)
    else
    lp_X11_twice_33 K h n l0 l1 l2 l4 k_ l3 (l5 + 1)
def lp_X11_twice_5 (K : Nat) (h : mm_H) (n : Nat) (l0 : Nat) (l1 : Int32) (l2 : Int32) : Nat → Int32 → Int32 → Option (Nat × Int32 × Int32)
  | 0, _, _ => none
  | k_ + 1, l3, l4 =>
    (rdI h n l0 10 8).bind fun v1 =>
    if v1 ≤ l4 then
      some (1, l4, 0)
    else
    if l1 < 0 then
      some (1, l4, 0)
    else
    (q_X11_isIn K h n l2 0 1).bind fun v3 =>
    if v3 = 0 then
      some (1, l4, 0)
    else
    (lp_X11_twice_33 K h n l0 l1 l2 l4 K l3 (l4 + 1)).bind fun v44 =>
    if v44.1 = 0 then
      some (0, l4, v44.2.2)
    else
    if v44.1 = 1 then
      lp_X11_twice_5 K h n l0 l1 l2 k_ v44.2.1 (l4 + 1)
    else
      none
def q_X11_twice (K : Nat) (h : mm_H) (n : Nat) (l0 : Nat) (l1 : Int32) (l2 : Int32) : Option (Int32) :=
  (lp_X11_twice_5 K h n l0 l1 l2 K l1 0).bind fun v46 =>
  if v46.1 = 0 then
    if l2 = 0 then
      some v46.2.1
    else
    some v46.2.2
  else
  if v46.1 = 1 then
    some (-1)
  else
    none
set_option maxRecDepth 100000 in
set_option maxHeartbeats 4000000 in
theorem w_X11_twice_33 {K : Nat} {W0 : mm_X} {G : mm_G} {mc ms kc ks : Nat} {Q_ : State → Prop} {h : mm_H} {n : Nat} (C : mm_C W0 G cX11_twice yX11_twice.cls 6 mc ms (some .int) 1 yX11_twice.name) (hn : 32 ≤ n) (l0 : Nat) (l1 : Int32) (l2 : Int32) (l4 : Int32) : ∀ (k_ : Nat) (l3 : Int32) (l5 : Int32) {r_ : Nat × Int32 × Int32} (hr : lp_X11_twice_33 K h n l0 l1 l2 l4 k_ l3 l5 = some r_) (hx0 : r_.1 = 0 → WW W0 G 6 mc ms Q_ 105 [none, none, some (.int l2), none, some (.int l4), some (.int r_.2.2)] [] h n kc ks) (hx1 : r_.1 = 1 → WW W0 G 6 mc ms Q_ 126 [some (.ref l0), some (.int l1), some (.int l2), some (.int r_.2.1), some (.int l4), none] [] h n kc ks), WW W0 G 6 mc ms Q_ 33 [some (.ref l0), some (.int l1), some (.int l2), some (.int l3), some (.int l4), some (.int l5)] [] h n kc ks := by
  intro k_
  induction k_ with
  | zero =>
    intro l3 l5 r_ hr
    cases hr
  | succ k_ ih_ =>
    intro l3 l5 r_ hr hx0 hx1
    unfold lp_X11_twice_33 at hr
    refine rr_iload C dX11_twice_33 rfl ?_
    refine rr_aload_n (i := 0) C dX11_twice_35 rfl rfl ?_
    replace hr := Option.bind_eq_some_iff.mp hr
    obtain ⟨v6, e7, hr⟩ := hr
    refine rr_rdI C dX11_twice_36 fl_X11_202 e7 ?_
    refine rr_icmp_ge (tgt := 126) C dX11_twice_39 (by decide) (fun c39_ => ?_) (fun c39_ => ?_)
    · replace hr := (if_pos c39_).symm.trans hr
      obtain rfl := Option.some.inj hr
      exact rr_keep [true, true, true, true, true, false] (hx1 rfl)
    · replace hr := (if_neg c39_).symm.trans hr
      refine rr_aload_n (i := 0) C dX11_twice_42 rfl rfl ?_
      replace hr := Option.bind_eq_some_iff.mp hr
      obtain ⟨v8, e9, hr⟩ := hr
      refine rr_rdR C dX11_twice_43 fl_X11_26 e9 ?_
      refine rr_iload C dX11_twice_46 rfl ?_
      replace hr := Option.bind_eq_some_iff.mp hr
      obtain ⟨a10, e11, hr⟩ := hr
      subst e11
      replace hr := Option.bind_eq_some_iff.mp hr
      obtain ⟨v12, e13, hr⟩ := hr
      refine rr_ldI C dX11_twice_48 e13 ?_
      refine rr_aload_n (i := 0) C dX11_twice_49 rfl rfl ?_
      replace hr := Option.bind_eq_some_iff.mp hr
      obtain ⟨v14, e15, hr⟩ := hr
      refine rr_rdR C dX11_twice_50 fl_X11_26 e15 ?_
      refine rr_iload C dX11_twice_53 rfl ?_
      replace hr := Option.bind_eq_some_iff.mp hr
      obtain ⟨a16, e17, hr⟩ := hr
      subst e17
      replace hr := Option.bind_eq_some_iff.mp hr
      obtain ⟨v18, e19, hr⟩ := hr
      refine rr_ldI C dX11_twice_55 e19 ?_
      refine rr_icmp_ne (tgt := 120) C dX11_twice_56 (by decide) (fun c56_ => ?_) (fun c56_ => ?_)
      · replace hr := (if_neg c56_).symm.trans hr
        refine rr_iinc (v := l5 + 1) C dX11_twice_120 rfl rfl ?_
        show WW W0 G 6 _ _ _ 123 [some (.ref l0), some (.int l1), some (.int l2), some (.int l3), some (.int l4), some (.int (l5 + 1))] [] h n _ _
        refine rr_goto (tgt := 33) C dX11_twice_123 (by decide) ?_
        exact rr_keep [true, true, true, true, true, true] (ih_ _ _ hr hx0 hx1)
      · replace hr := (if_pos c56_).symm.trans hr
        refine rr_aload_n (i := 0) C dX11_twice_59 rfl rfl ?_
        replace hr := Option.bind_eq_some_iff.mp hr
        obtain ⟨v20, e21, hr⟩ := hr
        refine rr_rdR C dX11_twice_60 fl_X11_29 e21 ?_
        refine rr_iload C dX11_twice_63 rfl ?_
        replace hr := Option.bind_eq_some_iff.mp hr
        obtain ⟨a22, e23, hr⟩ := hr
        subst e23
        replace hr := Option.bind_eq_some_iff.mp hr
        obtain ⟨v24, e25, hr⟩ := hr
        refine rr_ldI C dX11_twice_65 e25 ?_
        refine rr_aload_n (i := 0) C dX11_twice_66 rfl rfl ?_
        replace hr := Option.bind_eq_some_iff.mp hr
        obtain ⟨v26, e27, hr⟩ := hr
        refine rr_rdR C dX11_twice_67 fl_X11_29 e27 ?_
        refine rr_iload C dX11_twice_70 rfl ?_
        replace hr := Option.bind_eq_some_iff.mp hr
        obtain ⟨a28, e29, hr⟩ := hr
        subst e29
        replace hr := Option.bind_eq_some_iff.mp hr
        obtain ⟨v30, e31, hr⟩ := hr
        refine rr_ldI C dX11_twice_72 e31 ?_
        refine rr_icmp_ne (tgt := 120) C dX11_twice_73 (by decide) (fun c73_ => ?_) (fun c73_ => ?_)
        · replace hr := (if_neg c73_).symm.trans hr
          refine rr_iinc (v := l5 + 1) C dX11_twice_120 rfl rfl ?_
          show WW W0 G 6 _ _ _ 123 [some (.ref l0), some (.int l1), some (.int l2), some (.int l3), some (.int l4), some (.int (l5 + 1))] [] h n _ _
          refine rr_goto (tgt := 33) C dX11_twice_123 (by decide) ?_
          exact rr_keep [true, true, true, true, true, true] (ih_ _ _ hr hx0 hx1)
        · replace hr := (if_pos c73_).symm.trans hr
          refine rr_aload_n (i := 0) C dX11_twice_76 rfl rfl ?_
          replace hr := Option.bind_eq_some_iff.mp hr
          obtain ⟨v32, e33, hr⟩ := hr
          refine rr_rdR C dX11_twice_77 fl_X11_32 e33 ?_
          refine rr_iload C dX11_twice_80 rfl ?_
          replace hr := Option.bind_eq_some_iff.mp hr
          obtain ⟨a34, e35, hr⟩ := hr
          subst e35
          replace hr := Option.bind_eq_some_iff.mp hr
          obtain ⟨v36, e37, hr⟩ := hr
          refine rr_ldI C dX11_twice_82 e37 ?_
          refine rr_aload_n (i := 0) C dX11_twice_83 rfl rfl ?_
          replace hr := Option.bind_eq_some_iff.mp hr
          obtain ⟨v38, e39, hr⟩ := hr
          refine rr_rdR C dX11_twice_84 fl_X11_32 e39 ?_
          refine rr_iload C dX11_twice_87 rfl ?_
          replace hr := Option.bind_eq_some_iff.mp hr
          obtain ⟨a40, e41, hr⟩ := hr
          subst e41
          replace hr := Option.bind_eq_some_iff.mp hr
          obtain ⟨v42, e43, hr⟩ := hr
          refine rr_ldI C dX11_twice_89 e43 ?_
          refine rr_isub C dX11_twice_90 ?_
          refine rr_mabs C dX11_twice_91 ma_X11_555 (by decide) (Nat.le_of_ble_eq_true rfl) ?_
          refine rr_iconst (v := 1) C dX11_twice_94 (by decide) ?_
          refine rr_icmp_le (tgt := 101) C dX11_twice_95 (by decide) (fun c95_ => ?_) (fun c95_ => ?_)
          · replace hr := (if_pos c95_).symm.trans hr
            refine rr_iload_n (i := 3) C dX11_twice_101 rfl rfl ?_
            refine rr_if_ne (tgt := 117) C dX11_twice_102 (by decide) (fun c102_ => ?_) (fun c102_ => ?_)
            · replace hr := (if_neg c102_).symm.trans hr
              refine rr_iinc (v := l3 + (-1)) C dX11_twice_117 rfl rfl ?_
              show WW W0 G 6 _ _ _ 120 [some (.ref l0), some (.int l1), some (.int l2), some (.int (l3 + (-1))), some (.int l4), some (.int l5)] [] h n _ _
              refine rr_iinc (v := l5 + 1) C dX11_twice_120 rfl rfl ?_
              show WW W0 G 6 _ _ _ 123 [some (.ref l0), some (.int l1), some (.int l2), some (.int (l3 + (-1))), some (.int l4), some (.int (l5 + 1))] [] h n _ _
              refine rr_goto (tgt := 33) C dX11_twice_123 (by decide) ?_
              exact rr_keep [true, true, true, true, true, true] (ih_ _ _ hr hx0 hx1)
            · replace hr := (if_pos c102_).symm.trans hr
              obtain rfl := Option.some.inj hr
              exact rr_keep [false, false, true, false, true, true] (hx0 rfl)
          · replace hr := (if_neg c95_).symm.trans hr
            refine rr_goto (tgt := 120) C dX11_twice_98 (by decide) ?_
            refine rr_iinc (v := l5 + 1) C dX11_twice_120 rfl rfl ?_
            show WW W0 G 6 _ _ _ 123 [some (.ref l0), some (.int l1), some (.int l2), some (.int l3), some (.int l4), some (.int (l5 + 1))] [] h n _ _
            refine rr_goto (tgt := 33) C dX11_twice_123 (by decide) ?_
            exact rr_keep [true, true, true, true, true, true] (ih_ _ _ hr hx0 hx1)
set_option maxRecDepth 100000 in
set_option maxHeartbeats 4000000 in
theorem w_X11_twice_5 {K : Nat} {W0 : mm_X} {G : mm_G} {mc ms kc ks : Nat} {Q_ : State → Prop} {h : mm_H} {n : Nat} (C : mm_C W0 G cX11_twice yX11_twice.cls 6 mc ms (some .int) 1 yX11_twice.name) (hn : 32 ≤ n) (l0 : Nat) (l1 : Int32) (l2 : Int32) : ∀ (k_ : Nat) (l3 : Int32) (l4 : Int32) {r_ : Nat × Int32 × Int32} (hr : lp_X11_twice_5 K h n l0 l1 l2 k_ l3 l4 = some r_) (hx0 : r_.1 = 0 → WW W0 G 6 mc ms Q_ 105 [none, none, some (.int l2), none, some (.int r_.2.1), some (.int r_.2.2)] [] h n kc ks) (hx1 : r_.1 = 1 → WW W0 G 6 mc ms Q_ 132 [none, none, none, none, none, none] [] h n kc ks), WW W0 G 6 mc ms Q_ 5 [some (.ref l0), some (.int l1), some (.int l2), some (.int l3), some (.int l4), none] [] h n kc ks := by
  intro k_
  induction k_ with
  | zero =>
    intro l3 l4 r_ hr
    cases hr
  | succ k_ ih_ =>
    intro l3 l4 r_ hr hx0 hx1
    unfold lp_X11_twice_5 at hr
    refine rr_iload C dX11_twice_5 rfl ?_
    refine rr_aload_n (i := 0) C dX11_twice_7 rfl rfl ?_
    replace hr := Option.bind_eq_some_iff.mp hr
    obtain ⟨v1, e2, hr⟩ := hr
    refine rr_rdI C dX11_twice_8 fl_X11_202 e2 ?_
    refine rr_icmp_ge (tgt := 132) C dX11_twice_11 (by decide) (fun c11_ => ?_) (fun c11_ => ?_)
    · replace hr := (if_pos c11_).symm.trans hr
      obtain rfl := Option.some.inj hr
      exact rr_keep [false, false, false, false, false, false] (hx1 rfl)
    · replace hr := (if_neg c11_).symm.trans hr
      refine rr_iload_n (i := 1) C dX11_twice_14 rfl rfl ?_
      refine rr_if_lt (tgt := 132) C dX11_twice_15 (by decide) (fun c15_ => ?_) (fun c15_ => ?_)
      · replace hr := (if_pos c15_).symm.trans hr
        obtain rfl := Option.some.inj hr
        exact rr_keep [false, false, false, false, false, false] (hx1 rfl)
      · replace hr := (if_neg c15_).symm.trans hr
        refine rr_iload_n (i := 2) C dX11_twice_18 rfl rfl ?_
        refine rr_iconst (v := 0) C dX11_twice_19 (by decide) ?_
        refine rr_iconst (v := 1) C dX11_twice_20 (by decide) ?_
        replace hr := Option.bind_eq_some_iff.mp hr
        obtain ⟨v3, e4, hr⟩ := hr
        refine rr_callS (as := [.int l2, .int 0, .int 1]) (st := []) (mc' := 0) (ms' := 0) C dX11_twice_21 it_X11_165 (by decide) (Nat.le_of_ble_eq_true rfl) (c_X11_isIn l2 0 1 (by omega) e4) (fun v_ h_ n_ q_ => ?_)
        obtain ⟨q1_, q2_, q3_⟩ := q_
        subst v_; subst h_; subst n_
        show WW W0 G 6 _ _ _ 24 [some (.ref l0), some (.int l1), some (.int l2), some (.int l3), some (.int l4), none] [.int v3] h n _ _
        refine rr_if_eq (tgt := 132) C dX11_twice_24 (by decide) (fun c24_ => ?_) (fun c24_ => ?_)
        · replace hr := (if_pos c24_).symm.trans hr
          obtain rfl := Option.some.inj hr
          exact rr_keep [false, false, false, false, false, false] (hx1 rfl)
        · replace hr := (if_neg c24_).symm.trans hr
          refine rr_iload C dX11_twice_27 rfl ?_
          refine rr_iconst (v := 1) C dX11_twice_29 (by decide) ?_
          refine rr_iadd C dX11_twice_30 ?_
          refine rr_istore C dX11_twice_31 (by decide) ?_
          show WW W0 G 6 _ _ _ 33 [some (.ref l0), some (.int l1), some (.int l2), some (.int l3), some (.int l4), some (.int (l4 + 1))] [] h n _ _
          replace hr := Option.bind_eq_some_iff.mp hr
          obtain ⟨v44, e45, hr⟩ := hr
          refine rr_keep [true, true, true, true, true, true] (w_X11_twice_33 C (by omega) l0 l1 l2 l4 K l3 (l4 + 1) e45 ?_ ?_)
          · intro cx_
            replace hr := (if_pos cx_).symm.trans hr
            show WW W0 G 6 _ _ _ 105 [none, none, some (.int l2), none, some (.int l4), some (.int v44.2.2)] [] h n _ _
            obtain rfl := Option.some.inj hr
            exact rr_keep [false, false, true, false, true, true] (hx0 rfl)
          · intro cx_
            replace hr := (if_neg (fun z_ => absurd (z_.symm.trans cx_) (by decide))).symm.trans hr
            replace hr := (if_pos cx_).symm.trans hr
            show WW W0 G 6 _ _ _ 126 [some (.ref l0), some (.int l1), some (.int l2), some (.int v44.2.1), some (.int l4), none] [] h n _ _
            refine rr_iinc (v := l4 + 1) C dX11_twice_126 rfl rfl ?_
            show WW W0 G 6 _ _ _ 129 [some (.ref l0), some (.int l1), some (.int l2), some (.int v44.2.1), some (.int (l4 + 1)), none] [] h n _ _
            refine rr_goto (tgt := 5) C dX11_twice_129 (by decide) ?_
            exact rr_keep [true, true, true, true, true, false] (ih_ _ _ hr hx0 hx1)
set_option maxRecDepth 100000 in
set_option maxHeartbeats 4000000 in
theorem c_X11_twice {K : Nat} {G : mm_G} {l : Launch} {h : mm_H} {n : Nat} (l0 : Nat) (l1 : Int32) (l2 : Int32) {r_ : Int32} (hn : 32 ≤ n) (hr : q_X11_twice K h n l0 l1 l2 = some r_) : Sp G l yX11_twice cX11_twice 6 (some .int) 1 0 0 [.ref l0, .int l1, .int l2] h n (fun v h' n' => v = some (.int r_) ∧ h' = h ∧ n' = n) := by
  refine Sp_of (by decide +kernel) (Nat.le_of_ble_eq_true rfl) hn ?_
  intro W0 hwl C
  subst hwl
  unfold q_X11_twice at hr
  show WW W0 G 6 0 0 _ 0 [some (.ref l0), some (.int l1), some (.int l2), none, none, none] [] h n 0 0
  refine rr_iload_n (i := 1) C dX11_twice_0 rfl rfl ?_
  refine rr_istore_n (i := 3) C dX11_twice_1 rfl (by decide) ?_
  show WW W0 G 6 _ _ _ 2 [some (.ref l0), some (.int l1), some (.int l2), some (.int l1), none, none] [] h n _ _
  refine rr_iconst (v := 0) C dX11_twice_2 (by decide) ?_
  refine rr_istore C dX11_twice_3 (by decide) ?_
  show WW W0 G 6 _ _ _ 5 [some (.ref l0), some (.int l1), some (.int l2), some (.int l1), some (.int 0), none] [] h n _ _
  replace hr := Option.bind_eq_some_iff.mp hr
  obtain ⟨v46, e47, hr⟩ := hr
  refine rr_keep [true, true, true, true, true, false] (w_X11_twice_5 C (by omega) l0 l1 l2 K l1 0 e47 ?_ ?_)
  · intro cx_
    replace hr := (if_pos cx_).symm.trans hr
    show WW W0 G 6 _ _ _ 105 [none, none, some (.int l2), none, some (.int v46.2.1), some (.int v46.2.2)] [] h n _ _
    refine rr_iload_n (i := 2) C dX11_twice_105 rfl rfl ?_
    refine rr_if_ne (tgt := 114) C dX11_twice_106 (by decide) (fun c106_ => ?_) (fun c106_ => ?_)
    · replace hr := (if_neg c106_).symm.trans hr
      refine rr_iload C dX11_twice_114 rfl ?_
      obtain rfl := Option.some.inj hr
      exact rr_iret (ty := .int) C dX11_twice_116 rfl rfl ⟨rfl, rfl, rfl⟩
    · replace hr := (if_pos c106_).symm.trans hr
      refine rr_iload C dX11_twice_109 rfl ?_
      refine rr_goto (tgt := 116) C dX11_twice_111 (by decide) ?_
      obtain rfl := Option.some.inj hr
      exact rr_iret (ty := .int) C dX11_twice_116 rfl rfl ⟨rfl, rfl, rfl⟩
  · intro cx_
    replace hr := (if_neg (fun z_ => absurd (z_.symm.trans cx_) (by decide))).symm.trans hr
    replace hr := (if_pos cx_).symm.trans hr
    show WW W0 G 6 _ _ _ 132 [none, none, none, none, none, none] [] h n _ _
    refine rr_iconst (v := (-1)) C dX11_twice_132 (by decide) ?_
    obtain rfl := Option.some.inj hr
    exact rr_iret (ty := .int) C dX11_twice_133 rfl rfl ⟨rfl, rfl, rfl⟩
def lp_X11_count_82 (K : Nat) (h : mm_H) (n : Nat) (l0 : Nat) : Nat → Int32 → Int32 → Option (Int32)
  | 0, _, _ => none
  | k_ + 1, l2, l3 =>
    (rdI h n l0 10 8).bind fun v9 =>
    if v9 ≤ l3 then
      some (l2)
    else
    (rdR h n l0 10 14).bind fun v11 =>
    v11.bind fun a13 =>
    (ldI h n a13 l3).bind fun v15 =>
    if v15 = 5000 then
      (q_X11_one K h n 0).bind fun v17 =>
      lp_X11_count_82 K h n l0 k_ (l2 + v17) (l3 + 1)
    else
    (q_X11_one K h n 1).bind fun v20 =>
    lp_X11_count_82 K h n l0 k_ (l2 + v20) (l3 + 1)
def q_X11_count (K : Nat) (h : mm_H) (n : Nat) (l0 : Nat) (l1 : Int32) : Option (Int32) :=
  if l1 = 0 then
    (rdI h n l0 10 0).bind fun v1 =>
    some v1
  else
  if l1 = 1 then
    (rdI h n l0 10 1).bind fun v3 =>
    some v3
  else
  if l1 = 2 then
    (rdI h n l0 10 2).bind fun v5 =>
    some v5
  else
  if l1 = 3 then
    (rdI h n l0 10 8).bind fun v7 =>
    some v7
  else
  if l1 = 4 then
    (lp_X11_count_82 K h n l0 K 0 0).bind fun v23 =>
    some v23
  else
  if l1 = 5 then
    (rdI h n l0 10 9).bind fun v25 =>
    some v25
  else
  if l1 = 6 then
    (rdI h n l0 10 10).bind fun v27 =>
    some v27
  else
  if l1 = 7 then
    (rdI h n l0 10 24).bind fun v29 =>
    some v29
  else
  if l1 = 8 then
    (rdI h n l0 10 31).bind fun v31 =>
    (q_X11_one K h n v31).bind fun v33 =>
    some v33
  else
  if l1 = 9 then
    (rdI h n l0 10 26).bind fun v35 =>
    some v35
  else
  if l1 = 10 then
    (rdI h n l0 10 25).bind fun v37 =>
    some v37
  else
  some (-1)
set_option maxRecDepth 100000 in
set_option maxHeartbeats 4000000 in
theorem w_X11_count_82 {K : Nat} {W0 : mm_X} {G : mm_G} {mc ms kc ks : Nat} {Q_ : State → Prop} {h : mm_H} {n : Nat} (C : mm_C W0 G cX11_count yX11_count.cls 4 mc ms (some .int) 1 yX11_count.name) (hn : 32 ≤ n) (l0 : Nat) : ∀ (k_ : Nat) (l2 : Int32) (l3 : Int32) {r_ : Int32} (hr : lp_X11_count_82 K h n l0 k_ l2 l3 = some r_) (hx0 : WW W0 G 4 mc ms Q_ 119 [none, none, some (.int r_), none] [] h n kc ks), WW W0 G 4 mc ms Q_ 82 [some (.ref l0), none, some (.int l2), some (.int l3)] [] h n kc ks := by
  intro k_
  induction k_ with
  | zero =>
    intro l2 l3 r_ hr
    cases hr
  | succ k_ ih_ =>
    intro l2 l3 r_ hr hx0
    unfold lp_X11_count_82 at hr
    refine rr_iload_n (i := 3) C dX11_count_82 rfl rfl ?_
    refine rr_aload_n (i := 0) C dX11_count_83 rfl rfl ?_
    replace hr := Option.bind_eq_some_iff.mp hr
    obtain ⟨v9, e10, hr⟩ := hr
    refine rr_rdI C dX11_count_84 fl_X11_202 e10 ?_
    refine rr_icmp_ge (tgt := 119) C dX11_count_87 (by decide) (fun c87_ => ?_) (fun c87_ => ?_)
    · replace hr := (if_pos c87_).symm.trans hr
      obtain rfl := Option.some.inj hr
      exact rr_keep [false, false, true, false] (hx0)
    · replace hr := (if_neg c87_).symm.trans hr
      refine rr_iload_n (i := 2) C dX11_count_90 rfl rfl ?_
      refine rr_aload_n (i := 0) C dX11_count_91 rfl rfl ?_
      replace hr := Option.bind_eq_some_iff.mp hr
      obtain ⟨v11, e12, hr⟩ := hr
      refine rr_rdR C dX11_count_92 fl_X11_35 e12 ?_
      refine rr_iload_n (i := 3) C dX11_count_95 rfl rfl ?_
      replace hr := Option.bind_eq_some_iff.mp hr
      obtain ⟨a13, e14, hr⟩ := hr
      subst e14
      replace hr := Option.bind_eq_some_iff.mp hr
      obtain ⟨v15, e16, hr⟩ := hr
      refine rr_ldI C dX11_count_96 e16 ?_
      refine rr_sipush (v := 5000) C dX11_count_97 (by decide) ?_
      refine rr_icmp_eq (tgt := 107) C dX11_count_100 (by decide) (fun c100_ => ?_) (fun c100_ => ?_)
      · replace hr := (if_pos c100_).symm.trans hr
        refine rr_iconst (v := 0) C dX11_count_107 (by decide) ?_
        replace hr := Option.bind_eq_some_iff.mp hr
        obtain ⟨v17, e18, hr⟩ := hr
        refine rr_callS (as := [.int 0]) (st := [.int l2]) (mc' := 0) (ms' := 0) C dX11_count_108 it_X11_426 (by decide) (Nat.le_of_ble_eq_true rfl) (c_X11_one 0 (by omega) e18) (fun v_ h_ n_ q_ => ?_)
        obtain ⟨q1_, q2_, q3_⟩ := q_
        subst v_; subst h_; subst n_
        show WW W0 G 4 _ _ _ 111 [some (.ref l0), none, some (.int l2), some (.int l3)] [.int v17, .int l2] h n _ _
        refine rr_iadd C dX11_count_111 ?_
        refine rr_istore_n (i := 2) C dX11_count_112 rfl (by decide) ?_
        show WW W0 G 4 _ _ _ 113 [some (.ref l0), none, some (.int (l2 + v17)), some (.int l3)] [] h n _ _
        refine rr_iinc (v := l3 + 1) C dX11_count_113 rfl rfl ?_
        show WW W0 G 4 _ _ _ 116 [some (.ref l0), none, some (.int (l2 + v17)), some (.int (l3 + 1))] [] h n _ _
        refine rr_goto (tgt := 82) C dX11_count_116 (by decide) ?_
        exact rr_keep [true, false, true, true] (ih_ _ _ hr hx0)
      · replace hr := (if_neg c100_).symm.trans hr
        refine rr_iconst (v := 1) C dX11_count_103 (by decide) ?_
        refine rr_goto (tgt := 108) C dX11_count_104 (by decide) ?_
        replace hr := Option.bind_eq_some_iff.mp hr
        obtain ⟨v20, e21, hr⟩ := hr
        refine rr_callS (as := [.int 1]) (st := [.int l2]) (mc' := 0) (ms' := 0) C dX11_count_108 it_X11_426 (by decide) (Nat.le_of_ble_eq_true rfl) (c_X11_one 1 (by omega) e21) (fun v_ h_ n_ q_ => ?_)
        obtain ⟨q1_, q2_, q3_⟩ := q_
        subst v_; subst h_; subst n_
        show WW W0 G 4 _ _ _ 111 [some (.ref l0), none, some (.int l2), some (.int l3)] [.int v20, .int l2] h n _ _
        refine rr_iadd C dX11_count_111 ?_
        refine rr_istore_n (i := 2) C dX11_count_112 rfl (by decide) ?_
        show WW W0 G 4 _ _ _ 113 [some (.ref l0), none, some (.int (l2 + v20)), some (.int l3)] [] h n _ _
        refine rr_iinc (v := l3 + 1) C dX11_count_113 rfl rfl ?_
        show WW W0 G 4 _ _ _ 116 [some (.ref l0), none, some (.int (l2 + v20)), some (.int (l3 + 1))] [] h n _ _
        refine rr_goto (tgt := 82) C dX11_count_116 (by decide) ?_
        exact rr_keep [true, false, true, true] (ih_ _ _ hr hx0)
set_option maxRecDepth 100000 in
set_option maxHeartbeats 4000000 in
theorem c_X11_count {K : Nat} {G : mm_G} {l : Launch} {h : mm_H} {n : Nat} (l0 : Nat) (l1 : Int32) {r_ : Int32} (hn : 32 ≤ n) (hr : q_X11_count K h n l0 l1 = some r_) : Sp G l yX11_count cX11_count 4 (some .int) 1 0 0 [.ref l0, .int l1] h n (fun v h' n' => v = some (.int r_) ∧ h' = h ∧ n' = n) := by
  refine Sp_of (by decide +kernel) (Nat.le_of_ble_eq_true rfl) hn ?_
  intro W0 hwl C
  subst hwl
  unfold q_X11_count at hr
  show WW W0 G 4 0 0 _ 0 [some (.ref l0), some (.int l1), none, none] [] h n 0 0
  refine rr_iconst (v := 0) C dX11_count_0 (by decide) ?_
  refine rr_istore_n (i := 2) C dX11_count_1 rfl (by decide) ?_
  show WW W0 G 4 _ _ _ 2 [some (.ref l0), some (.int l1), some (.int 0), none] [] h n _ _
  refine rr_iload_n (i := 1) C dX11_count_2 rfl rfl ?_
  by_cases s3_0 : l1 = 0
  · replace hr := (if_pos s3_0).symm.trans hr
    refine rr_tabIn (off := 57) (tgt := 60) C dX11_count_3 (by rw [s3_0]; decide) (by rw [s3_0]; decide) (by rw [s3_0]; rfl) (by decide) ?_
    refine rr_aload_n (i := 0) C dX11_count_60 rfl rfl ?_
    replace hr := Option.bind_eq_some_iff.mp hr
    obtain ⟨v1, e2, hr⟩ := hr
    refine rr_rdI C dX11_count_61 fl_X11_172 e2 ?_
    obtain rfl := Option.some.inj hr
    exact rr_iret (ty := .int) C dX11_count_64 rfl rfl ⟨rfl, rfl, rfl⟩
  replace hr := (if_neg s3_0).symm.trans hr
  by_cases s3_1 : l1 = 1
  · replace hr := (if_pos s3_1).symm.trans hr
    refine rr_tabIn (off := 62) (tgt := 65) C dX11_count_3 (by rw [s3_1]; decide) (by rw [s3_1]; decide) (by rw [s3_1]; rfl) (by decide) ?_
    refine rr_aload_n (i := 0) C dX11_count_65 rfl rfl ?_
    replace hr := Option.bind_eq_some_iff.mp hr
    obtain ⟨v3, e4, hr⟩ := hr
    refine rr_rdI C dX11_count_66 fl_X11_169 e4 ?_
    obtain rfl := Option.some.inj hr
    exact rr_iret (ty := .int) C dX11_count_69 rfl rfl ⟨rfl, rfl, rfl⟩
  replace hr := (if_neg s3_1).symm.trans hr
  by_cases s3_2 : l1 = 2
  · replace hr := (if_pos s3_2).symm.trans hr
    refine rr_tabIn (off := 67) (tgt := 70) C dX11_count_3 (by rw [s3_2]; decide) (by rw [s3_2]; decide) (by rw [s3_2]; rfl) (by decide) ?_
    refine rr_aload_n (i := 0) C dX11_count_70 rfl rfl ?_
    replace hr := Option.bind_eq_some_iff.mp hr
    obtain ⟨v5, e6, hr⟩ := hr
    refine rr_rdI C dX11_count_71 fl_X11_188 e6 ?_
    obtain rfl := Option.some.inj hr
    exact rr_iret (ty := .int) C dX11_count_74 rfl rfl ⟨rfl, rfl, rfl⟩
  replace hr := (if_neg s3_2).symm.trans hr
  by_cases s3_3 : l1 = 3
  · replace hr := (if_pos s3_3).symm.trans hr
    refine rr_tabIn (off := 72) (tgt := 75) C dX11_count_3 (by rw [s3_3]; decide) (by rw [s3_3]; decide) (by rw [s3_3]; rfl) (by decide) ?_
    refine rr_aload_n (i := 0) C dX11_count_75 rfl rfl ?_
    replace hr := Option.bind_eq_some_iff.mp hr
    obtain ⟨v7, e8, hr⟩ := hr
    refine rr_rdI C dX11_count_76 fl_X11_202 e8 ?_
    obtain rfl := Option.some.inj hr
    exact rr_iret (ty := .int) C dX11_count_79 rfl rfl ⟨rfl, rfl, rfl⟩
  replace hr := (if_neg s3_3).symm.trans hr
  by_cases s3_4 : l1 = 4
  · replace hr := (if_pos s3_4).symm.trans hr
    refine rr_tabIn (off := 77) (tgt := 80) C dX11_count_3 (by rw [s3_4]; decide) (by rw [s3_4]; decide) (by rw [s3_4]; rfl) (by decide) ?_
    refine rr_iconst (v := 0) C dX11_count_80 (by decide) ?_
    refine rr_istore_n (i := 3) C dX11_count_81 rfl (by decide) ?_
    show WW W0 G 4 _ _ _ 82 [some (.ref l0), some (.int l1), some (.int 0), some (.int 0)] [] h n _ _
    replace hr := Option.bind_eq_some_iff.mp hr
    obtain ⟨v23, e24, hr⟩ := hr
    refine rr_keep [true, false, true, true] (w_X11_count_82 C (by omega) l0 K 0 0 e24 ?_)
    show WW W0 G 4 _ _ _ 119 [none, none, some (.int v23), none] [] h n _ _
    refine rr_iload_n (i := 2) C dX11_count_119 rfl rfl ?_
    obtain rfl := Option.some.inj hr
    exact rr_iret (ty := .int) C dX11_count_120 rfl rfl ⟨rfl, rfl, rfl⟩
  replace hr := (if_neg s3_4).symm.trans hr
  by_cases s3_5 : l1 = 5
  · replace hr := (if_pos s3_5).symm.trans hr
    refine rr_tabIn (off := 118) (tgt := 121) C dX11_count_3 (by rw [s3_5]; decide) (by rw [s3_5]; decide) (by rw [s3_5]; rfl) (by decide) ?_
    refine rr_aload_n (i := 0) C dX11_count_121 rfl rfl ?_
    replace hr := Option.bind_eq_some_iff.mp hr
    obtain ⟨v25, e26, hr⟩ := hr
    refine rr_rdI C dX11_count_122 fl_X11_208 e26 ?_
    obtain rfl := Option.some.inj hr
    exact rr_iret (ty := .int) C dX11_count_125 rfl rfl ⟨rfl, rfl, rfl⟩
  replace hr := (if_neg s3_5).symm.trans hr
  by_cases s3_6 : l1 = 6
  · replace hr := (if_pos s3_6).symm.trans hr
    refine rr_tabIn (off := 123) (tgt := 126) C dX11_count_3 (by rw [s3_6]; decide) (by rw [s3_6]; decide) (by rw [s3_6]; rfl) (by decide) ?_
    refine rr_aload_n (i := 0) C dX11_count_126 rfl rfl ?_
    replace hr := Option.bind_eq_some_iff.mp hr
    obtain ⟨v27, e28, hr⟩ := hr
    refine rr_rdI C dX11_count_127 fl_X11_211 e28 ?_
    obtain rfl := Option.some.inj hr
    exact rr_iret (ty := .int) C dX11_count_130 rfl rfl ⟨rfl, rfl, rfl⟩
  replace hr := (if_neg s3_6).symm.trans hr
  by_cases s3_7 : l1 = 7
  · replace hr := (if_pos s3_7).symm.trans hr
    refine rr_tabIn (off := 128) (tgt := 131) C dX11_count_3 (by rw [s3_7]; decide) (by rw [s3_7]; decide) (by rw [s3_7]; rfl) (by decide) ?_
    refine rr_aload_n (i := 0) C dX11_count_131 rfl rfl ?_
    replace hr := Option.bind_eq_some_iff.mp hr
    obtain ⟨v29, e30, hr⟩ := hr
    refine rr_rdI C dX11_count_132 fl_X11_380 e30 ?_
    obtain rfl := Option.some.inj hr
    exact rr_iret (ty := .int) C dX11_count_135 rfl rfl ⟨rfl, rfl, rfl⟩
  replace hr := (if_neg s3_7).symm.trans hr
  by_cases s3_8 : l1 = 8
  · replace hr := (if_pos s3_8).symm.trans hr
    refine rr_tabIn (off := 133) (tgt := 136) C dX11_count_3 (by rw [s3_8]; decide) (by rw [s3_8]; decide) (by rw [s3_8]; rfl) (by decide) ?_
    refine rr_aload_n (i := 0) C dX11_count_136 rfl rfl ?_
    replace hr := Option.bind_eq_some_iff.mp hr
    obtain ⟨v31, e32, hr⟩ := hr
    refine rr_rdI C dX11_count_137 fl_X11_393 e32 ?_
    replace hr := Option.bind_eq_some_iff.mp hr
    obtain ⟨v33, e34, hr⟩ := hr
    refine rr_callS (as := [.int v31]) (st := []) (mc' := 0) (ms' := 0) C dX11_count_140 it_X11_426 (by decide) (Nat.le_of_ble_eq_true rfl) (c_X11_one v31 (by omega) e34) (fun v_ h_ n_ q_ => ?_)
    obtain ⟨q1_, q2_, q3_⟩ := q_
    subst v_; subst h_; subst n_
    show WW W0 G 4 _ _ _ 143 [some (.ref l0), some (.int l1), some (.int 0), none] [.int v33] h n _ _
    obtain rfl := Option.some.inj hr
    exact rr_iret (ty := .int) C dX11_count_143 rfl rfl ⟨rfl, rfl, rfl⟩
  replace hr := (if_neg s3_8).symm.trans hr
  by_cases s3_9 : l1 = 9
  · replace hr := (if_pos s3_9).symm.trans hr
    refine rr_tabIn (off := 141) (tgt := 144) C dX11_count_3 (by rw [s3_9]; decide) (by rw [s3_9]; decide) (by rw [s3_9]; rfl) (by decide) ?_
    refine rr_aload_n (i := 0) C dX11_count_144 rfl rfl ?_
    replace hr := Option.bind_eq_some_iff.mp hr
    obtain ⟨v35, e36, hr⟩ := hr
    refine rr_rdI C dX11_count_145 fl_X11_214 e36 ?_
    obtain rfl := Option.some.inj hr
    exact rr_iret (ty := .int) C dX11_count_148 rfl rfl ⟨rfl, rfl, rfl⟩
  replace hr := (if_neg s3_9).symm.trans hr
  by_cases s3_10 : l1 = 10
  · replace hr := (if_pos s3_10).symm.trans hr
    refine rr_tabIn (off := 146) (tgt := 149) C dX11_count_3 (by rw [s3_10]; decide) (by rw [s3_10]; decide) (by rw [s3_10]; rfl) (by decide) ?_
    refine rr_aload_n (i := 0) C dX11_count_149 rfl rfl ?_
    replace hr := Option.bind_eq_some_iff.mp hr
    obtain ⟨v37, e38, hr⟩ := hr
    refine rr_rdI C dX11_count_150 fl_X11_549 e38 ?_
    obtain rfl := Option.some.inj hr
    exact rr_iret (ty := .int) C dX11_count_153 rfl rfl ⟨rfl, rfl, rfl⟩
  replace hr := (if_neg s3_10).symm.trans hr
  refine rr_tabOut (tgt := 154) C dX11_count_3 (by have t0 : ¬ Int32.toInt l1 = 0 := (fun q => s3_0 (Int32.toInt_inj.mp (show Int32.toInt l1 = (0 : Int32).toInt from q))); have t1 : ¬ Int32.toInt l1 = 1 := (fun q => s3_1 (Int32.toInt_inj.mp (show Int32.toInt l1 = (1 : Int32).toInt from q))); have t2 : ¬ Int32.toInt l1 = 2 := (fun q => s3_2 (Int32.toInt_inj.mp (show Int32.toInt l1 = (2 : Int32).toInt from q))); have t3 : ¬ Int32.toInt l1 = 3 := (fun q => s3_3 (Int32.toInt_inj.mp (show Int32.toInt l1 = (3 : Int32).toInt from q))); have t4 : ¬ Int32.toInt l1 = 4 := (fun q => s3_4 (Int32.toInt_inj.mp (show Int32.toInt l1 = (4 : Int32).toInt from q))); have t5 : ¬ Int32.toInt l1 = 5 := (fun q => s3_5 (Int32.toInt_inj.mp (show Int32.toInt l1 = (5 : Int32).toInt from q))); have t6 : ¬ Int32.toInt l1 = 6 := (fun q => s3_6 (Int32.toInt_inj.mp (show Int32.toInt l1 = (6 : Int32).toInt from q))); have t7 : ¬ Int32.toInt l1 = 7 := (fun q => s3_7 (Int32.toInt_inj.mp (show Int32.toInt l1 = (7 : Int32).toInt from q))); have t8 : ¬ Int32.toInt l1 = 8 := (fun q => s3_8 (Int32.toInt_inj.mp (show Int32.toInt l1 = (8 : Int32).toInt from q))); have t9 : ¬ Int32.toInt l1 = 9 := (fun q => s3_9 (Int32.toInt_inj.mp (show Int32.toInt l1 = (9 : Int32).toInt from q))); have t10 : ¬ Int32.toInt l1 = 10 := (fun q => s3_10 (Int32.toInt_inj.mp (show Int32.toInt l1 = (10 : Int32).toInt from q))); omega) (by decide) ?_
  refine rr_iconst (v := (-1)) C dX11_count_154 (by decide) ?_
  obtain rfl := Option.some.inj hr
  exact rr_iret (ty := .int) C dX11_count_155 rfl rfl ⟨rfl, rfl, rfl⟩

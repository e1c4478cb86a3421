def lp_X11_bestAt_4 (K : Nat) (h : mm_H) (n : Nat) (l0 : Nat) (l1 : Int32) : Nat → Int32 → Int32 → Option (Int32)
  | 0, _, _ => none
  | k_ + 1, l2, l3 =>
    (rdI h n l0 10 65).bind fun v1 =>
    if v1 ≤ l3 then
      some (l2)
    else
    (rdR h n l0 10 62).bind fun v3 =>
    v3.bind fun a5 =>
    (ldI h n a5 l3).bind fun v7 =>
    if v7 ≤ 0 then
      lp_X11_bestAt_4 K h n l0 l1 k_ l2 (l3 + 1)
    else
    if l2 = (-1) then
      lp_X11_bestAt_4 K h n l0 l1 k_ l3 (l3 + 1)
    else
    (rdR h n l0 10 63).bind fun v9 =>
    v9.bind fun a11 =>
    (ldI h n a11 l3).bind fun v13 =>
    (rdR h n l0 10 62).bind fun v15 =>
    v15.bind fun a17 =>
    (ldI h n a17 l2).bind fun v19 =>
    (rdR h n l0 10 63).bind fun v21 =>
    v21.bind fun a23 =>
    (ldI h n a23 l2).bind fun v25 =>
    (rdR h n l0 10 62).bind fun v27 =>
    v27.bind fun a29 =>
    (ldI h n a29 l3).bind fun v31 =>
    if 0 ≤ (lg_cmp ((Int32.toInt64 v13) * (Int32.toInt64 v19)) ((Int32.toInt64 v25) * (Int32.toInt64 v31))) then
      lp_X11_bestAt_4 K h n l0 l1 k_ l2 (l3 + 1)
    else
    lp_X11_bestAt_4 K h n l0 l1 k_ l3 (l3 + 1)
def q_X11_bestAt (K : Nat) (h : mm_H) (n : Nat) (l0 : Nat) (l1 : Int32) : Option (Int64) :=
  (lp_X11_bestAt_4 K h n l0 l1 K (-1) 0).bind fun v33 =>
  if v33 = (-1) then
    some 0
  else
  (rdR h n l0 10 63).bind fun v35 =>
  v35.bind fun a37 =>
  (ldI h n a37 v33).bind fun v39 =>
  (rdR h n l0 10 62).bind fun v41 =>
  v41.bind fun a43 =>
  (ldI h n a43 v33).bind fun v45 =>
  if (Int32.toInt64 v45) = 0 then none else
  some (((Int32.toInt64 v39) * (Int32.toInt64 l1)) / (Int32.toInt64 v45))
set_option maxRecDepth 100000 in
set_option maxHeartbeats 4000000 in
theorem w_X11_bestAt_4 {K : Nat} {W0 : mm_X} {G : mm_G} {mc ms kc ks : Nat} {Q_ : State → Prop} {h : mm_H} {n : Nat} (C : mm_C W0 G cX11_bestAt yX11_bestAt.cls 4 mc ms (some .long) 0 yX11_bestAt.name) (hn : 48 ≤ n) (l0 : Nat) (l1 : Int32) : ∀ (k_ : Nat) (l2 : Int32) (l3 : Int32) {r_ : Int32} (hr : lp_X11_bestAt_4 K h n l0 l1 k_ l2 l3 = some r_) (hx0 : WW W0 G 4 mc ms Q_ 68 [some (.ref l0), some (.int l1), some (.int r_), none] [] h n kc ks), WW W0 G 4 mc ms Q_ 4 [some (.ref l0), some (.int l1), some (.int l2), some (.int l3)] [] h n kc ks := by
  intro k_
  induction k_ with
  | zero =>
    intro l2 l3 r_ hr
    cases hr
  | succ k_ ih_ =>
    intro l2 l3 r_ hr hx0
    unfold lp_X11_bestAt_4 at hr
    refine rr_iload_n (i := 3) C dX11_bestAt_4 rfl rfl ?_
    refine rr_aload_n (i := 0) C dX11_bestAt_5 rfl rfl ?_
    replace hr := Option.bind_eq_some_iff.mp hr
    obtain ⟨v1, e2, hr⟩ := hr
    refine rr_rdI C dX11_bestAt_6 fl_X11_443 e2 ?_
    refine rr_icmp_ge (tgt := 68) C dX11_bestAt_9 (by decide) (fun c9_ => ?_) (fun c9_ => ?_)
    · replace hr := (if_pos c9_).symm.trans hr
      obtain rfl := Option.some.inj hr
      exact rr_keep [true, true, true, false] (hx0)
    · replace hr := (if_neg c9_).symm.trans hr
      refine rr_aload_n (i := 0) C dX11_bestAt_12 rfl rfl ?_
      replace hr := Option.bind_eq_some_iff.mp hr
      obtain ⟨v3, e4, hr⟩ := hr
      refine rr_rdR C dX11_bestAt_13 fl_X11_153 e4 ?_
      refine rr_iload_n (i := 3) C dX11_bestAt_16 rfl rfl ?_
      replace hr := Option.bind_eq_some_iff.mp hr
      obtain ⟨a5, e6, hr⟩ := hr
      subst e6
      replace hr := Option.bind_eq_some_iff.mp hr
      obtain ⟨v7, e8, hr⟩ := hr
      refine rr_ldI C dX11_bestAt_17 e8 ?_
      refine rr_if_le (tgt := 62) C dX11_bestAt_18 (by decide) (fun c18_ => ?_) (fun c18_ => ?_)
      · replace hr := (if_pos c18_).symm.trans hr
        refine rr_iinc (v := l3 + 1) C dX11_bestAt_62 rfl rfl ?_
        show WW W0 G 4 _ _ _ 65 [some (.ref l0), some (.int l1), some (.int l2), some (.int (l3 + 1))] [] h n _ _
        refine rr_goto (tgt := 4) C dX11_bestAt_65 (by decide) ?_
        exact rr_keep [true, true, true, true] (ih_ _ _ hr hx0)
      · replace hr := (if_neg c18_).symm.trans hr
        refine rr_iload_n (i := 2) C dX11_bestAt_21 rfl rfl ?_
        refine rr_iconst (v := (-1)) C dX11_bestAt_22 (by decide) ?_
        refine rr_icmp_eq (tgt := 60) C dX11_bestAt_23 (by decide) (fun c23_ => ?_) (fun c23_ => ?_)
        · replace hr := (if_pos c23_).symm.trans hr
          refine rr_iload_n (i := 3) C dX11_bestAt_60 rfl rfl ?_
          refine rr_istore_n (i := 2) C dX11_bestAt_61 rfl (by decide) ?_
          show WW W0 G 4 _ _ _ 62 [some (.ref l0), some (.int l1), some (.int l3), some (.int l3)] [] h n _ _
          refine rr_iinc (v := l3 + 1) C dX11_bestAt_62 rfl rfl ?_
          show WW W0 G 4 _ _ _ 65 [some (.ref l0), some (.int l1), some (.int l3), some (.int (l3 + 1))] [] h n _ _
          refine rr_goto (tgt := 4) C dX11_bestAt_65 (by decide) ?_
          exact rr_keep [true, true, true, true] (ih_ _ _ hr hx0)
        · replace hr := (if_neg c23_).symm.trans hr
          refine rr_aload_n (i := 0) C dX11_bestAt_26 rfl rfl ?_
          replace hr := Option.bind_eq_some_iff.mp hr
          obtain ⟨v9, e10, hr⟩ := hr
          refine rr_rdR C dX11_bestAt_27 fl_X11_156 e10 ?_
          refine rr_iload_n (i := 3) C dX11_bestAt_30 rfl rfl ?_
          replace hr := Option.bind_eq_some_iff.mp hr
          obtain ⟨a11, e12, hr⟩ := hr
          subst e12
          replace hr := Option.bind_eq_some_iff.mp hr
          obtain ⟨v13, e14, hr⟩ := hr
          refine rr_ldI C dX11_bestAt_31 e14 ?_
          refine rr_i2l C dX11_bestAt_32 ?_
          refine rr_aload_n (i := 0) C dX11_bestAt_33 rfl rfl ?_
          replace hr := Option.bind_eq_some_iff.mp hr
          obtain ⟨v15, e16, hr⟩ := hr
          refine rr_rdR C dX11_bestAt_34 fl_X11_153 e16 ?_
          refine rr_iload_n (i := 2) C dX11_bestAt_37 rfl rfl ?_
          replace hr := Option.bind_eq_some_iff.mp hr
          obtain ⟨a17, e18, hr⟩ := hr
          subst e18
          replace hr := Option.bind_eq_some_iff.mp hr
          obtain ⟨v19, e20, hr⟩ := hr
          refine rr_ldI C dX11_bestAt_38 e20 ?_
          refine rr_i2l C dX11_bestAt_39 ?_
          refine rr_lmul C dX11_bestAt_40 ?_
          refine rr_aload_n (i := 0) C dX11_bestAt_41 rfl rfl ?_
          replace hr := Option.bind_eq_some_iff.mp hr
          obtain ⟨v21, e22, hr⟩ := hr
          refine rr_rdR C dX11_bestAt_42 fl_X11_156 e22 ?_
          refine rr_iload_n (i := 2) C dX11_bestAt_45 rfl rfl ?_
          replace hr := Option.bind_eq_some_iff.mp hr
          obtain ⟨a23, e24, hr⟩ := hr
          subst e24
          replace hr := Option.bind_eq_some_iff.mp hr
          obtain ⟨v25, e26, hr⟩ := hr
          refine rr_ldI C dX11_bestAt_46 e26 ?_
          refine rr_i2l C dX11_bestAt_47 ?_
          refine rr_aload_n (i := 0) C dX11_bestAt_48 rfl rfl ?_
          replace hr := Option.bind_eq_some_iff.mp hr
          obtain ⟨v27, e28, hr⟩ := hr
          refine rr_rdR C dX11_bestAt_49 fl_X11_153 e28 ?_
          refine rr_iload_n (i := 3) C dX11_bestAt_52 rfl rfl ?_
          replace hr := Option.bind_eq_some_iff.mp hr
          obtain ⟨a29, e30, hr⟩ := hr
          subst e30
          replace hr := Option.bind_eq_some_iff.mp hr
          obtain ⟨v31, e32, hr⟩ := hr
          refine rr_ldI C dX11_bestAt_53 e32 ?_
          refine rr_i2l C dX11_bestAt_54 ?_
          refine rr_lmul C dX11_bestAt_55 ?_
          refine rr_lcmp C dX11_bestAt_56 ?_
          refine rr_if_ge (tgt := 62) C dX11_bestAt_57 (by decide) (fun c57_ => ?_) (fun c57_ => ?_)
          · replace hr := (if_pos c57_).symm.trans hr
            refine rr_iinc (v := l3 + 1) C dX11_bestAt_62 rfl rfl ?_
            show WW W0 G 4 _ _ _ 65 [some (.ref l0), some (.int l1), some (.int l2), some (.int (l3 + 1))] [] h n _ _
            refine rr_goto (tgt := 4) C dX11_bestAt_65 (by decide) ?_
            exact rr_keep [true, true, true, true] (ih_ _ _ hr hx0)
          · replace hr := (if_neg c57_).symm.trans hr
            refine rr_iload_n (i := 3) C dX11_bestAt_60 rfl rfl ?_
            refine rr_istore_n (i := 2) C dX11_bestAt_61 rfl (by decide) ?_
            show WW W0 G 4 _ _ _ 62 [some (.ref l0), some (.int l1), some (.int l3), some (.int l3)] [] h n _ _
            refine rr_iinc (v := l3 + 1) C dX11_bestAt_62 rfl rfl ?_
            show WW W0 G 4 _ _ _ 65 [some (.ref l0), some (.int l1), some (.int l3), some (.int (l3 + 1))] [] h n _ _
            refine rr_goto (tgt := 4) C dX11_bestAt_65 (by decide) ?_
            exact rr_keep [true, true, true, true] (ih_ _ _ hr hx0)
set_option maxRecDepth 100000 in
set_option maxHeartbeats 4000000 in
theorem c_X11_bestAt {K : Nat} {G : mm_G} {l : Launch} {h : mm_H} {n : Nat} (l0 : Nat) (l1 : Int32) {r_ : Int64} (hn : 48 ≤ n) (hr : q_X11_bestAt K h n l0 l1 = some r_) : Sp G l yX11_bestAt cX11_bestAt 4 (some .long) 0 0 0 [.ref l0, .int l1] h n (fun v h' n' => v = some (.long r_) ∧ h' = h ∧ n' = n) := by
  refine Sp_of (by decide +kernel) (Nat.le_of_ble_eq_true rfl) hn ?_
  intro W0 hwl C
  subst hwl
  unfold q_X11_bestAt at hr
  show WW W0 G 4 0 0 _ 0 [some (.ref l0), some (.int l1), none, none] [] h n 0 0
  refine rr_iconst (v := (-1)) C dX11_bestAt_0 (by decide) ?_
  refine rr_istore_n (i := 2) C dX11_bestAt_1 rfl (by decide) ?_
  show WW W0 G 4 _ _ _ 2 [some (.ref l0), some (.int l1), some (.int (-1)), none] [] h n _ _
  refine rr_iconst (v := 0) C dX11_bestAt_2 (by decide) ?_
  refine rr_istore_n (i := 3) C dX11_bestAt_3 rfl (by decide) ?_
  show WW W0 G 4 _ _ _ 4 [some (.ref l0), some (.int l1), some (.int (-1)), some (.int 0)] [] h n _ _
  replace hr := Option.bind_eq_some_iff.mp hr
  obtain ⟨v33, e34, hr⟩ := hr
  refine rr_keep [true, true, true, true] (w_X11_bestAt_4 C (by omega) l0 l1 K (-1) 0 e34 ?_)
  show WW W0 G 4 _ _ _ 68 [some (.ref l0), some (.int l1), some (.int v33), none] [] h n _ _
  refine rr_iload_n (i := 2) C dX11_bestAt_68 rfl rfl ?_
  refine rr_iconst (v := (-1)) C dX11_bestAt_69 (by decide) ?_
  refine rr_icmp_ne (tgt := 77) C dX11_bestAt_70 (by decide) (fun c70_ => ?_) (fun c70_ => ?_)
  · replace hr := (if_neg c70_).symm.trans hr
    refine rr_aload_n (i := 0) C dX11_bestAt_77 rfl rfl ?_
    replace hr := Option.bind_eq_some_iff.mp hr
    obtain ⟨v35, e36, hr⟩ := hr
    refine rr_rdR C dX11_bestAt_78 fl_X11_156 e36 ?_
    refine rr_iload_n (i := 2) C dX11_bestAt_81 rfl rfl ?_
    replace hr := Option.bind_eq_some_iff.mp hr
    obtain ⟨a37, e38, hr⟩ := hr
    subst e38
    replace hr := Option.bind_eq_some_iff.mp hr
    obtain ⟨v39, e40, hr⟩ := hr
    refine rr_ldI C dX11_bestAt_82 e40 ?_
    refine rr_i2l C dX11_bestAt_83 ?_
    refine rr_iload_n (i := 1) C dX11_bestAt_84 rfl rfl ?_
    refine rr_i2l C dX11_bestAt_85 ?_
    refine rr_lmul C dX11_bestAt_86 ?_
    refine rr_aload_n (i := 0) C dX11_bestAt_87 rfl rfl ?_
    replace hr := Option.bind_eq_some_iff.mp hr
    obtain ⟨v41, e42, hr⟩ := hr
    refine rr_rdR C dX11_bestAt_88 fl_X11_153 e42 ?_
    refine rr_iload_n (i := 2) C dX11_bestAt_91 rfl rfl ?_
    replace hr := Option.bind_eq_some_iff.mp hr
    obtain ⟨a43, e44, hr⟩ := hr
    subst e44
    replace hr := Option.bind_eq_some_iff.mp hr
    obtain ⟨v45, e46, hr⟩ := hr
    refine rr_ldI C dX11_bestAt_92 e46 ?_
    refine rr_i2l C dX11_bestAt_93 ?_
    by_cases z47 : (Int32.toInt64 v45) = 0
    · replace hr := (if_pos z47).symm.trans hr
      cases hr
    replace hr := (if_neg z47).symm.trans hr
    refine rr_ldiv C dX11_bestAt_94 z47 ?_
    obtain rfl := Option.some.inj hr
    exact rr_lret C dX11_bestAt_95 rfl ⟨rfl, rfl, rfl⟩
  · replace hr := (if_pos c70_).symm.trans hr
    refine rr_lconst (v := 0) C dX11_bestAt_73 (by decide) ?_
    refine rr_goto (tgt := 95) C dX11_bestAt_74 (by decide) ?_
    obtain rfl := Option.some.inj hr
    exact rr_lret C dX11_bestAt_95 rfl ⟨rfl, rfl, rfl⟩
def lp_X11_lineAt_35 (K : Nat) (h : mm_H) (n : Nat) (l0 : Nat) (l1 : Int32) (l2 : Int64) (l4 : Int64) (l6 : Int64) : Nat → Int64 → Int64 → Int32 → Option (Int64 × Int64)
  | 0, _, _, _ => none
  | k_ + 1, l8, l10, l12 =>
    (rdI h n l0 10 65).bind fun v16 =>
    if v16 ≤ l12 then
      some (l8, l10)
    else
    (rdR h n l0 10 62).bind fun v18 =>
    v18.bind fun a20 =>
    (ldI h n a20 l12).bind fun v22 =>
    (rdR h n l0 10 62).bind fun v24 =>
    v24.bind fun a26 =>
    (ldI h n a26 l12).bind fun v28 =>
    (rdR h n l0 10 62).bind fun v31 =>
    v31.bind fun a33 =>
    (ldI h n a33 l12).bind fun v35 =>
    (rdR h n l0 10 63).bind fun v37 =>
    v37.bind fun a39 =>
    (ldI h n a39 l12).bind fun v41 =>
    lp_X11_lineAt_35 K h n l0 l1 l2 l4 l6 k_ (l8 + ((Int32.toInt64 v22) * (Int32.toInt64 v28))) (l10 + ((Int32.toInt64 v35) * (Int32.toInt64 v41))) (l12 + 1)
def q_X11_lineAt (K : Nat) (h : mm_H) (n : Nat) (l0 : Nat) (l1 : Int32) : Option (Int64) :=
  (rdI h n l0 10 65).bind fun v1 =>
  (rdR h n l0 10 62).bind fun v4 =>
  (ckq h n l0 10).bind fun u6 =>
  (q_X11_all_ K h n l0 v4).bind fun v8 =>
  (rdR h n l0 10 63).bind fun v10 =>
  (ckq h n l0 10).bind fun u12 =>
  (q_X11_all_ K h n l0 v10).bind fun v14 =>
  (lp_X11_lineAt_35 K h n l0 l1 (Int32.toInt64 v1) v8 v14 K 0 0 0).bind fun v44 =>
  if (lg_cmp (((Int32.toInt64 v1) * v44.1) - (v8 * v8)) 0) = 0 then
    (ckq h n l0 10).bind fun u47 =>
    (q_X11_meanAt K h n l0 l1).bind fun v49 =>
    some v49
  else
  if ((Int32.toInt64 v1) * (((Int32.toInt64 v1) * v44.1) - (v8 * v8))) = 0 then none else
  some (j_max 0 (((v14 * (((Int32.toInt64 v1) * v44.1) - (v8 * v8))) + ((((Int32.toInt64 v1) * v44.2) - (v8 * v14)) * (((Int32.toInt64 v1) * (Int32.toInt64 l1)) - v8))) / ((Int32.toInt64 v1) * (((Int32.toInt64 v1) * v44.1) - (v8 * v8)))))
set_option maxRecDepth 100000 in
set_option maxHeartbeats 4000000 in
theorem w_X11_lineAt_35 {K : Nat} {W0 : mm_X} {G : mm_G} {mc ms kc ks : Nat} {Q_ : State → Prop} {h : mm_H} {n : Nat} (C : mm_C W0 G cX11_lineAt yX11_lineAt.cls 14 mc ms (some .long) 2 yX11_lineAt.name) (hn : 48 ≤ n) (l0 : Nat) (l1 : Int32) (l2 : Int64) (l4 : Int64) (l6 : Int64) : ∀ (k_ : Nat) (l8 : Int64) (l10 : Int64) (l12 : Int32) {r_ : Int64 × Int64} (hr : lp_X11_lineAt_35 K h n l0 l1 l2 l4 l6 k_ l8 l10 l12 = some r_) (hx0 : WW W0 G 14 mc ms Q_ 94 [some (.ref l0), some (.int l1), some (.long l2), none, some (.long l4), none, some (.long l6), none, some (.long r_.1), none, some (.long r_.2), none, none, none] [] h n kc ks), WW W0 G 14 mc ms Q_ 35 [some (.ref l0), some (.int l1), some (.long l2), none, some (.long l4), none, some (.long l6), none, some (.long l8), none, some (.long l10), none, some (.int l12), none] [] h n kc ks := by
  intro k_
  induction k_ with
  | zero =>
    intro l8 l10 l12 r_ hr
    cases hr
  | succ k_ ih_ =>
    intro l8 l10 l12 r_ hr hx0
    unfold lp_X11_lineAt_35 at hr
    refine rr_iload C dX11_lineAt_35 rfl ?_
    refine rr_aload_n (i := 0) C dX11_lineAt_37 rfl rfl ?_
    replace hr := Option.bind_eq_some_iff.mp hr
    obtain ⟨v16, e17, hr⟩ := hr
    refine rr_rdI C dX11_lineAt_38 fl_X11_443 e17 ?_
    refine rr_icmp_ge (tgt := 94) C dX11_lineAt_41 (by decide) (fun c41_ => ?_) (fun c41_ => ?_)
    · replace hr := (if_pos c41_).symm.trans hr
      obtain rfl := Option.some.inj hr
      exact rr_keep [true, true, true, false, true, false, true, false, true, false, true, false, false, false] (hx0)
    · replace hr := (if_neg c41_).symm.trans hr
      refine rr_lload C dX11_lineAt_44 rfl ?_
      refine rr_aload_n (i := 0) C dX11_lineAt_46 rfl rfl ?_
      replace hr := Option.bind_eq_some_iff.mp hr
      obtain ⟨v18, e19, hr⟩ := hr
      refine rr_rdR C dX11_lineAt_47 fl_X11_153 e19 ?_
      refine rr_iload C dX11_lineAt_50 rfl ?_
      replace hr := Option.bind_eq_some_iff.mp hr
      obtain ⟨a20, e21, hr⟩ := hr
      subst e21
      replace hr := Option.bind_eq_some_iff.mp hr
      obtain ⟨v22, e23, hr⟩ := hr
      refine rr_ldI C dX11_lineAt_52 e23 ?_
      refine rr_i2l C dX11_lineAt_53 ?_
      refine rr_aload_n (i := 0) C dX11_lineAt_54 rfl rfl ?_
      replace hr := Option.bind_eq_some_iff.mp hr
      obtain ⟨v24, e25, hr⟩ := hr
      refine rr_rdR C dX11_lineAt_55 fl_X11_153 e25 ?_
      refine rr_iload C dX11_lineAt_58 rfl ?_
      replace hr := Option.bind_eq_some_iff.mp hr
      obtain ⟨a26, e27, hr⟩ := hr
      subst e27
      replace hr := Option.bind_eq_some_iff.mp hr
      obtain ⟨v28, e29, hr⟩ := hr
      refine rr_ldI C dX11_lineAt_60 e29 ?_
      refine rr_i2l C dX11_lineAt_61 ?_
      refine rr_lmul C dX11_lineAt_62 ?_
      refine rr_ladd C dX11_lineAt_63 ?_
      refine rr_lstore C dX11_lineAt_64 (by decide) ?_
      show WW W0 G 14 _ _ _ 66 [some (.ref l0), some (.int l1), some (.long l2), none, some (.long l4), none, some (.long l6), none, some (.long (l8 + ((Int32.toInt64 v22) * (Int32.toInt64 v28)))), none, some (.long l10), none, some (.int l12), none] [] h n _ _
      refine rr_lload C dX11_lineAt_66 rfl ?_
      refine rr_aload_n (i := 0) C dX11_lineAt_68 rfl rfl ?_
      replace hr := Option.bind_eq_some_iff.mp hr
      obtain ⟨v31, e32, hr⟩ := hr
      refine rr_rdR C dX11_lineAt_69 fl_X11_153 e32 ?_
      refine rr_iload C dX11_lineAt_72 rfl ?_
      replace hr := Option.bind_eq_some_iff.mp hr
      obtain ⟨a33, e34, hr⟩ := hr
      subst e34
      replace hr := Option.bind_eq_some_iff.mp hr
      obtain ⟨v35, e36, hr⟩ := hr
      refine rr_ldI C dX11_lineAt_74 e36 ?_
      refine rr_i2l C dX11_lineAt_75 ?_
      refine rr_aload_n (i := 0) C dX11_lineAt_76 rfl rfl ?_
      replace hr := Option.bind_eq_some_iff.mp hr
      obtain ⟨v37, e38, hr⟩ := hr
      refine rr_rdR C dX11_lineAt_77 fl_X11_156 e38 ?_
      refine rr_iload C dX11_lineAt_80 rfl ?_
      replace hr := Option.bind_eq_some_iff.mp hr
      obtain ⟨a39, e40, hr⟩ := hr
      subst e40
      replace hr := Option.bind_eq_some_iff.mp hr
      obtain ⟨v41, e42, hr⟩ := hr
      refine rr_ldI C dX11_lineAt_82 e42 ?_
      refine rr_i2l C dX11_lineAt_83 ?_
      refine rr_lmul C dX11_lineAt_84 ?_
      refine rr_ladd C dX11_lineAt_85 ?_
      refine rr_lstore C dX11_lineAt_86 (by decide) ?_
      show WW W0 G 14 _ _ _ 88 [some (.ref l0), some (.int l1), some (.long l2), none, some (.long l4), none, some (.long l6), none, some (.long (l8 + ((Int32.toInt64 v22) * (Int32.toInt64 v28)))), none, some (.long (l10 + ((Int32.toInt64 v35) * (Int32.toInt64 v41)))), none, some (.int l12), none] [] h n _ _
      refine rr_iinc (v := l12 + 1) C dX11_lineAt_88 rfl rfl ?_
      show WW W0 G 14 _ _ _ 91 [some (.ref l0), some (.int l1), some (.long l2), none, some (.long l4), none, some (.long l6), none, some (.long (l8 + ((Int32.toInt64 v22) * (Int32.toInt64 v28)))), none, some (.long (l10 + ((Int32.toInt64 v35) * (Int32.toInt64 v41)))), none, some (.int (l12 + 1)), none] [] h n _ _
      refine rr_goto (tgt := 35) C dX11_lineAt_91 (by decide) ?_
      exact rr_keep [true, true, true, false, true, false, true, false, true, false, true, false, true, false] (ih_ _ _ _ hr hx0)
set_option maxRecDepth 100000 in
set_option maxHeartbeats 4000000 in
theorem c_X11_lineAt {K : Nat} {G : mm_G} {l : Launch} {h : mm_H} {n : Nat} (l0 : Nat) (l1 : Int32) {r_ : Int64} (hn : 48 ≤ n) (hr : q_X11_lineAt K h n l0 l1 = some r_) : Sp G l yX11_lineAt cX11_lineAt 14 (some .long) 2 0 0 [.ref l0, .int l1] h n (fun v h' n' => v = some (.long r_) ∧ h' = h ∧ n' = n) := by
  refine Sp_of (by decide +kernel) (Nat.le_of_ble_eq_true rfl) hn ?_
  intro W0 hwl C
  subst hwl
  unfold q_X11_lineAt at hr
  show WW W0 G 14 0 0 _ 0 [some (.ref l0), some (.int l1), none, none, none, none, none, none, none, none, none, none, none, none] [] h n 0 0
  refine rr_aload_n (i := 0) C dX11_lineAt_0 rfl rfl ?_
  replace hr := Option.bind_eq_some_iff.mp hr
  obtain ⟨v1, e2, hr⟩ := hr
  refine rr_rdI C dX11_lineAt_1 fl_X11_443 e2 ?_
  refine rr_i2l C dX11_lineAt_4 ?_
  refine rr_lstore_n (i := 2) C dX11_lineAt_5 rfl (by decide) ?_
  show WW W0 G 14 _ _ _ 6 [some (.ref l0), some (.int l1), some (.long (Int32.toInt64 v1)), none, none, none, none, none, none, none, none, none, none, none] [] h n _ _
  refine rr_aload_n (i := 0) C dX11_lineAt_6 rfl rfl ?_
  refine rr_aload_n (i := 0) C dX11_lineAt_7 rfl rfl ?_
  replace hr := Option.bind_eq_some_iff.mp hr
  obtain ⟨v4, e5, hr⟩ := hr
  refine rr_rdR C dX11_lineAt_8 fl_X11_153 e5 ?_
  replace hr := Option.bind_eq_some_iff.mp hr
  obtain ⟨u6, e7, hr⟩ := hr
  replace hr := Option.bind_eq_some_iff.mp hr
  obtain ⟨v8, e9, hr⟩ := hr
  refine rr_callVq (as := [va_rf v4]) (st := []) (mc' := 0) (ms' := 0) C dX11_lineAt_11 iv_X11_450 (by decide) e7 rfl (Nat.le_of_ble_eq_true rfl) (c_X11_all_ l0 v4 (by omega) e9) (fun v_ h_ n_ q_ => ?_)
  obtain ⟨q1_, q2_, q3_⟩ := q_
  subst v_; subst h_; subst n_
  show WW W0 G 14 _ _ _ 14 [some (.ref l0), some (.int l1), some (.long (Int32.toInt64 v1)), none, none, none, none, none, none, none, none, none, none, none] [.long v8] h n _ _
  refine rr_lstore C dX11_lineAt_14 (by decide) ?_
  show WW W0 G 14 _ _ _ 16 [some (.ref l0), some (.int l1), some (.long (Int32.toInt64 v1)), none, some (.long v8), none, none, none, none, none, none, none, none, none] [] h n _ _
  refine rr_aload_n (i := 0) C dX11_lineAt_16 rfl rfl ?_
  refine rr_aload_n (i := 0) C dX11_lineAt_17 rfl rfl ?_
  replace hr := Option.bind_eq_some_iff.mp hr
  obtain ⟨v10, e11, hr⟩ := hr
  refine rr_rdR C dX11_lineAt_18 fl_X11_156 e11 ?_
  replace hr := Option.bind_eq_some_iff.mp hr
  obtain ⟨u12, e13, hr⟩ := hr
  replace hr := Option.bind_eq_some_iff.mp hr
  obtain ⟨v14, e15, hr⟩ := hr
  refine rr_callVq (as := [va_rf v10]) (st := []) (mc' := 0) (ms' := 0) C dX11_lineAt_21 iv_X11_450 (by decide) e13 rfl (Nat.le_of_ble_eq_true rfl) (c_X11_all_ l0 v10 (by omega) e15) (fun v_ h_ n_ q_ => ?_)
  obtain ⟨q1_, q2_, q3_⟩ := q_
  subst v_; subst h_; subst n_
  show WW W0 G 14 _ _ _ 24 [some (.ref l0), some (.int l1), some (.long (Int32.toInt64 v1)), none, some (.long v8), none, none, none, none, none, none, none, none, none] [.long v14] h n _ _
  refine rr_lstore C dX11_lineAt_24 (by decide) ?_
  show WW W0 G 14 _ _ _ 26 [some (.ref l0), some (.int l1), some (.long (Int32.toInt64 v1)), none, some (.long v8), none, some (.long v14), none, none, none, none, none, none, none] [] h n _ _
  refine rr_lconst (v := 0) C dX11_lineAt_26 (by decide) ?_
  refine rr_lstore C dX11_lineAt_27 (by decide) ?_
  show WW W0 G 14 _ _ _ 29 [some (.ref l0), some (.int l1), some (.long (Int32.toInt64 v1)), none, some (.long v8), none, some (.long v14), none, some (.long 0), none, none, none, none, none] [] h n _ _
  refine rr_lconst (v := 0) C dX11_lineAt_29 (by decide) ?_
  refine rr_lstore C dX11_lineAt_30 (by decide) ?_
  show WW W0 G 14 _ _ _ 32 [some (.ref l0), some (.int l1), some (.long (Int32.toInt64 v1)), none, some (.long v8), none, some (.long v14), none, some (.long 0), none, some (.long 0), none, none, none] [] h n _ _
  refine rr_iconst (v := 0) C dX11_lineAt_32 (by decide) ?_
  refine rr_istore C dX11_lineAt_33 (by decide) ?_
  show WW W0 G 14 _ _ _ 35 [some (.ref l0), some (.int l1), some (.long (Int32.toInt64 v1)), none, some (.long v8), none, some (.long v14), none, some (.long 0), none, some (.long 0), none, some (.int 0), none] [] h n _ _
  replace hr := Option.bind_eq_some_iff.mp hr
  obtain ⟨v44, e45, hr⟩ := hr
  refine rr_keep [true, true, true, false, true, false, true, false, true, false, true, false, true, false] (w_X11_lineAt_35 C (by omega) l0 l1 (Int32.toInt64 v1) v8 v14 K 0 0 0 e45 ?_)
  show WW W0 G 14 _ _ _ 94 [some (.ref l0), some (.int l1), some (.long (Int32.toInt64 v1)), none, some (.long v8), none, some (.long v14), none, some (.long v44.1), none, some (.long v44.2), none, none, none] [] h n _ _
  refine rr_lload_n (i := 2) C dX11_lineAt_94 rfl rfl ?_
  refine rr_lload C dX11_lineAt_95 rfl ?_
  refine rr_lmul C dX11_lineAt_97 ?_
  refine rr_lload C dX11_lineAt_98 rfl ?_
  refine rr_lload C dX11_lineAt_100 rfl ?_
  refine rr_lmul C dX11_lineAt_102 ?_
  refine rr_lsub C dX11_lineAt_103 ?_
  refine rr_lstore C dX11_lineAt_104 (by decide) ?_
  show WW W0 G 14 _ _ _ 106 [some (.ref l0), some (.int l1), some (.long (Int32.toInt64 v1)), none, some (.long v8), none, some (.long v14), none, some (.long v44.1), none, some (.long v44.2), none, some (.long (((Int32.toInt64 v1) * v44.1) - (v8 * v8))), none] [] h n _ _
  refine rr_lload C dX11_lineAt_106 rfl ?_
  refine rr_lconst (v := 0) C dX11_lineAt_108 (by decide) ?_
  refine rr_lcmp C dX11_lineAt_109 ?_
  refine rr_if_ne (tgt := 121) C dX11_lineAt_110 (by decide) (fun c110_ => ?_) (fun c110_ => ?_)
  · replace hr := (if_neg c110_).symm.trans hr
    refine rr_lconst (v := 0) C dX11_lineAt_121 (by decide) ?_
    refine rr_lload C dX11_lineAt_122 rfl ?_
    refine rr_lload C dX11_lineAt_124 rfl ?_
    refine rr_lmul C dX11_lineAt_126 ?_
    refine rr_lload_n (i := 2) C dX11_lineAt_127 rfl rfl ?_
    refine rr_lload C dX11_lineAt_128 rfl ?_
    refine rr_lmul C dX11_lineAt_130 ?_
    refine rr_lload C dX11_lineAt_131 rfl ?_
    refine rr_lload C dX11_lineAt_133 rfl ?_
    refine rr_lmul C dX11_lineAt_135 ?_
    refine rr_lsub C dX11_lineAt_136 ?_
    refine rr_lload_n (i := 2) C dX11_lineAt_137 rfl rfl ?_
    refine rr_iload_n (i := 1) C dX11_lineAt_138 rfl rfl ?_
    refine rr_i2l C dX11_lineAt_139 ?_
    refine rr_lmul C dX11_lineAt_140 ?_
    refine rr_lload C dX11_lineAt_141 rfl ?_
    refine rr_lsub C dX11_lineAt_143 ?_
    refine rr_lmul C dX11_lineAt_144 ?_
    refine rr_ladd C dX11_lineAt_145 ?_
    refine rr_lload_n (i := 2) C dX11_lineAt_146 rfl rfl ?_
    refine rr_lload C dX11_lineAt_147 rfl ?_
    refine rr_lmul C dX11_lineAt_149 ?_
    by_cases z51 : ((Int32.toInt64 v1) * (((Int32.toInt64 v1) * v44.1) - (v8 * v8))) = 0
    · replace hr := (if_pos z51).symm.trans hr
      cases hr
    replace hr := (if_neg z51).symm.trans hr
    refine rr_ldiv C dX11_lineAt_150 z51 ?_
    refine rr_mmax_long C dX11_lineAt_151 ma_X11_457 (by decide) (Nat.le_of_ble_eq_true rfl) ?_
    obtain rfl := Option.some.inj hr
    exact rr_lret C dX11_lineAt_154 rfl ⟨rfl, rfl, rfl⟩
  · replace hr := (if_pos c110_).symm.trans hr
    refine rr_aload_n (i := 0) C dX11_lineAt_113 rfl rfl ?_
    refine rr_iload_n (i := 1) C dX11_lineAt_114 rfl rfl ?_
    replace hr := Option.bind_eq_some_iff.mp hr
    obtain ⟨u47, e48, hr⟩ := hr
    replace hr := Option.bind_eq_some_iff.mp hr
    obtain ⟨v49, e50, hr⟩ := hr
    refine rr_callVq (as := [.int l1]) (st := []) (mc' := 0) (ms' := 0) C dX11_lineAt_115 iv_X11_453 (by decide) e48 rfl (Nat.le_of_ble_eq_true rfl) (c_X11_meanAt l0 l1 (by omega) e50) (fun v_ h_ n_ q_ => ?_)
    obtain ⟨q1_, q2_, q3_⟩ := q_
    subst v_; subst h_; subst n_
    show WW W0 G 14 _ _ _ 118 [some (.ref l0), some (.int l1), some (.long (Int32.toInt64 v1)), none, some (.long v8), none, some (.long v14), none, some (.long v44.1), none, some (.long v44.2), none, some (.long (((Int32.toInt64 v1) * v44.1) - (v8 * v8))), none] [.long v49] h n _ _
    refine rr_goto (tgt := 154) C dX11_lineAt_118 (by decide) ?_
    obtain rfl := Option.some.inj hr
    exact rr_lret C dX11_lineAt_154 rfl ⟨rfl, rfl, rfl⟩
def q_X11_moded (K : Nat) (h : mm_H) (n : Nat) (l0 : Int64) : Option (Int64) :=
  some (j_max 0 (j_min 999999 l0))
set_option maxRecDepth 100000 in
set_option maxHeartbeats 4000000 in
theorem c_X11_moded {K : Nat} {G : mm_G} {l : Launch} {h : mm_H} {n : Nat} (l0 : Int64) {r_ : Int64} (hn : 48 ≤ n) (hr : q_X11_moded K h n l0 = some r_) : Sp G l yX11_moded cX11_moded 2 (some .long) 1 0 0 [.long l0] h n (fun v h' n' => v = some (.long r_) ∧ h' = h ∧ n' = n) := by
  refine Sp_of (by decide +kernel) (Nat.le_of_ble_eq_true rfl) hn ?_
  intro W0 hwl C
  subst hwl
  unfold q_X11_moded at hr
  show WW W0 G 2 0 0 _ 0 [some (.long l0), none] [] h n 0 0
  refine rr_lconst (v := 0) C dX11_moded_0 (by decide) ?_
  refine rr_ldc2 C dX11_moded_1 ct_X11_460 ?_
  refine rr_lload_n (i := 0) C dX11_moded_4 rfl rfl ?_
  refine rr_mmin_long C dX11_moded_5 ma_X11_462 (by decide) (Nat.le_of_ble_eq_true rfl) ?_
  refine rr_mmax_long C dX11_moded_8 ma_X11_457 (by decide) (Nat.le_of_ble_eq_true rfl) ?_
  obtain rfl := Option.some.inj hr
  exact rr_lret C dX11_moded_11 rfl ⟨rfl, rfl, rfl⟩
def lp_X11_driverOf_12 (K : Nat) (h : mm_H) (n : Nat) (l0 : Nat) (l1 : Int32) (l3 : Int32) (l4 : Int32) : Nat → Int32 → Option (Nat × Int32)
  | 0, _ => none
  | k_ + 1, l5 =>
    if l5 < 0 then
      some (1, l5)
    else
    (ckq h n l0 10).bind fun u2 =>
    (q_X11_factBy K h n l0 l1 l5 l3 l4).bind fun v4 =>
    if v4 = (-1) then
      lp_X11_driverOf_12 K h n l0 l1 l3 l4 k_ (l5 + (-1))
    else
    some (0, l5)
def q_X11_driverOf (K : Nat) (h : mm_H) (n : Nat) (l0 : Nat) (l1 : Int32) (l2 : Int32) (l3 : Int32) : Option (Int32) :=
  (lp_X11_driverOf_12 K h n l0 l1 l3 (500 * (l2 / 5)) K l2).bind fun v6 =>
  if v6.1 = 0 then
    (ckq h n l0 10).bind fun u8 =>
    (q_X11_factBy K h n l0 l1 v6.2 l3 (500 * (l2 / 5))).bind fun v10 =>
    some v10
  else
  if v6.1 = 1 then
    some 0
  else
    none
set_option maxRecDepth 100000 in
set_option maxHeartbeats 4000000 in
theorem w_X11_driverOf_12 {K : Nat} {W0 : mm_X} {G : mm_G} {mc ms kc ks : Nat} {Q_ : State → Prop} {h : mm_H} {n : Nat} (C : mm_C W0 G cX11_driverOf yX11_driverOf.cls 6 mc ms (some .int) 2 yX11_driverOf.name) (hn : 48 ≤ n) (l0 : Nat) (l1 : Int32) (l3 : Int32) (l4 : Int32) : ∀ (k_ : Nat) (l5 : Int32) {r_ : Nat × Int32} (hr : lp_X11_driverOf_12 K h n l0 l1 l3 l4 k_ l5 = some r_) (hx0 : r_.1 = 0 → WW W0 G 6 mc ms Q_ 31 [some (.ref l0), some (.int l1), none, some (.int l3), some (.int l4), some (.int r_.2)] [] h n kc ks) (hx1 : r_.1 = 1 → WW W0 G 6 mc ms Q_ 48 [none, none, none, none, none, none] [] h n kc ks), WW W0 G 6 mc ms Q_ 12 [some (.ref l0), some (.int l1), none, some (.int l3), some (.int l4), some (.int l5)] [] h n kc ks := by
  intro k_
  induction k_ with
  | zero =>
    intro l5 r_ hr
    cases hr
  | succ k_ ih_ =>
    intro l5 r_ hr hx0 hx1
    unfold lp_X11_driverOf_12 at hr
    refine rr_iload C dX11_driverOf_12 rfl ?_
    refine rr_if_lt (tgt := 48) C dX11_driverOf_14 (by decide) (fun c14_ => ?_) (fun c14_ => ?_)
    · replace hr := (if_pos c14_).symm.trans hr
      obtain rfl := Option.some.inj hr
      exact rr_keep [false, false, false, false, false, false] (hx1 rfl)
    · replace hr := (if_neg c14_).symm.trans hr
      refine rr_aload_n (i := 0) C dX11_driverOf_17 rfl rfl ?_
      refine rr_iload_n (i := 1) C dX11_driverOf_18 rfl rfl ?_
      refine rr_iload C dX11_driverOf_19 rfl ?_
      refine rr_iload_n (i := 3) C dX11_driverOf_21 rfl rfl ?_
      refine rr_iload C dX11_driverOf_22 rfl ?_
      replace hr := Option.bind_eq_some_iff.mp hr
      obtain ⟨u2, e3, hr⟩ := hr
      replace hr := Option.bind_eq_some_iff.mp hr
      obtain ⟨v4, e5, hr⟩ := hr
      refine rr_callVq (as := [.int l1, .int l5, .int l3, .int l4]) (st := []) (mc' := 0) (ms' := 0) C dX11_driverOf_24 iv_X11_198 (by decide) e3 rfl (Nat.le_of_ble_eq_true rfl) (c_X11_factBy l0 l1 l5 l3 l4 (by omega) e5) (fun v_ h_ n_ q_ => ?_)
      obtain ⟨q1_, q2_, q3_⟩ := q_
      subst v_; subst h_; subst n_
      show WW W0 G 6 _ _ _ 27 [some (.ref l0), some (.int l1), none, some (.int l3), some (.int l4), some (.int l5)] [.int v4] h n _ _
      refine rr_iconst (v := (-1)) C dX11_driverOf_27 (by decide) ?_
      refine rr_icmp_eq (tgt := 42) C dX11_driverOf_28 (by decide) (fun c28_ => ?_) (fun c28_ => ?_)
      · replace hr := (if_pos c28_).symm.trans hr
        refine rr_iinc (v := l5 + (-1)) C dX11_driverOf_42 rfl rfl ?_
        show WW W0 G 6 _ _ _ 45 [some (.ref l0), some (.int l1), none, some (.int l3), some (.int l4), some (.int (l5 + (-1)))] [] h n _ _
        refine rr_goto (tgt := 12) C dX11_driverOf_45 (by decide) ?_
        exact rr_keep [true, true, false, true, true, true] (ih_ _ hr hx0 hx1)
      · replace hr := (if_neg c28_).symm.trans hr
        obtain rfl := Option.some.inj hr
        exact rr_keep [true, true, false, true, true, true] (hx0 rfl)
set_option maxRecDepth 100000 in
set_option maxHeartbeats 4000000 in
theorem c_X11_driverOf {K : Nat} {G : mm_G} {l : Launch} {h : mm_H} {n : Nat} (l0 : Nat) (l1 : Int32) (l2 : Int32) (l3 : Int32) {r_ : Int32} (hn : 48 ≤ n) (hr : q_X11_driverOf K h n l0 l1 l2 l3 = some r_) : Sp G l yX11_driverOf cX11_driverOf 6 (some .int) 2 0 0 [.ref l0, .int l1, .int l2, .int l3] h n (fun v h' n' => v = some (.int r_) ∧ h' = h ∧ n' = n) := by
  refine Sp_of (by decide +kernel) (Nat.le_of_ble_eq_true rfl) hn ?_
  intro W0 hwl C
  subst hwl
  unfold q_X11_driverOf at hr
  show WW W0 G 6 0 0 _ 0 [some (.ref l0), some (.int l1), some (.int l2), some (.int l3), none, none] [] h n 0 0
  refine rr_sipush (v := 500) C dX11_driverOf_0 (by decide) ?_
  refine rr_iload_n (i := 2) C dX11_driverOf_3 rfl rfl ?_
  refine rr_iconst (v := 5) C dX11_driverOf_4 (by decide) ?_
  refine rr_idiv C dX11_driverOf_5 (by decide) ?_
  refine rr_imul C dX11_driverOf_6 ?_
  refine rr_istore C dX11_driverOf_7 (by decide) ?_
  show WW W0 G 6 _ _ _ 9 [some (.ref l0), some (.int l1), some (.int l2), some (.int l3), some (.int (500 * (l2 / 5))), none] [] h n _ _
  refine rr_iload_n (i := 2) C dX11_driverOf_9 rfl rfl ?_
  refine rr_istore C dX11_driverOf_10 (by decide) ?_
  show WW W0 G 6 _ _ _ 12 [some (.ref l0), some (.int l1), some (.int l2), some (.int l3), some (.int (500 * (l2 / 5))), some (.int l2)] [] h n _ _
  replace hr := Option.bind_eq_some_iff.mp hr
  obtain ⟨v6, e7, hr⟩ := hr
  refine rr_keep [true, true, false, true, true, true] (w_X11_driverOf_12 C (by omega) l0 l1 l3 (500 * (l2 / 5)) K l2 e7 ?_ ?_)
  · intro cx_
    replace hr := (if_pos cx_).symm.trans hr
    show WW W0 G 6 _ _ _ 31 [some (.ref l0), some (.int l1), none, some (.int l3), some (.int (500 * (l2 / 5))), some (.int v6.2)] [] h n _ _
    refine rr_aload_n (i := 0) C dX11_driverOf_31 rfl rfl ?_
    refine rr_iload_n (i := 1) C dX11_driverOf_32 rfl rfl ?_
    refine rr_iload C dX11_driverOf_33 rfl ?_
    refine rr_iload_n (i := 3) C dX11_driverOf_35 rfl rfl ?_
    refine rr_iload C dX11_driverOf_36 rfl ?_
    replace hr := Option.bind_eq_some_iff.mp hr
    obtain ⟨u8, e9, hr⟩ := hr
    replace hr := Option.bind_eq_some_iff.mp hr
    obtain ⟨v10, e11, hr⟩ := hr
    refine rr_callVq (as := [.int l1, .int v6.2, .int l3, .int (500 * (l2 / 5))]) (st := []) (mc' := 0) (ms' := 0) C dX11_driverOf_38 iv_X11_198 (by decide) e9 rfl (Nat.le_of_ble_eq_true rfl) (c_X11_factBy l0 l1 v6.2 l3 (500 * (l2 / 5)) (by omega) e11) (fun v_ h_ n_ q_ => ?_)
    obtain ⟨q1_, q2_, q3_⟩ := q_
    subst v_; subst h_; subst n_
    show WW W0 G 6 _ _ _ 41 [some (.ref l0), some (.int l1), none, some (.int l3), some (.int (500 * (l2 / 5))), some (.int v6.2)] [.int v10] h n _ _
    obtain rfl := Option.some.inj hr
    exact rr_iret (ty := .int) C dX11_driverOf_41 rfl rfl ⟨rfl, rfl, rfl⟩
  · intro cx_
    replace hr := (if_neg (fun z_ => absurd (z_.symm.trans cx_) (by decide))).symm.trans hr
    replace hr := (if_pos cx_).symm.trans hr
    show WW W0 G 6 _ _ _ 48 [none, none, none, none, none, none] [] h n _ _
    refine rr_iconst (v := 0) C dX11_driverOf_48 (by decide) ?_
    obtain rfl := Option.some.inj hr
    exact rr_iret (ty := .int) C dX11_driverOf_49 rfl rfl ⟨rfl, rfl, rfl⟩
def q_X11_allowedBy (K : Nat) (h : mm_H) (n : Nat) (l0 : Nat) (l1 : Int32) (l2 : Int32) (l3 : Int32) (l4 : Int32) : Option (Int32 × mm_H) :=
  if l1 = (-1) then
    some (0, h)
  else
  (rdR h n l0 10 38).bind fun v1 =>
  v1.bind fun a3 =>
  (ldI h n a3 l1).bind fun v5 =>
  if v5 = 3 then
    (ckq h n l0 10).bind fun u7 =>
    (q_X11_factBy K h n l0 l2 l4 (7 + l3) (500 * (l4 / 5))).bind fun v9 =>
    (q_X11_moded K h n (Int32.toInt64 (i_max 0 v9))).bind fun v12 =>
    (rdR h n l0 10 40).bind fun v14 =>
    v14.bind fun a16 =>
    (ldI h n a16 l1).bind fun v18 =>
    some (Int64.toInt32 ((v12 * (Int32.toInt64 v18)) / 100), h)
  else
  (rdR h n l0 10 39).bind fun v20 =>
  v20.bind fun a22 =>
  (ldI h n a22 l1).bind fun v24 =>
  (ckq h n l0 10).bind fun u26 =>
  (q_X11_gathers K h n l0 l2 l3 (l4 / 5) v24 (-1)).bind fun v28 =>
  (rdR v28 n l0 10 39).bind fun v30 =>
  v30.bind fun a32 =>
  (ldI v28 n a32 l1).bind fun v34 =>
  (ckq v28 n l0 10).bind fun u36 =>
  (q_X11_driverOf K v28 n l0 l2 l4 v34).bind fun v38 =>
  (rdR v28 n l0 10 38).bind fun v40 =>
  v40.bind fun a42 =>
  (ldI v28 n a42 l1).bind fun v44 =>
  if v44 = 0 then
    (ckq v28 n l0 10).bind fun u46 =>
    (q_X11_lineAt K v28 n l0 v38).bind fun v48 =>
    (q_X11_moded K v28 n v48).bind fun v50 =>
    (rdR v28 n l0 10 40).bind fun v52 =>
    v52.bind fun a54 =>
    (ldI v28 n a54 l1).bind fun v56 =>
    some (Int64.toInt32 ((v50 * (Int32.toInt64 v56)) / 100), v28)
  else
  (rdR v28 n l0 10 38).bind fun v58 =>
  v58.bind fun a60 =>
  (ldI v28 n a60 l1).bind fun v62 =>
  if v62 = 1 then
    (ckq v28 n l0 10).bind fun u64 =>
    (q_X11_meanAt K v28 n l0 v38).bind fun v66 =>
    (q_X11_moded K v28 n v66).bind fun v68 =>
    (rdR v28 n l0 10 40).bind fun v70 =>
    v70.bind fun a72 =>
    (ldI v28 n a72 l1).bind fun v74 =>
    some (Int64.toInt32 ((v68 * (Int32.toInt64 v74)) / 100), v28)
  else
  (ckq v28 n l0 10).bind fun u76 =>
  (q_X11_bestAt K v28 n l0 v38).bind fun v78 =>
  (q_X11_moded K v28 n v78).bind fun v80 =>
  (rdR v28 n l0 10 40).bind fun v82 =>
  v82.bind fun a84 =>
  (ldI v28 n a84 l1).bind fun v86 =>
  some (Int64.toInt32 ((v80 * (Int32.toInt64 v86)) / 100), v28)
set_option maxRecDepth 100000 in
set_option maxHeartbeats 4000000 in
theorem c_X11_allowedBy {K : Nat} {G : mm_G} {l : Launch} {h : mm_H} {n : Nat} (l0 : Nat) (l1 : Int32) (l2 : Int32) (l3 : Int32) (l4 : Int32) {r_ : Int32 × mm_H} (hn : 48 ≤ n) (hr : q_X11_allowedBy K h n l0 l1 l2 l3 l4 = some r_) : Sp G l yX11_allowedBy cX11_allowedBy 8 (some .int) 3 0 0 [.ref l0, .int l1, .int l2, .int l3, .int l4] h n (fun v h' n' => v = some (.int r_.1) ∧ h' = r_.2 ∧ n' = n) := by
  refine Sp_of (by decide +kernel) (Nat.le_of_ble_eq_true rfl) hn ?_
  intro W0 hwl C
  subst hwl
  unfold q_X11_allowedBy at hr
  show WW W0 G 8 0 0 _ 0 [some (.ref l0), some (.int l1), some (.int l2), some (.int l3), some (.int l4), none, none, none] [] h n 0 0
  refine rr_iload_n (i := 1) C dX11_allowedBy_0 rfl rfl ?_
  refine rr_iconst (v := (-1)) C dX11_allowedBy_1 (by decide) ?_
  refine rr_icmp_ne (tgt := 7) C dX11_allowedBy_2 (by decide) (fun c2_ => ?_) (fun c2_ => ?_)
  · replace hr := (if_neg c2_).symm.trans hr
    refine rr_aload_n (i := 0) C dX11_allowedBy_7 rfl rfl ?_
    replace hr := Option.bind_eq_some_iff.mp hr
    obtain ⟨v1, e2, hr⟩ := hr
    refine rr_rdR C dX11_allowedBy_8 fl_X11_87 e2 ?_
    refine rr_iload_n (i := 1) C dX11_allowedBy_11 rfl rfl ?_
    replace hr := Option.bind_eq_some_iff.mp hr
    obtain ⟨a3, e4, hr⟩ := hr
    subst e4
    replace hr := Option.bind_eq_some_iff.mp hr
    obtain ⟨v5, e6, hr⟩ := hr
    refine rr_ldI C dX11_allowedBy_12 e6 ?_
    refine rr_iconst (v := 3) C dX11_allowedBy_13 (by decide) ?_
    refine rr_icmp_ne (tgt := 46) C dX11_allowedBy_14 (by decide) (fun c14_ => ?_) (fun c14_ => ?_)
    · replace hr := (if_neg c14_).symm.trans hr
      refine rr_aload_n (i := 0) C dX11_allowedBy_46 rfl rfl ?_
      refine rr_iload_n (i := 2) C dX11_allowedBy_47 rfl rfl ?_
      refine rr_iload_n (i := 3) C dX11_allowedBy_48 rfl rfl ?_
      refine rr_iload C dX11_allowedBy_49 rfl ?_
      refine rr_iconst (v := 5) C dX11_allowedBy_51 (by decide) ?_
      refine rr_idiv C dX11_allowedBy_52 (by decide) ?_
      refine rr_aload_n (i := 0) C dX11_allowedBy_53 rfl rfl ?_
      replace hr := Option.bind_eq_some_iff.mp hr
      obtain ⟨v20, e21, hr⟩ := hr
      refine rr_rdR C dX11_allowedBy_54 fl_X11_90 e21 ?_
      refine rr_iload_n (i := 1) C dX11_allowedBy_57 rfl rfl ?_
      replace hr := Option.bind_eq_some_iff.mp hr
      obtain ⟨a22, e23, hr⟩ := hr
      subst e23
      replace hr := Option.bind_eq_some_iff.mp hr
      obtain ⟨v24, e25, hr⟩ := hr
      refine rr_ldI C dX11_allowedBy_58 e25 ?_
      refine rr_iconst (v := (-1)) C dX11_allowedBy_59 (by decide) ?_
      replace hr := Option.bind_eq_some_iff.mp hr
      obtain ⟨u26, e27, hr⟩ := hr
      replace hr := Option.bind_eq_some_iff.mp hr
      obtain ⟨v28, e29, hr⟩ := hr
      refine rr_callVq (as := [.int l2, .int l3, .int (l4 / 5), .int v24, .int (-1)]) (st := []) (mc' := 0) (ms' := 0) C dX11_allowedBy_60 iv_X11_446 (by decide) e27 rfl (Nat.le_of_ble_eq_true rfl) (c_X11_gathers l0 l2 l3 (l4 / 5) v24 (-1) (by omega) e29) (fun v_ h_ n_ q_ => ?_)
      obtain ⟨q1_, q2_, q3_⟩ := q_
      subst v_; subst h_; subst n_
      show WW W0 G 8 _ _ _ 63 [some (.ref l0), some (.int l1), some (.int l2), some (.int l3), some (.int l4), none, none, none] [] v28 n _ _
      refine rr_aload_n (i := 0) C dX11_allowedBy_63 rfl rfl ?_
      refine rr_iload_n (i := 2) C dX11_allowedBy_64 rfl rfl ?_
      refine rr_iload C dX11_allowedBy_65 rfl ?_
      refine rr_aload_n (i := 0) C dX11_allowedBy_67 rfl rfl ?_
      replace hr := Option.bind_eq_some_iff.mp hr
      obtain ⟨v30, e31, hr⟩ := hr
      refine rr_rdR C dX11_allowedBy_68 fl_X11_90 e31 ?_
      refine rr_iload_n (i := 1) C dX11_allowedBy_71 rfl rfl ?_
      replace hr := Option.bind_eq_some_iff.mp hr
      obtain ⟨a32, e33, hr⟩ := hr
      subst e33
      replace hr := Option.bind_eq_some_iff.mp hr
      obtain ⟨v34, e35, hr⟩ := hr
      refine rr_ldI C dX11_allowedBy_72 e35 ?_
      replace hr := Option.bind_eq_some_iff.mp hr
      obtain ⟨u36, e37, hr⟩ := hr
      replace hr := Option.bind_eq_some_iff.mp hr
      obtain ⟨v38, e39, hr⟩ := hr
      refine rr_callVq (as := [.int l2, .int l4, .int v34]) (st := []) (mc' := 0) (ms' := 0) C dX11_allowedBy_73 iv_X11_465 (by decide) e37 rfl (Nat.le_of_ble_eq_true rfl) (c_X11_driverOf l0 l2 l4 v34 (by omega) e39) (fun v_ h_ n_ q_ => ?_)
      obtain ⟨q1_, q2_, q3_⟩ := q_
      subst v_; subst h_; subst n_
      show WW W0 G 8 _ _ _ 76 [some (.ref l0), some (.int l1), some (.int l2), some (.int l3), some (.int l4), none, none, none] [.int v38] v28 n _ _
      refine rr_istore C dX11_allowedBy_76 (by decide) ?_
      show WW W0 G 8 _ _ _ 78 [some (.ref l0), some (.int l1), some (.int l2), some (.int l3), some (.int l4), none, none, some (.int v38)] [] v28 n _ _
      refine rr_aload_n (i := 0) C dX11_allowedBy_78 rfl rfl ?_
      replace hr := Option.bind_eq_some_iff.mp hr
      obtain ⟨v40, e41, hr⟩ := hr
      refine rr_rdR C dX11_allowedBy_79 fl_X11_87 e41 ?_
      refine rr_iload_n (i := 1) C dX11_allowedBy_82 rfl rfl ?_
      replace hr := Option.bind_eq_some_iff.mp hr
      obtain ⟨a42, e43, hr⟩ := hr
      subst e43
      replace hr := Option.bind_eq_some_iff.mp hr
      obtain ⟨v44, e45, hr⟩ := hr
      refine rr_ldI C dX11_allowedBy_83 e45 ?_
      refine rr_if_ne (tgt := 96) C dX11_allowedBy_84 (by decide) (fun c84_ => ?_) (fun c84_ => ?_)
      · replace hr := (if_neg c84_).symm.trans hr
        refine rr_aload_n (i := 0) C dX11_allowedBy_96 rfl rfl ?_
        replace hr := Option.bind_eq_some_iff.mp hr
        obtain ⟨v58, e59, hr⟩ := hr
        refine rr_rdR C dX11_allowedBy_97 fl_X11_87 e59 ?_
        refine rr_iload_n (i := 1) C dX11_allowedBy_100 rfl rfl ?_
        replace hr := Option.bind_eq_some_iff.mp hr
        obtain ⟨a60, e61, hr⟩ := hr
        subst e61
        replace hr := Option.bind_eq_some_iff.mp hr
        obtain ⟨v62, e63, hr⟩ := hr
        refine rr_ldI C dX11_allowedBy_101 e63 ?_
        refine rr_iconst (v := 1) C dX11_allowedBy_102 (by decide) ?_
        refine rr_icmp_ne (tgt := 115) C dX11_allowedBy_103 (by decide) (fun c103_ => ?_) (fun c103_ => ?_)
        · replace hr := (if_neg c103_).symm.trans hr
          refine rr_aload_n (i := 0) C dX11_allowedBy_115 rfl rfl ?_
          refine rr_iload C dX11_allowedBy_116 rfl ?_
          replace hr := Option.bind_eq_some_iff.mp hr
          obtain ⟨u76, e77, hr⟩ := hr
          replace hr := Option.bind_eq_some_iff.mp hr
          obtain ⟨v78, e79, hr⟩ := hr
          refine rr_callVq (as := [.int v38]) (st := []) (mc' := 0) (ms' := 0) C dX11_allowedBy_118 iv_X11_471 (by decide) e77 rfl (Nat.le_of_ble_eq_true rfl) (c_X11_bestAt l0 v38 (by omega) e79) (fun v_ h_ n_ q_ => ?_)
          obtain ⟨q1_, q2_, q3_⟩ := q_
          subst v_; subst h_; subst n_
          show WW W0 G 8 _ _ _ 121 [some (.ref l0), some (.int l1), some (.int l2), some (.int l3), some (.int l4), none, none, some (.int v38)] [.long v78] v28 n _ _
          refine rr_lstore C dX11_allowedBy_121 (by decide) ?_
          show WW W0 G 8 _ _ _ 123 [some (.ref l0), some (.int l1), some (.int l2), some (.int l3), some (.int l4), some (.long v78), none, some (.int v38)] [] v28 n _ _
          refine rr_lload C dX11_allowedBy_123 rfl ?_
          replace hr := Option.bind_eq_some_iff.mp hr
          obtain ⟨v80, e81, hr⟩ := hr
          refine rr_callS (as := [.long v78]) (st := []) (mc' := 0) (ms' := 0) C dX11_allowedBy_125 it_X11_474 (by decide) (Nat.le_of_ble_eq_true rfl) (c_X11_moded v78 (by omega) e81) (fun v_ h_ n_ q_ => ?_)
          obtain ⟨q1_, q2_, q3_⟩ := q_
          subst v_; subst h_; subst n_
          show WW W0 G 8 _ _ _ 128 [some (.ref l0), some (.int l1), some (.int l2), some (.int l3), some (.int l4), some (.long v78), none, some (.int v38)] [.long v80] v28 n _ _
          refine rr_aload_n (i := 0) C dX11_allowedBy_128 rfl rfl ?_
          replace hr := Option.bind_eq_some_iff.mp hr
          obtain ⟨v82, e83, hr⟩ := hr
          refine rr_rdR C dX11_allowedBy_129 fl_X11_93 e83 ?_
          refine rr_iload_n (i := 1) C dX11_allowedBy_132 rfl rfl ?_
          replace hr := Option.bind_eq_some_iff.mp hr
          obtain ⟨a84, e85, hr⟩ := hr
          subst e85
          replace hr := Option.bind_eq_some_iff.mp hr
          obtain ⟨v86, e87, hr⟩ := hr
          refine rr_ldI C dX11_allowedBy_133 e87 ?_
          refine rr_i2l C dX11_allowedBy_134 ?_
          refine rr_lmul C dX11_allowedBy_135 ?_
          refine rr_ldc2 C dX11_allowedBy_136 ct_X11_433 ?_
          refine rr_ldiv C dX11_allowedBy_139 (by decide) ?_
          refine rr_l2i C dX11_allowedBy_140 ?_
          obtain rfl := Option.some.inj hr
          exact rr_iret (ty := .int) C dX11_allowedBy_141 rfl rfl ⟨rfl, rfl, rfl⟩
        · replace hr := (if_pos c103_).symm.trans hr
          refine rr_aload_n (i := 0) C dX11_allowedBy_106 rfl rfl ?_
          refine rr_iload C dX11_allowedBy_107 rfl ?_
          replace hr := Option.bind_eq_some_iff.mp hr
          obtain ⟨u64, e65, hr⟩ := hr
          replace hr := Option.bind_eq_some_iff.mp hr
          obtain ⟨v66, e67, hr⟩ := hr
          refine rr_callVq (as := [.int v38]) (st := []) (mc' := 0) (ms' := 0) C dX11_allowedBy_109 iv_X11_453 (by decide) e65 rfl (Nat.le_of_ble_eq_true rfl) (c_X11_meanAt l0 v38 (by omega) e67) (fun v_ h_ n_ q_ => ?_)
          obtain ⟨q1_, q2_, q3_⟩ := q_
          subst v_; subst h_; subst n_
          show WW W0 G 8 _ _ _ 112 [some (.ref l0), some (.int l1), some (.int l2), some (.int l3), some (.int l4), none, none, some (.int v38)] [.long v66] v28 n _ _
          refine rr_goto (tgt := 121) C dX11_allowedBy_112 (by decide) ?_
          refine rr_lstore C dX11_allowedBy_121 (by decide) ?_
          show WW W0 G 8 _ _ _ 123 [some (.ref l0), some (.int l1), some (.int l2), some (.int l3), some (.int l4), some (.long v66), none, some (.int v38)] [] v28 n _ _
          refine rr_lload C dX11_allowedBy_123 rfl ?_
          replace hr := Option.bind_eq_some_iff.mp hr
          obtain ⟨v68, e69, hr⟩ := hr
          refine rr_callS (as := [.long v66]) (st := []) (mc' := 0) (ms' := 0) C dX11_allowedBy_125 it_X11_474 (by decide) (Nat.le_of_ble_eq_true rfl) (c_X11_moded v66 (by omega) e69) (fun v_ h_ n_ q_ => ?_)
          obtain ⟨q1_, q2_, q3_⟩ := q_
          subst v_; subst h_; subst n_
          show WW W0 G 8 _ _ _ 128 [some (.ref l0), some (.int l1), some (.int l2), some (.int l3), some (.int l4), some (.long v66), none, some (.int v38)] [.long v68] v28 n _ _
          refine rr_aload_n (i := 0) C dX11_allowedBy_128 rfl rfl ?_
          replace hr := Option.bind_eq_some_iff.mp hr
          obtain ⟨v70, e71, hr⟩ := hr
          refine rr_rdR C dX11_allowedBy_129 fl_X11_93 e71 ?_
          refine rr_iload_n (i := 1) C dX11_allowedBy_132 rfl rfl ?_
          replace hr := Option.bind_eq_some_iff.mp hr
          obtain ⟨a72, e73, hr⟩ := hr
          subst e73
          replace hr := Option.bind_eq_some_iff.mp hr
          obtain ⟨v74, e75, hr⟩ := hr
          refine rr_ldI C dX11_allowedBy_133 e75 ?_
          refine rr_i2l C dX11_allowedBy_134 ?_
          refine rr_lmul C dX11_allowedBy_135 ?_
          refine rr_ldc2 C dX11_allowedBy_136 ct_X11_433 ?_
          refine rr_ldiv C dX11_allowedBy_139 (by decide) ?_
          refine rr_l2i C dX11_allowedBy_140 ?_
          obtain rfl := Option.some.inj hr
          exact rr_iret (ty := .int) C dX11_allowedBy_141 rfl rfl ⟨rfl, rfl, rfl⟩
      · replace hr := (if_pos c84_).symm.trans hr
        refine rr_aload_n (i := 0) C dX11_allowedBy_87 rfl rfl ?_
        refine rr_iload C dX11_allowedBy_88 rfl ?_
        replace hr := Option.bind_eq_some_iff.mp hr
        obtain ⟨u46, e47, hr⟩ := hr
        replace hr := Option.bind_eq_some_iff.mp hr
        obtain ⟨v48, e49, hr⟩ := hr
        refine rr_callVq (as := [.int v38]) (st := []) (mc' := 0) (ms' := 0) C dX11_allowedBy_90 iv_X11_468 (by decide) e47 rfl (Nat.le_of_ble_eq_true rfl) (c_X11_lineAt l0 v38 (by omega) e49) (fun v_ h_ n_ q_ => ?_)
        obtain ⟨q1_, q2_, q3_⟩ := q_
        subst v_; subst h_; subst n_
        show WW W0 G 8 _ _ _ 93 [some (.ref l0), some (.int l1), some (.int l2), some (.int l3), some (.int l4), none, none, some (.int v38)] [.long v48] v28 n _ _
        refine rr_goto (tgt := 121) C dX11_allowedBy_93 (by decide) ?_
        refine rr_lstore C dX11_allowedBy_121 (by decide) ?_
        show WW W0 G 8 _ _ _ 123 [some (.ref l0), some (.int l1), some (.int l2), some (.int l3), some (.int l4), some (.long v48), none, some (.int v38)] [] v28 n _ _
        refine rr_lload C dX11_allowedBy_123 rfl ?_
        replace hr := Option.bind_eq_some_iff.mp hr
        obtain ⟨v50, e51, hr⟩ := hr
        refine rr_callS (as := [.long v48]) (st := []) (mc' := 0) (ms' := 0) C dX11_allowedBy_125 it_X11_474 (by decide) (Nat.le_of_ble_eq_true rfl) (c_X11_moded v48 (by omega) e51) (fun v_ h_ n_ q_ => ?_)
        obtain ⟨q1_, q2_, q3_⟩ := q_
        subst v_; subst h_; subst n_
        show WW W0 G 8 _ _ _ 128 [some (.ref l0), some (.int l1), some (.int l2), some (.int l3), some (.int l4), some (.long v48), none, some (.int v38)] [.long v50] v28 n _ _
        refine rr_aload_n (i := 0) C dX11_allowedBy_128 rfl rfl ?_
        replace hr := Option.bind_eq_some_iff.mp hr
        obtain ⟨v52, e53, hr⟩ := hr
        refine rr_rdR C dX11_allowedBy_129 fl_X11_93 e53 ?_
        refine rr_iload_n (i := 1) C dX11_allowedBy_132 rfl rfl ?_
        replace hr := Option.bind_eq_some_iff.mp hr
        obtain ⟨a54, e55, hr⟩ := hr
        subst e55
        replace hr := Option.bind_eq_some_iff.mp hr
        obtain ⟨v56, e57, hr⟩ := hr
        refine rr_ldI C dX11_allowedBy_133 e57 ?_
        refine rr_i2l C dX11_allowedBy_134 ?_
        refine rr_lmul C dX11_allowedBy_135 ?_
        refine rr_ldc2 C dX11_allowedBy_136 ct_X11_433 ?_
        refine rr_ldiv C dX11_allowedBy_139 (by decide) ?_
        refine rr_l2i C dX11_allowedBy_140 ?_
        obtain rfl := Option.some.inj hr
        exact rr_iret (ty := .int) C dX11_allowedBy_141 rfl rfl ⟨rfl, rfl, rfl⟩
    · replace hr := (if_pos c14_).symm.trans hr
      refine rr_iconst (v := 0) C dX11_allowedBy_17 (by decide) ?_
      refine rr_aload_n (i := 0) C dX11_allowedBy_18 rfl rfl ?_
      refine rr_iload_n (i := 2) C dX11_allowedBy_19 rfl rfl ?_
      refine rr_iload C dX11_allowedBy_20 rfl ?_
      refine rr_bipush (v := 7) C dX11_allowedBy_22 (by decide) ?_
      refine rr_iload_n (i := 3) C dX11_allowedBy_24 rfl rfl ?_
      refine rr_iadd C dX11_allowedBy_25 ?_
      refine rr_sipush (v := 500) C dX11_allowedBy_26 (by decide) ?_
      refine rr_iload C dX11_allowedBy_29 rfl ?_
      refine rr_iconst (v := 5) C dX11_allowedBy_31 (by decide) ?_
      refine rr_idiv C dX11_allowedBy_32 (by decide) ?_
      refine rr_imul C dX11_allowedBy_33 ?_
      replace hr := Option.bind_eq_some_iff.mp hr
      obtain ⟨u7, e8, hr⟩ := hr
      replace hr := Option.bind_eq_some_iff.mp hr
      obtain ⟨v9, e10, hr⟩ := hr
      refine rr_callVq (as := [.int l2, .int l4, .int (7 + l3), .int (500 * (l4 / 5))]) (st := [.int 0]) (mc' := 0) (ms' := 0) C dX11_allowedBy_34 iv_X11_198 (by decide) e8 rfl (Nat.le_of_ble_eq_true rfl) (c_X11_factBy l0 l2 l4 (7 + l3) (500 * (l4 / 5)) (by omega) e10) (fun v_ h_ n_ q_ => ?_)
      obtain ⟨q1_, q2_, q3_⟩ := q_
      subst v_; subst h_; subst n_
      show WW W0 G 8 _ _ _ 37 [some (.ref l0), some (.int l1), some (.int l2), some (.int l3), some (.int l4), none, none, none] [.int v9, .int 0] h n _ _
      refine rr_mmax C dX11_allowedBy_37 ma_X11_406 (by decide) (Nat.le_of_ble_eq_true rfl) ?_
      refine rr_i2l C dX11_allowedBy_40 ?_
      refine rr_lstore C dX11_allowedBy_41 (by decide) ?_
      show WW W0 G 8 _ _ _ 43 [some (.ref l0), some (.int l1), some (.int l2), some (.int l3), some (.int l4), some (.long (Int32.toInt64 (i_max 0 v9))), none, none] [] h n _ _
      refine rr_goto (tgt := 123) C dX11_allowedBy_43 (by decide) ?_
      refine rr_lload C dX11_allowedBy_123 rfl ?_
      replace hr := Option.bind_eq_some_iff.mp hr
      obtain ⟨v12, e13, hr⟩ := hr
      refine rr_callS (as := [.long (Int32.toInt64 (i_max 0 v9))]) (st := []) (mc' := 0) (ms' := 0) C dX11_allowedBy_125 it_X11_474 (by decide) (Nat.le_of_ble_eq_true rfl) (c_X11_moded (Int32.toInt64 (i_max 0 v9)) (by omega) e13) (fun v_ h_ n_ q_ => ?_)
      obtain ⟨q1_, q2_, q3_⟩ := q_
      subst v_; subst h_; subst n_
      show WW W0 G 8 _ _ _ 128 [some (.ref l0), some (.int l1), some (.int l2), some (.int l3), some (.int l4), some (.long (Int32.toInt64 (i_max 0 v9))), none, none] [.long v12] h n _ _
      refine rr_aload_n (i := 0) C dX11_allowedBy_128 rfl rfl ?_
      replace hr := Option.bind_eq_some_iff.mp hr
      obtain ⟨v14, e15, hr⟩ := hr
      refine rr_rdR C dX11_allowedBy_129 fl_X11_93 e15 ?_
      refine rr_iload_n (i := 1) C dX11_allowedBy_132 rfl rfl ?_
      replace hr := Option.bind_eq_some_iff.mp hr
      obtain ⟨a16, e17, hr⟩ := hr
      subst e17
      replace hr := Option.bind_eq_some_iff.mp hr
      obtain ⟨v18, e19, hr⟩ := hr
      refine rr_ldI C dX11_allowedBy_133 e19 ?_
      refine rr_i2l C dX11_allowedBy_134 ?_
      refine rr_lmul C dX11_allowedBy_135 ?_
      refine rr_ldc2 C dX11_allowedBy_136 ct_X11_433 ?_
      refine rr_ldiv C dX11_allowedBy_139 (by decide) ?_
      refine rr_l2i C dX11_allowedBy_140 ?_
      obtain rfl := Option.some.inj hr
      exact rr_iret (ty := .int) C dX11_allowedBy_141 rfl rfl ⟨rfl, rfl, rfl⟩
  · replace hr := (if_pos c2_).symm.trans hr
    refine rr_iconst (v := 0) C dX11_allowedBy_5 (by decide) ?_
    obtain rfl := Option.some.inj hr
    exact rr_iret (ty := .int) C dX11_allowedBy_6 rfl rfl ⟨rfl, rfl, rfl⟩
def lp_X11_allowedOf_8 (K : Nat) (h : mm_H) (n : Nat) (l0 : Nat) (l1 : Int32) (l2 : Int32) (l3 : Int32) (l4 : Int32) : Nat → Int32 → Option (Nat × Int32)
  | 0, _ => none
  | k_ + 1, l5 =>
    if l5 < 0 then
      some (1, l5)
    else
    (rdR h n l0 10 15).bind fun v4 =>
    v4.bind fun a6 =>
    (ldI h n a6 l5).bind fun v8 =>
    if v8 = l1 then
      (rdR h n l0 10 16).bind fun v10 =>
      v10.bind fun a12 =>
      (ldI h n a12 l5).bind fun v14 =>
      if v14 = l2 then
        (rdR h n l0 10 17).bind fun v16 =>
        v16.bind fun a18 =>
        (ldI h n a18 l5).bind fun v20 =>
        if v20 = l3 then
          (rdR h n l0 10 19).bind fun v22 =>
          v22.bind fun a24 =>
          (ldI h n a24 l5).bind fun v26 =>
          if l4 < v26 then
            lp_X11_allowedOf_8 K h n l0 l1 l2 l3 l4 k_ (l5 + (-1))
          else
          some (0, l5)
        else
        lp_X11_allowedOf_8 K h n l0 l1 l2 l3 l4 k_ (l5 + (-1))
      else
      lp_X11_allowedOf_8 K h n l0 l1 l2 l3 l4 k_ (l5 + (-1))
    else
    lp_X11_allowedOf_8 K h n l0 l1 l2 l3 l4 k_ (l5 + (-1))
def q_X11_allowedOf (K : Nat) (h : mm_H) (n : Nat) (l0 : Nat) (l1 : Int32) (l2 : Int32) (l3 : Int32) (l4 : Int32) : Option (Int32 × mm_H) :=
  (rdI h n l0 10 9).bind fun v1 =>
  (lp_X11_allowedOf_8 K h n l0 l1 l2 l3 l4 K (v1 - 1)).bind fun v28 =>
  if v28.1 = 0 then
    (rdR h n l0 10 18).bind fun v30 =>
    v30.bind fun a32 =>
    (ldI h n a32 v28.2).bind fun v34 =>
    some (v34, h)
  else
  if v28.1 = 1 then
    (ckq h n l0 10).bind fun u36 =>
    (q_X11_statement K h n l0 l1 l3 0 l2).bind fun v38 =>
    (ckq v38.2 n l0 10).bind fun u40 =>
    (q_X11_allowedBy K v38.2 n l0 v38.1 l1 l2 l3).bind fun v42 =>
    some (v42.1, v42.2)
  else
    none
set_option maxRecDepth 100000 in
set_option maxHeartbeats 4000000 in
theorem w_X11_allowedOf_8 {K : Nat} {W0 : mm_X} {G : mm_G} {mc ms kc ks : Nat} {Q_ : State → Prop} {h : mm_H} {n : Nat} (C : mm_C W0 G cX11_allowedOf yX11_allowedOf.cls 6 mc ms (some .int) 50 yX11_allowedOf.name) (hn : 48 ≤ n) (l0 : Nat) (l1 : Int32) (l2 : Int32) (l3 : Int32) (l4 : Int32) : ∀ (k_ : Nat) (l5 : Int32) {r_ : Nat × Int32} (hr : lp_X11_allowedOf_8 K h n l0 l1 l2 l3 l4 k_ l5 = some r_) (hx0 : r_.1 = 0 → WW W0 G 6 mc ms Q_ 58 [some (.ref l0), none, none, none, none, some (.int r_.2)] [] h n kc ks) (hx1 : r_.1 = 1 → WW W0 G 6 mc ms Q_ 72 [some (.ref l0), some (.int l1), some (.int l2), some (.int l3), none, none] [] h n kc ks), WW W0 G 6 mc ms Q_ 8 [some (.ref l0), some (.int l1), some (.int l2), some (.int l3), some (.int l4), some (.int l5)] [] h n kc ks := by
  intro k_
  induction k_ with
  | zero =>
    intro l5 r_ hr
    cases hr
  | succ k_ ih_ =>
    intro l5 r_ hr hx0 hx1
    unfold lp_X11_allowedOf_8 at hr
    refine rr_iload C dX11_allowedOf_8 rfl ?_
    refine rr_if_lt (tgt := 72) C dX11_allowedOf_10 (by decide) (fun c10_ => ?_) (fun c10_ => ?_)
    · replace hr := (if_pos c10_).symm.trans hr
      obtain rfl := Option.some.inj hr
      exact rr_keep [true, true, true, true, false, false] (hx1 rfl)
    · replace hr := (if_neg c10_).symm.trans hr
      refine rr_aload_n (i := 0) C dX11_allowedOf_13 rfl rfl ?_
      replace hr := Option.bind_eq_some_iff.mp hr
      obtain ⟨v4, e5, hr⟩ := hr
      refine rr_rdR C dX11_allowedOf_14 fl_X11_38 e5 ?_
      refine rr_iload C dX11_allowedOf_17 rfl ?_
      replace hr := Option.bind_eq_some_iff.mp hr
      obtain ⟨a6, e7, hr⟩ := hr
      subst e7
      replace hr := Option.bind_eq_some_iff.mp hr
      obtain ⟨v8, e9, hr⟩ := hr
      refine rr_ldI C dX11_allowedOf_19 e9 ?_
      refine rr_iload_n (i := 1) C dX11_allowedOf_20 rfl rfl ?_
      refine rr_icmp_ne (tgt := 66) C dX11_allowedOf_21 (by decide) (fun c21_ => ?_) (fun c21_ => ?_)
      · replace hr := (if_neg c21_).symm.trans hr
        refine rr_iinc (v := l5 + (-1)) C dX11_allowedOf_66 rfl rfl ?_
        show WW W0 G 6 _ _ _ 69 [some (.ref l0), some (.int l1), some (.int l2), some (.int l3), some (.int l4), some (.int (l5 + (-1)))] [] h n _ _
        refine rr_goto (tgt := 8) C dX11_allowedOf_69 (by decide) ?_
        exact rr_keep [true, true, true, true, true, true] (ih_ _ hr hx0 hx1)
      · replace hr := (if_pos c21_).symm.trans hr
        refine rr_aload_n (i := 0) C dX11_allowedOf_24 rfl rfl ?_
        replace hr := Option.bind_eq_some_iff.mp hr
        obtain ⟨v10, e11, hr⟩ := hr
        refine rr_rdR C dX11_allowedOf_25 fl_X11_41 e11 ?_
        refine rr_iload C dX11_allowedOf_28 rfl ?_
        replace hr := Option.bind_eq_some_iff.mp hr
        obtain ⟨a12, e13, hr⟩ := hr
        subst e13
        replace hr := Option.bind_eq_some_iff.mp hr
        obtain ⟨v14, e15, hr⟩ := hr
        refine rr_ldI C dX11_allowedOf_30 e15 ?_
        refine rr_iload_n (i := 2) C dX11_allowedOf_31 rfl rfl ?_
        refine rr_icmp_ne (tgt := 66) C dX11_allowedOf_32 (by decide) (fun c32_ => ?_) (fun c32_ => ?_)
        · replace hr := (if_neg c32_).symm.trans hr
          refine rr_iinc (v := l5 + (-1)) C dX11_allowedOf_66 rfl rfl ?_
          show WW W0 G 6 _ _ _ 69 [some (.ref l0), some (.int l1), some (.int l2), some (.int l3), some (.int l4), some (.int (l5 + (-1)))] [] h n _ _
          refine rr_goto (tgt := 8) C dX11_allowedOf_69 (by decide) ?_
          exact rr_keep [true, true, true, true, true, true] (ih_ _ hr hx0 hx1)
        · replace hr := (if_pos c32_).symm.trans hr
          refine rr_aload_n (i := 0) C dX11_allowedOf_35 rfl rfl ?_
          replace hr := Option.bind_eq_some_iff.mp hr
          obtain ⟨v16, e17, hr⟩ := hr
          refine rr_rdR C dX11_allowedOf_36 fl_X11_44 e17 ?_
          refine rr_iload C dX11_allowedOf_39 rfl ?_
          replace hr := Option.bind_eq_some_iff.mp hr
          obtain ⟨a18, e19, hr⟩ := hr
          subst e19
          replace hr := Option.bind_eq_some_iff.mp hr
          obtain ⟨v20, e21, hr⟩ := hr
          refine rr_ldI C dX11_allowedOf_41 e21 ?_
          refine rr_iload_n (i := 3) C dX11_allowedOf_42 rfl rfl ?_
          refine rr_icmp_ne (tgt := 66) C dX11_allowedOf_43 (by decide) (fun c43_ => ?_) (fun c43_ => ?_)
          · replace hr := (if_neg c43_).symm.trans hr
            refine rr_iinc (v := l5 + (-1)) C dX11_allowedOf_66 rfl rfl ?_
            show WW W0 G 6 _ _ _ 69 [some (.ref l0), some (.int l1), some (.int l2), some (.int l3), some (.int l4), some (.int (l5 + (-1)))] [] h n _ _
            refine rr_goto (tgt := 8) C dX11_allowedOf_69 (by decide) ?_
            exact rr_keep [true, true, true, true, true, true] (ih_ _ hr hx0 hx1)
          · replace hr := (if_pos c43_).symm.trans hr
            refine rr_aload_n (i := 0) C dX11_allowedOf_46 rfl rfl ?_
            replace hr := Option.bind_eq_some_iff.mp hr
            obtain ⟨v22, e23, hr⟩ := hr
            refine rr_rdR C dX11_allowedOf_47 fl_X11_50 e23 ?_
            refine rr_iload C dX11_allowedOf_50 rfl ?_
            replace hr := Option.bind_eq_some_iff.mp hr
            obtain ⟨a24, e25, hr⟩ := hr
            subst e25
            replace hr := Option.bind_eq_some_iff.mp hr
            obtain ⟨v26, e27, hr⟩ := hr
            refine rr_ldI C dX11_allowedOf_52 e27 ?_
            refine rr_iload C dX11_allowedOf_53 rfl ?_
            refine rr_icmp_gt (tgt := 66) C dX11_allowedOf_55 (by decide) (fun c55_ => ?_) (fun c55_ => ?_)
            · replace hr := (if_pos c55_).symm.trans hr
              refine rr_iinc (v := l5 + (-1)) C dX11_allowedOf_66 rfl rfl ?_
              show WW W0 G 6 _ _ _ 69 [some (.ref l0), some (.int l1), some (.int l2), some (.int l3), some (.int l4), some (.int (l5 + (-1)))] [] h n _ _
              refine rr_goto (tgt := 8) C dX11_allowedOf_69 (by decide) ?_
              exact rr_keep [true, true, true, true, true, true] (ih_ _ hr hx0 hx1)
            · replace hr := (if_neg c55_).symm.trans hr
              obtain rfl := Option.some.inj hr
              exact rr_keep [true, false, false, false, false, true] (hx0 rfl)
set_option maxRecDepth 100000 in
set_option maxHeartbeats 4000000 in
theorem c_X11_allowedOf {K : Nat} {G : mm_G} {l : Launch} {h : mm_H} {n : Nat} (l0 : Nat) (l1 : Int32) (l2 : Int32) (l3 : Int32) (l4 : Int32) {r_ : Int32 × mm_H} (hn : 48 ≤ n) (hr : q_X11_allowedOf K h n l0 l1 l2 l3 l4 = some r_) : Sp G l yX11_allowedOf cX11_allowedOf 6 (some .int) 50 0 0 [.ref l0, .int l1, .int l2, .int l3, .int l4] h n (fun v h' n' => v = some (.int r_.1) ∧ h' = r_.2 ∧ n' = n) := by
  refine Sp_of (by decide +kernel) (Nat.le_of_ble_eq_true rfl) hn ?_
  intro W0 hwl C
  subst hwl
  unfold q_X11_allowedOf at hr
  show WW W0 G 6 0 0 _ 0 [some (.ref l0), some (.int l1), some (.int l2), some (.int l3), some (.int l4), none] [] h n 0 0
  refine rr_aload_n (i := 0) C dX11_allowedOf_0 rfl rfl ?_
  replace hr := Option.bind_eq_some_iff.mp hr
  obtain ⟨v1, e2, hr⟩ := hr
  refine rr_rdI C dX11_allowedOf_1 fl_X11_208 e2 ?_
  refine rr_iconst (v := 1) C dX11_allowedOf_4 (by decide) ?_
  refine rr_isub C dX11_allowedOf_5 ?_
  refine rr_istore C dX11_allowedOf_6 (by decide) ?_
  show WW W0 G 6 _ _ _ 8 [some (.ref l0), some (.int l1), some (.int l2), some (.int l3), some (.int l4), some (.int (v1 - 1))] [] h n _ _
  replace hr := Option.bind_eq_some_iff.mp hr
  obtain ⟨v28, e29, hr⟩ := hr
  refine rr_keep [true, true, true, true, true, true] (w_X11_allowedOf_8 C (by omega) l0 l1 l2 l3 l4 K (v1 - 1) e29 ?_ ?_)
  · intro cx_
    replace hr := (if_pos cx_).symm.trans hr
    show WW W0 G 6 _ _ _ 58 [some (.ref l0), none, none, none, none, some (.int v28.2)] [] h n _ _
    refine rr_aload_n (i := 0) C dX11_allowedOf_58 rfl rfl ?_
    replace hr := Option.bind_eq_some_iff.mp hr
    obtain ⟨v30, e31, hr⟩ := hr
    refine rr_rdR C dX11_allowedOf_59 fl_X11_47 e31 ?_
    refine rr_iload C dX11_allowedOf_62 rfl ?_
    replace hr := Option.bind_eq_some_iff.mp hr
    obtain ⟨a32, e33, hr⟩ := hr
    subst e33
    replace hr := Option.bind_eq_some_iff.mp hr
    obtain ⟨v34, e35, hr⟩ := hr
    refine rr_ldI C dX11_allowedOf_64 e35 ?_
    obtain rfl := Option.some.inj hr
    exact rr_iret (ty := .int) C dX11_allowedOf_65 rfl rfl ⟨rfl, rfl, rfl⟩
  · intro cx_
    replace hr := (if_neg (fun z_ => absurd (z_.symm.trans cx_) (by decide))).symm.trans hr
    replace hr := (if_pos cx_).symm.trans hr
    show WW W0 G 6 _ _ _ 72 [some (.ref l0), some (.int l1), some (.int l2), some (.int l3), none, none] [] h n _ _
    refine rr_aload_n (i := 0) C dX11_allowedOf_72 rfl rfl ?_
    refine rr_aload_n (i := 0) C dX11_allowedOf_73 rfl rfl ?_
    refine rr_iload_n (i := 1) C dX11_allowedOf_74 rfl rfl ?_
    refine rr_iload_n (i := 3) C dX11_allowedOf_75 rfl rfl ?_
    refine rr_iconst (v := 0) C dX11_allowedOf_76 (by decide) ?_
    refine rr_iload_n (i := 2) C dX11_allowedOf_77 rfl rfl ?_
    replace hr := Option.bind_eq_some_iff.mp hr
    obtain ⟨u36, e37, hr⟩ := hr
    replace hr := Option.bind_eq_some_iff.mp hr
    obtain ⟨v38, e39, hr⟩ := hr
    refine rr_callVq (as := [.int l1, .int l3, .int 0, .int l2]) (st := [.ref l0]) (mc' := 0) (ms' := 0) C dX11_allowedOf_78 iv_X11_417 (by decide) e37 rfl (Nat.le_of_ble_eq_true rfl) (c_X11_statement l0 l1 l3 0 l2 (by omega) e39) (fun v_ h_ n_ q_ => ?_)
    obtain ⟨q1_, q2_, q3_⟩ := q_
    subst v_; subst h_; subst n_
    show WW W0 G 6 _ _ _ 81 [some (.ref l0), some (.int l1), some (.int l2), some (.int l3), none, none] [.int v38.1, .ref l0] v38.2 n _ _
    refine rr_iload_n (i := 1) C dX11_allowedOf_81 rfl rfl ?_
    refine rr_iload_n (i := 2) C dX11_allowedOf_82 rfl rfl ?_
    refine rr_iload_n (i := 3) C dX11_allowedOf_83 rfl rfl ?_
    replace hr := Option.bind_eq_some_iff.mp hr
    obtain ⟨u40, e41, hr⟩ := hr
    replace hr := Option.bind_eq_some_iff.mp hr
    obtain ⟨v42, e43, hr⟩ := hr
    refine rr_callVq (as := [.int v38.1, .int l1, .int l2, .int l3]) (st := []) (mc' := 0) (ms' := 0) C dX11_allowedOf_84 iv_X11_478 (by decide) e41 rfl (Nat.le_of_ble_eq_true rfl) (c_X11_allowedBy l0 v38.1 l1 l2 l3 (by omega) e43) (fun v_ h_ n_ q_ => ?_)
    obtain ⟨q1_, q2_, q3_⟩ := q_
    subst v_; subst h_; subst n_
    show WW W0 G 6 _ _ _ 87 [some (.ref l0), some (.int l1), some (.int l2), some (.int l3), none, none] [.int v42.1] v42.2 n _ _
    obtain rfl := Option.some.inj hr
    exact rr_iret (ty := .int) C dX11_allowedOf_87 rfl rfl ⟨rfl, rfl, rfl⟩
def q_X11_allowed (K : Nat) (h : mm_H) (n : Nat) (l0 : Nat) (l1 : Int32) (l2 : Int32) (l3 : Int32) (l4 : Int32) : Option (Int32 × mm_H) :=
  (ckq h n l0 10).bind fun u1 =>
  (q_X11_isFirm K h n l0 l1).bind fun v3 =>
  if v3 = 0 then
    some ((-2000000000), h)
  else
  (q_X11_isHead K h n l2).bind fun v5 =>
  if v5 = 0 then
    some ((-2000000000), h)
  else
  (q_X11_isYear K h n l3).bind fun v7 =>
  if v7 = 0 then
    some ((-2000000000), h)
  else
  (q_X11_isDay K h n l4).bind fun v9 =>
  if v9 = 0 then
    some ((-2000000000), h)
  else
  (ckq h n l0 10).bind fun u11 =>
  (q_X11_prepares K h n l0 l1).bind fun v13 =>
  (ckq v13 n l0 10).bind fun u15 =>
  (q_X11_allowedOf K v13 n l0 l1 l2 l3 l4).bind fun v17 =>
  some (v17.1, v17.2)
set_option maxRecDepth 100000 in
set_option maxHeartbeats 4000000 in
theorem c_X11_allowed {K : Nat} {G : mm_G} {l : Launch} {h : mm_H} {n : Nat} (l0 : Nat) (l1 : Int32) (l2 : Int32) (l3 : Int32) (l4 : Int32) {r_ : Int32 × mm_H} (hn : 48 ≤ n) (hr : q_X11_allowed K h n l0 l1 l2 l3 l4 = some r_) : Sp G l yX11_allowed cX11_allowed 5 (some .int) 52 0 0 [.ref l0, .int l1, .int l2, .int l3, .int l4] h n (fun v h' n' => v = some (.int r_.1) ∧ h' = r_.2 ∧ n' = n) := by
  refine Sp_of (by decide +kernel) (Nat.le_of_ble_eq_true rfl) hn ?_
  intro W0 hwl C
  subst hwl
  unfold q_X11_allowed at hr
  show WW W0 G 5 0 0 _ 0 [some (.ref l0), some (.int l1), some (.int l2), some (.int l3), some (.int l4)] [] h n 0 0
  refine rr_aload_n (i := 0) C dX11_allowed_0 rfl rfl ?_
  refine rr_iload_n (i := 1) C dX11_allowed_1 rfl rfl ?_
  replace hr := Option.bind_eq_some_iff.mp hr
  obtain ⟨u1, e2, hr⟩ := hr
  replace hr := Option.bind_eq_some_iff.mp hr
  obtain ⟨v3, e4, hr⟩ := hr
  refine rr_callVq (as := [.int l1]) (st := []) (mc' := 0) (ms' := 0) C dX11_allowed_2 iv_X11_177 (by decide) e2 rfl (Nat.le_of_ble_eq_true rfl) (c_X11_isFirm l0 l1 (by omega) e4) (fun v_ h_ n_ q_ => ?_)
  obtain ⟨q1_, q2_, q3_⟩ := q_
  subst v_; subst h_; subst n_
  show WW W0 G 5 _ _ _ 5 [some (.ref l0), some (.int l1), some (.int l2), some (.int l3), some (.int l4)] [.int v3] h n _ _
  refine rr_if_eq (tgt := 30) C dX11_allowed_5 (by decide) (fun c5_ => ?_) (fun c5_ => ?_)
  · replace hr := (if_pos c5_).symm.trans hr
    refine rr_ldcw C dX11_allowed_30 ct_X11_481 ?_
    obtain rfl := Option.some.inj hr
    exact rr_iret (ty := .int) C dX11_allowed_33 rfl rfl ⟨rfl, rfl, rfl⟩
  · replace hr := (if_neg c5_).symm.trans hr
    refine rr_iload_n (i := 2) C dX11_allowed_8 rfl rfl ?_
    replace hr := Option.bind_eq_some_iff.mp hr
    obtain ⟨v5, e6, hr⟩ := hr
    refine rr_callS (as := [.int l2]) (st := []) (mc' := 0) (ms' := 0) C dX11_allowed_9 it_X11_205 (by decide) (Nat.le_of_ble_eq_true rfl) (c_X11_isHead l2 (by omega) e6) (fun v_ h_ n_ q_ => ?_)
    obtain ⟨q1_, q2_, q3_⟩ := q_
    subst v_; subst h_; subst n_
    show WW W0 G 5 _ _ _ 12 [some (.ref l0), some (.int l1), some (.int l2), some (.int l3), some (.int l4)] [.int v5] h n _ _
    refine rr_if_eq (tgt := 30) C dX11_allowed_12 (by decide) (fun c12_ => ?_) (fun c12_ => ?_)
    · replace hr := (if_pos c12_).symm.trans hr
      refine rr_ldcw C dX11_allowed_30 ct_X11_481 ?_
      obtain rfl := Option.some.inj hr
      exact rr_iret (ty := .int) C dX11_allowed_33 rfl rfl ⟨rfl, rfl, rfl⟩
    · replace hr := (if_neg c12_).symm.trans hr
      refine rr_iload_n (i := 3) C dX11_allowed_15 rfl rfl ?_
      replace hr := Option.bind_eq_some_iff.mp hr
      obtain ⟨v7, e8, hr⟩ := hr
      refine rr_callS (as := [.int l3]) (st := []) (mc' := 0) (ms' := 0) C dX11_allowed_16 it_X11_181 (by decide) (Nat.le_of_ble_eq_true rfl) (c_X11_isYear l3 (by omega) e8) (fun v_ h_ n_ q_ => ?_)
      obtain ⟨q1_, q2_, q3_⟩ := q_
      subst v_; subst h_; subst n_
      show WW W0 G 5 _ _ _ 19 [some (.ref l0), some (.int l1), some (.int l2), some (.int l3), some (.int l4)] [.int v7] h n _ _
      refine rr_if_eq (tgt := 30) C dX11_allowed_19 (by decide) (fun c19_ => ?_) (fun c19_ => ?_)
      · replace hr := (if_pos c19_).symm.trans hr
        refine rr_ldcw C dX11_allowed_30 ct_X11_481 ?_
        obtain rfl := Option.some.inj hr
        exact rr_iret (ty := .int) C dX11_allowed_33 rfl rfl ⟨rfl, rfl, rfl⟩
      · replace hr := (if_neg c19_).symm.trans hr
        refine rr_iload C dX11_allowed_22 rfl ?_
        replace hr := Option.bind_eq_some_iff.mp hr
        obtain ⟨v9, e10, hr⟩ := hr
        refine rr_callS (as := [.int l4]) (st := []) (mc' := 0) (ms' := 0) C dX11_allowed_24 it_X11_195 (by decide) (Nat.le_of_ble_eq_true rfl) (c_X11_isDay l4 (by omega) e10) (fun v_ h_ n_ q_ => ?_)
        obtain ⟨q1_, q2_, q3_⟩ := q_
        subst v_; subst h_; subst n_
        show WW W0 G 5 _ _ _ 27 [some (.ref l0), some (.int l1), some (.int l2), some (.int l3), some (.int l4)] [.int v9] h n _ _
        refine rr_if_ne (tgt := 34) C dX11_allowed_27 (by decide) (fun c27_ => ?_) (fun c27_ => ?_)
        · replace hr := (if_neg c27_).symm.trans hr
          refine rr_aload_n (i := 0) C dX11_allowed_34 rfl rfl ?_
          refine rr_iload_n (i := 1) C dX11_allowed_35 rfl rfl ?_
          replace hr := Option.bind_eq_some_iff.mp hr
          obtain ⟨u11, e12, hr⟩ := hr
          replace hr := Option.bind_eq_some_iff.mp hr
          obtain ⟨v13, e14, hr⟩ := hr
          refine rr_callVq (as := [.int l1]) (st := []) (mc' := 0) (ms' := 0) C dX11_allowed_36 iv_X11_438 (by decide) e12 rfl (Nat.le_of_ble_eq_true rfl) (c_X11_prepares l0 l1 (by omega) e14) (fun v_ h_ n_ q_ => ?_)
          obtain ⟨q1_, q2_, q3_⟩ := q_
          subst v_; subst h_; subst n_
          show WW W0 G 5 _ _ _ 39 [some (.ref l0), some (.int l1), some (.int l2), some (.int l3), some (.int l4)] [] v13 n _ _
          refine rr_aload_n (i := 0) C dX11_allowed_39 rfl rfl ?_
          refine rr_iload_n (i := 1) C dX11_allowed_40 rfl rfl ?_
          refine rr_iload_n (i := 2) C dX11_allowed_41 rfl rfl ?_
          refine rr_iload_n (i := 3) C dX11_allowed_42 rfl rfl ?_
          refine rr_iload C dX11_allowed_43 rfl ?_
          replace hr := Option.bind_eq_some_iff.mp hr
          obtain ⟨u15, e16, hr⟩ := hr
          replace hr := Option.bind_eq_some_iff.mp hr
          obtain ⟨v17, e18, hr⟩ := hr
          refine rr_callVq (as := [.int l1, .int l2, .int l3, .int l4]) (st := []) (mc' := 0) (ms' := 0) C dX11_allowed_45 iv_X11_482 (by decide) e16 rfl (Nat.le_of_ble_eq_true rfl) (c_X11_allowedOf l0 l1 l2 l3 l4 (by omega) e18) (fun v_ h_ n_ q_ => ?_)
          obtain ⟨q1_, q2_, q3_⟩ := q_
          subst v_; subst h_; subst n_
          show WW W0 G 5 _ _ _ 48 [some (.ref l0), some (.int l1), some (.int l2), some (.int l3), some (.int l4)] [.int v17.1] v17.2 n _ _
          obtain rfl := Option.some.inj hr
          exact rr_iret (ty := .int) C dX11_allowed_48 rfl rfl ⟨rfl, rfl, rfl⟩
        · replace hr := (if_pos c27_).symm.trans hr
          refine rr_ldcw C dX11_allowed_30 ct_X11_481 ?_
          obtain rfl := Option.some.inj hr
          exact rr_iret (ty := .int) C dX11_allowed_33 rfl rfl ⟨rfl, rfl, rfl⟩
def lp_X11_span_97 (K : Nat) (h : mm_H) (n : Nat) (l0 : Nat) (l1 : Int32) (l2 : Int32) (l3 : Int32) (l4 : Int32) (l5 : Int32) (l6 : Int32) : Nat → Int32 → Int32 → Option (Int32)
  | 0, _, _ => none
  | k_ + 1, l7, l8 =>
    (rdI h n l0 10 65).bind fun v27 =>
    if v27 ≤ l8 then
      some (l7)
    else
    (rdR h n l0 10 64).bind fun v29 =>
    v29.bind fun a31 =>
    (ldI h n a31 l8).bind fun v33 =>
    lp_X11_span_97 K h n l0 l1 l2 l3 l4 l5 l6 k_ (l7 ||| (1 <<< (v33 &&& 31))) (l8 + 1)
def lp_X11_span_137 (K : Nat) (n : Nat) (l0 : Nat) (l1 : Int32) (l2 : Int32) (l3 : Int32) (l4 : Int32) (l5 : Int32) (l6 : Int32) (l7 : Int32) : Nat → Int64 → Int64 → Int32 → mm_H → Option (Int64 × Int64 × mm_H)
  | 0, _, _, _, _ => none
  | k_ + 1, l8, l10, l12, h =>
    (rdI h n l0 10 1).bind fun v38 =>
    if v38 ≤ l12 then
      some (l8, l10, h)
    else
    if ((l7 >>> (l12 &&& 31)) &&& 1) = 0 then
      lp_X11_span_137 K n l0 l1 l2 l3 l4 l5 l6 l7 k_ l8 l10 (l12 + 1) h
    else
    (ckq h n l0 10).bind fun u40 =>
    (q_X11_gathers K h n l0 l1 l2 l3 l4 l12).bind fun v42 =>
    (ckq v42 n l0 10).bind fun u44 =>
    (q_X11_lineAt K v42 n l0 l5).bind fun v46 =>
    (q_X11_moded K v42 n v46).bind fun v48 =>
    lp_X11_span_137 K n l0 l1 l2 l3 l4 l5 l6 l7 k_ (j_min l8 v48) (j_max l10 v48) (l12 + 1) v42
def q_X11_span (K : Nat) (h : mm_H) (n : Nat) (l0 : Nat) (l1 : Int32) (l2 : Int32) (l3 : Int32) (l4 : Int32) (l5 : Int32) (l6 : Int32) : Option (Int32 × mm_H) :=
  (ckq h n l0 10).bind fun u1 =>
  (q_X11_isFirm K h n l0 l1).bind fun v3 =>
  if v3 = 0 then
    some ((-1), h)
  else
  (q_X11_isHead K h n l2).bind fun v5 =>
  if v5 = 0 then
    some ((-1), h)
  else
  (q_X11_isReview K h n l3).bind fun v7 =>
  if v7 = 0 then
    some ((-1), h)
  else
  (q_X11_isIn K h n l4 0 2).bind fun v9 =>
  if v9 = 0 then
    some ((-1), h)
  else
  (q_X11_isIn K h n l5 0 999).bind fun v11 =>
  if v11 = 0 then
    some ((-1), h)
  else
  (q_X11_isIn K h n l6 0 2).bind fun v13 =>
  if v13 = 0 then
    some ((-1), h)
  else
  (ckq h n l0 10).bind fun u15 =>
  (q_X11_gathers K h n l0 l1 l2 l3 l4 (-1)).bind fun v17 =>
  (rdI v17 n l0 10 65).bind fun v19 =>
  if v19 = 0 then
    some ((-1), v17)
  else
  if l6 = 0 then
    (ckq v17 n l0 10).bind fun u21 =>
    (q_X11_lineAt K v17 n l0 l5).bind fun v23 =>
    (q_X11_moded K v17 n v23).bind fun v25 =>
    some (Int64.toInt32 v25, v17)
  else
  (lp_X11_span_97 K v17 n l0 l1 l2 l3 l4 l5 l6 K 0 0).bind fun v36 =>
  (lp_X11_span_137 K n l0 l1 l2 l3 l4 l5 l6 v36 K 999999 0 0 v17).bind fun v52 =>
  if l6 = 1 then
    some (Int64.toInt32 v52.1, v52.2.2)
  else
  some (Int64.toInt32 v52.2.1, v52.2.2)
set_option maxRecDepth 100000 in
set_option maxHeartbeats 4000000 in
theorem w_X11_span_97 {K : Nat} {W0 : mm_X} {G : mm_G} {mc ms kc ks : Nat} {Q_ : State → Prop} {h : mm_H} {n : Nat} (C : mm_C W0 G cX11_span yX11_span.cls 15 mc ms (some .int) 3 yX11_span.name) (hn : 48 ≤ n) (l0 : Nat) (l1 : Int32) (l2 : Int32) (l3 : Int32) (l4 : Int32) (l5 : Int32) (l6 : Int32) : ∀ (k_ : Nat) (l7 : Int32) (l8 : Int32) {r_ : Int32} (hr : lp_X11_span_97 K h n l0 l1 l2 l3 l4 l5 l6 k_ l7 l8 = some r_) (hx0 : WW W0 G 15 mc ms Q_ 126 [some (.ref l0), some (.int l1), some (.int l2), some (.int l3), some (.int l4), some (.int l5), some (.int l6), some (.int r_), none, none, none, none, none, none, none] [] h n kc ks), WW W0 G 15 mc ms Q_ 97 [some (.ref l0), some (.int l1), some (.int l2), some (.int l3), some (.int l4), some (.int l5), some (.int l6), some (.int l7), some (.int l8), none, none, none, none, none, none] [] h n kc ks := by
  intro k_
  induction k_ with
  | zero =>
    intro l7 l8 r_ hr
    cases hr
  | succ k_ ih_ =>
    intro l7 l8 r_ hr hx0
    unfold lp_X11_span_97 at hr
    refine rr_iload C dX11_span_97 rfl ?_
    refine rr_aload_n (i := 0) C dX11_span_99 rfl rfl ?_
    replace hr := Option.bind_eq_some_iff.mp hr
    obtain ⟨v27, e28, hr⟩ := hr
    refine rr_rdI C dX11_span_100 fl_X11_443 e28 ?_
    refine rr_icmp_ge (tgt := 126) C dX11_span_103 (by decide) (fun c103_ => ?_) (fun c103_ => ?_)
    · replace hr := (if_pos c103_).symm.trans hr
      obtain rfl := Option.some.inj hr
      exact rr_keep [true, true, true, true, true, true, true, true, false, false, false, false, false, false, false] (hx0)
    · replace hr := (if_neg c103_).symm.trans hr
      refine rr_iload C dX11_span_106 rfl ?_
      refine rr_iconst (v := 1) C dX11_span_108 (by decide) ?_
      refine rr_aload_n (i := 0) C dX11_span_109 rfl rfl ?_
      replace hr := Option.bind_eq_some_iff.mp hr
      obtain ⟨v29, e30, hr⟩ := hr
      refine rr_rdR C dX11_span_110 fl_X11_159 e30 ?_
      refine rr_iload C dX11_span_113 rfl ?_
      replace hr := Option.bind_eq_some_iff.mp hr
      obtain ⟨a31, e32, hr⟩ := hr
      subst e32
      replace hr := Option.bind_eq_some_iff.mp hr
      obtain ⟨v33, e34, hr⟩ := hr
      refine rr_ldI C dX11_span_115 e34 ?_
      refine rr_ishl C dX11_span_116 ?_
      refine rr_ior C dX11_span_117 ?_
      refine rr_istore C dX11_span_118 (by decide) ?_
      show WW W0 G 15 _ _ _ 120 [some (.ref l0), some (.int l1), some (.int l2), some (.int l3), some (.int l4), some (.int l5), some (.int l6), some (.int (l7 ||| (1 <<< (v33 &&& 31)))), some (.int l8), none, none, none, none, none, none] [] h n _ _
      refine rr_iinc (v := l8 + 1) C dX11_span_120 rfl rfl ?_
      show WW W0 G 15 _ _ _ 123 [some (.ref l0), some (.int l1), some (.int l2), some (.int l3), some (.int l4), some (.int l5), some (.int l6), some (.int (l7 ||| (1 <<< (v33 &&& 31)))), some (.int (l8 + 1)), none, none, none, none, none, none] [] h n _ _
      refine rr_goto (tgt := 97) C dX11_span_123 (by decide) ?_
      exact rr_keep [true, true, true, true, true, true, true, true, true, false, false, false, false, false, false] (ih_ _ _ hr hx0)
set_option maxRecDepth 100000 in
set_option maxHeartbeats 4000000 in
theorem w_X11_span_137 {K : Nat} {W0 : mm_X} {G : mm_G} {mc ms kc ks : Nat} {Q_ : State → Prop} {n : Nat} (C : mm_C W0 G cX11_span yX11_span.cls 15 mc ms (some .int) 3 yX11_span.name) (hn : 48 ≤ n) (l0 : Nat) (l1 : Int32) (l2 : Int32) (l3 : Int32) (l4 : Int32) (l5 : Int32) (l6 : Int32) (l7 : Int32) : ∀ (k_ : Nat) (l8 : Int64) (l10 : Int64) (l12 : Int32) (h : mm_H) {r_ : Int64 × Int64 × mm_H} (hr : lp_X11_span_137 K n l0 l1 l2 l3 l4 l5 l6 l7 k_ l8 l10 l12 h = some r_) (hx0 : WW W0 G 15 mc ms Q_ 205 [none, none, none, none, none, none, some (.int l6), none, some (.long r_.1), none, some (.long r_.2.1), none, none, none, none] [] r_.2.2 n kc ks), WW W0 G 15 mc ms Q_ 137 [some (.ref l0), some (.int l1), some (.int l2), some (.int l3), some (.int l4), some (.int l5), some (.int l6), some (.int l7), some (.long l8), none, some (.long l10), none, some (.int l12), none, none] [] h n kc ks := by
  intro k_
  induction k_ with
  | zero =>
    intro l8 l10 l12 h r_ hr
    cases hr
  | succ k_ ih_ =>
    intro l8 l10 l12 h r_ hr hx0
    unfold lp_X11_span_137 at hr
    refine rr_iload C dX11_span_137 rfl ?_
    refine rr_aload_n (i := 0) C dX11_span_139 rfl rfl ?_
    replace hr := Option.bind_eq_some_iff.mp hr
    obtain ⟨v38, e39, hr⟩ := hr
    refine rr_rdI C dX11_span_140 fl_X11_169 e39 ?_
    refine rr_icmp_ge (tgt := 205) C dX11_span_143 (by decide) (fun c143_ => ?_) (fun c143_ => ?_)
    · replace hr := (if_pos c143_).symm.trans hr
      obtain rfl := Option.some.inj hr
      exact rr_keep [false, false, false, false, false, false, true, false, true, false, true, false, false, false, false] (hx0)
    · replace hr := (if_neg c143_).symm.trans hr
      refine rr_iload C dX11_span_146 rfl ?_
      refine rr_iload C dX11_span_148 rfl ?_
      refine rr_ishr C dX11_span_150 ?_
      refine rr_iconst (v := 1) C dX11_span_151 (by decide) ?_
      refine rr_iand C dX11_span_152 ?_
      refine rr_if_ne (tgt := 159) C dX11_span_153 (by decide) (fun c153_ => ?_) (fun c153_ => ?_)
      · replace hr := (if_neg c153_).symm.trans hr
        refine rr_aload_n (i := 0) C dX11_span_159 rfl rfl ?_
        refine rr_iload_n (i := 1) C dX11_span_160 rfl rfl ?_
        refine rr_iload_n (i := 2) C dX11_span_161 rfl rfl ?_
        refine rr_iload_n (i := 3) C dX11_span_162 rfl rfl ?_
        refine rr_iload C dX11_span_163 rfl ?_
        refine rr_iload C dX11_span_165 rfl ?_
        replace hr := Option.bind_eq_some_iff.mp hr
        obtain ⟨u40, e41, hr⟩ := hr
        replace hr := Option.bind_eq_some_iff.mp hr
        obtain ⟨v42, e43, hr⟩ := hr
        refine rr_callVq (as := [.int l1, .int l2, .int l3, .int l4, .int l12]) (st := []) (mc' := 0) (ms' := 0) C dX11_span_167 iv_X11_446 (by decide) e41 rfl (Nat.le_of_ble_eq_true rfl) (c_X11_gathers l0 l1 l2 l3 l4 l12 (by omega) e43) (fun v_ h_ n_ q_ => ?_)
        obtain ⟨q1_, q2_, q3_⟩ := q_
        subst v_; subst h_; subst n_
        show WW W0 G 15 _ _ _ 170 [some (.ref l0), some (.int l1), some (.int l2), some (.int l3), some (.int l4), some (.int l5), some (.int l6), some (.int l7), some (.long l8), none, some (.long l10), none, some (.int l12), none, none] [] v42 n _ _
        refine rr_aload_n (i := 0) C dX11_span_170 rfl rfl ?_
        refine rr_iload C dX11_span_171 rfl ?_
        replace hr := Option.bind_eq_some_iff.mp hr
        obtain ⟨u44, e45, hr⟩ := hr
        replace hr := Option.bind_eq_some_iff.mp hr
        obtain ⟨v46, e47, hr⟩ := hr
        refine rr_callVq (as := [.int l5]) (st := []) (mc' := 0) (ms' := 0) C dX11_span_173 iv_X11_468 (by decide) e45 rfl (Nat.le_of_ble_eq_true rfl) (c_X11_lineAt l0 l5 (by omega) e47) (fun v_ h_ n_ q_ => ?_)
        obtain ⟨q1_, q2_, q3_⟩ := q_
        subst v_; subst h_; subst n_
        show WW W0 G 15 _ _ _ 176 [some (.ref l0), some (.int l1), some (.int l2), some (.int l3), some (.int l4), some (.int l5), some (.int l6), some (.int l7), some (.long l8), none, some (.long l10), none, some (.int l12), none, none] [.long v46] v42 n _ _
        replace hr := Option.bind_eq_some_iff.mp hr
        obtain ⟨v48, e49, hr⟩ := hr
        refine rr_callS (as := [.long v46]) (st := []) (mc' := 0) (ms' := 0) C dX11_span_176 it_X11_474 (by decide) (Nat.le_of_ble_eq_true rfl) (c_X11_moded v46 (by omega) e49) (fun v_ h_ n_ q_ => ?_)
        obtain ⟨q1_, q2_, q3_⟩ := q_
        subst v_; subst h_; subst n_
        show WW W0 G 15 _ _ _ 179 [some (.ref l0), some (.int l1), some (.int l2), some (.int l3), some (.int l4), some (.int l5), some (.int l6), some (.int l7), some (.long l8), none, some (.long l10), none, some (.int l12), none, none] [.long v48] v42 n _ _
        refine rr_lstore C dX11_span_179 (by decide) ?_
        show WW W0 G 15 _ _ _ 181 [some (.ref l0), some (.int l1), some (.int l2), some (.int l3), some (.int l4), some (.int l5), some (.int l6), some (.int l7), some (.long l8), none, some (.long l10), none, some (.int l12), some (.long v48), none] [] v42 n _ _
        refine rr_lload C dX11_span_181 rfl ?_
        refine rr_lload C dX11_span_183 rfl ?_
        refine rr_mmin_long C dX11_span_185 ma_X11_462 (by decide) (Nat.le_of_ble_eq_true rfl) ?_
        refine rr_lstore C dX11_span_188 (by decide) ?_
        show WW W0 G 15 _ _ _ 190 [some (.ref l0), some (.int l1), some (.int l2), some (.int l3), some (.int l4), some (.int l5), some (.int l6), some (.int l7), some (.long (j_min l8 v48)), none, some (.long l10), none, some (.int l12), some (.long v48), none] [] v42 n _ _
        refine rr_lload C dX11_span_190 rfl ?_
        refine rr_lload C dX11_span_192 rfl ?_
        refine rr_mmax_long C dX11_span_194 ma_X11_457 (by decide) (Nat.le_of_ble_eq_true rfl) ?_
        refine rr_lstore C dX11_span_197 (by decide) ?_
        show WW W0 G 15 _ _ _ 199 [some (.ref l0), some (.int l1), some (.int l2), some (.int l3), some (.int l4), some (.int l5), some (.int l6), some (.int l7), some (.long (j_min l8 v48)), none, some (.long (j_max l10 v48)), none, some (.int l12), some (.long v48), none] [] v42 n _ _
        refine rr_iinc (v := l12 + 1) C dX11_span_199 rfl rfl ?_
        show WW W0 G 15 _ _ _ 202 [some (.ref l0), some (.int l1), some (.int l2), some (.int l3), some (.int l4), some (.int l5), some (.int l6), some (.int l7), some (.long (j_min l8 v48)), none, some (.long (j_max l10 v48)), none, some (.int (l12 + 1)), some (.long v48), none] [] v42 n _ _
        refine rr_goto (tgt := 137) C dX11_span_202 (by decide) ?_
        exact rr_keep [true, true, true, true, true, true, true, true, true, false, true, false, true, false, false] (ih_ _ _ _ _ hr hx0)
      · replace hr := (if_pos c153_).symm.trans hr
        refine rr_goto (tgt := 199) C dX11_span_156 (by decide) ?_
        refine rr_iinc (v := l12 + 1) C dX11_span_199 rfl rfl ?_
        show WW W0 G 15 _ _ _ 202 [some (.ref l0), some (.int l1), some (.int l2), some (.int l3), some (.int l4), some (.int l5), some (.int l6), some (.int l7), some (.long l8), none, some (.long l10), none, some (.int (l12 + 1)), none, none] [] h n _ _
        refine rr_goto (tgt := 137) C dX11_span_202 (by decide) ?_
        exact rr_keep [true, true, true, true, true, true, true, true, true, false, true, false, true, false, false] (ih_ _ _ _ _ hr hx0)
set_option maxRecDepth 100000 in
set_option maxHeartbeats 4000000 in
theorem c_X11_span {K : Nat} {G : mm_G} {l : Launch} {h : mm_H} {n : Nat} (l0 : Nat) (l1 : Int32) (l2 : Int32) (l3 : Int32) (l4 : Int32) (l5 : Int32) (l6 : Int32) {r_ : Int32 × mm_H} (hn : 48 ≤ n) (hr : q_X11_span K h n l0 l1 l2 l3 l4 l5 l6 = some r_) : Sp G l yX11_span cX11_span 15 (some .int) 3 0 0 [.ref l0, .int l1, .int l2, .int l3, .int l4, .int l5, .int l6] h n (fun v h' n' => v = some (.int r_.1) ∧ h' = r_.2 ∧ n' = n) := by
  refine Sp_of (by decide +kernel) (Nat.le_of_ble_eq_true rfl) hn ?_
  intro W0 hwl C
  subst hwl
  unfold q_X11_span at hr
  show WW W0 G 15 0 0 _ 0 [some (.ref l0), some (.int l1), some (.int l2), some (.int l3), some (.int l4), some (.int l5), some (.int l6), none, none, none, none, none, none, none, none] [] h n 0 0
  refine rr_aload_n (i := 0) C dX11_span_0 rfl rfl ?_
  refine rr_iload_n (i := 1) C dX11_span_1 rfl rfl ?_
  replace hr := Option.bind_eq_some_iff.mp hr
  obtain ⟨u1, e2, hr⟩ := hr
  replace hr := Option.bind_eq_some_iff.mp hr
  obtain ⟨v3, e4, hr⟩ := hr
  refine rr_callVq (as := [.int l1]) (st := []) (mc' := 0) (ms' := 0) C dX11_span_2 iv_X11_177 (by decide) e2 rfl (Nat.le_of_ble_eq_true rfl) (c_X11_isFirm l0 l1 (by omega) e4) (fun v_ h_ n_ q_ => ?_)
  obtain ⟨q1_, q2_, q3_⟩ := q_
  subst v_; subst h_; subst n_
  show WW W0 G 15 _ _ _ 5 [some (.ref l0), some (.int l1), some (.int l2), some (.int l3), some (.int l4), some (.int l5), some (.int l6), none, none, none, none, none, none, none, none] [.int v3] h n _ _
  refine rr_if_eq (tgt := 54) C dX11_span_5 (by decide) (fun c5_ => ?_) (fun c5_ => ?_)
  · replace hr := (if_pos c5_).symm.trans hr
    refine rr_iconst (v := (-1)) C dX11_span_54 (by decide) ?_
    obtain rfl := Option.some.inj hr
    exact rr_iret (ty := .int) C dX11_span_55 rfl rfl ⟨rfl, rfl, rfl⟩
  · replace hr := (if_neg c5_).symm.trans hr
    refine rr_iload_n (i := 2) C dX11_span_8 rfl rfl ?_
    replace hr := Option.bind_eq_some_iff.mp hr
    obtain ⟨v5, e6, hr⟩ := hr
    refine rr_callS (as := [.int l2]) (st := []) (mc' := 0) (ms' := 0) C dX11_span_9 it_X11_205 (by decide) (Nat.le_of_ble_eq_true rfl) (c_X11_isHead l2 (by omega) e6) (fun v_ h_ n_ q_ => ?_)
    obtain ⟨q1_, q2_, q3_⟩ := q_
    subst v_; subst h_; subst n_
    show WW W0 G 15 _ _ _ 12 [some (.ref l0), some (.int l1), some (.int l2), some (.int l3), some (.int l4), some (.int l5), some (.int l6), none, none, none, none, none, none, none, none] [.int v5] h n _ _
    refine rr_if_eq (tgt := 54) C dX11_span_12 (by decide) (fun c12_ => ?_) (fun c12_ => ?_)
    · replace hr := (if_pos c12_).symm.trans hr
      refine rr_iconst (v := (-1)) C dX11_span_54 (by decide) ?_
      obtain rfl := Option.some.inj hr
      exact rr_iret (ty := .int) C dX11_span_55 rfl rfl ⟨rfl, rfl, rfl⟩
    · replace hr := (if_neg c12_).symm.trans hr
      refine rr_iload_n (i := 3) C dX11_span_15 rfl rfl ?_
      replace hr := Option.bind_eq_some_iff.mp hr
      obtain ⟨v7, e8, hr⟩ := hr
      refine rr_callS (as := [.int l3]) (st := []) (mc' := 0) (ms' := 0) C dX11_span_16 it_X11_383 (by decide) (Nat.le_of_ble_eq_true rfl) (c_X11_isReview l3 (by omega) e8) (fun v_ h_ n_ q_ => ?_)
      obtain ⟨q1_, q2_, q3_⟩ := q_
      subst v_; subst h_; subst n_
      show WW W0 G 15 _ _ _ 19 [some (.ref l0), some (.int l1), some (.int l2), some (.int l3), some (.int l4), some (.int l5), some (.int l6), none, none, none, none, none, none, none, none] [.int v7] h n _ _
      refine rr_if_eq (tgt := 54) C dX11_span_19 (by decide) (fun c19_ => ?_) (fun c19_ => ?_)
      · replace hr := (if_pos c19_).symm.trans hr
        refine rr_iconst (v := (-1)) C dX11_span_54 (by decide) ?_
        obtain rfl := Option.some.inj hr
        exact rr_iret (ty := .int) C dX11_span_55 rfl rfl ⟨rfl, rfl, rfl⟩
      · replace hr := (if_neg c19_).symm.trans hr
        refine rr_iload C dX11_span_22 rfl ?_
        refine rr_iconst (v := 0) C dX11_span_24 (by decide) ?_
        refine rr_iconst (v := 2) C dX11_span_25 (by decide) ?_
        replace hr := Option.bind_eq_some_iff.mp hr
        obtain ⟨v9, e10, hr⟩ := hr
        refine rr_callS (as := [.int l4, .int 0, .int 2]) (st := []) (mc' := 0) (ms' := 0) C dX11_span_26 it_X11_165 (by decide) (Nat.le_of_ble_eq_true rfl) (c_X11_isIn l4 0 2 (by omega) e10) (fun v_ h_ n_ q_ => ?_)
        obtain ⟨q1_, q2_, q3_⟩ := q_
        subst v_; subst h_; subst n_
        show WW W0 G 15 _ _ _ 29 [some (.ref l0), some (.int l1), some (.int l2), some (.int l3), some (.int l4), some (.int l5), some (.int l6), none, none, none, none, none, none, none, none] [.int v9] h n _ _
        refine rr_if_eq (tgt := 54) C dX11_span_29 (by decide) (fun c29_ => ?_) (fun c29_ => ?_)
        · replace hr := (if_pos c29_).symm.trans hr
          refine rr_iconst (v := (-1)) C dX11_span_54 (by decide) ?_
          obtain rfl := Option.some.inj hr
          exact rr_iret (ty := .int) C dX11_span_55 rfl rfl ⟨rfl, rfl, rfl⟩
        · replace hr := (if_neg c29_).symm.trans hr
          refine rr_iload C dX11_span_32 rfl ?_
          refine rr_iconst (v := 0) C dX11_span_34 (by decide) ?_
          refine rr_sipush (v := 999) C dX11_span_35 (by decide) ?_
          replace hr := Option.bind_eq_some_iff.mp hr
          obtain ⟨v11, e12, hr⟩ := hr
          refine rr_callS (as := [.int l5, .int 0, .int 999]) (st := []) (mc' := 0) (ms' := 0) C dX11_span_38 it_X11_165 (by decide) (Nat.le_of_ble_eq_true rfl) (c_X11_isIn l5 0 999 (by omega) e12) (fun v_ h_ n_ q_ => ?_)
          obtain ⟨q1_, q2_, q3_⟩ := q_
          subst v_; subst h_; subst n_
          show WW W0 G 15 _ _ _ 41 [some (.ref l0), some (.int l1), some (.int l2), some (.int l3), some (.int l4), some (.int l5), some (.int l6), none, none, none, none, none, none, none, none] [.int v11] h n _ _
          refine rr_if_eq (tgt := 54) C dX11_span_41 (by decide) (fun c41_ => ?_) (fun c41_ => ?_)
          · replace hr := (if_pos c41_).symm.trans hr
            refine rr_iconst (v := (-1)) C dX11_span_54 (by decide) ?_
            obtain rfl := Option.some.inj hr
            exact rr_iret (ty := .int) C dX11_span_55 rfl rfl ⟨rfl, rfl, rfl⟩
          · replace hr := (if_neg c41_).symm.trans hr
            refine rr_iload C dX11_span_44 rfl ?_
            refine rr_iconst (v := 0) C dX11_span_46 (by decide) ?_
            refine rr_iconst (v := 2) C dX11_span_47 (by decide) ?_
            replace hr := Option.bind_eq_some_iff.mp hr
            obtain ⟨v13, e14, hr⟩ := hr
            refine rr_callS (as := [.int l6, .int 0, .int 2]) (st := []) (mc' := 0) (ms' := 0) C dX11_span_48 it_X11_165 (by decide) (Nat.le_of_ble_eq_true rfl) (c_X11_isIn l6 0 2 (by omega) e14) (fun v_ h_ n_ q_ => ?_)
            obtain ⟨q1_, q2_, q3_⟩ := q_
            subst v_; subst h_; subst n_
            show WW W0 G 15 _ _ _ 51 [some (.ref l0), some (.int l1), some (.int l2), some (.int l3), some (.int l4), some (.int l5), some (.int l6), none, none, none, none, none, none, none, none] [.int v13] h n _ _
            refine rr_if_ne (tgt := 56) C dX11_span_51 (by decide) (fun c51_ => ?_) (fun c51_ => ?_)
            · replace hr := (if_neg c51_).symm.trans hr
              refine rr_aload_n (i := 0) C dX11_span_56 rfl rfl ?_
              refine rr_iload_n (i := 1) C dX11_span_57 rfl rfl ?_
              refine rr_iload_n (i := 2) C dX11_span_58 rfl rfl ?_
              refine rr_iload_n (i := 3) C dX11_span_59 rfl rfl ?_
              refine rr_iload C dX11_span_60 rfl ?_
              refine rr_iconst (v := (-1)) C dX11_span_62 (by decide) ?_
              replace hr := Option.bind_eq_some_iff.mp hr
              obtain ⟨u15, e16, hr⟩ := hr
              replace hr := Option.bind_eq_some_iff.mp hr
              obtain ⟨v17, e18, hr⟩ := hr
              refine rr_callVq (as := [.int l1, .int l2, .int l3, .int l4, .int (-1)]) (st := []) (mc' := 0) (ms' := 0) C dX11_span_63 iv_X11_446 (by decide) e16 rfl (Nat.le_of_ble_eq_true rfl) (c_X11_gathers l0 l1 l2 l3 l4 (-1) (by omega) e18) (fun v_ h_ n_ q_ => ?_)
              obtain ⟨q1_, q2_, q3_⟩ := q_
              subst v_; subst h_; subst n_
              show WW W0 G 15 _ _ _ 66 [some (.ref l0), some (.int l1), some (.int l2), some (.int l3), some (.int l4), some (.int l5), some (.int l6), none, none, none, none, none, none, none, none] [] v17 n _ _
              refine rr_aload_n (i := 0) C dX11_span_66 rfl rfl ?_
              replace hr := Option.bind_eq_some_iff.mp hr
              obtain ⟨v19, e20, hr⟩ := hr
              refine rr_rdI C dX11_span_67 fl_X11_443 e20 ?_
              refine rr_if_ne (tgt := 75) C dX11_span_70 (by decide) (fun c70_ => ?_) (fun c70_ => ?_)
              · replace hr := (if_neg c70_).symm.trans hr
                refine rr_iload C dX11_span_75 rfl ?_
                refine rr_if_ne (tgt := 91) C dX11_span_77 (by decide) (fun c77_ => ?_) (fun c77_ => ?_)
                · replace hr := (if_neg c77_).symm.trans hr
                  refine rr_iconst (v := 0) C dX11_span_91 (by decide) ?_
                  refine rr_istore C dX11_span_92 (by decide) ?_
                  show WW W0 G 15 _ _ _ 94 [some (.ref l0), some (.int l1), some (.int l2), some (.int l3), some (.int l4), some (.int l5), some (.int l6), some (.int 0), none, none, none, none, none, none, none] [] v17 n _ _
                  refine rr_iconst (v := 0) C dX11_span_94 (by decide) ?_
                  refine rr_istore C dX11_span_95 (by decide) ?_
                  show WW W0 G 15 _ _ _ 97 [some (.ref l0), some (.int l1), some (.int l2), some (.int l3), some (.int l4), some (.int l5), some (.int l6), some (.int 0), some (.int 0), none, none, none, none, none, none] [] v17 n _ _
                  replace hr := Option.bind_eq_some_iff.mp hr
                  obtain ⟨v36, e37, hr⟩ := hr
                  refine rr_keep [true, true, true, true, true, true, true, true, true, false, false, false, false, false, false] (w_X11_span_97 C (by omega) l0 l1 l2 l3 l4 l5 l6 K 0 0 e37 ?_)
                  show WW W0 G 15 _ _ _ 126 [some (.ref l0), some (.int l1), some (.int l2), some (.int l3), some (.int l4), some (.int l5), some (.int l6), some (.int v36), none, none, none, none, none, none, none] [] v17 n _ _
                  refine rr_ldc2 C dX11_span_126 ct_X11_460 ?_
                  refine rr_lstore C dX11_span_129 (by decide) ?_
                  show WW W0 G 15 _ _ _ 131 [some (.ref l0), some (.int l1), some (.int l2), some (.int l3), some (.int l4), some (.int l5), some (.int l6), some (.int v36), some (.long 999999), none, none, none, none, none, none] [] v17 n _ _
                  refine rr_lconst (v := 0) C dX11_span_131 (by decide) ?_
                  refine rr_lstore C dX11_span_132 (by decide) ?_
                  show WW W0 G 15 _ _ _ 134 [some (.ref l0), some (.int l1), some (.int l2), some (.int l3), some (.int l4), some (.int l5), some (.int l6), some (.int v36), some (.long 999999), none, some (.long 0), none, none, none, none] [] v17 n _ _
                  refine rr_iconst (v := 0) C dX11_span_134 (by decide) ?_
                  refine rr_istore C dX11_span_135 (by decide) ?_
                  show WW W0 G 15 _ _ _ 137 [some (.ref l0), some (.int l1), some (.int l2), some (.int l3), some (.int l4), some (.int l5), some (.int l6), some (.int v36), some (.long 999999), none, some (.long 0), none, some (.int 0), none, none] [] v17 n _ _
                  replace hr := Option.bind_eq_some_iff.mp hr
                  obtain ⟨v52, e53, hr⟩ := hr
                  refine rr_keep [true, true, true, true, true, true, true, true, true, false, true, false, true, false, false] (w_X11_span_137 C (by omega) l0 l1 l2 l3 l4 l5 l6 v36 K 999999 0 0 v17 e53 ?_)
                  show WW W0 G 15 _ _ _ 205 [none, none, none, none, none, none, some (.int l6), none, some (.long v52.1), none, some (.long v52.2.1), none, none, none, none] [] v52.2.2 n _ _
                  refine rr_iload C dX11_span_205 rfl ?_
                  refine rr_iconst (v := 1) C dX11_span_207 (by decide) ?_
                  refine rr_icmp_ne (tgt := 216) C dX11_span_208 (by decide) (fun c208_ => ?_) (fun c208_ => ?_)
                  · replace hr := (if_neg c208_).symm.trans hr
                    refine rr_lload C dX11_span_216 rfl ?_
                    refine rr_l2i C dX11_span_218 ?_
                    obtain rfl := Option.some.inj hr
                    exact rr_iret (ty := .int) C dX11_span_219 rfl rfl ⟨rfl, rfl, rfl⟩
                  · replace hr := (if_pos c208_).symm.trans hr
                    refine rr_lload C dX11_span_211 rfl ?_
                    refine rr_goto (tgt := 218) C dX11_span_213 (by decide) ?_
                    refine rr_l2i C dX11_span_218 ?_
                    obtain rfl := Option.some.inj hr
                    exact rr_iret (ty := .int) C dX11_span_219 rfl rfl ⟨rfl, rfl, rfl⟩
                · replace hr := (if_pos c77_).symm.trans hr
                  refine rr_aload_n (i := 0) C dX11_span_80 rfl rfl ?_
                  refine rr_iload C dX11_span_81 rfl ?_
                  replace hr := Option.bind_eq_some_iff.mp hr
                  obtain ⟨u21, e22, hr⟩ := hr
                  replace hr := Option.bind_eq_some_iff.mp hr
                  obtain ⟨v23, e24, hr⟩ := hr
                  refine rr_callVq (as := [.int l5]) (st := []) (mc' := 0) (ms' := 0) C dX11_span_83 iv_X11_468 (by decide) e22 rfl (Nat.le_of_ble_eq_true rfl) (c_X11_lineAt l0 l5 (by omega) e24) (fun v_ h_ n_ q_ => ?_)
                  obtain ⟨q1_, q2_, q3_⟩ := q_
                  subst v_; subst h_; subst n_
                  show WW W0 G 15 _ _ _ 86 [some (.ref l0), some (.int l1), some (.int l2), some (.int l3), some (.int l4), some (.int l5), some (.int l6), none, none, none, none, none, none, none, none] [.long v23] v17 n _ _
                  replace hr := Option.bind_eq_some_iff.mp hr
                  obtain ⟨v25, e26, hr⟩ := hr
                  refine rr_callS (as := [.long v23]) (st := []) (mc' := 0) (ms' := 0) C dX11_span_86 it_X11_474 (by decide) (Nat.le_of_ble_eq_true rfl) (c_X11_moded v23 (by omega) e26) (fun v_ h_ n_ q_ => ?_)
                  obtain ⟨q1_, q2_, q3_⟩ := q_
                  subst v_; subst h_; subst n_
                  show WW W0 G 15 _ _ _ 89 [some (.ref l0), some (.int l1), some (.int l2), some (.int l3), some (.int l4), some (.int l5), some (.int l6), none, none, none, none, none, none, none, none] [.long v25] v17 n _ _
                  refine rr_l2i C dX11_span_89 ?_
                  obtain rfl := Option.some.inj hr
                  exact rr_iret (ty := .int) C dX11_span_90 rfl rfl ⟨rfl, rfl, rfl⟩
              · replace hr := (if_pos c70_).symm.trans hr
                refine rr_iconst (v := (-1)) C dX11_span_73 (by decide) ?_
                obtain rfl := Option.some.inj hr
                exact rr_iret (ty := .int) C dX11_span_74 rfl rfl ⟨rfl, rfl, rfl⟩
            · replace hr := (if_pos c51_).symm.trans hr
              refine rr_iconst (v := (-1)) C dX11_span_54 (by decide) ?_
              obtain rfl := Option.some.inj hr
              exact rr_iret (ty := .int) C dX11_span_55 rfl rfl ⟨rfl, rfl, rfl⟩
def lp_X11_moves_65 (K : Nat) (h : mm_H) (n : Nat) (l0 : Nat) (l1 : Int32) (l2 : Int32) (l3 : Int32) (l4 : Int32) (l5 : Int64) (l7 : Int32) : Nat → Int64 → Int32 → Option (Int64)
  | 0, _, _ => none
  | k_ + 1, l8, l10 =>
    (rdI h n l0 10 65).bind fun v15 =>
    if v15 ≤ l10 then
      some (l8)
    else
    (rdR h n l0 10 63).bind fun v17 =>
    v17.bind fun a19 =>
    (ldI h n a19 l10).bind fun v21 =>
    (rdR h n l0 10 62).bind fun v23 =>
    v23.bind fun a25 =>
    (ldI h n a25 l10).bind fun v27 =>
    (ckq h n l0 10).bind fun u29 =>
    (q_X11_lineAt K h n l0 v27).bind fun v31 =>
    (q_X11_moded K h n v31).bind fun v33 =>
    lp_X11_moves_65 K h n l0 l1 l2 l3 l4 l5 l7 k_ (l8 + (j_abs ((Int32.toInt64 v21) - v33))) (l10 + 1)
def lp_X11_moves_33 (K : Nat) (n : Nat) (l0 : Nat) (l1 : Int32) (l2 : Int32) (l3 : Int32) : Nat → Int32 → Int64 → Int32 → mm_H → Option (Int32 × mm_H)
  | 0, _, _, _, _ => none
  | k_ + 1, l4, l5, l7, h =>
    if 3 ≤ l7 then
      some (l4, h)
    else
    (ckq h n l0 10).bind fun u9 =>
    (q_X11_gathers K h n l0 l1 l2 l3 l7 (-1)).bind fun v11 =>
    (rdI v11 n l0 10 65).bind fun v13 =>
    if v13 = 0 then
      lp_X11_moves_33 K n l0 l1 l2 l3 k_ l4 l5 (l7 + 1) v11
    else
    (lp_X11_moves_65 K v11 n l0 l1 l2 l3 l4 l5 l7 K 0 0).bind fun v36 =>
    if l4 = (-1) then
      lp_X11_moves_33 K n l0 l1 l2 l3 k_ l7 v36 (l7 + 1) v11
    else
    if (lg_cmp v36 l5) < 0 then
      lp_X11_moves_33 K n l0 l1 l2 l3 k_ l7 v36 (l7 + 1) v11
    else
    lp_X11_moves_33 K n l0 l1 l2 l3 k_ l4 l5 (l7 + 1) v11
def q_X11_moves (K : Nat) (h : mm_H) (n : Nat) (l0 : Nat) (l1 : Int32) (l2 : Int32) (l3 : Int32) : Option (Int32 × mm_H) :=
  (ckq h n l0 10).bind fun u1 =>
  (q_X11_isFirm K h n l0 l1).bind fun v3 =>
  if v3 = 0 then
    some ((-1), h)
  else
  (q_X11_isHead K h n l2).bind fun v5 =>
  if v5 = 0 then
    some ((-1), h)
  else
  (q_X11_isReview K h n l3).bind fun v7 =>
  if v7 = 0 then
    some ((-1), h)
  else
  (lp_X11_moves_33 K n l0 l1 l2 l3 K (-1) 0 0 h).bind fun v38 =>
  some (v38.1, v38.2)
set_option maxRecDepth 100000 in
set_option maxHeartbeats 4000000 in
theorem w_X11_moves_65 {K : Nat} {W0 : mm_X} {G : mm_G} {mc ms kc ks : Nat} {Q_ : State → Prop} {h : mm_H} {n : Nat} (C : mm_C W0 G cX11_moves yX11_moves.cls 11 mc ms (some .int) 3 yX11_moves.name) (hn : 48 ≤ n) (l0 : Nat) (l1 : Int32) (l2 : Int32) (l3 : Int32) (l4 : Int32) (l5 : Int64) (l7 : Int32) : ∀ (k_ : Nat) (l8 : Int64) (l10 : Int32) {r_ : Int64} (hr : lp_X11_moves_65 K h n l0 l1 l2 l3 l4 l5 l7 k_ l8 l10 = some r_) (hx0 : WW W0 G 11 mc ms Q_ 111 [some (.ref l0), some (.int l1), some (.int l2), some (.int l3), some (.int l4), some (.long l5), none, some (.int l7), some (.long r_), none, none] [] h n kc ks), WW W0 G 11 mc ms Q_ 65 [some (.ref l0), some (.int l1), some (.int l2), some (.int l3), some (.int l4), some (.long l5), none, some (.int l7), some (.long l8), none, some (.int l10)] [] h n kc ks := by
  intro k_
  induction k_ with
  | zero =>
    intro l8 l10 r_ hr
    cases hr
  | succ k_ ih_ =>
    intro l8 l10 r_ hr hx0
    unfold lp_X11_moves_65 at hr
    refine rr_iload C dX11_moves_65 rfl ?_
    refine rr_aload_n (i := 0) C dX11_moves_67 rfl rfl ?_
    replace hr := Option.bind_eq_some_iff.mp hr
    obtain ⟨v15, e16, hr⟩ := hr
    refine rr_rdI C dX11_moves_68 fl_X11_443 e16 ?_
    refine rr_icmp_ge (tgt := 111) C dX11_moves_71 (by decide) (fun c71_ => ?_) (fun c71_ => ?_)
    · replace hr := (if_pos c71_).symm.trans hr
      obtain rfl := Option.some.inj hr
      exact rr_keep [true, true, true, true, true, true, false, true, true, false, false] (hx0)
    · replace hr := (if_neg c71_).symm.trans hr
      refine rr_lload C dX11_moves_74 rfl ?_
      refine rr_aload_n (i := 0) C dX11_moves_76 rfl rfl ?_
      replace hr := Option.bind_eq_some_iff.mp hr
      obtain ⟨v17, e18, hr⟩ := hr
      refine rr_rdR C dX11_moves_77 fl_X11_156 e18 ?_
      refine rr_iload C dX11_moves_80 rfl ?_
      replace hr := Option.bind_eq_some_iff.mp hr
      obtain ⟨a19, e20, hr⟩ := hr
      subst e20
      replace hr := Option.bind_eq_some_iff.mp hr
      obtain ⟨v21, e22, hr⟩ := hr
      refine rr_ldI C dX11_moves_82 e22 ?_
      refine rr_i2l C dX11_moves_83 ?_
      refine rr_aload_n (i := 0) C dX11_moves_84 rfl rfl ?_
      refine rr_aload_n (i := 0) C dX11_moves_85 rfl rfl ?_
      replace hr := Option.bind_eq_some_iff.mp hr
      obtain ⟨v23, e24, hr⟩ := hr
      refine rr_rdR C dX11_moves_86 fl_X11_153 e24 ?_
      refine rr_iload C dX11_moves_89 rfl ?_
      replace hr := Option.bind_eq_some_iff.mp hr
      obtain ⟨a25, e26, hr⟩ := hr
      subst e26
      replace hr := Option.bind_eq_some_iff.mp hr
      obtain ⟨v27, e28, hr⟩ := hr
      refine rr_ldI C dX11_moves_91 e28 ?_
      replace hr := Option.bind_eq_some_iff.mp hr
      obtain ⟨u29, e30, hr⟩ := hr
      replace hr := Option.bind_eq_some_iff.mp hr
      obtain ⟨v31, e32, hr⟩ := hr
      refine rr_callVq (as := [.int v27]) (st := [.long (Int32.toInt64 v21), .long l8]) (mc' := 0) (ms' := 0) C dX11_moves_92 iv_X11_468 (by decide) e30 rfl (Nat.le_of_ble_eq_true rfl) (c_X11_lineAt l0 v27 (by omega) e32) (fun v_ h_ n_ q_ => ?_)
      obtain ⟨q1_, q2_, q3_⟩ := q_
      subst v_; subst h_; subst n_
      show WW W0 G 11 _ _ _ 95 [some (.ref l0), some (.int l1), some (.int l2), some (.int l3), some (.int l4), some (.long l5), none, some (.int l7), some (.long l8), none, some (.int l10)] [.long v31, .long (Int32.toInt64 v21), .long l8] h n _ _
      replace hr := Option.bind_eq_some_iff.mp hr
      obtain ⟨v33, e34, hr⟩ := hr
      refine rr_callS (as := [.long v31]) (st := [.long (Int32.toInt64 v21), .long l8]) (mc' := 0) (ms' := 0) C dX11_moves_95 it_X11_474 (by decide) (Nat.le_of_ble_eq_true rfl) (c_X11_moded v31 (by omega) e34) (fun v_ h_ n_ q_ => ?_)
      obtain ⟨q1_, q2_, q3_⟩ := q_
      subst v_; subst h_; subst n_
      show WW W0 G 11 _ _ _ 98 [some (.ref l0), some (.int l1), some (.int l2), some (.int l3), some (.int l4), some (.long l5), none, some (.int l7), some (.long l8), none, some (.int l10)] [.long v33, .long (Int32.toInt64 v21), .long l8] h n _ _
      refine rr_lsub C dX11_moves_98 ?_
      refine rr_mabs_long C dX11_moves_99 ma_X11_485 (by decide) (Nat.le_of_ble_eq_true rfl) ?_
      refine rr_ladd C dX11_moves_102 ?_
      refine rr_lstore C dX11_moves_103 (by decide) ?_
      show WW W0 G 11 _ _ _ 105 [some (.ref l0), some (.int l1), some (.int l2), some (.int l3), some (.int l4), some (.long l5), none, some (.int l7), some (.long (l8 + (j_abs ((Int32.toInt64 v21) - v33)))), none, some (.int l10)] [] h n _ _
      refine rr_iinc (v := l10 + 1) C dX11_moves_105 rfl rfl ?_
      show WW W0 G 11 _ _ _ 108 [some (.ref l0), some (.int l1), some (.int l2), some (.int l3), some (.int l4), some (.long l5), none, some (.int l7), some (.long (l8 + (j_abs ((Int32.toInt64 v21) - v33)))), none, some (.int (l10 + 1))] [] h n _ _
      refine rr_goto (tgt := 65) C dX11_moves_108 (by decide) ?_
      exact rr_keep [true, true, true, true, true, true, false, true, true, false, true] (ih_ _ _ hr hx0)
set_option maxRecDepth 100000 in
set_option maxHeartbeats 4000000 in
theorem w_X11_moves_33 {K : Nat} {W0 : mm_X} {G : mm_G} {mc ms kc ks : Nat} {Q_ : State → Prop} {n : Nat} (C : mm_C W0 G cX11_moves yX11_moves.cls 11 mc ms (some .int) 3 yX11_moves.name) (hn : 48 ≤ n) (l0 : Nat) (l1 : Int32) (l2 : Int32) (l3 : Int32) : ∀ (k_ : Nat) (l4 : Int32) (l5 : Int64) (l7 : Int32) (h : mm_H) {r_ : Int32 × mm_H} (hr : lp_X11_moves_33 K n l0 l1 l2 l3 k_ l4 l5 l7 h = some r_) (hx0 : WW W0 G 11 mc ms Q_ 142 [none, none, none, none, some (.int r_.1), none, none, none, none, none, none] [] r_.2 n kc ks), WW W0 G 11 mc ms Q_ 33 [some (.ref l0), some (.int l1), some (.int l2), some (.int l3), some (.int l4), some (.long l5), none, some (.int l7), none, none, none] [] h n kc ks := by
  intro k_
  induction k_ with
  | zero =>
    intro l4 l5 l7 h r_ hr
    cases hr
  | succ k_ ih_ =>
    intro l4 l5 l7 h r_ hr hx0
    unfold lp_X11_moves_33 at hr
    refine rr_iload C dX11_moves_33 rfl ?_
    refine rr_iconst (v := 3) C dX11_moves_35 (by decide) ?_
    refine rr_icmp_ge (tgt := 142) C dX11_moves_36 (by decide) (fun c36_ => ?_) (fun c36_ => ?_)
    · replace hr := (if_pos c36_).symm.trans hr
      obtain rfl := Option.some.inj hr
      exact rr_keep [false, false, false, false, true, false, false, false, false, false, false] (hx0)
    · replace hr := (if_neg c36_).symm.trans hr
      refine rr_aload_n (i := 0) C dX11_moves_39 rfl rfl ?_
      refine rr_iload_n (i := 1) C dX11_moves_40 rfl rfl ?_
      refine rr_iload_n (i := 2) C dX11_moves_41 rfl rfl ?_
      refine rr_iload_n (i := 3) C dX11_moves_42 rfl rfl ?_
      refine rr_iload C dX11_moves_43 rfl ?_
      refine rr_iconst (v := (-1)) C dX11_moves_45 (by decide) ?_
      replace hr := Option.bind_eq_some_iff.mp hr
      obtain ⟨u9, e10, hr⟩ := hr
      replace hr := Option.bind_eq_some_iff.mp hr
      obtain ⟨v11, e12, hr⟩ := hr
      refine rr_callVq (as := [.int l1, .int l2, .int l3, .int l7, .int (-1)]) (st := []) (mc' := 0) (ms' := 0) C dX11_moves_46 iv_X11_446 (by decide) e10 rfl (Nat.le_of_ble_eq_true rfl) (c_X11_gathers l0 l1 l2 l3 l7 (-1) (by omega) e12) (fun v_ h_ n_ q_ => ?_)
      obtain ⟨q1_, q2_, q3_⟩ := q_
      subst v_; subst h_; subst n_
      show WW W0 G 11 _ _ _ 49 [some (.ref l0), some (.int l1), some (.int l2), some (.int l3), some (.int l4), some (.long l5), none, some (.int l7), none, none, none] [] v11 n _ _
      refine rr_aload_n (i := 0) C dX11_moves_49 rfl rfl ?_
      replace hr := Option.bind_eq_some_iff.mp hr
      obtain ⟨v13, e14, hr⟩ := hr
      refine rr_rdI C dX11_moves_50 fl_X11_443 e14 ?_
      refine rr_if_ne (tgt := 59) C dX11_moves_53 (by decide) (fun c53_ => ?_) (fun c53_ => ?_)
      · replace hr := (if_neg c53_).symm.trans hr
        refine rr_lconst (v := 0) C dX11_moves_59 (by decide) ?_
        refine rr_lstore C dX11_moves_60 (by decide) ?_
        show WW W0 G 11 _ _ _ 62 [some (.ref l0), some (.int l1), some (.int l2), some (.int l3), some (.int l4), some (.long l5), none, some (.int l7), some (.long 0), none, none] [] v11 n _ _
        refine rr_iconst (v := 0) C dX11_moves_62 (by decide) ?_
        refine rr_istore C dX11_moves_63 (by decide) ?_
        show WW W0 G 11 _ _ _ 65 [some (.ref l0), some (.int l1), some (.int l2), some (.int l3), some (.int l4), some (.long l5), none, some (.int l7), some (.long 0), none, some (.int 0)] [] v11 n _ _
        replace hr := Option.bind_eq_some_iff.mp hr
        obtain ⟨v36, e37, hr⟩ := hr
        refine rr_keep [true, true, true, true, true, true, false, true, true, false, true] (w_X11_moves_65 C (by omega) l0 l1 l2 l3 l4 l5 l7 K 0 0 e37 ?_)
        show WW W0 G 11 _ _ _ 111 [some (.ref l0), some (.int l1), some (.int l2), some (.int l3), some (.int l4), some (.long l5), none, some (.int l7), some (.long v36), none, none] [] v11 n _ _
        refine rr_iload C dX11_moves_111 rfl ?_
        refine rr_iconst (v := (-1)) C dX11_moves_113 (by decide) ?_
        refine rr_icmp_eq (tgt := 128) C dX11_moves_114 (by decide) (fun c114_ => ?_) (fun c114_ => ?_)
        · replace hr := (if_pos c114_).symm.trans hr
          refine rr_iload C dX11_moves_128 rfl ?_
          refine rr_istore C dX11_moves_130 (by decide) ?_
          show WW W0 G 11 _ _ _ 132 [some (.ref l0), some (.int l1), some (.int l2), some (.int l3), some (.int l7), some (.long l5), none, some (.int l7), some (.long v36), none, none] [] v11 n _ _
          refine rr_lload C dX11_moves_132 rfl ?_
          refine rr_lstore C dX11_moves_134 (by decide) ?_
          show WW W0 G 11 _ _ _ 136 [some (.ref l0), some (.int l1), some (.int l2), some (.int l3), some (.int l7), some (.long v36), none, some (.int l7), some (.long v36), none, none] [] v11 n _ _
          refine rr_iinc (v := l7 + 1) C dX11_moves_136 rfl rfl ?_
          show WW W0 G 11 _ _ _ 139 [some (.ref l0), some (.int l1), some (.int l2), some (.int l3), some (.int l7), some (.long v36), none, some (.int (l7 + 1)), some (.long v36), none, none] [] v11 n _ _
          refine rr_goto (tgt := 33) C dX11_moves_139 (by decide) ?_
          exact rr_keep [true, true, true, true, true, true, false, true, false, false, false] (ih_ _ _ _ _ hr hx0)
        · replace hr := (if_neg c114_).symm.trans hr
          refine rr_lload C dX11_moves_117 rfl ?_
          refine rr_lload C dX11_moves_119 rfl ?_
          refine rr_lcmp C dX11_moves_121 ?_
          refine rr_if_lt (tgt := 128) C dX11_moves_122 (by decide) (fun c122_ => ?_) (fun c122_ => ?_)
          · replace hr := (if_pos c122_).symm.trans hr
            refine rr_iload C dX11_moves_128 rfl ?_
            refine rr_istore C dX11_moves_130 (by decide) ?_
            show WW W0 G 11 _ _ _ 132 [some (.ref l0), some (.int l1), some (.int l2), some (.int l3), some (.int l7), some (.long l5), none, some (.int l7), some (.long v36), none, none] [] v11 n _ _
            refine rr_lload C dX11_moves_132 rfl ?_
            refine rr_lstore C dX11_moves_134 (by decide) ?_
            show WW W0 G 11 _ _ _ 136 [some (.ref l0), some (.int l1), some (.int l2), some (.int l3), some (.int l7), some (.long v36), none, some (.int l7), some (.long v36), none, none] [] v11 n _ _
            refine rr_iinc (v := l7 + 1) C dX11_moves_136 rfl rfl ?_
            show WW W0 G 11 _ _ _ 139 [some (.ref l0), some (.int l1), some (.int l2), some (.int l3), some (.int l7), some (.long v36), none, some (.int (l7 + 1)), some (.long v36), none, none] [] v11 n _ _
            refine rr_goto (tgt := 33) C dX11_moves_139 (by decide) ?_
            exact rr_keep [true, true, true, true, true, true, false, true, false, false, false] (ih_ _ _ _ _ hr hx0)
          · replace hr := (if_neg c122_).symm.trans hr
            refine rr_goto (tgt := 136) C dX11_moves_125 (by decide) ?_
            refine rr_iinc (v := l7 + 1) C dX11_moves_136 rfl rfl ?_
            show WW W0 G 11 _ _ _ 139 [some (.ref l0), some (.int l1), some (.int l2), some (.int l3), some (.int l4), some (.long l5), none, some (.int (l7 + 1)), some (.long v36), none, none] [] v11 n _ _
            refine rr_goto (tgt := 33) C dX11_moves_139 (by decide) ?_
            exact rr_keep [true, true, true, true, true, true, false, true, false, false, false] (ih_ _ _ _ _ hr hx0)
      · replace hr := (if_pos c53_).symm.trans hr
        refine rr_goto (tgt := 136) C dX11_moves_56 (by decide) ?_
        refine rr_iinc (v := l7 + 1) C dX11_moves_136 rfl rfl ?_
        show WW W0 G 11 _ _ _ 139 [some (.ref l0), some (.int l1), some (.int l2), some (.int l3), some (.int l4), some (.long l5), none, some (.int (l7 + 1)), none, none, none] [] v11 n _ _
        refine rr_goto (tgt := 33) C dX11_moves_139 (by decide) ?_
        exact rr_keep [true, true, true, true, true, true, false, true, false, false, false] (ih_ _ _ _ _ hr hx0)
set_option maxRecDepth 100000 in
set_option maxHeartbeats 4000000 in
theorem c_X11_moves {K : Nat} {G : mm_G} {l : Launch} {h : mm_H} {n : Nat} (l0 : Nat) (l1 : Int32) (l2 : Int32) (l3 : Int32) {r_ : Int32 × mm_H} (hn : 48 ≤ n) (hr : q_X11_moves K h n l0 l1 l2 l3 = some r_) : Sp G l yX11_moves cX11_moves 11 (some .int) 3 0 0 [.ref l0, .int l1, .int l2, .int l3] h n (fun v h' n' => v = some (.int r_.1) ∧ h' = r_.2 ∧ n' = n) := by
  refine Sp_of (by decide +kernel) (Nat.le_of_ble_eq_true rfl) hn ?_
  intro W0 hwl C
  subst hwl
  unfold q_X11_moves at hr
  show WW W0 G 11 0 0 _ 0 [some (.ref l0), some (.int l1), some (.int l2), some (.int l3), none, none, none, none, none, none, none] [] h n 0 0
  refine rr_aload_n (i := 0) C dX11_moves_0 rfl rfl ?_
  refine rr_iload_n (i := 1) C dX11_moves_1 rfl rfl ?_
  replace hr := Option.bind_eq_some_iff.mp hr
  obtain ⟨u1, e2, hr⟩ := hr
  replace hr := Option.bind_eq_some_iff.mp hr
  obtain ⟨v3, e4, hr⟩ := hr
  refine rr_callVq (as := [.int l1]) (st := []) (mc' := 0) (ms' := 0) C dX11_moves_2 iv_X11_177 (by decide) e2 rfl (Nat.le_of_ble_eq_true rfl) (c_X11_isFirm l0 l1 (by omega) e4) (fun v_ h_ n_ q_ => ?_)
  obtain ⟨q1_, q2_, q3_⟩ := q_
  subst v_; subst h_; subst n_
  show WW W0 G 11 _ _ _ 5 [some (.ref l0), some (.int l1), some (.int l2), some (.int l3), none, none, none, none, none, none, none] [.int v3] h n _ _
  refine rr_if_eq (tgt := 22) C dX11_moves_5 (by decide) (fun c5_ => ?_) (fun c5_ => ?_)
  · replace hr := (if_pos c5_).symm.trans hr
    refine rr_iconst (v := (-1)) C dX11_moves_22 (by decide) ?_
    obtain rfl := Option.some.inj hr
    exact rr_iret (ty := .int) C dX11_moves_23 rfl rfl ⟨rfl, rfl, rfl⟩
  · replace hr := (if_neg c5_).symm.trans hr
    refine rr_iload_n (i := 2) C dX11_moves_8 rfl rfl ?_
    replace hr := Option.bind_eq_some_iff.mp hr
    obtain ⟨v5, e6, hr⟩ := hr
    refine rr_callS (as := [.int l2]) (st := []) (mc' := 0) (ms' := 0) C dX11_moves_9 it_X11_205 (by decide) (Nat.le_of_ble_eq_true rfl) (c_X11_isHead l2 (by omega) e6) (fun v_ h_ n_ q_ => ?_)
    obtain ⟨q1_, q2_, q3_⟩ := q_
    subst v_; subst h_; subst n_
    show WW W0 G 11 _ _ _ 12 [some (.ref l0), some (.int l1), some (.int l2), some (.int l3), none, none, none, none, none, none, none] [.int v5] h n _ _
    refine rr_if_eq (tgt := 22) C dX11_moves_12 (by decide) (fun c12_ => ?_) (fun c12_ => ?_)
    · replace hr := (if_pos c12_).symm.trans hr
      refine rr_iconst (v := (-1)) C dX11_moves_22 (by decide) ?_
      obtain rfl := Option.some.inj hr
      exact rr_iret (ty := .int) C dX11_moves_23 rfl rfl ⟨rfl, rfl, rfl⟩
    · replace hr := (if_neg c12_).symm.trans hr
      refine rr_iload_n (i := 3) C dX11_moves_15 rfl rfl ?_
      replace hr := Option.bind_eq_some_iff.mp hr
      obtain ⟨v7, e8, hr⟩ := hr
      refine rr_callS (as := [.int l3]) (st := []) (mc' := 0) (ms' := 0) C dX11_moves_16 it_X11_383 (by decide) (Nat.le_of_ble_eq_true rfl) (c_X11_isReview l3 (by omega) e8) (fun v_ h_ n_ q_ => ?_)
      obtain ⟨q1_, q2_, q3_⟩ := q_
      subst v_; subst h_; subst n_
      show WW W0 G 11 _ _ _ 19 [some (.ref l0), some (.int l1), some (.int l2), some (.int l3), none, none, none, none, none, none, none] [.int v7] h n _ _
      refine rr_if_ne (tgt := 24) C dX11_moves_19 (by decide) (fun c19_ => ?_) (fun c19_ => ?_)
      · replace hr := (if_neg c19_).symm.trans hr
        refine rr_iconst (v := (-1)) C dX11_moves_24 (by decide) ?_
        refine rr_istore C dX11_moves_25 (by decide) ?_
        show WW W0 G 11 _ _ _ 27 [some (.ref l0), some (.int l1), some (.int l2), some (.int l3), some (.int (-1)), none, none, none, none, none, none] [] h n _ _
        refine rr_lconst (v := 0) C dX11_moves_27 (by decide) ?_
        refine rr_lstore C dX11_moves_28 (by decide) ?_
        show WW W0 G 11 _ _ _ 30 [some (.ref l0), some (.int l1), some (.int l2), some (.int l3), some (.int (-1)), some (.long 0), none, none, none, none, none] [] h n _ _
        refine rr_iconst (v := 0) C dX11_moves_30 (by decide) ?_
        refine rr_istore C dX11_moves_31 (by decide) ?_
        show WW W0 G 11 _ _ _ 33 [some (.ref l0), some (.int l1), some (.int l2), some (.int l3), some (.int (-1)), some (.long 0), none, some (.int 0), none, none, none] [] h n _ _
        replace hr := Option.bind_eq_some_iff.mp hr
        obtain ⟨v38, e39, hr⟩ := hr
        refine rr_keep [true, true, true, true, true, true, false, true, false, false, false] (w_X11_moves_33 C (by omega) l0 l1 l2 l3 K (-1) 0 0 h e39 ?_)
        show WW W0 G 11 _ _ _ 142 [none, none, none, none, some (.int v38.1), none, none, none, none, none, none] [] v38.2 n _ _
        refine rr_iload C dX11_moves_142 rfl ?_
        obtain rfl := Option.some.inj hr
        exact rr_iret (ty := .int) C dX11_moves_144 rfl rfl ⟨rfl, rfl, rfl⟩
      · replace hr := (if_pos c19_).symm.trans hr
        refine rr_iconst (v := (-1)) C dX11_moves_22 (by decide) ?_
        obtain rfl := Option.some.inj hr
        exact rr_iret (ty := .int) C dX11_moves_23 rfl rfl ⟨rfl, rfl, rfl⟩
def q_X11_bears (K : Nat) (h : mm_H) (n : Nat) (l0 : Int64) (l2 : Int32) (l3 : Int32) : Option (Int64) :=
  if (lg_cmp l0 0) ≤ 0 then
    some ((l0 * (Int32.toInt64 l3)) / 100)
  else
  some ((l0 * (Int32.toInt64 l2)) / 100)
set_option maxRecDepth 100000 in
set_option maxHeartbeats 4000000 in
theorem c_X11_bears {K : Nat} {G : mm_G} {l : Launch} {h : mm_H} {n : Nat} (l0 : Int64) (l2 : Int32) (l3 : Int32) {r_ : Int64} (hn : 48 ≤ n) (hr : q_X11_bears K h n l0 l2 l3 = some r_) : Sp G l yX11_bears cX11_bears 4 (some .long) 0 0 0 [.long l0, .int l2, .int l3] h n (fun v h' n' => v = some (.long r_) ∧ h' = h ∧ n' = n) := by
  refine Sp_of (by decide +kernel) (Nat.le_of_ble_eq_true rfl) hn ?_
  intro W0 hwl C
  subst hwl
  unfold q_X11_bears at hr
  show WW W0 G 4 0 0 _ 0 [some (.long l0), none, some (.int l2), some (.int l3)] [] h n 0 0
  refine rr_lload_n (i := 0) C dX11_bears_0 rfl rfl ?_
  refine rr_lconst (v := 0) C dX11_bears_1 (by decide) ?_
  refine rr_lcmp C dX11_bears_2 ?_
  refine rr_if_le (tgt := 17) C dX11_bears_3 (by decide) (fun c3_ => ?_) (fun c3_ => ?_)
  · replace hr := (if_pos c3_).symm.trans hr
    refine rr_lload_n (i := 0) C dX11_bears_17 rfl rfl ?_
    refine rr_iload_n (i := 3) C dX11_bears_18 rfl rfl ?_
    refine rr_i2l C dX11_bears_19 ?_
    refine rr_lmul C dX11_bears_20 ?_
    refine rr_ldc2 C dX11_bears_21 ct_X11_433 ?_
    refine rr_ldiv C dX11_bears_24 (by decide) ?_
    obtain rfl := Option.some.inj hr
    exact rr_lret C dX11_bears_25 rfl ⟨rfl, rfl, rfl⟩
  · replace hr := (if_neg c3_).symm.trans hr
    refine rr_lload_n (i := 0) C dX11_bears_6 rfl rfl ?_
    refine rr_iload_n (i := 2) C dX11_bears_7 rfl rfl ?_
    refine rr_i2l C dX11_bears_8 ?_
    refine rr_lmul C dX11_bears_9 ?_
    refine rr_ldc2 C dX11_bears_10 ct_X11_433 ?_
    refine rr_ldiv C dX11_bears_13 (by decide) ?_
    refine rr_goto (tgt := 25) C dX11_bears_14 (by decide) ?_
    obtain rfl := Option.some.inj hr
    exact rr_lret C dX11_bears_25 rfl ⟨rfl, rfl, rfl⟩
def q_X11_bearsBy (K : Nat) (h : mm_H) (n : Nat) (l0 : Nat) (l1 : Int32) (l2 : Int32) (l3 : Int32) (l4 : Int64) : Option (Int64 × mm_H) :=
  (ckq h n l0 10).bind fun u1 =>
  (q_X11_statement K h n l0 l1 l3 1 l2).bind fun v3 =>
  if v3.1 = (-1) then
    some (0, v3.2)
  else
  (rdR v3.2 n l0 10 39).bind fun v6 =>
  v6.bind fun a8 =>
  (ldI v3.2 n a8 v3.1).bind fun v10 =>
  (rdR v3.2 n l0 10 40).bind fun v12 =>
  v12.bind fun a14 =>
  (ldI v3.2 n a14 v3.1).bind fun v16 =>
  (q_X11_bears K v3.2 n l4 v10 v16).bind fun v18 =>
  some (v18, v3.2)
set_option maxRecDepth 100000 in
set_option maxHeartbeats 4000000 in
theorem c_X11_bearsBy {K : Nat} {G : mm_G} {l : Launch} {h : mm_H} {n : Nat} (l0 : Nat) (l1 : Int32) (l2 : Int32) (l3 : Int32) (l4 : Int64) {r_ : Int64 × mm_H} (hn : 48 ≤ n) (hr : q_X11_bearsBy K h n l0 l1 l2 l3 l4 = some r_) : Sp G l yX11_bearsBy cX11_bearsBy 7 (some .long) 50 0 0 [.ref l0, .int l1, .int l2, .int l3, .long l4] h n (fun v h' n' => v = some (.long r_.1) ∧ h' = r_.2 ∧ n' = n) := by
  refine Sp_of (by decide +kernel) (Nat.le_of_ble_eq_true rfl) hn ?_
  intro W0 hwl C
  subst hwl
  unfold q_X11_bearsBy at hr
  show WW W0 G 7 0 0 _ 0 [some (.ref l0), some (.int l1), some (.int l2), some (.int l3), some (.long l4), none, none] [] h n 0 0
  refine rr_aload_n (i := 0) C dX11_bearsBy_0 rfl rfl ?_
  refine rr_iload_n (i := 1) C dX11_bearsBy_1 rfl rfl ?_
  refine rr_iload_n (i := 3) C dX11_bearsBy_2 rfl rfl ?_
  refine rr_iconst (v := 1) C dX11_bearsBy_3 (by decide) ?_
  refine rr_iload_n (i := 2) C dX11_bearsBy_4 rfl rfl ?_
  replace hr := Option.bind_eq_some_iff.mp hr
  obtain ⟨u1, e2, hr⟩ := hr
  replace hr := Option.bind_eq_some_iff.mp hr
  obtain ⟨v3, e4, hr⟩ := hr
  refine rr_callVq (as := [.int l1, .int l3, .int 1, .int l2]) (st := []) (mc' := 0) (ms' := 0) C dX11_bearsBy_5 iv_X11_417 (by decide) e2 rfl (Nat.le_of_ble_eq_true rfl) (c_X11_statement l0 l1 l3 1 l2 (by omega) e4) (fun v_ h_ n_ q_ => ?_)
  obtain ⟨q1_, q2_, q3_⟩ := q_
  subst v_; subst h_; subst n_
  show WW W0 G 7 _ _ _ 8 [some (.ref l0), some (.int l1), some (.int l2), some (.int l3), some (.long l4), none, none] [.int v3.1] v3.2 n _ _
  refine rr_istore C dX11_bearsBy_8 (by decide) ?_
  show WW W0 G 7 _ _ _ 10 [some (.ref l0), some (.int l1), some (.int l2), some (.int l3), some (.long l4), none, some (.int v3.1)] [] v3.2 n _ _
  refine rr_iload C dX11_bearsBy_10 rfl ?_
  refine rr_iconst (v := (-1)) C dX11_bearsBy_12 (by decide) ?_
  refine rr_icmp_ne (tgt := 20) C dX11_bearsBy_13 (by decide) (fun c13_ => ?_) (fun c13_ => ?_)
  · replace hr := (if_neg c13_).symm.trans hr
    refine rr_lload C dX11_bearsBy_20 rfl ?_
    refine rr_aload_n (i := 0) C dX11_bearsBy_22 rfl rfl ?_
    replace hr := Option.bind_eq_some_iff.mp hr
    obtain ⟨v6, e7, hr⟩ := hr
    refine rr_rdR C dX11_bearsBy_23 fl_X11_90 e7 ?_
    refine rr_iload C dX11_bearsBy_26 rfl ?_
    replace hr := Option.bind_eq_some_iff.mp hr
    obtain ⟨a8, e9, hr⟩ := hr
    subst e9
    replace hr := Option.bind_eq_some_iff.mp hr
    obtain ⟨v10, e11, hr⟩ := hr
    refine rr_ldI C dX11_bearsBy_28 e11 ?_
    refine rr_aload_n (i := 0) C dX11_bearsBy_29 rfl rfl ?_
    replace hr := Option.bind_eq_some_iff.mp hr
    obtain ⟨v12, e13, hr⟩ := hr
    refine rr_rdR C dX11_bearsBy_30 fl_X11_93 e13 ?_
    refine rr_iload C dX11_bearsBy_33 rfl ?_
    replace hr := Option.bind_eq_some_iff.mp hr
    obtain ⟨a14, e15, hr⟩ := hr
    subst e15
    replace hr := Option.bind_eq_some_iff.mp hr
    obtain ⟨v16, e17, hr⟩ := hr
    refine rr_ldI C dX11_bearsBy_35 e17 ?_
    replace hr := Option.bind_eq_some_iff.mp hr
    obtain ⟨v18, e19, hr⟩ := hr
    refine rr_callS (as := [.long l4, .int v10, .int v16]) (st := []) (mc' := 0) (ms' := 0) C dX11_bearsBy_36 it_X11_488 (by decide) (Nat.le_of_ble_eq_true rfl) (c_X11_bears l4 v10 v16 (by omega) e19) (fun v_ h_ n_ q_ => ?_)
    obtain ⟨q1_, q2_, q3_⟩ := q_
    subst v_; subst h_; subst n_
    show WW W0 G 7 _ _ _ 39 [some (.ref l0), some (.int l1), some (.int l2), some (.int l3), some (.long l4), none, some (.int v3.1)] [.long v18] v3.2 n _ _
    obtain rfl := Option.some.inj hr
    exact rr_lret C dX11_bearsBy_39 rfl ⟨rfl, rfl, rfl⟩
  · replace hr := (if_pos c13_).symm.trans hr
    refine rr_lconst (v := 0) C dX11_bearsBy_16 (by decide) ?_
    refine rr_goto (tgt := 39) C dX11_bearsBy_17 (by decide) ?_
    obtain rfl := Option.some.inj hr
    exact rr_lret C dX11_bearsBy_39 rfl ⟨rfl, rfl, rfl⟩
def q_X11_overOf (K : Nat) (h : mm_H) (n : Nat) (l0 : Nat) (l1 : Int32) (l2 : Int32) (l3 : Int32) (l4 : Int32) : Option (Int64 × mm_H) :=
  (ckq h n l0 10).bind fun u1 =>
  (q_X11_factBy K h n l0 l1 l3 (3 + l2) l4).bind fun v3 =>
  (ckq h n l0 10).bind fun u5 =>
  (q_X11_allowedOf K h n l0 l1 l2 l3 l4).bind fun v7 =>
  some ((Int32.toInt64 v3) - (Int32.toInt64 v7.1), v7.2)
set_option maxRecDepth 100000 in
set_option maxHeartbeats 4000000 in
theorem c_X11_overOf {K : Nat} {G : mm_G} {l : Launch} {h : mm_H} {n : Nat} (l0 : Nat) (l1 : Int32) (l2 : Int32) (l3 : Int32) (l4 : Int32) {r_ : Int64 × mm_H} (hn : 48 ≤ n) (hr : q_X11_overOf K h n l0 l1 l2 l3 l4 = some r_) : Sp G l yX11_overOf cX11_overOf 5 (some .long) 51 0 0 [.ref l0, .int l1, .int l2, .int l3, .int l4] h n (fun v h' n' => v = some (.long r_.1) ∧ h' = r_.2 ∧ n' = n) := by
  refine Sp_of (by decide +kernel) (Nat.le_of_ble_eq_true rfl) hn ?_
  intro W0 hwl C
  subst hwl
  unfold q_X11_overOf at hr
  show WW W0 G 5 0 0 _ 0 [some (.ref l0), some (.int l1), some (.int l2), some (.int l3), some (.int l4)] [] h n 0 0
  refine rr_aload_n (i := 0) C dX11_overOf_0 rfl rfl ?_
  refine rr_iload_n (i := 1) C dX11_overOf_1 rfl rfl ?_
  refine rr_iload_n (i := 3) C dX11_overOf_2 rfl rfl ?_
  refine rr_iconst (v := 3) C dX11_overOf_3 (by decide) ?_
  refine rr_iload_n (i := 2) C dX11_overOf_4 rfl rfl ?_
  refine rr_iadd C dX11_overOf_5 ?_
  refine rr_iload C dX11_overOf_6 rfl ?_
  replace hr := Option.bind_eq_some_iff.mp hr
  obtain ⟨u1, e2, hr⟩ := hr
  replace hr := Option.bind_eq_some_iff.mp hr
  obtain ⟨v3, e4, hr⟩ := hr
  refine rr_callVq (as := [.int l1, .int l3, .int (3 + l2), .int l4]) (st := []) (mc' := 0) (ms' := 0) C dX11_overOf_8 iv_X11_198 (by decide) e2 rfl (Nat.le_of_ble_eq_true rfl) (c_X11_factBy l0 l1 l3 (3 + l2) l4 (by omega) e4) (fun v_ h_ n_ q_ => ?_)
  obtain ⟨q1_, q2_, q3_⟩ := q_
  subst v_; subst h_; subst n_
  show WW W0 G 5 _ _ _ 11 [some (.ref l0), some (.int l1), some (.int l2), some (.int l3), some (.int l4)] [.int v3] h n _ _
  refine rr_i2l C dX11_overOf_11 ?_
  refine rr_aload_n (i := 0) C dX11_overOf_12 rfl rfl ?_
  refine rr_iload_n (i := 1) C dX11_overOf_13 rfl rfl ?_
  refine rr_iload_n (i := 2) C dX11_overOf_14 rfl rfl ?_
  refine rr_iload_n (i := 3) C dX11_overOf_15 rfl rfl ?_
  refine rr_iload C dX11_overOf_16 rfl ?_
  replace hr := Option.bind_eq_some_iff.mp hr
  obtain ⟨u5, e6, hr⟩ := hr
  replace hr := Option.bind_eq_some_iff.mp hr
  obtain ⟨v7, e8, hr⟩ := hr
  refine rr_callVq (as := [.int l1, .int l2, .int l3, .int l4]) (st := [.long (Int32.toInt64 v3)]) (mc' := 0) (ms' := 0) C dX11_overOf_18 iv_X11_482 (by decide) e6 rfl (Nat.le_of_ble_eq_true rfl) (c_X11_allowedOf l0 l1 l2 l3 l4 (by omega) e8) (fun v_ h_ n_ q_ => ?_)
  obtain ⟨q1_, q2_, q3_⟩ := q_
  subst v_; subst h_; subst n_
  show WW W0 G 5 _ _ _ 21 [some (.ref l0), some (.int l1), some (.int l2), some (.int l3), some (.int l4)] [.int v7.1, .long (Int32.toInt64 v3)] v7.2 n _ _
  refine rr_i2l C dX11_overOf_21 ?_
  refine rr_lsub C dX11_overOf_22 ?_
  obtain rfl := Option.some.inj hr
  exact rr_lret C dX11_overOf_23 rfl ⟨rfl, rfl, rfl⟩
def q_X11_shared (K : Nat) (h : mm_H) (n : Nat) (l0 : Nat) (l1 : Int32) (l2 : Int32) (l3 : Int32) (l4 : Int32) : Option (Int64 × mm_H) :=
  (ckq h n l0 10).bind fun u1 =>
  (q_X11_factBy K h n l0 l1 l3 (3 + l2) l4).bind fun v3 =>
  if v3 = (-1) then
    some (0, h)
  else
  (ckq h n l0 10).bind fun u5 =>
  (q_X11_overOf K h n l0 l1 l2 l3 l4).bind fun v7 =>
  (ckq v7.2 n l0 10).bind fun u10 =>
  (q_X11_bearsBy K v7.2 n l0 l1 l2 l3 v7.1).bind fun v12 =>
  some (v7.1 - v12.1, v12.2)
set_option maxRecDepth 100000 in
set_option maxHeartbeats 4000000 in
theorem c_X11_shared {K : Nat} {G : mm_G} {l : Launch} {h : mm_H} {n : Nat} (l0 : Nat) (l1 : Int32) (l2 : Int32) (l3 : Int32) (l4 : Int32) {r_ : Int64 × mm_H} (hn : 48 ≤ n) (hr : q_X11_shared K h n l0 l1 l2 l3 l4 = some r_) : Sp G l yX11_shared cX11_shared 7 (some .long) 52 0 0 [.ref l0, .int l1, .int l2, .int l3, .int l4] h n (fun v h' n' => v = some (.long r_.1) ∧ h' = r_.2 ∧ n' = n) := by
  refine Sp_of (by decide +kernel) (Nat.le_of_ble_eq_true rfl) hn ?_
  intro W0 hwl C
  subst hwl
  unfold q_X11_shared at hr
  show WW W0 G 7 0 0 _ 0 [some (.ref l0), some (.int l1), some (.int l2), some (.int l3), some (.int l4), none, none] [] h n 0 0
  refine rr_aload_n (i := 0) C dX11_shared_0 rfl rfl ?_
  refine rr_iload_n (i := 1) C dX11_shared_1 rfl rfl ?_
  refine rr_iload_n (i := 3) C dX11_shared_2 rfl rfl ?_
  refine rr_iconst (v := 3) C dX11_shared_3 (by decide) ?_
  refine rr_iload_n (i := 2) C dX11_shared_4 rfl rfl ?_
  refine rr_iadd C dX11_shared_5 ?_
  refine rr_iload C dX11_shared_6 rfl ?_
  replace hr := Option.bind_eq_some_iff.mp hr
  obtain ⟨u1, e2, hr⟩ := hr
  replace hr := Option.bind_eq_some_iff.mp hr
  obtain ⟨v3, e4, hr⟩ := hr
  refine rr_callVq (as := [.int l1, .int l3, .int (3 + l2), .int l4]) (st := []) (mc' := 0) (ms' := 0) C dX11_shared_8 iv_X11_198 (by decide) e2 rfl (Nat.le_of_ble_eq_true rfl) (c_X11_factBy l0 l1 l3 (3 + l2) l4 (by omega) e4) (fun v_ h_ n_ q_ => ?_)
  obtain ⟨q1_, q2_, q3_⟩ := q_
  subst v_; subst h_; subst n_
  show WW W0 G 7 _ _ _ 11 [some (.ref l0), some (.int l1), some (.int l2), some (.int l3), some (.int l4), none, none] [.int v3] h n _ _
  refine rr_iconst (v := (-1)) C dX11_shared_11 (by decide) ?_
  refine rr_icmp_ne (tgt := 17) C dX11_shared_12 (by decide) (fun c12_ => ?_) (fun c12_ => ?_)
  · replace hr := (if_neg c12_).symm.trans hr
    refine rr_aload_n (i := 0) C dX11_shared_17 rfl rfl ?_
    refine rr_iload_n (i := 1) C dX11_shared_18 rfl rfl ?_
    refine rr_iload_n (i := 2) C dX11_shared_19 rfl rfl ?_
    refine rr_iload_n (i := 3) C dX11_shared_20 rfl rfl ?_
    refine rr_iload C dX11_shared_21 rfl ?_
    replace hr := Option.bind_eq_some_iff.mp hr
    obtain ⟨u5, e6, hr⟩ := hr
    replace hr := Option.bind_eq_some_iff.mp hr
    obtain ⟨v7, e8, hr⟩ := hr
    refine rr_callVq (as := [.int l1, .int l2, .int l3, .int l4]) (st := []) (mc' := 0) (ms' := 0) C dX11_shared_23 iv_X11_492 (by decide) e6 rfl (Nat.le_of_ble_eq_true rfl) (c_X11_overOf l0 l1 l2 l3 l4 (by omega) e8) (fun v_ h_ n_ q_ => ?_)
    obtain ⟨q1_, q2_, q3_⟩ := q_
    subst v_; subst h_; subst n_
    show WW W0 G 7 _ _ _ 26 [some (.ref l0), some (.int l1), some (.int l2), some (.int l3), some (.int l4), none, none] [.long v7.1] v7.2 n _ _
    refine rr_lstore C dX11_shared_26 (by decide) ?_
    show WW W0 G 7 _ _ _ 28 [some (.ref l0), some (.int l1), some (.int l2), some (.int l3), some (.int l4), some (.long v7.1), none] [] v7.2 n _ _
    refine rr_lload C dX11_shared_28 rfl ?_
    refine rr_aload_n (i := 0) C dX11_shared_30 rfl rfl ?_
    refine rr_iload_n (i := 1) C dX11_shared_31 rfl rfl ?_
    refine rr_iload_n (i := 2) C dX11_shared_32 rfl rfl ?_
    refine rr_iload_n (i := 3) C dX11_shared_33 rfl rfl ?_
    refine rr_lload C dX11_shared_34 rfl ?_
    replace hr := Option.bind_eq_some_iff.mp hr
    obtain ⟨u10, e11, hr⟩ := hr
    replace hr := Option.bind_eq_some_iff.mp hr
    obtain ⟨v12, e13, hr⟩ := hr
    refine rr_callVq (as := [.int l1, .int l2, .int l3, .long v7.1]) (st := [.long v7.1]) (mc' := 0) (ms' := 0) C dX11_shared_36 iv_X11_496 (by decide) e11 rfl (Nat.le_of_ble_eq_true rfl) (c_X11_bearsBy l0 l1 l2 l3 v7.1 (by omega) e13) (fun v_ h_ n_ q_ => ?_)
    obtain ⟨q1_, q2_, q3_⟩ := q_
    subst v_; subst h_; subst n_
    show WW W0 G 7 _ _ _ 39 [some (.ref l0), some (.int l1), some (.int l2), some (.int l3), some (.int l4), some (.long v7.1), none] [.long v12.1, .long v7.1] v12.2 n _ _
    refine rr_lsub C dX11_shared_39 ?_
    obtain rfl := Option.some.inj hr
    exact rr_lret C dX11_shared_40 rfl ⟨rfl, rfl, rfl⟩
  · replace hr := (if_pos c12_).symm.trans hr
    refine rr_lconst (v := 0) C dX11_shared_15 (by decide) ?_
    obtain rfl := Option.some.inj hr
    exact rr_lret C dX11_shared_16 rfl ⟨rfl, rfl, rfl⟩

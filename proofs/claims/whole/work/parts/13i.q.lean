def lp_X11_blanks_0 (K : Nat) (n : Nat) (l0 : Nat) : Nat → mm_H → Option (mm_H)
  | 0, _ => none
  | k_ + 1, h =>
    (rdI h n l0 10 28).bind fun v1 =>
    (rdI h n l0 10 27).bind fun v3 =>
    if v3 ≤ v1 then
      some (h)
    else
    (rdR h n l0 10 53).bind fun v5 =>
    (rdI h n l0 10 28).bind fun v7 =>
    v5.bind fun a9 =>
    (ldB h n a9 v7).bind fun v11 =>
    if v11 = 32 then
      (rdI h n l0 10 28).bind fun v13 =>
      (wrF h n l0 10 28 (.int (v13 + 1))).bind fun h15 =>
      lp_X11_blanks_0 K n l0 k_  h15
    else
    (rdR h n l0 10 53).bind fun v17 =>
    (rdI h n l0 10 28).bind fun v19 =>
    v17.bind fun a21 =>
    (ldB h n a21 v19).bind fun v23 =>
    if v23 = 10 then
      (rdI h n l0 10 28).bind fun v25 =>
      (wrF h n l0 10 28 (.int (v25 + 1))).bind fun h27 =>
      lp_X11_blanks_0 K n l0 k_  h27
    else
    some (h)
def q_X11_blanks (K : Nat) (h : mm_H) (n : Nat) (l0 : Nat) : Option (mm_H) :=
  (lp_X11_blanks_0 K n l0 K  h).bind fun v29 =>
  some v29
set_option maxRecDepth 100000 in
set_option maxHeartbeats 4000000 in
theorem w_X11_blanks_0 {K : Nat} {W0 : mm_X} {G : mm_G} {mc ms kc ks : Nat} {Q_ : State → Prop} {n : Nat} (C : mm_C W0 G cX11_blanks yX11_blanks.cls 1 mc ms none 0 yX11_blanks.name) (hn : 48 ≤ n) (l0 : Nat) : ∀ (k_ : Nat)  (h : mm_H) {r_ : mm_H} (hr : lp_X11_blanks_0 K n l0 k_  h = some r_) (hx0 : WW W0 G 1 mc ms Q_ 52 [none] [] r_ n kc ks), WW W0 G 1 mc ms Q_ 0 [some (.ref l0)] [] h n kc ks := by
  intro k_
  induction k_ with
  | zero =>
    intro h r_ hr
    cases hr
  | succ k_ ih_ =>
    intro h r_ hr hx0
    unfold lp_X11_blanks_0 at hr
    refine rr_aload_n (i := 0) C dX11_blanks_0 rfl rfl ?_
    replace hr := Option.bind_eq_some_iff.mp hr
    obtain ⟨v1, e2, hr⟩ := hr
    refine rr_rdI C dX11_blanks_1 fl_X11_221 e2 ?_
    refine rr_aload_n (i := 0) C dX11_blanks_4 rfl rfl ?_
    replace hr := Option.bind_eq_some_iff.mp hr
    obtain ⟨v3, e4, hr⟩ := hr
    refine rr_rdI C dX11_blanks_5 fl_X11_224 e4 ?_
    refine rr_icmp_ge (tgt := 52) C dX11_blanks_8 (by decide) (fun c8_ => ?_) (fun c8_ => ?_)
    · replace hr := (if_pos c8_).symm.trans hr
      obtain rfl := Option.some.inj hr
      exact rr_keep [false] (hx0)
    · replace hr := (if_neg c8_).symm.trans hr
      refine rr_aload_n (i := 0) C dX11_blanks_11 rfl rfl ?_
      replace hr := Option.bind_eq_some_iff.mp hr
      obtain ⟨v5, e6, hr⟩ := hr
      refine rr_rdR C dX11_blanks_12 fl_X11_135 e6 ?_
      refine rr_aload_n (i := 0) C dX11_blanks_15 rfl rfl ?_
      replace hr := Option.bind_eq_some_iff.mp hr
      obtain ⟨v7, e8, hr⟩ := hr
      refine rr_rdI C dX11_blanks_16 fl_X11_221 e8 ?_
      replace hr := Option.bind_eq_some_iff.mp hr
      obtain ⟨a9, e10, hr⟩ := hr
      subst e10
      replace hr := Option.bind_eq_some_iff.mp hr
      obtain ⟨v11, e12, hr⟩ := hr
      refine rr_ldB C dX11_blanks_19 e12 ?_
      refine rr_bipush (v := 32) C dX11_blanks_20 (by decide) ?_
      refine rr_icmp_eq (tgt := 39) C dX11_blanks_22 (by decide) (fun c22_ => ?_) (fun c22_ => ?_)
      · replace hr := (if_pos c22_).symm.trans hr
        refine rr_aload_n (i := 0) C dX11_blanks_39 rfl rfl ?_
        refine rr_dup C dX11_blanks_40 rfl ?_
        replace hr := Option.bind_eq_some_iff.mp hr
        obtain ⟨v13, e14, hr⟩ := hr
        refine rr_rdI C dX11_blanks_41 fl_X11_221 e14 ?_
        refine rr_iconst (v := 1) C dX11_blanks_44 (by decide) ?_
        refine rr_iadd C dX11_blanks_45 ?_
        replace hr := Option.bind_eq_some_iff.mp hr
        obtain ⟨h15, e16, hr⟩ := hr
        refine rr_wrF C dX11_blanks_46 fp_X11_221 rfl rfl e16 ?_
        refine rr_goto (tgt := 0) C dX11_blanks_49 (by decide) ?_
        exact rr_keep [true] (ih_  _ hr hx0)
      · replace hr := (if_neg c22_).symm.trans hr
        refine rr_aload_n (i := 0) C dX11_blanks_25 rfl rfl ?_
        replace hr := Option.bind_eq_some_iff.mp hr
        obtain ⟨v17, e18, hr⟩ := hr
        refine rr_rdR C dX11_blanks_26 fl_X11_135 e18 ?_
        refine rr_aload_n (i := 0) C dX11_blanks_29 rfl rfl ?_
        replace hr := Option.bind_eq_some_iff.mp hr
        obtain ⟨v19, e20, hr⟩ := hr
        refine rr_rdI C dX11_blanks_30 fl_X11_221 e20 ?_
        replace hr := Option.bind_eq_some_iff.mp hr
        obtain ⟨a21, e22, hr⟩ := hr
        subst e22
        replace hr := Option.bind_eq_some_iff.mp hr
        obtain ⟨v23, e24, hr⟩ := hr
        refine rr_ldB C dX11_blanks_33 e24 ?_
        refine rr_bipush (v := 10) C dX11_blanks_34 (by decide) ?_
        refine rr_icmp_ne (tgt := 52) C dX11_blanks_36 (by decide) (fun c36_ => ?_) (fun c36_ => ?_)
        · replace hr := (if_neg c36_).symm.trans hr
          obtain rfl := Option.some.inj hr
          exact rr_keep [false] (hx0)
        · replace hr := (if_pos c36_).symm.trans hr
          refine rr_aload_n (i := 0) C dX11_blanks_39 rfl rfl ?_
          refine rr_dup C dX11_blanks_40 rfl ?_
          replace hr := Option.bind_eq_some_iff.mp hr
          obtain ⟨v25, e26, hr⟩ := hr
          refine rr_rdI C dX11_blanks_41 fl_X11_221 e26 ?_
          refine rr_iconst (v := 1) C dX11_blanks_44 (by decide) ?_
          refine rr_iadd C dX11_blanks_45 ?_
          replace hr := Option.bind_eq_some_iff.mp hr
          obtain ⟨h27, e28, hr⟩ := hr
          refine rr_wrF C dX11_blanks_46 fp_X11_221 rfl rfl e28 ?_
          refine rr_goto (tgt := 0) C dX11_blanks_49 (by decide) ?_
          exact rr_keep [true] (ih_  _ hr hx0)
set_option maxRecDepth 100000 in
set_option maxHeartbeats 4000000 in
theorem c_X11_blanks {K : Nat} {G : mm_G} {l : Launch} {h : mm_H} {n : Nat} (l0 : Nat) {r_ : mm_H} (hn : 48 ≤ n) (hr : q_X11_blanks K h n l0 = some r_) : Sp G l yX11_blanks cX11_blanks 1 none 0 0 0 [.ref l0] h n (fun v h' n' => v = none ∧ h' = r_ ∧ n' = n) := by
  refine Sp_of (by decide +kernel) (Nat.le_of_ble_eq_true rfl) hn ?_
  intro W0 hwl C
  subst hwl
  unfold q_X11_blanks at hr
  show WW W0 G 1 0 0 _ 0 [some (.ref l0)] [] h n 0 0
  replace hr := Option.bind_eq_some_iff.mp hr
  obtain ⟨v29, e30, hr⟩ := hr
  refine rr_keep [true] (w_X11_blanks_0 C (by omega) l0 K  h e30 ?_)
  show WW W0 G 1 _ _ _ 52 [none] [] v29 n _ _
  obtain rfl := Option.some.inj hr
  exact rr_vret C dX11_blanks_52 rfl ⟨rfl, rfl, rfl⟩
def lp_X11_word_14 (K : Nat) (n : Nat) (l0 : Nat) : Nat → Int64 → mm_H → Option (Int64 × mm_H)
  | 0, _, _ => none
  | k_ + 1, l1, h =>
    (rdI h n l0 10 54).bind fun v9 =>
    (rdI h n l0 10 27).bind fun v11 =>
    if v11 ≤ v9 then
      some (l1, h)
    else
    (rdR h n l0 10 53).bind fun v13 =>
    (rdI h n l0 10 54).bind fun v15 =>
    v13.bind fun a17 =>
    (ldB h n a17 v15).bind fun v19 =>
    if v19 < 97 then
      some (l1, h)
    else
    (rdR h n l0 10 53).bind fun v21 =>
    (rdI h n l0 10 54).bind fun v23 =>
    v21.bind fun a25 =>
    (ldB h n a25 v23).bind fun v27 =>
    if 122 < v27 then
      some (l1, h)
    else
    (rdI h n l0 10 54).bind fun v29 =>
    (rdI h n l0 10 28).bind fun v31 =>
    if 7 ≤ (v29 - v31) then
      (rdI h n l0 10 54).bind fun v33 =>
      (wrF h n l0 10 54 (.int (v33 + 1))).bind fun h35 =>
      lp_X11_word_14 K n l0 k_ 0 h35
    else
    (rdR h n l0 10 53).bind fun v37 =>
    (rdI h n l0 10 54).bind fun v39 =>
    v37.bind fun a41 =>
    (ldB h n a41 v39).bind fun v43 =>
    (rdI h n l0 10 54).bind fun v46 =>
    (wrF h n l0 10 54 (.int (v46 + 1))).bind fun h48 =>
    lp_X11_word_14 K n l0 k_ ((l1 <<< ((Int32.toInt64 8) &&& 63)) ||| (Int32.toInt64 v43)) h48
def q_X11_word (K : Nat) (h : mm_H) (n : Nat) (l0 : Nat) : Option (Int64 × mm_H) :=
  (ckq h n l0 10).bind fun u1 =>
  (q_X11_blanks K h n l0).bind fun v3 =>
  (rdI v3 n l0 10 28).bind fun v5 =>
  (wrF v3 n l0 10 54 (.int v5)).bind fun h7 =>
  (lp_X11_word_14 K n l0 K 0 h7).bind fun v50 =>
  (rdI v50.2 n l0 10 54).bind fun v52 =>
  (rdI v50.2 n l0 10 28).bind fun v54 =>
  if (v52 - v54) ≤ 7 then
    some (v50.1, v50.2)
  else
  some (0, v50.2)
set_option maxRecDepth 100000 in
set_option maxHeartbeats 4000000 in
theorem w_X11_word_14 {K : Nat} {W0 : mm_X} {G : mm_G} {mc ms kc ks : Nat} {Q_ : State → Prop} {n : Nat} (C : mm_C W0 G cX11_word yX11_word.cls 3 mc ms (some .long) 1 yX11_word.name) (hn : 48 ≤ n) (l0 : Nat) : ∀ (k_ : Nat) (l1 : Int64) (h : mm_H) {r_ : Int64 × mm_H} (hr : lp_X11_word_14 K n l0 k_ l1 h = some r_) (hx0 : WW W0 G 3 mc ms Q_ 100 [some (.ref l0), some (.long r_.1), none] [] r_.2 n kc ks), WW W0 G 3 mc ms Q_ 14 [some (.ref l0), some (.long l1), none] [] h n kc ks := by
  intro k_
  induction k_ with
  | zero =>
    intro l1 h r_ hr
    cases hr
  | succ k_ ih_ =>
    intro l1 h r_ hr hx0
    unfold lp_X11_word_14 at hr
    refine rr_aload_n (i := 0) C dX11_word_14 rfl rfl ?_
    replace hr := Option.bind_eq_some_iff.mp hr
    obtain ⟨v9, e10, hr⟩ := hr
    refine rr_rdI C dX11_word_15 fl_X11_230 e10 ?_
    refine rr_aload_n (i := 0) C dX11_word_18 rfl rfl ?_
    replace hr := Option.bind_eq_some_iff.mp hr
    obtain ⟨v11, e12, hr⟩ := hr
    refine rr_rdI C dX11_word_19 fl_X11_224 e12 ?_
    refine rr_icmp_ge (tgt := 100) C dX11_word_22 (by decide) (fun c22_ => ?_) (fun c22_ => ?_)
    · replace hr := (if_pos c22_).symm.trans hr
      obtain rfl := Option.some.inj hr
      exact rr_keep [true, true, false] (hx0)
    · replace hr := (if_neg c22_).symm.trans hr
      refine rr_aload_n (i := 0) C dX11_word_25 rfl rfl ?_
      replace hr := Option.bind_eq_some_iff.mp hr
      obtain ⟨v13, e14, hr⟩ := hr
      refine rr_rdR C dX11_word_26 fl_X11_135 e14 ?_
      refine rr_aload_n (i := 0) C dX11_word_29 rfl rfl ?_
      replace hr := Option.bind_eq_some_iff.mp hr
      obtain ⟨v15, e16, hr⟩ := hr
      refine rr_rdI C dX11_word_30 fl_X11_230 e16 ?_
      replace hr := Option.bind_eq_some_iff.mp hr
      obtain ⟨a17, e18, hr⟩ := hr
      subst e18
      replace hr := Option.bind_eq_some_iff.mp hr
      obtain ⟨v19, e20, hr⟩ := hr
      refine rr_ldB C dX11_word_33 e20 ?_
      refine rr_bipush (v := 97) C dX11_word_34 (by decide) ?_
      refine rr_icmp_lt (tgt := 100) C dX11_word_36 (by decide) (fun c36_ => ?_) (fun c36_ => ?_)
      · replace hr := (if_pos c36_).symm.trans hr
        obtain rfl := Option.some.inj hr
        exact rr_keep [true, true, false] (hx0)
      · replace hr := (if_neg c36_).symm.trans hr
        refine rr_aload_n (i := 0) C dX11_word_39 rfl rfl ?_
        replace hr := Option.bind_eq_some_iff.mp hr
        obtain ⟨v21, e22, hr⟩ := hr
        refine rr_rdR C dX11_word_40 fl_X11_135 e22 ?_
        refine rr_aload_n (i := 0) C dX11_word_43 rfl rfl ?_
        replace hr := Option.bind_eq_some_iff.mp hr
        obtain ⟨v23, e24, hr⟩ := hr
        refine rr_rdI C dX11_word_44 fl_X11_230 e24 ?_
        replace hr := Option.bind_eq_some_iff.mp hr
        obtain ⟨a25, e26, hr⟩ := hr
        subst e26
        replace hr := Option.bind_eq_some_iff.mp hr
        obtain ⟨v27, e28, hr⟩ := hr
        refine rr_ldB C dX11_word_47 e28 ?_
        refine rr_bipush (v := 122) C dX11_word_48 (by decide) ?_
        refine rr_icmp_gt (tgt := 100) C dX11_word_50 (by decide) (fun c50_ => ?_) (fun c50_ => ?_)
        · replace hr := (if_pos c50_).symm.trans hr
          obtain rfl := Option.some.inj hr
          exact rr_keep [true, true, false] (hx0)
        · replace hr := (if_neg c50_).symm.trans hr
          refine rr_aload_n (i := 0) C dX11_word_53 rfl rfl ?_
          replace hr := Option.bind_eq_some_iff.mp hr
          obtain ⟨v29, e30, hr⟩ := hr
          refine rr_rdI C dX11_word_54 fl_X11_230 e30 ?_
          refine rr_aload_n (i := 0) C dX11_word_57 rfl rfl ?_
          replace hr := Option.bind_eq_some_iff.mp hr
          obtain ⟨v31, e32, hr⟩ := hr
          refine rr_rdI C dX11_word_58 fl_X11_221 e32 ?_
          refine rr_isub C dX11_word_61 ?_
          refine rr_bipush (v := 7) C dX11_word_62 (by decide) ?_
          refine rr_icmp_ge (tgt := 85) C dX11_word_64 (by decide) (fun c64_ => ?_) (fun c64_ => ?_)
          · replace hr := (if_pos c64_).symm.trans hr
            refine rr_lconst (v := 0) C dX11_word_85 (by decide) ?_
            refine rr_lstore_n (i := 1) C dX11_word_86 rfl (by decide) ?_
            show WW W0 G 3 _ _ _ 87 [some (.ref l0), some (.long 0), none] [] h n _ _
            refine rr_aload_n (i := 0) C dX11_word_87 rfl rfl ?_
            refine rr_dup C dX11_word_88 rfl ?_
            replace hr := Option.bind_eq_some_iff.mp hr
            obtain ⟨v33, e34, hr⟩ := hr
            refine rr_rdI C dX11_word_89 fl_X11_230 e34 ?_
            refine rr_iconst (v := 1) C dX11_word_92 (by decide) ?_
            refine rr_iadd C dX11_word_93 ?_
            replace hr := Option.bind_eq_some_iff.mp hr
            obtain ⟨h35, e36, hr⟩ := hr
            refine rr_wrF C dX11_word_94 fp_X11_230 rfl rfl e36 ?_
            refine rr_goto (tgt := 14) C dX11_word_97 (by decide) ?_
            exact rr_keep [true, true, false] (ih_ _ _ hr hx0)
          · replace hr := (if_neg c64_).symm.trans hr
            refine rr_lload_n (i := 1) C dX11_word_67 rfl rfl ?_
            refine rr_bipush (v := 8) C dX11_word_68 (by decide) ?_
            refine rr_lshl C dX11_word_70 ?_
            refine rr_aload_n (i := 0) C dX11_word_71 rfl rfl ?_
            replace hr := Option.bind_eq_some_iff.mp hr
            obtain ⟨v37, e38, hr⟩ := hr
            refine rr_rdR C dX11_word_72 fl_X11_135 e38 ?_
            refine rr_aload_n (i := 0) C dX11_word_75 rfl rfl ?_
            replace hr := Option.bind_eq_some_iff.mp hr
            obtain ⟨v39, e40, hr⟩ := hr
            refine rr_rdI C dX11_word_76 fl_X11_230 e40 ?_
            replace hr := Option.bind_eq_some_iff.mp hr
            obtain ⟨a41, e42, hr⟩ := hr
            subst e42
            replace hr := Option.bind_eq_some_iff.mp hr
            obtain ⟨v43, e44, hr⟩ := hr
            refine rr_ldB C dX11_word_79 e44 ?_
            refine rr_i2l C dX11_word_80 ?_
            refine rr_lor C dX11_word_81 ?_
            refine rr_goto (tgt := 86) C dX11_word_82 (by decide) ?_
            refine rr_lstore_n (i := 1) C dX11_word_86 rfl (by decide) ?_
            show WW W0 G 3 _ _ _ 87 [some (.ref l0), some (.long ((l1 <<< ((Int32.toInt64 8) &&& 63)) ||| (Int32.toInt64 v43))), none] [] h n _ _
            refine rr_aload_n (i := 0) C dX11_word_87 rfl rfl ?_
            refine rr_dup C dX11_word_88 rfl ?_
            replace hr := Option.bind_eq_some_iff.mp hr
            obtain ⟨v46, e47, hr⟩ := hr
            refine rr_rdI C dX11_word_89 fl_X11_230 e47 ?_
            refine rr_iconst (v := 1) C dX11_word_92 (by decide) ?_
            refine rr_iadd C dX11_word_93 ?_
            replace hr := Option.bind_eq_some_iff.mp hr
            obtain ⟨h48, e49, hr⟩ := hr
            refine rr_wrF C dX11_word_94 fp_X11_230 rfl rfl e49 ?_
            refine rr_goto (tgt := 14) C dX11_word_97 (by decide) ?_
            exact rr_keep [true, true, false] (ih_ _ _ hr hx0)
set_option maxRecDepth 100000 in
set_option maxHeartbeats 4000000 in
theorem c_X11_word {K : Nat} {G : mm_G} {l : Launch} {h : mm_H} {n : Nat} (l0 : Nat) {r_ : Int64 × mm_H} (hn : 48 ≤ n) (hr : q_X11_word K h n l0 = some r_) : Sp G l yX11_word cX11_word 3 (some .long) 1 0 0 [.ref l0] h n (fun v h' n' => v = some (.long r_.1) ∧ h' = r_.2 ∧ n' = n) := by
  refine Sp_of (by decide +kernel) (Nat.le_of_ble_eq_true rfl) hn ?_
  intro W0 hwl C
  subst hwl
  unfold q_X11_word at hr
  show WW W0 G 3 0 0 _ 0 [some (.ref l0), none, none] [] h n 0 0
  refine rr_aload_n (i := 0) C dX11_word_0 rfl rfl ?_
  replace hr := Option.bind_eq_some_iff.mp hr
  obtain ⟨u1, e2, hr⟩ := hr
  replace hr := Option.bind_eq_some_iff.mp hr
  obtain ⟨v3, e4, hr⟩ := hr
  refine rr_callVq (as := []) (st := []) (mc' := 0) (ms' := 0) C dX11_word_1 iv_X11_227 (by decide) e2 rfl (Nat.le_of_ble_eq_true rfl) (c_X11_blanks l0 (by omega) e4) (fun v_ h_ n_ q_ => ?_)
  obtain ⟨q1_, q2_, q3_⟩ := q_
  subst v_; subst h_; subst n_
  show WW W0 G 3 _ _ _ 4 [some (.ref l0), none, none] [] v3 n _ _
  refine rr_aload_n (i := 0) C dX11_word_4 rfl rfl ?_
  refine rr_aload_n (i := 0) C dX11_word_5 rfl rfl ?_
  replace hr := Option.bind_eq_some_iff.mp hr
  obtain ⟨v5, e6, hr⟩ := hr
  refine rr_rdI C dX11_word_6 fl_X11_221 e6 ?_
  replace hr := Option.bind_eq_some_iff.mp hr
  obtain ⟨h7, e8, hr⟩ := hr
  refine rr_wrF C dX11_word_9 fp_X11_230 rfl rfl e8 ?_
  refine rr_lconst (v := 0) C dX11_word_12 (by decide) ?_
  refine rr_lstore_n (i := 1) C dX11_word_13 rfl (by decide) ?_
  show WW W0 G 3 _ _ _ 14 [some (.ref l0), some (.long 0), none] [] h7 n _ _
  replace hr := Option.bind_eq_some_iff.mp hr
  obtain ⟨v50, e51, hr⟩ := hr
  refine rr_keep [true, true, false] (w_X11_word_14 C (by omega) l0 K 0 h7 e51 ?_)
  show WW W0 G 3 _ _ _ 100 [some (.ref l0), some (.long v50.1), none] [] v50.2 n _ _
  refine rr_aload_n (i := 0) C dX11_word_100 rfl rfl ?_
  replace hr := Option.bind_eq_some_iff.mp hr
  obtain ⟨v52, e53, hr⟩ := hr
  refine rr_rdI C dX11_word_101 fl_X11_230 e53 ?_
  refine rr_aload_n (i := 0) C dX11_word_104 rfl rfl ?_
  replace hr := Option.bind_eq_some_iff.mp hr
  obtain ⟨v54, e55, hr⟩ := hr
  refine rr_rdI C dX11_word_105 fl_X11_221 e55 ?_
  refine rr_isub C dX11_word_108 ?_
  refine rr_bipush (v := 7) C dX11_word_109 (by decide) ?_
  refine rr_icmp_le (tgt := 118) C dX11_word_111 (by decide) (fun c111_ => ?_) (fun c111_ => ?_)
  · replace hr := (if_pos c111_).symm.trans hr
    refine rr_lload_n (i := 1) C dX11_word_118 rfl rfl ?_
    obtain rfl := Option.some.inj hr
    exact rr_lret C dX11_word_119 rfl ⟨rfl, rfl, rfl⟩
  · replace hr := (if_neg c111_).symm.trans hr
    refine rr_lconst (v := 0) C dX11_word_114 (by decide) ?_
    refine rr_goto (tgt := 119) C dX11_word_115 (by decide) ?_
    obtain rfl := Option.some.inj hr
    exact rr_lret C dX11_word_119 rfl ⟨rfl, rfl, rfl⟩
def q_X11_takes (K : Nat) (h : mm_H) (n : Nat) (l0 : Nat) (l1 : Int64) : Option (Int32 × mm_H) :=
  (ckq h n l0 10).bind fun u1 =>
  (q_X11_word K h n l0).bind fun v3 =>
  if (lg_cmp v3.1 l1) = 0 then
    (rdI v3.2 n l0 10 54).bind fun v5 =>
    (wrF v3.2 n l0 10 28 (.int v5)).bind fun h7 =>
    some (1, h7)
  else
  some (0, v3.2)
set_option maxRecDepth 100000 in
set_option maxHeartbeats 4000000 in
theorem c_X11_takes {K : Nat} {G : mm_G} {l : Launch} {h : mm_H} {n : Nat} (l0 : Nat) (l1 : Int64) {r_ : Int32 × mm_H} (hn : 48 ≤ n) (hr : q_X11_takes K h n l0 l1 = some r_) : Sp G l yX11_takes cX11_takes 3 (some .boolean) 2 0 0 [.ref l0, .long l1] h n (fun v h' n' => v = some (.int r_.1) ∧ h' = r_.2 ∧ n' = n) := by
  refine Sp_of (by decide +kernel) (Nat.le_of_ble_eq_true rfl) hn ?_
  intro W0 hwl C
  subst hwl
  unfold q_X11_takes at hr
  show WW W0 G 3 0 0 _ 0 [some (.ref l0), some (.long l1), none] [] h n 0 0
  refine rr_aload_n (i := 0) C dX11_takes_0 rfl rfl ?_
  replace hr := Option.bind_eq_some_iff.mp hr
  obtain ⟨u1, e2, hr⟩ := hr
  replace hr := Option.bind_eq_some_iff.mp hr
  obtain ⟨v3, e4, hr⟩ := hr
  refine rr_callVq (as := []) (st := []) (mc' := 0) (ms' := 0) C dX11_takes_1 iv_X11_233 (by decide) e2 rfl (Nat.le_of_ble_eq_true rfl) (c_X11_word l0 (by omega) e4) (fun v_ h_ n_ q_ => ?_)
  obtain ⟨q1_, q2_, q3_⟩ := q_
  subst v_; subst h_; subst n_
  show WW W0 G 3 _ _ _ 4 [some (.ref l0), some (.long l1), none] [.long v3.1] v3.2 n _ _
  refine rr_lload_n (i := 1) C dX11_takes_4 rfl rfl ?_
  refine rr_lcmp C dX11_takes_5 ?_
  refine rr_if_eq (tgt := 11) C dX11_takes_6 (by decide) (fun c6_ => ?_) (fun c6_ => ?_)
  · replace hr := (if_pos c6_).symm.trans hr
    refine rr_aload_n (i := 0) C dX11_takes_11 rfl rfl ?_
    refine rr_aload_n (i := 0) C dX11_takes_12 rfl rfl ?_
    replace hr := Option.bind_eq_some_iff.mp hr
    obtain ⟨v5, e6, hr⟩ := hr
    refine rr_rdI C dX11_takes_13 fl_X11_230 e6 ?_
    replace hr := Option.bind_eq_some_iff.mp hr
    obtain ⟨h7, e8, hr⟩ := hr
    refine rr_wrF C dX11_takes_16 fp_X11_221 rfl rfl e8 ?_
    refine rr_iconst (v := 1) C dX11_takes_19 (by decide) ?_
    obtain rfl := Option.some.inj hr
    exact rr_iret (ty := .boolean) C dX11_takes_20 rfl rfl ⟨rfl, rfl, rfl⟩
  · replace hr := (if_neg c6_).symm.trans hr
    refine rr_iconst (v := 0) C dX11_takes_9 (by decide) ?_
    obtain rfl := Option.some.inj hr
    exact rr_iret (ty := .boolean) C dX11_takes_10 rfl rfl ⟨rfl, rfl, rfl⟩
def q_X11_takesSign (K : Nat) (h : mm_H) (n : Nat) (l0 : Nat) (l1 : Int32) : Option (Int32 × mm_H) :=
  (ckq h n l0 10).bind fun u1 =>
  (q_X11_blanks K h n l0).bind fun v3 =>
  (rdI v3 n l0 10 28).bind fun v5 =>
  (rdI v3 n l0 10 27).bind fun v7 =>
  if v5 = v7 then
    some (0, v3)
  else
  (rdR v3 n l0 10 53).bind fun v9 =>
  (rdI v3 n l0 10 28).bind fun v11 =>
  v9.bind fun a13 =>
  (ldB v3 n a13 v11).bind fun v15 =>
  if v15 = l1 then
    (rdI v3 n l0 10 28).bind fun v17 =>
    (wrF v3 n l0 10 28 (.int (v17 + 1))).bind fun h19 =>
    some (1, h19)
  else
  some (0, v3)
set_option maxRecDepth 100000 in
set_option maxHeartbeats 4000000 in
theorem c_X11_takesSign {K : Nat} {G : mm_G} {l : Launch} {h : mm_H} {n : Nat} (l0 : Nat) (l1 : Int32) {r_ : Int32 × mm_H} (hn : 48 ≤ n) (hr : q_X11_takesSign K h n l0 l1 = some r_) : Sp G l yX11_takesSign cX11_takesSign 2 (some .boolean) 1 0 0 [.ref l0, .int l1] h n (fun v h' n' => v = some (.int r_.1) ∧ h' = r_.2 ∧ n' = n) := by
  refine Sp_of (by decide +kernel) (Nat.le_of_ble_eq_true rfl) hn ?_
  intro W0 hwl C
  subst hwl
  unfold q_X11_takesSign at hr
  show WW W0 G 2 0 0 _ 0 [some (.ref l0), some (.int l1)] [] h n 0 0
  refine rr_aload_n (i := 0) C dX11_takesSign_0 rfl rfl ?_
  replace hr := Option.bind_eq_some_iff.mp hr
  obtain ⟨u1, e2, hr⟩ := hr
  replace hr := Option.bind_eq_some_iff.mp hr
  obtain ⟨v3, e4, hr⟩ := hr
  refine rr_callVq (as := []) (st := []) (mc' := 0) (ms' := 0) C dX11_takesSign_1 iv_X11_227 (by decide) e2 rfl (Nat.le_of_ble_eq_true rfl) (c_X11_blanks l0 (by omega) e4) (fun v_ h_ n_ q_ => ?_)
  obtain ⟨q1_, q2_, q3_⟩ := q_
  subst v_; subst h_; subst n_
  show WW W0 G 2 _ _ _ 4 [some (.ref l0), some (.int l1)] [] v3 n _ _
  refine rr_aload_n (i := 0) C dX11_takesSign_4 rfl rfl ?_
  replace hr := Option.bind_eq_some_iff.mp hr
  obtain ⟨v5, e6, hr⟩ := hr
  refine rr_rdI C dX11_takesSign_5 fl_X11_221 e6 ?_
  refine rr_aload_n (i := 0) C dX11_takesSign_8 rfl rfl ?_
  replace hr := Option.bind_eq_some_iff.mp hr
  obtain ⟨v7, e8, hr⟩ := hr
  refine rr_rdI C dX11_takesSign_9 fl_X11_224 e8 ?_
  refine rr_icmp_eq (tgt := 28) C dX11_takesSign_12 (by decide) (fun c12_ => ?_) (fun c12_ => ?_)
  · replace hr := (if_pos c12_).symm.trans hr
    refine rr_iconst (v := 0) C dX11_takesSign_28 (by decide) ?_
    obtain rfl := Option.some.inj hr
    exact rr_iret (ty := .boolean) C dX11_takesSign_29 rfl rfl ⟨rfl, rfl, rfl⟩
  · replace hr := (if_neg c12_).symm.trans hr
    refine rr_aload_n (i := 0) C dX11_takesSign_15 rfl rfl ?_
    replace hr := Option.bind_eq_some_iff.mp hr
    obtain ⟨v9, e10, hr⟩ := hr
    refine rr_rdR C dX11_takesSign_16 fl_X11_135 e10 ?_
    refine rr_aload_n (i := 0) C dX11_takesSign_19 rfl rfl ?_
    replace hr := Option.bind_eq_some_iff.mp hr
    obtain ⟨v11, e12, hr⟩ := hr
    refine rr_rdI C dX11_takesSign_20 fl_X11_221 e12 ?_
    replace hr := Option.bind_eq_some_iff.mp hr
    obtain ⟨a13, e14, hr⟩ := hr
    subst e14
    replace hr := Option.bind_eq_some_iff.mp hr
    obtain ⟨v15, e16, hr⟩ := hr
    refine rr_ldB C dX11_takesSign_23 e16 ?_
    refine rr_iload_n (i := 1) C dX11_takesSign_24 rfl rfl ?_
    refine rr_icmp_eq (tgt := 30) C dX11_takesSign_25 (by decide) (fun c25_ => ?_) (fun c25_ => ?_)
    · replace hr := (if_pos c25_).symm.trans hr
      refine rr_aload_n (i := 0) C dX11_takesSign_30 rfl rfl ?_
      refine rr_dup C dX11_takesSign_31 rfl ?_
      replace hr := Option.bind_eq_some_iff.mp hr
      obtain ⟨v17, e18, hr⟩ := hr
      refine rr_rdI C dX11_takesSign_32 fl_X11_221 e18 ?_
      refine rr_iconst (v := 1) C dX11_takesSign_35 (by decide) ?_
      refine rr_iadd C dX11_takesSign_36 ?_
      replace hr := Option.bind_eq_some_iff.mp hr
      obtain ⟨h19, e20, hr⟩ := hr
      refine rr_wrF C dX11_takesSign_37 fp_X11_221 rfl rfl e20 ?_
      refine rr_iconst (v := 1) C dX11_takesSign_40 (by decide) ?_
      obtain rfl := Option.some.inj hr
      exact rr_iret (ty := .boolean) C dX11_takesSign_41 rfl rfl ⟨rfl, rfl, rfl⟩
    · replace hr := (if_neg c25_).symm.trans hr
      refine rr_iconst (v := 0) C dX11_takesSign_28 (by decide) ?_
      obtain rfl := Option.some.inj hr
      exact rr_iret (ty := .boolean) C dX11_takesSign_29 rfl rfl ⟨rfl, rfl, rfl⟩
def lp_X11_takesNumber_14 (K : Nat) (n : Nat) (l0 : Nat) (l1 : Int32) (l2 : Int32) : Nat → Int32 → mm_H → Option (Int32 × mm_H)
  | 0, _, _ => none
  | k_ + 1, l3, h =>
    (rdI h n l0 10 27).bind fun v9 =>
    if v9 ≤ l3 then
      some (l3, h)
    else
    (rdR h n l0 10 53).bind fun v11 =>
    v11.bind fun a13 =>
    (ldB h n a13 l3).bind fun v15 =>
    if v15 < 48 then
      some (l3, h)
    else
    (rdR h n l0 10 53).bind fun v17 =>
    v17.bind fun a19 =>
    (ldB h n a19 l3).bind fun v21 =>
    if 57 < v21 then
      some (l3, h)
    else
    (rdI h n l0 10 28).bind fun v23 =>
    if 5 ≤ (l3 - v23) then
      lp_X11_takesNumber_14 K n l0 l1 l2 k_ (l3 + 1) h
    else
    (rdI h n l0 10 55).bind fun v25 =>
    (rdR h n l0 10 53).bind fun v27 =>
    v27.bind fun a29 =>
    (ldB h n a29 l3).bind fun v31 =>
    (wrF h n l0 10 55 (.int (((10 * v25) + v31) - 48))).bind fun h33 =>
    lp_X11_takesNumber_14 K n l0 l1 l2 k_ (l3 + 1) h33
def q_X11_takesNumber (K : Nat) (h : mm_H) (n : Nat) (l0 : Nat) (l1 : Int32) (l2 : Int32) : Option (Int32 × mm_H) :=
  (ckq h n l0 10).bind fun u1 =>
  (q_X11_blanks K h n l0).bind fun v3 =>
  (rdI v3 n l0 10 28).bind fun v5 =>
  (wrF v3 n l0 10 55 (.int 0)).bind fun h7 =>
  (lp_X11_takesNumber_14 K n l0 l1 l2 K v5 h7).bind fun v35 =>
  (rdI v35.2 n l0 10 28).bind fun v37 =>
  if v35.1 = v37 then
    some (0, v35.2)
  else
  (rdI v35.2 n l0 10 28).bind fun v39 =>
  if 5 < (v35.1 - v39) then
    some (0, v35.2)
  else
  (rdI v35.2 n l0 10 55).bind fun v41 =>
  (q_X11_isIn K v35.2 n v41 l1 l2).bind fun v43 =>
  if v43 = 0 then
    some (0, v35.2)
  else
  (wrF v35.2 n l0 10 28 (.int v35.1)).bind fun h45 =>
  some (1, h45)
set_option maxRecDepth 100000 in
set_option maxHeartbeats 4000000 in
theorem w_X11_takesNumber_14 {K : Nat} {W0 : mm_X} {G : mm_G} {mc ms kc ks : Nat} {Q_ : State → Prop} {n : Nat} (C : mm_C W0 G cX11_takesNumber yX11_takesNumber.cls 4 mc ms (some .boolean) 1 yX11_takesNumber.name) (hn : 48 ≤ n) (l0 : Nat) (l1 : Int32) (l2 : Int32) : ∀ (k_ : Nat) (l3 : Int32) (h : mm_H) {r_ : Int32 × mm_H} (hr : lp_X11_takesNumber_14 K n l0 l1 l2 k_ l3 h = some r_) (hx0 : WW W0 G 4 mc ms Q_ 81 [some (.ref l0), some (.int l1), some (.int l2), some (.int r_.1)] [] r_.2 n kc ks), WW W0 G 4 mc ms Q_ 14 [some (.ref l0), some (.int l1), some (.int l2), some (.int l3)] [] h n kc ks := by
  intro k_
  induction k_ with
  | zero =>
    intro l3 h r_ hr
    cases hr
  | succ k_ ih_ =>
    intro l3 h r_ hr hx0
    unfold lp_X11_takesNumber_14 at hr
    refine rr_iload_n (i := 3) C dX11_takesNumber_14 rfl rfl ?_
    refine rr_aload_n (i := 0) C dX11_takesNumber_15 rfl rfl ?_
    replace hr := Option.bind_eq_some_iff.mp hr
    obtain ⟨v9, e10, hr⟩ := hr
    refine rr_rdI C dX11_takesNumber_16 fl_X11_224 e10 ?_
    refine rr_icmp_ge (tgt := 81) C dX11_takesNumber_19 (by decide) (fun c19_ => ?_) (fun c19_ => ?_)
    · replace hr := (if_pos c19_).symm.trans hr
      obtain rfl := Option.some.inj hr
      exact rr_keep [true, true, true, true] (hx0)
    · replace hr := (if_neg c19_).symm.trans hr
      refine rr_aload_n (i := 0) C dX11_takesNumber_22 rfl rfl ?_
      replace hr := Option.bind_eq_some_iff.mp hr
      obtain ⟨v11, e12, hr⟩ := hr
      refine rr_rdR C dX11_takesNumber_23 fl_X11_135 e12 ?_
      refine rr_iload_n (i := 3) C dX11_takesNumber_26 rfl rfl ?_
      replace hr := Option.bind_eq_some_iff.mp hr
      obtain ⟨a13, e14, hr⟩ := hr
      subst e14
      replace hr := Option.bind_eq_some_iff.mp hr
      obtain ⟨v15, e16, hr⟩ := hr
      refine rr_ldB C dX11_takesNumber_27 e16 ?_
      refine rr_bipush (v := 48) C dX11_takesNumber_28 (by decide) ?_
      refine rr_icmp_lt (tgt := 81) C dX11_takesNumber_30 (by decide) (fun c30_ => ?_) (fun c30_ => ?_)
      · replace hr := (if_pos c30_).symm.trans hr
        obtain rfl := Option.some.inj hr
        exact rr_keep [true, true, true, true] (hx0)
      · replace hr := (if_neg c30_).symm.trans hr
        refine rr_aload_n (i := 0) C dX11_takesNumber_33 rfl rfl ?_
        replace hr := Option.bind_eq_some_iff.mp hr
        obtain ⟨v17, e18, hr⟩ := hr
        refine rr_rdR C dX11_takesNumber_34 fl_X11_135 e18 ?_
        refine rr_iload_n (i := 3) C dX11_takesNumber_37 rfl rfl ?_
        replace hr := Option.bind_eq_some_iff.mp hr
        obtain ⟨a19, e20, hr⟩ := hr
        subst e20
        replace hr := Option.bind_eq_some_iff.mp hr
        obtain ⟨v21, e22, hr⟩ := hr
        refine rr_ldB C dX11_takesNumber_38 e22 ?_
        refine rr_bipush (v := 57) C dX11_takesNumber_39 (by decide) ?_
        refine rr_icmp_gt (tgt := 81) C dX11_takesNumber_41 (by decide) (fun c41_ => ?_) (fun c41_ => ?_)
        · replace hr := (if_pos c41_).symm.trans hr
          obtain rfl := Option.some.inj hr
          exact rr_keep [true, true, true, true] (hx0)
        · replace hr := (if_neg c41_).symm.trans hr
          refine rr_iload_n (i := 3) C dX11_takesNumber_44 rfl rfl ?_
          refine rr_aload_n (i := 0) C dX11_takesNumber_45 rfl rfl ?_
          replace hr := Option.bind_eq_some_iff.mp hr
          obtain ⟨v23, e24, hr⟩ := hr
          refine rr_rdI C dX11_takesNumber_46 fl_X11_221 e24 ?_
          refine rr_isub C dX11_takesNumber_49 ?_
          refine rr_iconst (v := 5) C dX11_takesNumber_50 (by decide) ?_
          refine rr_icmp_ge (tgt := 75) C dX11_takesNumber_51 (by decide) (fun c51_ => ?_) (fun c51_ => ?_)
          · replace hr := (if_pos c51_).symm.trans hr
            refine rr_iinc (v := l3 + 1) C dX11_takesNumber_75 rfl rfl ?_
            show WW W0 G 4 _ _ _ 78 [some (.ref l0), some (.int l1), some (.int l2), some (.int (l3 + 1))] [] h n _ _
            refine rr_goto (tgt := 14) C dX11_takesNumber_78 (by decide) ?_
            exact rr_keep [true, true, true, true] (ih_ _ _ hr hx0)
          · replace hr := (if_neg c51_).symm.trans hr
            refine rr_aload_n (i := 0) C dX11_takesNumber_54 rfl rfl ?_
            refine rr_bipush (v := 10) C dX11_takesNumber_55 (by decide) ?_
            refine rr_aload_n (i := 0) C dX11_takesNumber_57 rfl rfl ?_
            replace hr := Option.bind_eq_some_iff.mp hr
            obtain ⟨v25, e26, hr⟩ := hr
            refine rr_rdI C dX11_takesNumber_58 fl_X11_237 e26 ?_
            refine rr_imul C dX11_takesNumber_61 ?_
            refine rr_aload_n (i := 0) C dX11_takesNumber_62 rfl rfl ?_
            replace hr := Option.bind_eq_some_iff.mp hr
            obtain ⟨v27, e28, hr⟩ := hr
            refine rr_rdR C dX11_takesNumber_63 fl_X11_135 e28 ?_
            refine rr_iload_n (i := 3) C dX11_takesNumber_66 rfl rfl ?_
            replace hr := Option.bind_eq_some_iff.mp hr
            obtain ⟨a29, e30, hr⟩ := hr
            subst e30
            replace hr := Option.bind_eq_some_iff.mp hr
            obtain ⟨v31, e32, hr⟩ := hr
            refine rr_ldB C dX11_takesNumber_67 e32 ?_
            refine rr_iadd C dX11_takesNumber_68 ?_
            refine rr_bipush (v := 48) C dX11_takesNumber_69 (by decide) ?_
            refine rr_isub C dX11_takesNumber_71 ?_
            replace hr := Option.bind_eq_some_iff.mp hr
            obtain ⟨h33, e34, hr⟩ := hr
            refine rr_wrF C dX11_takesNumber_72 fp_X11_237 rfl rfl e34 ?_
            refine rr_iinc (v := l3 + 1) C dX11_takesNumber_75 rfl rfl ?_
            show WW W0 G 4 _ _ _ 78 [some (.ref l0), some (.int l1), some (.int l2), some (.int (l3 + 1))] [] h33 n _ _
            refine rr_goto (tgt := 14) C dX11_takesNumber_78 (by decide) ?_
            exact rr_keep [true, true, true, true] (ih_ _ _ hr hx0)
set_option maxRecDepth 100000 in
set_option maxHeartbeats 4000000 in
theorem c_X11_takesNumber {K : Nat} {G : mm_G} {l : Launch} {h : mm_H} {n : Nat} (l0 : Nat) (l1 : Int32) (l2 : Int32) {r_ : Int32 × mm_H} (hn : 48 ≤ n) (hr : q_X11_takesNumber K h n l0 l1 l2 = some r_) : Sp G l yX11_takesNumber cX11_takesNumber 4 (some .boolean) 1 0 0 [.ref l0, .int l1, .int l2] h n (fun v h' n' => v = some (.int r_.1) ∧ h' = r_.2 ∧ n' = n) := by
  refine Sp_of (by decide +kernel) (Nat.le_of_ble_eq_true rfl) hn ?_
  intro W0 hwl C
  subst hwl
  unfold q_X11_takesNumber at hr
  show WW W0 G 4 0 0 _ 0 [some (.ref l0), some (.int l1), some (.int l2), none] [] h n 0 0
  refine rr_aload_n (i := 0) C dX11_takesNumber_0 rfl rfl ?_
  replace hr := Option.bind_eq_some_iff.mp hr
  obtain ⟨u1, e2, hr⟩ := hr
  replace hr := Option.bind_eq_some_iff.mp hr
  obtain ⟨v3, e4, hr⟩ := hr
  refine rr_callVq (as := []) (st := []) (mc' := 0) (ms' := 0) C dX11_takesNumber_1 iv_X11_227 (by decide) e2 rfl (Nat.le_of_ble_eq_true rfl) (c_X11_blanks l0 (by omega) e4) (fun v_ h_ n_ q_ => ?_)
  obtain ⟨q1_, q2_, q3_⟩ := q_
  subst v_; subst h_; subst n_
  show WW W0 G 4 _ _ _ 4 [some (.ref l0), some (.int l1), some (.int l2), none] [] v3 n _ _
  refine rr_aload_n (i := 0) C dX11_takesNumber_4 rfl rfl ?_
  replace hr := Option.bind_eq_some_iff.mp hr
  obtain ⟨v5, e6, hr⟩ := hr
  refine rr_rdI C dX11_takesNumber_5 fl_X11_221 e6 ?_
  refine rr_istore_n (i := 3) C dX11_takesNumber_8 rfl (by decide) ?_
  show WW W0 G 4 _ _ _ 9 [some (.ref l0), some (.int l1), some (.int l2), some (.int v5)] [] v3 n _ _
  refine rr_aload_n (i := 0) C dX11_takesNumber_9 rfl rfl ?_
  refine rr_iconst (v := 0) C dX11_takesNumber_10 (by decide) ?_
  replace hr := Option.bind_eq_some_iff.mp hr
  obtain ⟨h7, e8, hr⟩ := hr
  refine rr_wrF C dX11_takesNumber_11 fp_X11_237 rfl rfl e8 ?_
  replace hr := Option.bind_eq_some_iff.mp hr
  obtain ⟨v35, e36, hr⟩ := hr
  refine rr_keep [true, true, true, true] (w_X11_takesNumber_14 C (by omega) l0 l1 l2 K v5 h7 e36 ?_)
  show WW W0 G 4 _ _ _ 81 [some (.ref l0), some (.int l1), some (.int l2), some (.int v35.1)] [] v35.2 n _ _
  refine rr_iload_n (i := 3) C dX11_takesNumber_81 rfl rfl ?_
  refine rr_aload_n (i := 0) C dX11_takesNumber_82 rfl rfl ?_
  replace hr := Option.bind_eq_some_iff.mp hr
  obtain ⟨v37, e38, hr⟩ := hr
  refine rr_rdI C dX11_takesNumber_83 fl_X11_221 e38 ?_
  refine rr_icmp_eq (tgt := 111) C dX11_takesNumber_86 (by decide) (fun c86_ => ?_) (fun c86_ => ?_)
  · replace hr := (if_pos c86_).symm.trans hr
    refine rr_iconst (v := 0) C dX11_takesNumber_111 (by decide) ?_
    obtain rfl := Option.some.inj hr
    exact rr_iret (ty := .boolean) C dX11_takesNumber_112 rfl rfl ⟨rfl, rfl, rfl⟩
  · replace hr := (if_neg c86_).symm.trans hr
    refine rr_iload_n (i := 3) C dX11_takesNumber_89 rfl rfl ?_
    refine rr_aload_n (i := 0) C dX11_takesNumber_90 rfl rfl ?_
    replace hr := Option.bind_eq_some_iff.mp hr
    obtain ⟨v39, e40, hr⟩ := hr
    refine rr_rdI C dX11_takesNumber_91 fl_X11_221 e40 ?_
    refine rr_isub C dX11_takesNumber_94 ?_
    refine rr_iconst (v := 5) C dX11_takesNumber_95 (by decide) ?_
    refine rr_icmp_gt (tgt := 111) C dX11_takesNumber_96 (by decide) (fun c96_ => ?_) (fun c96_ => ?_)
    · replace hr := (if_pos c96_).symm.trans hr
      refine rr_iconst (v := 0) C dX11_takesNumber_111 (by decide) ?_
      obtain rfl := Option.some.inj hr
      exact rr_iret (ty := .boolean) C dX11_takesNumber_112 rfl rfl ⟨rfl, rfl, rfl⟩
    · replace hr := (if_neg c96_).symm.trans hr
      refine rr_aload_n (i := 0) C dX11_takesNumber_99 rfl rfl ?_
      replace hr := Option.bind_eq_some_iff.mp hr
      obtain ⟨v41, e42, hr⟩ := hr
      refine rr_rdI C dX11_takesNumber_100 fl_X11_237 e42 ?_
      refine rr_iload_n (i := 1) C dX11_takesNumber_103 rfl rfl ?_
      refine rr_iload_n (i := 2) C dX11_takesNumber_104 rfl rfl ?_
      replace hr := Option.bind_eq_some_iff.mp hr
      obtain ⟨v43, e44, hr⟩ := hr
      refine rr_callS (as := [.int v41, .int l1, .int l2]) (st := []) (mc' := 0) (ms' := 0) C dX11_takesNumber_105 it_X11_165 (by decide) (Nat.le_of_ble_eq_true rfl) (c_X11_isIn v41 l1 l2 (by omega) e44) (fun v_ h_ n_ q_ => ?_)
      obtain ⟨q1_, q2_, q3_⟩ := q_
      subst v_; subst h_; subst n_
      show WW W0 G 4 _ _ _ 108 [some (.ref l0), some (.int l1), some (.int l2), some (.int v35.1)] [.int v43] v35.2 n _ _
      refine rr_if_ne (tgt := 113) C dX11_takesNumber_108 (by decide) (fun c108_ => ?_) (fun c108_ => ?_)
      · replace hr := (if_neg c108_).symm.trans hr
        refine rr_aload_n (i := 0) C dX11_takesNumber_113 rfl rfl ?_
        refine rr_iload_n (i := 3) C dX11_takesNumber_114 rfl rfl ?_
        replace hr := Option.bind_eq_some_iff.mp hr
        obtain ⟨h45, e46, hr⟩ := hr
        refine rr_wrF C dX11_takesNumber_115 fp_X11_221 rfl rfl e46 ?_
        refine rr_iconst (v := 1) C dX11_takesNumber_118 (by decide) ?_
        obtain rfl := Option.some.inj hr
        exact rr_iret (ty := .boolean) C dX11_takesNumber_119 rfl rfl ⟨rfl, rfl, rfl⟩
      · replace hr := (if_pos c108_).symm.trans hr
        refine rr_iconst (v := 0) C dX11_takesNumber_111 (by decide) ?_
        obtain rfl := Option.some.inj hr
        exact rr_iret (ty := .boolean) C dX11_takesNumber_112 rfl rfl ⟨rfl, rfl, rfl⟩
def q_X11_takesPlain (K : Nat) (h : mm_H) (n : Nat) (l0 : Nat) : Option (Int32 × mm_H) :=
  (ckq h n l0 10).bind fun u1 =>
  (q_X11_takesNumber K h n l0 0 99999).bind fun v3 =>
  (ckz v3.1).bind fun u5 =>
  some (v3.1, v3.2)
set_option maxRecDepth 100000 in
set_option maxHeartbeats 4000000 in
theorem c_X11_takesPlain {K : Nat} {G : mm_G} {l : Launch} {h : mm_H} {n : Nat} (l0 : Nat) {r_ : Int32 × mm_H} (hn : 48 ≤ n) (hr : q_X11_takesPlain K h n l0 = some r_) : Sp G l yX11_takesPlain cX11_takesPlain 1 (some .boolean) 2 0 0 [.ref l0] h n (fun v h' n' => v = some (.int r_.1) ∧ h' = r_.2 ∧ n' = n) := by
  refine Sp_of (by decide +kernel) (Nat.le_of_ble_eq_true rfl) hn ?_
  intro W0 hwl C
  subst hwl
  unfold q_X11_takesPlain at hr
  show WW W0 G 1 0 0 _ 0 [some (.ref l0)] [] h n 0 0
  refine rr_aload_n (i := 0) C dX11_takesPlain_0 rfl rfl ?_
  refine rr_iconst (v := 0) C dX11_takesPlain_1 (by decide) ?_
  refine rr_ldc C dX11_takesPlain_2 ct_X11_176 ?_
  replace hr := Option.bind_eq_some_iff.mp hr
  obtain ⟨u1, e2, hr⟩ := hr
  replace hr := Option.bind_eq_some_iff.mp hr
  obtain ⟨v3, e4, hr⟩ := hr
  refine rr_callVq (as := [.int 0, .int 99999]) (st := []) (mc' := 0) (ms' := 0) C dX11_takesPlain_4 iv_X11_240 (by decide) e2 rfl (Nat.le_of_ble_eq_true rfl) (c_X11_takesNumber l0 0 99999 (by omega) e4) (fun v_ h_ n_ q_ => ?_)
  obtain ⟨q1_, q2_, q3_⟩ := q_
  subst v_; subst h_; subst n_
  show WW W0 G 1 _ _ _ 7 [some (.ref l0)] [.int v3.1] v3.2 n _ _
  replace hr := Option.bind_eq_some_iff.mp hr
  obtain ⟨u5, e6, hr⟩ := hr
  obtain rfl := Option.some.inj hr
  exact rr_iret (ty := .boolean) C dX11_takesPlain_7 rfl (ckz_s e6) ⟨rfl, rfl, rfl⟩
def q_X11_node (K : Nat) (h : mm_H) (n : Nat) (l0 : Nat) (l1 : Int32) : Option (Int32 × mm_H) :=
  (rdR h n l0 10 35).bind fun v1 =>
  v1.bind fun a3 =>
  (ldI h n a3 13).bind fun v5 =>
  (rdR h n l0 10 45).bind fun v8 =>
  v8.bind fun a10 =>
  (stI h n a10 (84500 + v5) l1).bind fun h12 =>
  (rdR h12 n l0 10 46).bind fun v14 =>
  v14.bind fun a16 =>
  (stI h12 n a16 (84500 + v5) (-1)).bind fun h18 =>
  (rdR h18 n l0 10 47).bind fun v20 =>
  v20.bind fun a22 =>
  (stI h18 n a22 (84500 + v5) (-1)).bind fun h24 =>
  (rdR h24 n l0 10 35).bind fun v26 =>
  v26.bind fun a28 =>
  (ldI h24 n a28 13).bind fun v30 =>
  (stI h24 n a28 13 (v30 + 1)).bind fun h32 =>
  some (84500 + v5, h32)
set_option maxRecDepth 100000 in
set_option maxHeartbeats 4000000 in
theorem c_X11_node {K : Nat} {G : mm_G} {l : Launch} {h : mm_H} {n : Nat} (l0 : Nat) (l1 : Int32) {r_ : Int32 × mm_H} (hn : 48 ≤ n) (hr : q_X11_node K h n l0 l1 = some r_) : Sp G l yX11_node cX11_node 3 (some .int) 0 0 0 [.ref l0, .int l1] h n (fun v h' n' => v = some (.int r_.1) ∧ h' = r_.2 ∧ n' = n) := by
  refine Sp_of (by decide +kernel) (Nat.le_of_ble_eq_true rfl) hn ?_
  intro W0 hwl C
  subst hwl
  unfold q_X11_node at hr
  show WW W0 G 3 0 0 _ 0 [some (.ref l0), some (.int l1), none] [] h n 0 0
  refine rr_ldc C dX11_node_0 ct_X11_244 ?_
  refine rr_aload_n (i := 0) C dX11_node_2 rfl rfl ?_
  replace hr := Option.bind_eq_some_iff.mp hr
  obtain ⟨v1, e2, hr⟩ := hr
  refine rr_rdR C dX11_node_3 fl_X11_78 e2 ?_
  refine rr_bipush (v := 13) C dX11_node_6 (by decide) ?_
  replace hr := Option.bind_eq_some_iff.mp hr
  obtain ⟨a3, e4, hr⟩ := hr
  subst e4
  replace hr := Option.bind_eq_some_iff.mp hr
  obtain ⟨v5, e6, hr⟩ := hr
  refine rr_ldI C dX11_node_8 e6 ?_
  refine rr_iadd C dX11_node_9 ?_
  refine rr_istore_n (i := 2) C dX11_node_10 rfl (by decide) ?_
  show WW W0 G 3 _ _ _ 11 [some (.ref l0), some (.int l1), some (.int (84500 + v5))] [] h n _ _
  refine rr_aload_n (i := 0) C dX11_node_11 rfl rfl ?_
  replace hr := Option.bind_eq_some_iff.mp hr
  obtain ⟨v8, e9, hr⟩ := hr
  refine rr_rdR C dX11_node_12 fl_X11_109 e9 ?_
  refine rr_iload_n (i := 2) C dX11_node_15 rfl rfl ?_
  refine rr_iload_n (i := 1) C dX11_node_16 rfl rfl ?_
  replace hr := Option.bind_eq_some_iff.mp hr
  obtain ⟨a10, e11, hr⟩ := hr
  subst e11
  replace hr := Option.bind_eq_some_iff.mp hr
  obtain ⟨h12, e13, hr⟩ := hr
  refine rr_stI C dX11_node_17 e13 ?_
  refine rr_aload_n (i := 0) C dX11_node_18 rfl rfl ?_
  replace hr := Option.bind_eq_some_iff.mp hr
  obtain ⟨v14, e15, hr⟩ := hr
  refine rr_rdR C dX11_node_19 fl_X11_112 e15 ?_
  refine rr_iload_n (i := 2) C dX11_node_22 rfl rfl ?_
  refine rr_iconst (v := (-1)) C dX11_node_23 (by decide) ?_
  replace hr := Option.bind_eq_some_iff.mp hr
  obtain ⟨a16, e17, hr⟩ := hr
  subst e17
  replace hr := Option.bind_eq_some_iff.mp hr
  obtain ⟨h18, e19, hr⟩ := hr
  refine rr_stI C dX11_node_24 e19 ?_
  refine rr_aload_n (i := 0) C dX11_node_25 rfl rfl ?_
  replace hr := Option.bind_eq_some_iff.mp hr
  obtain ⟨v20, e21, hr⟩ := hr
  refine rr_rdR C dX11_node_26 fl_X11_115 e21 ?_
  refine rr_iload_n (i := 2) C dX11_node_29 rfl rfl ?_
  refine rr_iconst (v := (-1)) C dX11_node_30 (by decide) ?_
  replace hr := Option.bind_eq_some_iff.mp hr
  obtain ⟨a22, e23, hr⟩ := hr
  subst e23
  replace hr := Option.bind_eq_some_iff.mp hr
  obtain ⟨h24, e25, hr⟩ := hr
  refine rr_stI C dX11_node_31 e25 ?_
  refine rr_aload_n (i := 0) C dX11_node_32 rfl rfl ?_
  replace hr := Option.bind_eq_some_iff.mp hr
  obtain ⟨v26, e27, hr⟩ := hr
  refine rr_rdR C dX11_node_33 fl_X11_78 e27 ?_
  refine rr_bipush (v := 13) C dX11_node_36 (by decide) ?_
  refine rr_dup2 C dX11_node_38 rfl (rf_cat _) ?_
  replace hr := Option.bind_eq_some_iff.mp hr
  obtain ⟨a28, e29, hr⟩ := hr
  subst e29
  replace hr := Option.bind_eq_some_iff.mp hr
  obtain ⟨v30, e31, hr⟩ := hr
  refine rr_ldI C dX11_node_39 e31 ?_
  refine rr_iconst (v := 1) C dX11_node_40 (by decide) ?_
  refine rr_iadd C dX11_node_41 ?_
  replace hr := Option.bind_eq_some_iff.mp hr
  obtain ⟨h32, e33, hr⟩ := hr
  refine rr_stI C dX11_node_42 e33 ?_
  refine rr_iload_n (i := 2) C dX11_node_43 rfl rfl ?_
  obtain rfl := Option.some.inj hr
  exact rr_iret (ty := .int) C dX11_node_44 rfl rfl ⟨rfl, rfl, rfl⟩
def q_X11_asked (K : Nat) (h : mm_H) (n : Nat) (l0 : Int64) : Option (Int32) :=
  if (lg_cmp l0 2036687218) = 0 then
    some 0
  else
  if (lg_cmp l0 1718186605) = 0 then
    some 1
  else
  if (lg_cmp l0 448546039155) = 0 then
    some 2
  else
  if (lg_cmp l0 512970880104) = 0 then
    some 3
  else
  if (lg_cmp l0 1818326117) = 0 then
    some 4
  else
  some (-1)
set_option maxRecDepth 100000 in
set_option maxHeartbeats 4000000 in
theorem c_X11_asked {K : Nat} {G : mm_G} {l : Launch} {h : mm_H} {n : Nat} (l0 : Int64) {r_ : Int32} (hn : 48 ≤ n) (hr : q_X11_asked K h n l0 = some r_) : Sp G l yX11_asked cX11_asked 2 (some .int) 0 0 0 [.long l0] h n (fun v h' n' => v = some (.int r_) ∧ h' = h ∧ n' = n) := by
  refine Sp_of (by decide +kernel) (Nat.le_of_ble_eq_true rfl) hn ?_
  intro W0 hwl C
  subst hwl
  unfold q_X11_asked at hr
  show WW W0 G 2 0 0 _ 0 [some (.long l0), none] [] h n 0 0
  refine rr_lload_n (i := 0) C dX11_asked_0 rfl rfl ?_
  refine rr_ldc2 C dX11_asked_1 ct_X11_263 ?_
  refine rr_lcmp C dX11_asked_4 ?_
  refine rr_if_ne (tgt := 12) C dX11_asked_5 (by decide) (fun c5_ => ?_) (fun c5_ => ?_)
  · replace hr := (if_neg c5_).symm.trans hr
    refine rr_lload_n (i := 0) C dX11_asked_12 rfl rfl ?_
    refine rr_ldc2 C dX11_asked_13 ct_X11_265 ?_
    refine rr_lcmp C dX11_asked_16 ?_
    refine rr_if_ne (tgt := 24) C dX11_asked_17 (by decide) (fun c17_ => ?_) (fun c17_ => ?_)
    · replace hr := (if_neg c17_).symm.trans hr
      refine rr_lload_n (i := 0) C dX11_asked_24 rfl rfl ?_
      refine rr_ldc2 C dX11_asked_25 ct_X11_267 ?_
      refine rr_lcmp C dX11_asked_28 ?_
      refine rr_if_ne (tgt := 36) C dX11_asked_29 (by decide) (fun c29_ => ?_) (fun c29_ => ?_)
      · replace hr := (if_neg c29_).symm.trans hr
        refine rr_lload_n (i := 0) C dX11_asked_36 rfl rfl ?_
        refine rr_ldc2 C dX11_asked_37 ct_X11_269 ?_
        refine rr_lcmp C dX11_asked_40 ?_
        refine rr_if_ne (tgt := 48) C dX11_asked_41 (by decide) (fun c41_ => ?_) (fun c41_ => ?_)
        · replace hr := (if_neg c41_).symm.trans hr
          refine rr_lload_n (i := 0) C dX11_asked_48 rfl rfl ?_
          refine rr_ldc2 C dX11_asked_49 ct_X11_271 ?_
          refine rr_lcmp C dX11_asked_52 ?_
          refine rr_if_ne (tgt := 60) C dX11_asked_53 (by decide) (fun c53_ => ?_) (fun c53_ => ?_)
          · replace hr := (if_neg c53_).symm.trans hr
            refine rr_iconst (v := (-1)) C dX11_asked_60 (by decide) ?_
            obtain rfl := Option.some.inj hr
            exact rr_iret (ty := .int) C dX11_asked_61 rfl rfl ⟨rfl, rfl, rfl⟩
          · replace hr := (if_pos c53_).symm.trans hr
            refine rr_iconst (v := 4) C dX11_asked_56 (by decide) ?_
            refine rr_goto (tgt := 61) C dX11_asked_57 (by decide) ?_
            obtain rfl := Option.some.inj hr
            exact rr_iret (ty := .int) C dX11_asked_61 rfl rfl ⟨rfl, rfl, rfl⟩
        · replace hr := (if_pos c41_).symm.trans hr
          refine rr_iconst (v := 3) C dX11_asked_44 (by decide) ?_
          refine rr_goto (tgt := 61) C dX11_asked_45 (by decide) ?_
          obtain rfl := Option.some.inj hr
          exact rr_iret (ty := .int) C dX11_asked_61 rfl rfl ⟨rfl, rfl, rfl⟩
      · replace hr := (if_pos c29_).symm.trans hr
        refine rr_iconst (v := 2) C dX11_asked_32 (by decide) ?_
        refine rr_goto (tgt := 61) C dX11_asked_33 (by decide) ?_
        obtain rfl := Option.some.inj hr
        exact rr_iret (ty := .int) C dX11_asked_61 rfl rfl ⟨rfl, rfl, rfl⟩
    · replace hr := (if_pos c17_).symm.trans hr
      refine rr_iconst (v := 1) C dX11_asked_20 (by decide) ?_
      refine rr_goto (tgt := 61) C dX11_asked_21 (by decide) ?_
      obtain rfl := Option.some.inj hr
      exact rr_iret (ty := .int) C dX11_asked_61 rfl rfl ⟨rfl, rfl, rfl⟩
  · replace hr := (if_pos c5_).symm.trans hr
    refine rr_iconst (v := 0) C dX11_asked_8 (by decide) ?_
    refine rr_goto (tgt := 61) C dX11_asked_9 (by decide) ?_
    obtain rfl := Option.some.inj hr
    exact rr_iret (ty := .int) C dX11_asked_61 rfl rfl ⟨rfl, rfl, rfl⟩
def lp_X11_any_8 (K : Nat) (F_ : (mm_H → Nat → Nat → Option (Int32 × mm_H)) × (mm_H → Nat → Nat → Option (Int32 × mm_H)) × (mm_H → Nat → Nat → Option (Int32 × mm_H))) (n : Nat) (l0 : Nat) (l1 : Int32) : Nat → Int32 → mm_H → Option (Nat × mm_H)
  | 0, _, _ => none
  | k_ + 1, l2, h =>
    (ckq h n l0 10).bind fun u6 =>
    (F_.2.1 h n l0).bind fun v8 =>
    if v8.1 = (-1) then
      some (0, v8.2)
    else
    if l2 = (-1) then
      (rdR v8.2 n l0 10 46).bind fun v11 =>
      v11.bind fun a13 =>
      (stI v8.2 n a13 l1 v8.1).bind fun h15 =>
      (ckq h15 n l0 10).bind fun u18 =>
      (q_X11_takes K h15 n l0 28530).bind fun v20 =>
      if v20.1 = 0 then
        some (1, v20.2)
      else
      lp_X11_any_8 K F_ n l0 l1 k_ v8.1 v20.2
    else
    (rdR v8.2 n l0 10 47).bind fun v22 =>
    v22.bind fun a24 =>
    (stI v8.2 n a24 l2 v8.1).bind fun h26 =>
    (ckq h26 n l0 10).bind fun u29 =>
    (q_X11_takes K h26 n l0 28530).bind fun v31 =>
    if v31.1 = 0 then
      some (1, v31.2)
    else
    lp_X11_any_8 K F_ n l0 l1 k_ v8.1 v31.2
def b_X11_any (K : Nat) (F_ : (mm_H → Nat → Nat → Option (Int32 × mm_H)) × (mm_H → Nat → Nat → Option (Int32 × mm_H)) × (mm_H → Nat → Nat → Option (Int32 × mm_H))) (h : mm_H) (n : Nat) (l0 : Nat) : Option (Int32 × mm_H) :=
  (ckq h n l0 10).bind fun u1 =>
  (q_X11_node K h n l0 0).bind fun v3 =>
  (lp_X11_any_8 K F_ n l0 v3.1 K (-1) v3.2).bind fun v33 =>
  if v33.1 = 0 then
    some ((-1), v33.2)
  else
  if v33.1 = 1 then
    some (v3.1, v33.2)
  else
    none
def lp_X11_all_8 (K : Nat) (F_ : (mm_H → Nat → Nat → Option (Int32 × mm_H)) × (mm_H → Nat → Nat → Option (Int32 × mm_H)) × (mm_H → Nat → Nat → Option (Int32 × mm_H))) (n : Nat) (l0 : Nat) (l1 : Int32) : Nat → Int32 → mm_H → Option (Nat × mm_H)
  | 0, _, _ => none
  | k_ + 1, l2, h =>
    (ckq h n l0 10).bind fun u6 =>
    (F_.2.2 h n l0).bind fun v8 =>
    if v8.1 = (-1) then
      some (0, v8.2)
    else
    if l2 = (-1) then
      (rdR v8.2 n l0 10 46).bind fun v11 =>
      v11.bind fun a13 =>
      (stI v8.2 n a13 l1 v8.1).bind fun h15 =>
      (ckq h15 n l0 10).bind fun u18 =>
      (q_X11_takes K h15 n l0 6385252).bind fun v20 =>
      if v20.1 = 0 then
        some (1, v20.2)
      else
      lp_X11_all_8 K F_ n l0 l1 k_ v8.1 v20.2
    else
    (rdR v8.2 n l0 10 47).bind fun v22 =>
    v22.bind fun a24 =>
    (stI v8.2 n a24 l2 v8.1).bind fun h26 =>
    (ckq h26 n l0 10).bind fun u29 =>
    (q_X11_takes K h26 n l0 6385252).bind fun v31 =>
    if v31.1 = 0 then
      some (1, v31.2)
    else
    lp_X11_all_8 K F_ n l0 l1 k_ v8.1 v31.2
def b_X11_all (K : Nat) (F_ : (mm_H → Nat → Nat → Option (Int32 × mm_H)) × (mm_H → Nat → Nat → Option (Int32 × mm_H)) × (mm_H → Nat → Nat → Option (Int32 × mm_H))) (h : mm_H) (n : Nat) (l0 : Nat) : Option (Int32 × mm_H) :=
  (ckq h n l0 10).bind fun u1 =>
  (q_X11_node K h n l0 1).bind fun v3 =>
  (lp_X11_all_8 K F_ n l0 v3.1 K (-1) v3.2).bind fun v33 =>
  if v33.1 = 0 then
    some ((-1), v33.2)
  else
  if v33.1 = 1 then
    some (v3.1, v33.2)
  else
    none
def b_X11_single (K : Nat) (F_ : (mm_H → Nat → Nat → Option (Int32 × mm_H)) × (mm_H → Nat → Nat → Option (Int32 × mm_H)) × (mm_H → Nat → Nat → Option (Int32 × mm_H))) (h : mm_H) (n : Nat) (l0 : Nat) : Option (Int32 × mm_H) :=
  (ckq h n l0 10).bind fun u1 =>
  (q_X11_word K h n l0).bind fun v3 =>
  if (lg_cmp v3.1 7237492) = 0 then
    (rdI v3.2 n l0 10 29).bind fun v5 =>
    if v5 = 10 then
      some ((-1), v3.2)
    else
    (rdI v3.2 n l0 10 29).bind fun v7 =>
    (wrF v3.2 n l0 10 29 (.int (v7 + 1))).bind fun h9 =>
    (rdI h9 n l0 10 54).bind fun v11 =>
    (wrF h9 n l0 10 28 (.int v11)).bind fun h13 =>
    (ckq h13 n l0 10).bind fun u15 =>
    (q_X11_node K h13 n l0 2).bind fun v17 =>
    (ckq v17.2 n l0 10).bind fun u20 =>
    (F_.2.2 v17.2 n l0).bind fun v22 =>
    (rdR v22.2 n l0 10 46).bind fun v25 =>
    v25.bind fun a27 =>
    (stI v22.2 n a27 v17.1 v22.1).bind fun h29 =>
    (rdI h29 n l0 10 29).bind fun v31 =>
    (wrF h29 n l0 10 29 (.int (v31 - 1))).bind fun h33 =>
    if v22.1 = (-1) then
      some ((-1), h33)
    else
    some (v17.1, h33)
  else
  (rdI v3.2 n l0 10 28).bind fun v35 =>
  (rdI v3.2 n l0 10 27).bind fun v37 =>
  if v37 ≤ v35 then
    (ckq v3.2 n l0 10).bind fun u39 =>
    (q_X11_node K v3.2 n l0 3).bind fun v41 =>
    (rdR v41.2 n l0 10 48).bind fun v44 =>
    (ckq v41.2 n l0 10).bind fun u46 =>
    (q_X11_word K v41.2 n l0).bind fun v48 =>
    (q_X11_asked K v48.2 n v48.1).bind fun v50 =>
    v44.bind fun a52 =>
    (stI v48.2 n a52 v41.1 v50).bind fun h54 =>
    (rdR h54 n l0 10 48).bind fun v56 =>
    v56.bind fun a58 =>
    (ldI h54 n a58 v41.1).bind fun v60 =>
    if v60 = (-1) then
      some ((-1), h54)
    else
    (rdI h54 n l0 10 54).bind fun v62 =>
    (wrF h54 n l0 10 28 (.int v62)).bind fun h64 =>
    (rdR h64 n l0 10 49).bind fun v66 =>
    (ckq h64 n l0 10).bind fun u68 =>
    (q_X11_takesSign K h64 n l0 60).bind fun v70 =>
    if v70.1 = 0 then
      (ckq v70.2 n l0 10).bind fun u72 =>
      (q_X11_takesSign K v70.2 n l0 62).bind fun v74 =>
      if v74.1 = 0 then
        (ckq v74.2 n l0 10).bind fun u76 =>
        (q_X11_takesSign K v74.2 n l0 61).bind fun v78 =>
        if v78.1 = 0 then
          v66.bind fun a80 =>
          (stI v78.2 n a80 v41.1 (-1)).bind fun h82 =>
          (rdR h82 n l0 10 49).bind fun v84 =>
          v84.bind fun a86 =>
          (ldI h82 n a86 v41.1).bind fun v88 =>
          if v88 = (-1) then
            some ((-1), h82)
          else
          (ckq h82 n l0 10).bind fun u90 =>
          (q_X11_takesPlain K h82 n l0).bind fun v92 =>
          if v92.1 = 0 then
            some ((-1), v92.2)
          else
          (rdR v92.2 n l0 10 50).bind fun v94 =>
          (rdI v92.2 n l0 10 55).bind fun v96 =>
          v94.bind fun a98 =>
          (stI v92.2 n a98 v41.1 v96).bind fun h100 =>
          some (v41.1, h100)
        else
        v66.bind fun a102 =>
        (stI v78.2 n a102 v41.1 61).bind fun h104 =>
        (rdR h104 n l0 10 49).bind fun v106 =>
        v106.bind fun a108 =>
        (ldI h104 n a108 v41.1).bind fun v110 =>
        if v110 = (-1) then
          some ((-1), h104)
        else
        (ckq h104 n l0 10).bind fun u112 =>
        (q_X11_takesPlain K h104 n l0).bind fun v114 =>
        if v114.1 = 0 then
          some ((-1), v114.2)
        else
        (rdR v114.2 n l0 10 50).bind fun v116 =>
        (rdI v114.2 n l0 10 55).bind fun v118 =>
        v116.bind fun a120 =>
        (stI v114.2 n a120 v41.1 v118).bind fun h122 =>
        some (v41.1, h122)
      else
      v66.bind fun a124 =>
      (stI v74.2 n a124 v41.1 62).bind fun h126 =>
      (rdR h126 n l0 10 49).bind fun v128 =>
      v128.bind fun a130 =>
      (ldI h126 n a130 v41.1).bind fun v132 =>
      if v132 = (-1) then
        some ((-1), h126)
      else
      (ckq h126 n l0 10).bind fun u134 =>
      (q_X11_takesPlain K h126 n l0).bind fun v136 =>
      if v136.1 = 0 then
        some ((-1), v136.2)
      else
      (rdR v136.2 n l0 10 50).bind fun v138 =>
      (rdI v136.2 n l0 10 55).bind fun v140 =>
      v138.bind fun a142 =>
      (stI v136.2 n a142 v41.1 v140).bind fun h144 =>
      some (v41.1, h144)
    else
    v66.bind fun a146 =>
    (stI v70.2 n a146 v41.1 60).bind fun h148 =>
    (rdR h148 n l0 10 49).bind fun v150 =>
    v150.bind fun a152 =>
    (ldI h148 n a152 v41.1).bind fun v154 =>
    if v154 = (-1) then
      some ((-1), h148)
    else
    (ckq h148 n l0 10).bind fun u156 =>
    (q_X11_takesPlain K h148 n l0).bind fun v158 =>
    if v158.1 = 0 then
      some ((-1), v158.2)
    else
    (rdR v158.2 n l0 10 50).bind fun v160 =>
    (rdI v158.2 n l0 10 55).bind fun v162 =>
    v160.bind fun a164 =>
    (stI v158.2 n a164 v41.1 v162).bind fun h166 =>
    some (v41.1, h166)
  else
  (rdR v3.2 n l0 10 53).bind fun v168 =>
  (rdI v3.2 n l0 10 28).bind fun v170 =>
  v168.bind fun a172 =>
  (ldB v3.2 n a172 v170).bind fun v174 =>
  if v174 = 40 then
    (rdI v3.2 n l0 10 29).bind fun v176 =>
    if v176 = 10 then
      some ((-1), v3.2)
    else
    (rdI v3.2 n l0 10 29).bind fun v178 =>
    (wrF v3.2 n l0 10 29 (.int (v178 + 1))).bind fun h180 =>
    (rdI h180 n l0 10 28).bind fun v182 =>
    (wrF h180 n l0 10 28 (.int (v182 + 1))).bind fun h184 =>
    (ckq h184 n l0 10).bind fun u186 =>
    (F_.1 h184 n l0).bind fun v188 =>
    (rdI v188.2 n l0 10 29).bind fun v191 =>
    (wrF v188.2 n l0 10 29 (.int (v191 - 1))).bind fun h193 =>
    if v188.1 = (-1) then
      some ((-1), h193)
    else
    (ckq h193 n l0 10).bind fun u195 =>
    (q_X11_takesSign K h193 n l0 41).bind fun v197 =>
    if v197.1 = 0 then
      some ((-1), v197.2)
    else
    some (v188.1, v197.2)
  else
  (ckq v3.2 n l0 10).bind fun u199 =>
  (q_X11_node K v3.2 n l0 3).bind fun v201 =>
  (rdR v201.2 n l0 10 48).bind fun v204 =>
  (ckq v201.2 n l0 10).bind fun u206 =>
  (q_X11_word K v201.2 n l0).bind fun v208 =>
  (q_X11_asked K v208.2 n v208.1).bind fun v210 =>
  v204.bind fun a212 =>
  (stI v208.2 n a212 v201.1 v210).bind fun h214 =>
  (rdR h214 n l0 10 48).bind fun v216 =>
  v216.bind fun a218 =>
  (ldI h214 n a218 v201.1).bind fun v220 =>
  if v220 = (-1) then
    some ((-1), h214)
  else
  (rdI h214 n l0 10 54).bind fun v222 =>
  (wrF h214 n l0 10 28 (.int v222)).bind fun h224 =>
  (rdR h224 n l0 10 49).bind fun v226 =>
  (ckq h224 n l0 10).bind fun u228 =>
  (q_X11_takesSign K h224 n l0 60).bind fun v230 =>
  if v230.1 = 0 then
    (ckq v230.2 n l0 10).bind fun u232 =>
    (q_X11_takesSign K v230.2 n l0 62).bind fun v234 =>
    if v234.1 = 0 then
      (ckq v234.2 n l0 10).bind fun u236 =>
      (q_X11_takesSign K v234.2 n l0 61).bind fun v238 =>
      if v238.1 = 0 then
        v226.bind fun a240 =>
        (stI v238.2 n a240 v201.1 (-1)).bind fun h242 =>
        (rdR h242 n l0 10 49).bind fun v244 =>
        v244.bind fun a246 =>
        (ldI h242 n a246 v201.1).bind fun v248 =>
        if v248 = (-1) then
          some ((-1), h242)
        else
        (ckq h242 n l0 10).bind fun u250 =>
        (q_X11_takesPlain K h242 n l0).bind fun v252 =>
        if v252.1 = 0 then
          some ((-1), v252.2)
        else
        (rdR v252.2 n l0 10 50).bind fun v254 =>
        (rdI v252.2 n l0 10 55).bind fun v256 =>
        v254.bind fun a258 =>
        (stI v252.2 n a258 v201.1 v256).bind fun h260 =>
        some (v201.1, h260)
      else
      v226.bind fun a262 =>
      (stI v238.2 n a262 v201.1 61).bind fun h264 =>
      (rdR h264 n l0 10 49).bind fun v266 =>
      v266.bind fun a268 =>
      (ldI h264 n a268 v201.1).bind fun v270 =>
      if v270 = (-1) then
        some ((-1), h264)
      else
      (ckq h264 n l0 10).bind fun u272 =>
      (q_X11_takesPlain K h264 n l0).bind fun v274 =>
      if v274.1 = 0 then
        some ((-1), v274.2)
      else
      (rdR v274.2 n l0 10 50).bind fun v276 =>
      (rdI v274.2 n l0 10 55).bind fun v278 =>
      v276.bind fun a280 =>
      (stI v274.2 n a280 v201.1 v278).bind fun h282 =>
      some (v201.1, h282)
    else
    v226.bind fun a284 =>
    (stI v234.2 n a284 v201.1 62).bind fun h286 =>
    (rdR h286 n l0 10 49).bind fun v288 =>
    v288.bind fun a290 =>
    (ldI h286 n a290 v201.1).bind fun v292 =>
    if v292 = (-1) then
      some ((-1), h286)
    else
    (ckq h286 n l0 10).bind fun u294 =>
    (q_X11_takesPlain K h286 n l0).bind fun v296 =>
    if v296.1 = 0 then
      some ((-1), v296.2)
    else
    (rdR v296.2 n l0 10 50).bind fun v298 =>
    (rdI v296.2 n l0 10 55).bind fun v300 =>
    v298.bind fun a302 =>
    (stI v296.2 n a302 v201.1 v300).bind fun h304 =>
    some (v201.1, h304)
  else
  v226.bind fun a306 =>
  (stI v230.2 n a306 v201.1 60).bind fun h308 =>
  (rdR h308 n l0 10 49).bind fun v310 =>
  v310.bind fun a312 =>
  (ldI h308 n a312 v201.1).bind fun v314 =>
  if v314 = (-1) then
    some ((-1), h308)
  else
  (ckq h308 n l0 10).bind fun u316 =>
  (q_X11_takesPlain K h308 n l0).bind fun v318 =>
  if v318.1 = 0 then
    some ((-1), v318.2)
  else
  (rdR v318.2 n l0 10 50).bind fun v320 =>
  (rdI v318.2 n l0 10 55).bind fun v322 =>
  v320.bind fun a324 =>
  (stI v318.2 n a324 v201.1 v322).bind fun h326 =>
  some (v201.1, h326)
def g_X11_expr (K : Nat) : Nat → (mm_H → Nat → Nat → Option (Int32 × mm_H)) × (mm_H → Nat → Nat → Option (Int32 × mm_H)) × (mm_H → Nat → Nat → Option (Int32 × mm_H))
  | 0 => (fun _ _ _ => none, fun _ _ _ => none, fun _ _ _ => none)
  | d + 1 => (b_X11_any K (g_X11_expr K d), b_X11_all K (g_X11_expr K d), b_X11_single K (g_X11_expr K d))
def q_X11_any (K : Nat) (h : mm_H) (n : Nat) (l0 : Nat) : Option (Int32 × mm_H) := (g_X11_expr K 48).1 h n l0
def q_X11_all (K : Nat) (h : mm_H) (n : Nat) (l0 : Nat) : Option (Int32 × mm_H) := (g_X11_expr K 48).2.1 h n l0
def q_X11_single (K : Nat) (h : mm_H) (n : Nat) (l0 : Nat) : Option (Int32 × mm_H) := (g_X11_expr K 48).2.2 h n l0
set_option maxRecDepth 100000 in
set_option maxHeartbeats 4000000 in
theorem w_X11_any_8 {K : Nat} {W0 : mm_X} {G : mm_G} {D_ : Nat} {F_ : (mm_H → Nat → Nat → Option (Int32 × mm_H)) × (mm_H → Nat → Nat → Option (Int32 × mm_H)) × (mm_H → Nat → Nat → Option (Int32 × mm_H))} (hd_ : 3 ≤ D_) (hF0 : ∀ {l : Launch} {h : mm_H} {n : Nat} (l0 : Nat) {r_ : Int32 × mm_H}, 48 ≤ n → F_.1 h n l0 = some r_ → Sp G l yX11_any cX11_any 4 (some .int) D_ 0 0 [.ref l0] h n (fun v h' n' => v = some (.int r_.1) ∧ h' = r_.2 ∧ n' = n)) (hF1 : ∀ {l : Launch} {h : mm_H} {n : Nat} (l0 : Nat) {r_ : Int32 × mm_H}, 48 ≤ n → F_.2.1 h n l0 = some r_ → Sp G l yX11_all cX11_all 4 (some .int) D_ 0 0 [.ref l0] h n (fun v h' n' => v = some (.int r_.1) ∧ h' = r_.2 ∧ n' = n)) (hF2 : ∀ {l : Launch} {h : mm_H} {n : Nat} (l0 : Nat) {r_ : Int32 × mm_H}, 48 ≤ n → F_.2.2 h n l0 = some r_ → Sp G l yX11_single cX11_single 3 (some .int) D_ 0 0 [.ref l0] h n (fun v h' n' => v = some (.int r_.1) ∧ h' = r_.2 ∧ n' = n)) {mc ms kc ks : Nat} {Q_ : State → Prop} {n : Nat} (C : mm_C W0 G cX11_any yX11_any.cls 4 mc ms (some .int) (D_ + 1) yX11_any.name) (hn : 48 ≤ n) (l0 : Nat) (l1 : Int32) : ∀ (k_ : Nat) (l2 : Int32) (h : mm_H) {r_ : Nat × mm_H} (hr : lp_X11_any_8 K F_ n l0 l1 k_ l2 h = some r_) (hx0 : r_.1 = 0 → WW W0 G 4 mc ms Q_ 18 [none, none, none, none] [] r_.2 n kc ks) (hx1 : r_.1 = 1 → WW W0 G 4 mc ms Q_ 54 [none, some (.int l1), none, none] [] r_.2 n kc ks), WW W0 G 4 mc ms Q_ 8 [some (.ref l0), some (.int l1), some (.int l2), none] [] h n kc ks := by
  intro k_
  induction k_ with
  | zero =>
    intro l2 h r_ hr
    cases hr
  | succ k_ ih_ =>
    intro l2 h r_ hr hx0 hx1
    unfold lp_X11_any_8 at hr
    refine rr_aload_n (i := 0) C dX11_any_8 rfl rfl ?_
    replace hr := Option.bind_eq_some_iff.mp hr
    obtain ⟨u6, e7, hr⟩ := hr
    replace hr := Option.bind_eq_some_iff.mp hr
    obtain ⟨v8, e9, hr⟩ := hr
    refine rr_callVq (as := []) (st := []) (mc' := 0) (ms' := 0) C dX11_any_9 iv_X11_248 (by omega) e7 rfl (Nat.le_of_ble_eq_true rfl) (hF1 l0 (by omega) e9) (fun v_ h_ n_ q_ => ?_)
    obtain ⟨q1_, q2_, q3_⟩ := q_
    subst v_; subst h_; subst n_
    show WW W0 G 4 _ _ _ 12 [some (.ref l0), some (.int l1), some (.int l2), none] [.int v8.1] v8.2 n _ _
    refine rr_istore_n (i := 3) C dX11_any_12 rfl (by decide) ?_
    show WW W0 G 4 _ _ _ 13 [some (.ref l0), some (.int l1), some (.int l2), some (.int v8.1)] [] v8.2 n _ _
    refine rr_iload_n (i := 3) C dX11_any_13 rfl rfl ?_
    refine rr_iconst (v := (-1)) C dX11_any_14 (by decide) ?_
    refine rr_icmp_ne (tgt := 20) C dX11_any_15 (by decide) (fun c15_ => ?_) (fun c15_ => ?_)
    · replace hr := (if_neg c15_).symm.trans hr
      refine rr_iload_n (i := 2) C dX11_any_20 rfl rfl ?_
      refine rr_iconst (v := (-1)) C dX11_any_21 (by decide) ?_
      refine rr_icmp_ne (tgt := 35) C dX11_any_22 (by decide) (fun c22_ => ?_) (fun c22_ => ?_)
      · replace hr := (if_neg c22_).symm.trans hr
        refine rr_aload_n (i := 0) C dX11_any_35 rfl rfl ?_
        replace hr := Option.bind_eq_some_iff.mp hr
        obtain ⟨v22, e23, hr⟩ := hr
        refine rr_rdR C dX11_any_36 fl_X11_115 e23 ?_
        refine rr_iload_n (i := 2) C dX11_any_39 rfl rfl ?_
        refine rr_iload_n (i := 3) C dX11_any_40 rfl rfl ?_
        replace hr := Option.bind_eq_some_iff.mp hr
        obtain ⟨a24, e25, hr⟩ := hr
        subst e25
        replace hr := Option.bind_eq_some_iff.mp hr
        obtain ⟨h26, e27, hr⟩ := hr
        refine rr_stI C dX11_any_41 e27 ?_
        refine rr_iload_n (i := 3) C dX11_any_42 rfl rfl ?_
        refine rr_istore_n (i := 2) C dX11_any_43 rfl (by decide) ?_
        show WW W0 G 4 _ _ _ 44 [some (.ref l0), some (.int l1), some (.int v8.1), some (.int v8.1)] [] h26 n _ _
        refine rr_aload_n (i := 0) C dX11_any_44 rfl rfl ?_
        refine rr_ldc2 C dX11_any_45 ct_X11_252 ?_
        replace hr := Option.bind_eq_some_iff.mp hr
        obtain ⟨u29, e30, hr⟩ := hr
        replace hr := Option.bind_eq_some_iff.mp hr
        obtain ⟨v31, e32, hr⟩ := hr
        refine rr_callVq (as := [.long 28530]) (st := []) (mc' := 0) (ms' := 0) C dX11_any_48 iv_X11_254 (by omega) e30 rfl (Nat.le_of_ble_eq_true rfl) (c_X11_takes l0 28530 (by omega) e32) (fun v_ h_ n_ q_ => ?_)
        obtain ⟨q1_, q2_, q3_⟩ := q_
        subst v_; subst h_; subst n_
        show WW W0 G 4 _ _ _ 51 [some (.ref l0), some (.int l1), some (.int v8.1), some (.int v8.1)] [.int v31.1] v31.2 n _ _
        refine rr_if_ne (tgt := 8) C dX11_any_51 (by decide) (fun c51_ => ?_) (fun c51_ => ?_)
        · replace hr := (if_neg c51_).symm.trans hr
          exact rr_keep [true, true, true, false] (ih_ _ _ hr hx0 hx1)
        · replace hr := (if_pos c51_).symm.trans hr
          obtain rfl := Option.some.inj hr
          exact rr_keep [false, true, false, false] (hx1 rfl)
      · replace hr := (if_pos c22_).symm.trans hr
        refine rr_aload_n (i := 0) C dX11_any_25 rfl rfl ?_
        replace hr := Option.bind_eq_some_iff.mp hr
        obtain ⟨v11, e12, hr⟩ := hr
        refine rr_rdR C dX11_any_26 fl_X11_112 e12 ?_
        refine rr_iload_n (i := 1) C dX11_any_29 rfl rfl ?_
        refine rr_iload_n (i := 3) C dX11_any_30 rfl rfl ?_
        replace hr := Option.bind_eq_some_iff.mp hr
        obtain ⟨a13, e14, hr⟩ := hr
        subst e14
        replace hr := Option.bind_eq_some_iff.mp hr
        obtain ⟨h15, e16, hr⟩ := hr
        refine rr_stI C dX11_any_31 e16 ?_
        refine rr_goto (tgt := 42) C dX11_any_32 (by decide) ?_
        refine rr_iload_n (i := 3) C dX11_any_42 rfl rfl ?_
        refine rr_istore_n (i := 2) C dX11_any_43 rfl (by decide) ?_
        show WW W0 G 4 _ _ _ 44 [some (.ref l0), some (.int l1), some (.int v8.1), some (.int v8.1)] [] h15 n _ _
        refine rr_aload_n (i := 0) C dX11_any_44 rfl rfl ?_
        refine rr_ldc2 C dX11_any_45 ct_X11_252 ?_
        replace hr := Option.bind_eq_some_iff.mp hr
        obtain ⟨u18, e19, hr⟩ := hr
        replace hr := Option.bind_eq_some_iff.mp hr
        obtain ⟨v20, e21, hr⟩ := hr
        refine rr_callVq (as := [.long 28530]) (st := []) (mc' := 0) (ms' := 0) C dX11_any_48 iv_X11_254 (by omega) e19 rfl (Nat.le_of_ble_eq_true rfl) (c_X11_takes l0 28530 (by omega) e21) (fun v_ h_ n_ q_ => ?_)
        obtain ⟨q1_, q2_, q3_⟩ := q_
        subst v_; subst h_; subst n_
        show WW W0 G 4 _ _ _ 51 [some (.ref l0), some (.int l1), some (.int v8.1), some (.int v8.1)] [.int v20.1] v20.2 n _ _
        refine rr_if_ne (tgt := 8) C dX11_any_51 (by decide) (fun c51_ => ?_) (fun c51_ => ?_)
        · replace hr := (if_neg c51_).symm.trans hr
          exact rr_keep [true, true, true, false] (ih_ _ _ hr hx0 hx1)
        · replace hr := (if_pos c51_).symm.trans hr
          obtain rfl := Option.some.inj hr
          exact rr_keep [false, true, false, false] (hx1 rfl)
    · replace hr := (if_pos c15_).symm.trans hr
      obtain rfl := Option.some.inj hr
      exact rr_keep [false, false, false, false] (hx0 rfl)
set_option maxRecDepth 100000 in
set_option maxHeartbeats 4000000 in
theorem cb_X11_any {K : Nat} {G : mm_G} {D_ : Nat} {F_ : (mm_H → Nat → Nat → Option (Int32 × mm_H)) × (mm_H → Nat → Nat → Option (Int32 × mm_H)) × (mm_H → Nat → Nat → Option (Int32 × mm_H))} (hd_ : 3 ≤ D_) (hF0 : ∀ {l : Launch} {h : mm_H} {n : Nat} (l0 : Nat) {r_ : Int32 × mm_H}, 48 ≤ n → F_.1 h n l0 = some r_ → Sp G l yX11_any cX11_any 4 (some .int) D_ 0 0 [.ref l0] h n (fun v h' n' => v = some (.int r_.1) ∧ h' = r_.2 ∧ n' = n)) (hF1 : ∀ {l : Launch} {h : mm_H} {n : Nat} (l0 : Nat) {r_ : Int32 × mm_H}, 48 ≤ n → F_.2.1 h n l0 = some r_ → Sp G l yX11_all cX11_all 4 (some .int) D_ 0 0 [.ref l0] h n (fun v h' n' => v = some (.int r_.1) ∧ h' = r_.2 ∧ n' = n)) (hF2 : ∀ {l : Launch} {h : mm_H} {n : Nat} (l0 : Nat) {r_ : Int32 × mm_H}, 48 ≤ n → F_.2.2 h n l0 = some r_ → Sp G l yX11_single cX11_single 3 (some .int) D_ 0 0 [.ref l0] h n (fun v h' n' => v = some (.int r_.1) ∧ h' = r_.2 ∧ n' = n)) {l : Launch} {h : mm_H} {n : Nat} (l0 : Nat) {r_ : Int32 × mm_H} (hn : 48 ≤ n) (hr : b_X11_any K F_ h n l0 = some r_) : Sp G l yX11_any cX11_any 4 (some .int) (D_ + 1) 0 0 [.ref l0] h n (fun v h' n' => v = some (.int r_.1) ∧ h' = r_.2 ∧ n' = n) := by
  refine Sp_of (by decide +kernel) (Nat.le_of_ble_eq_true rfl) hn ?_
  intro W0 hwl C
  subst hwl
  unfold b_X11_any at hr
  show WW W0 G 4 0 0 _ 0 [some (.ref l0), none, none, none] [] h n 0 0
  refine rr_aload_n (i := 0) C dX11_any_0 rfl rfl ?_
  refine rr_iconst (v := 0) C dX11_any_1 (by decide) ?_
  replace hr := Option.bind_eq_some_iff.mp hr
  obtain ⟨u1, e2, hr⟩ := hr
  replace hr := Option.bind_eq_some_iff.mp hr
  obtain ⟨v3, e4, hr⟩ := hr
  refine rr_callVq (as := [.int 0]) (st := []) (mc' := 0) (ms' := 0) C dX11_any_2 iv_X11_245 (by omega) e2 rfl (Nat.le_of_ble_eq_true rfl) (c_X11_node l0 0 (by omega) e4) (fun v_ h_ n_ q_ => ?_)
  obtain ⟨q1_, q2_, q3_⟩ := q_
  subst v_; subst h_; subst n_
  show WW W0 G 4 _ _ _ 5 [some (.ref l0), none, none, none] [.int v3.1] v3.2 n _ _
  refine rr_istore_n (i := 1) C dX11_any_5 rfl (by decide) ?_
  show WW W0 G 4 _ _ _ 6 [some (.ref l0), some (.int v3.1), none, none] [] v3.2 n _ _
  refine rr_iconst (v := (-1)) C dX11_any_6 (by decide) ?_
  refine rr_istore_n (i := 2) C dX11_any_7 rfl (by decide) ?_
  show WW W0 G 4 _ _ _ 8 [some (.ref l0), some (.int v3.1), some (.int (-1)), none] [] v3.2 n _ _
  replace hr := Option.bind_eq_some_iff.mp hr
  obtain ⟨v33, e34, hr⟩ := hr
  refine rr_keep [true, true, true, false] (w_X11_any_8 hd_ hF0 hF1 hF2 C (by omega) l0 v3.1 K (-1) v3.2 e34 ?_ ?_)
  · intro cx_
    replace hr := (if_pos cx_).symm.trans hr
    show WW W0 G 4 _ _ _ 18 [none, none, none, none] [] v33.2 n _ _
    refine rr_iconst (v := (-1)) C dX11_any_18 (by decide) ?_
    obtain rfl := Option.some.inj hr
    exact rr_iret (ty := .int) C dX11_any_19 rfl rfl ⟨rfl, rfl, rfl⟩
  · intro cx_
    replace hr := (if_neg (fun z_ => absurd (z_.symm.trans cx_) (by decide))).symm.trans hr
    replace hr := (if_pos cx_).symm.trans hr
    show WW W0 G 4 _ _ _ 54 [none, some (.int v3.1), none, none] [] v33.2 n _ _
    refine rr_iload_n (i := 1) C dX11_any_54 rfl rfl ?_
    obtain rfl := Option.some.inj hr
    exact rr_iret (ty := .int) C dX11_any_55 rfl rfl ⟨rfl, rfl, rfl⟩
set_option maxRecDepth 100000 in
set_option maxHeartbeats 4000000 in
theorem w_X11_all_8 {K : Nat} {W0 : mm_X} {G : mm_G} {D_ : Nat} {F_ : (mm_H → Nat → Nat → Option (Int32 × mm_H)) × (mm_H → Nat → Nat → Option (Int32 × mm_H)) × (mm_H → Nat → Nat → Option (Int32 × mm_H))} (hd_ : 3 ≤ D_) (hF0 : ∀ {l : Launch} {h : mm_H} {n : Nat} (l0 : Nat) {r_ : Int32 × mm_H}, 48 ≤ n → F_.1 h n l0 = some r_ → Sp G l yX11_any cX11_any 4 (some .int) D_ 0 0 [.ref l0] h n (fun v h' n' => v = some (.int r_.1) ∧ h' = r_.2 ∧ n' = n)) (hF1 : ∀ {l : Launch} {h : mm_H} {n : Nat} (l0 : Nat) {r_ : Int32 × mm_H}, 48 ≤ n → F_.2.1 h n l0 = some r_ → Sp G l yX11_all cX11_all 4 (some .int) D_ 0 0 [.ref l0] h n (fun v h' n' => v = some (.int r_.1) ∧ h' = r_.2 ∧ n' = n)) (hF2 : ∀ {l : Launch} {h : mm_H} {n : Nat} (l0 : Nat) {r_ : Int32 × mm_H}, 48 ≤ n → F_.2.2 h n l0 = some r_ → Sp G l yX11_single cX11_single 3 (some .int) D_ 0 0 [.ref l0] h n (fun v h' n' => v = some (.int r_.1) ∧ h' = r_.2 ∧ n' = n)) {mc ms kc ks : Nat} {Q_ : State → Prop} {n : Nat} (C : mm_C W0 G cX11_all yX11_all.cls 4 mc ms (some .int) (D_ + 1) yX11_all.name) (hn : 48 ≤ n) (l0 : Nat) (l1 : Int32) : ∀ (k_ : Nat) (l2 : Int32) (h : mm_H) {r_ : Nat × mm_H} (hr : lp_X11_all_8 K F_ n l0 l1 k_ l2 h = some r_) (hx0 : r_.1 = 0 → WW W0 G 4 mc ms Q_ 18 [none, none, none, none] [] r_.2 n kc ks) (hx1 : r_.1 = 1 → WW W0 G 4 mc ms Q_ 54 [none, some (.int l1), none, none] [] r_.2 n kc ks), WW W0 G 4 mc ms Q_ 8 [some (.ref l0), some (.int l1), some (.int l2), none] [] h n kc ks := by
  intro k_
  induction k_ with
  | zero =>
    intro l2 h r_ hr
    cases hr
  | succ k_ ih_ =>
    intro l2 h r_ hr hx0 hx1
    unfold lp_X11_all_8 at hr
    refine rr_aload_n (i := 0) C dX11_all_8 rfl rfl ?_
    replace hr := Option.bind_eq_some_iff.mp hr
    obtain ⟨u6, e7, hr⟩ := hr
    replace hr := Option.bind_eq_some_iff.mp hr
    obtain ⟨v8, e9, hr⟩ := hr
    refine rr_callVq (as := []) (st := []) (mc' := 0) (ms' := 0) C dX11_all_9 iv_X11_258 (by omega) e7 rfl (Nat.le_of_ble_eq_true rfl) (hF2 l0 (by omega) e9) (fun v_ h_ n_ q_ => ?_)
    obtain ⟨q1_, q2_, q3_⟩ := q_
    subst v_; subst h_; subst n_
    show WW W0 G 4 _ _ _ 12 [some (.ref l0), some (.int l1), some (.int l2), none] [.int v8.1] v8.2 n _ _
    refine rr_istore_n (i := 3) C dX11_all_12 rfl (by decide) ?_
    show WW W0 G 4 _ _ _ 13 [some (.ref l0), some (.int l1), some (.int l2), some (.int v8.1)] [] v8.2 n _ _
    refine rr_iload_n (i := 3) C dX11_all_13 rfl rfl ?_
    refine rr_iconst (v := (-1)) C dX11_all_14 (by decide) ?_
    refine rr_icmp_ne (tgt := 20) C dX11_all_15 (by decide) (fun c15_ => ?_) (fun c15_ => ?_)
    · replace hr := (if_neg c15_).symm.trans hr
      refine rr_iload_n (i := 2) C dX11_all_20 rfl rfl ?_
      refine rr_iconst (v := (-1)) C dX11_all_21 (by decide) ?_
      refine rr_icmp_ne (tgt := 35) C dX11_all_22 (by decide) (fun c22_ => ?_) (fun c22_ => ?_)
      · replace hr := (if_neg c22_).symm.trans hr
        refine rr_aload_n (i := 0) C dX11_all_35 rfl rfl ?_
        replace hr := Option.bind_eq_some_iff.mp hr
        obtain ⟨v22, e23, hr⟩ := hr
        refine rr_rdR C dX11_all_36 fl_X11_115 e23 ?_
        refine rr_iload_n (i := 2) C dX11_all_39 rfl rfl ?_
        refine rr_iload_n (i := 3) C dX11_all_40 rfl rfl ?_
        replace hr := Option.bind_eq_some_iff.mp hr
        obtain ⟨a24, e25, hr⟩ := hr
        subst e25
        replace hr := Option.bind_eq_some_iff.mp hr
        obtain ⟨h26, e27, hr⟩ := hr
        refine rr_stI C dX11_all_41 e27 ?_
        refine rr_iload_n (i := 3) C dX11_all_42 rfl rfl ?_
        refine rr_istore_n (i := 2) C dX11_all_43 rfl (by decide) ?_
        show WW W0 G 4 _ _ _ 44 [some (.ref l0), some (.int l1), some (.int v8.1), some (.int v8.1)] [] h26 n _ _
        refine rr_aload_n (i := 0) C dX11_all_44 rfl rfl ?_
        refine rr_ldc2 C dX11_all_45 ct_X11_261 ?_
        replace hr := Option.bind_eq_some_iff.mp hr
        obtain ⟨u29, e30, hr⟩ := hr
        replace hr := Option.bind_eq_some_iff.mp hr
        obtain ⟨v31, e32, hr⟩ := hr
        refine rr_callVq (as := [.long 6385252]) (st := []) (mc' := 0) (ms' := 0) C dX11_all_48 iv_X11_254 (by omega) e30 rfl (Nat.le_of_ble_eq_true rfl) (c_X11_takes l0 6385252 (by omega) e32) (fun v_ h_ n_ q_ => ?_)
        obtain ⟨q1_, q2_, q3_⟩ := q_
        subst v_; subst h_; subst n_
        show WW W0 G 4 _ _ _ 51 [some (.ref l0), some (.int l1), some (.int v8.1), some (.int v8.1)] [.int v31.1] v31.2 n _ _
        refine rr_if_ne (tgt := 8) C dX11_all_51 (by decide) (fun c51_ => ?_) (fun c51_ => ?_)
        · replace hr := (if_neg c51_).symm.trans hr
          exact rr_keep [true, true, true, false] (ih_ _ _ hr hx0 hx1)
        · replace hr := (if_pos c51_).symm.trans hr
          obtain rfl := Option.some.inj hr
          exact rr_keep [false, true, false, false] (hx1 rfl)
      · replace hr := (if_pos c22_).symm.trans hr
        refine rr_aload_n (i := 0) C dX11_all_25 rfl rfl ?_
        replace hr := Option.bind_eq_some_iff.mp hr
        obtain ⟨v11, e12, hr⟩ := hr
        refine rr_rdR C dX11_all_26 fl_X11_112 e12 ?_
        refine rr_iload_n (i := 1) C dX11_all_29 rfl rfl ?_
        refine rr_iload_n (i := 3) C dX11_all_30 rfl rfl ?_
        replace hr := Option.bind_eq_some_iff.mp hr
        obtain ⟨a13, e14, hr⟩ := hr
        subst e14
        replace hr := Option.bind_eq_some_iff.mp hr
        obtain ⟨h15, e16, hr⟩ := hr
        refine rr_stI C dX11_all_31 e16 ?_
        refine rr_goto (tgt := 42) C dX11_all_32 (by decide) ?_
        refine rr_iload_n (i := 3) C dX11_all_42 rfl rfl ?_
        refine rr_istore_n (i := 2) C dX11_all_43 rfl (by decide) ?_
        show WW W0 G 4 _ _ _ 44 [some (.ref l0), some (.int l1), some (.int v8.1), some (.int v8.1)] [] h15 n _ _
        refine rr_aload_n (i := 0) C dX11_all_44 rfl rfl ?_
        refine rr_ldc2 C dX11_all_45 ct_X11_261 ?_
        replace hr := Option.bind_eq_some_iff.mp hr
        obtain ⟨u18, e19, hr⟩ := hr
        replace hr := Option.bind_eq_some_iff.mp hr
        obtain ⟨v20, e21, hr⟩ := hr
        refine rr_callVq (as := [.long 6385252]) (st := []) (mc' := 0) (ms' := 0) C dX11_all_48 iv_X11_254 (by omega) e19 rfl (Nat.le_of_ble_eq_true rfl) (c_X11_takes l0 6385252 (by omega) e21) (fun v_ h_ n_ q_ => ?_)
        obtain ⟨q1_, q2_, q3_⟩ := q_
        subst v_; subst h_; subst n_
        show WW W0 G 4 _ _ _ 51 [some (.ref l0), some (.int l1), some (.int v8.1), some (.int v8.1)] [.int v20.1] v20.2 n _ _
        refine rr_if_ne (tgt := 8) C dX11_all_51 (by decide) (fun c51_ => ?_) (fun c51_ => ?_)
        · replace hr := (if_neg c51_).symm.trans hr
          exact rr_keep [true, true, true, false] (ih_ _ _ hr hx0 hx1)
        · replace hr := (if_pos c51_).symm.trans hr
          obtain rfl := Option.some.inj hr
          exact rr_keep [false, true, false, false] (hx1 rfl)
    · replace hr := (if_pos c15_).symm.trans hr
      obtain rfl := Option.some.inj hr
      exact rr_keep [false, false, false, false] (hx0 rfl)
set_option maxRecDepth 100000 in
set_option maxHeartbeats 4000000 in
theorem cb_X11_all {K : Nat} {G : mm_G} {D_ : Nat} {F_ : (mm_H → Nat → Nat → Option (Int32 × mm_H)) × (mm_H → Nat → Nat → Option (Int32 × mm_H)) × (mm_H → Nat → Nat → Option (Int32 × mm_H))} (hd_ : 3 ≤ D_) (hF0 : ∀ {l : Launch} {h : mm_H} {n : Nat} (l0 : Nat) {r_ : Int32 × mm_H}, 48 ≤ n → F_.1 h n l0 = some r_ → Sp G l yX11_any cX11_any 4 (some .int) D_ 0 0 [.ref l0] h n (fun v h' n' => v = some (.int r_.1) ∧ h' = r_.2 ∧ n' = n)) (hF1 : ∀ {l : Launch} {h : mm_H} {n : Nat} (l0 : Nat) {r_ : Int32 × mm_H}, 48 ≤ n → F_.2.1 h n l0 = some r_ → Sp G l yX11_all cX11_all 4 (some .int) D_ 0 0 [.ref l0] h n (fun v h' n' => v = some (.int r_.1) ∧ h' = r_.2 ∧ n' = n)) (hF2 : ∀ {l : Launch} {h : mm_H} {n : Nat} (l0 : Nat) {r_ : Int32 × mm_H}, 48 ≤ n → F_.2.2 h n l0 = some r_ → Sp G l yX11_single cX11_single 3 (some .int) D_ 0 0 [.ref l0] h n (fun v h' n' => v = some (.int r_.1) ∧ h' = r_.2 ∧ n' = n)) {l : Launch} {h : mm_H} {n : Nat} (l0 : Nat) {r_ : Int32 × mm_H} (hn : 48 ≤ n) (hr : b_X11_all K F_ h n l0 = some r_) : Sp G l yX11_all cX11_all 4 (some .int) (D_ + 1) 0 0 [.ref l0] h n (fun v h' n' => v = some (.int r_.1) ∧ h' = r_.2 ∧ n' = n) := by
  refine Sp_of (by decide +kernel) (Nat.le_of_ble_eq_true rfl) hn ?_
  intro W0 hwl C
  subst hwl
  unfold b_X11_all at hr
  show WW W0 G 4 0 0 _ 0 [some (.ref l0), none, none, none] [] h n 0 0
  refine rr_aload_n (i := 0) C dX11_all_0 rfl rfl ?_
  refine rr_iconst (v := 1) C dX11_all_1 (by decide) ?_
  replace hr := Option.bind_eq_some_iff.mp hr
  obtain ⟨u1, e2, hr⟩ := hr
  replace hr := Option.bind_eq_some_iff.mp hr
  obtain ⟨v3, e4, hr⟩ := hr
  refine rr_callVq (as := [.int 1]) (st := []) (mc' := 0) (ms' := 0) C dX11_all_2 iv_X11_245 (by omega) e2 rfl (Nat.le_of_ble_eq_true rfl) (c_X11_node l0 1 (by omega) e4) (fun v_ h_ n_ q_ => ?_)
  obtain ⟨q1_, q2_, q3_⟩ := q_
  subst v_; subst h_; subst n_
  show WW W0 G 4 _ _ _ 5 [some (.ref l0), none, none, none] [.int v3.1] v3.2 n _ _
  refine rr_istore_n (i := 1) C dX11_all_5 rfl (by decide) ?_
  show WW W0 G 4 _ _ _ 6 [some (.ref l0), some (.int v3.1), none, none] [] v3.2 n _ _
  refine rr_iconst (v := (-1)) C dX11_all_6 (by decide) ?_
  refine rr_istore_n (i := 2) C dX11_all_7 rfl (by decide) ?_
  show WW W0 G 4 _ _ _ 8 [some (.ref l0), some (.int v3.1), some (.int (-1)), none] [] v3.2 n _ _
  replace hr := Option.bind_eq_some_iff.mp hr
  obtain ⟨v33, e34, hr⟩ := hr
  refine rr_keep [true, true, true, false] (w_X11_all_8 hd_ hF0 hF1 hF2 C (by omega) l0 v3.1 K (-1) v3.2 e34 ?_ ?_)
  · intro cx_
    replace hr := (if_pos cx_).symm.trans hr
    show WW W0 G 4 _ _ _ 18 [none, none, none, none] [] v33.2 n _ _
    refine rr_iconst (v := (-1)) C dX11_all_18 (by decide) ?_
    obtain rfl := Option.some.inj hr
    exact rr_iret (ty := .int) C dX11_all_19 rfl rfl ⟨rfl, rfl, rfl⟩
  · intro cx_
    replace hr := (if_neg (fun z_ => absurd (z_.symm.trans cx_) (by decide))).symm.trans hr
    replace hr := (if_pos cx_).symm.trans hr
    show WW W0 G 4 _ _ _ 54 [none, some (.int v3.1), none, none] [] v33.2 n _ _
    refine rr_iload_n (i := 1) C dX11_all_54 rfl rfl ?_
    obtain rfl := Option.some.inj hr
    exact rr_iret (ty := .int) C dX11_all_55 rfl rfl ⟨rfl, rfl, rfl⟩
set_option maxRecDepth 100000 in
set_option maxHeartbeats 4000000 in
theorem cb_X11_single {K : Nat} {G : mm_G} {D_ : Nat} {F_ : (mm_H → Nat → Nat → Option (Int32 × mm_H)) × (mm_H → Nat → Nat → Option (Int32 × mm_H)) × (mm_H → Nat → Nat → Option (Int32 × mm_H))} (hd_ : 3 ≤ D_) (hF0 : ∀ {l : Launch} {h : mm_H} {n : Nat} (l0 : Nat) {r_ : Int32 × mm_H}, 48 ≤ n → F_.1 h n l0 = some r_ → Sp G l yX11_any cX11_any 4 (some .int) D_ 0 0 [.ref l0] h n (fun v h' n' => v = some (.int r_.1) ∧ h' = r_.2 ∧ n' = n)) (hF1 : ∀ {l : Launch} {h : mm_H} {n : Nat} (l0 : Nat) {r_ : Int32 × mm_H}, 48 ≤ n → F_.2.1 h n l0 = some r_ → Sp G l yX11_all cX11_all 4 (some .int) D_ 0 0 [.ref l0] h n (fun v h' n' => v = some (.int r_.1) ∧ h' = r_.2 ∧ n' = n)) (hF2 : ∀ {l : Launch} {h : mm_H} {n : Nat} (l0 : Nat) {r_ : Int32 × mm_H}, 48 ≤ n → F_.2.2 h n l0 = some r_ → Sp G l yX11_single cX11_single 3 (some .int) D_ 0 0 [.ref l0] h n (fun v h' n' => v = some (.int r_.1) ∧ h' = r_.2 ∧ n' = n)) {l : Launch} {h : mm_H} {n : Nat} (l0 : Nat) {r_ : Int32 × mm_H} (hn : 48 ≤ n) (hr : b_X11_single K F_ h n l0 = some r_) : Sp G l yX11_single cX11_single 3 (some .int) (D_ + 1) 0 0 [.ref l0] h n (fun v h' n' => v = some (.int r_.1) ∧ h' = r_.2 ∧ n' = n) := by
  refine Sp_of (by decide +kernel) (Nat.le_of_ble_eq_true rfl) hn ?_
  intro W0 hwl C
  subst hwl
  unfold b_X11_single at hr
  show WW W0 G 3 0 0 _ 0 [some (.ref l0), none, none] [] h n 0 0
  refine rr_aload_n (i := 0) C dX11_single_0 rfl rfl ?_
  replace hr := Option.bind_eq_some_iff.mp hr
  obtain ⟨u1, e2, hr⟩ := hr
  replace hr := Option.bind_eq_some_iff.mp hr
  obtain ⟨v3, e4, hr⟩ := hr
  refine rr_callVq (as := []) (st := []) (mc' := 0) (ms' := 0) C dX11_single_1 iv_X11_233 (by omega) e2 rfl (Nat.le_of_ble_eq_true rfl) (c_X11_word l0 (by omega) e4) (fun v_ h_ n_ q_ => ?_)
  obtain ⟨q1_, q2_, q3_⟩ := q_
  subst v_; subst h_; subst n_
  show WW W0 G 3 _ _ _ 4 [some (.ref l0), none, none] [.long v3.1] v3.2 n _ _
  refine rr_ldc2 C dX11_single_4 ct_X11_273 ?_
  refine rr_lcmp C dX11_single_7 ?_
  refine rr_if_ne (tgt := 79) C dX11_single_8 (by decide) (fun c8_ => ?_) (fun c8_ => ?_)
  · replace hr := (if_neg c8_).symm.trans hr
    refine rr_aload_n (i := 0) C dX11_single_79 rfl rfl ?_
    replace hr := Option.bind_eq_some_iff.mp hr
    obtain ⟨v35, e36, hr⟩ := hr
    refine rr_rdI C dX11_single_80 fl_X11_221 e36 ?_
    refine rr_aload_n (i := 0) C dX11_single_83 rfl rfl ?_
    replace hr := Option.bind_eq_some_iff.mp hr
    obtain ⟨v37, e38, hr⟩ := hr
    refine rr_rdI C dX11_single_84 fl_X11_224 e38 ?_
    refine rr_icmp_ge (tgt := 170) C dX11_single_87 (by decide) (fun c87_ => ?_) (fun c87_ => ?_)
    · replace hr := (if_pos c87_).symm.trans hr
      refine rr_aload_n (i := 0) C dX11_single_170 rfl rfl ?_
      refine rr_iconst (v := 3) C dX11_single_171 (by decide) ?_
      replace hr := Option.bind_eq_some_iff.mp hr
      obtain ⟨u39, e40, hr⟩ := hr
      replace hr := Option.bind_eq_some_iff.mp hr
      obtain ⟨v41, e42, hr⟩ := hr
      refine rr_callVq (as := [.int 3]) (st := []) (mc' := 0) (ms' := 0) C dX11_single_172 iv_X11_245 (by omega) e40 rfl (Nat.le_of_ble_eq_true rfl) (c_X11_node l0 3 (by omega) e42) (fun v_ h_ n_ q_ => ?_)
      obtain ⟨q1_, q2_, q3_⟩ := q_
      subst v_; subst h_; subst n_
      show WW W0 G 3 _ _ _ 175 [some (.ref l0), none, none] [.int v41.1] v41.2 n _ _
      refine rr_istore_n (i := 1) C dX11_single_175 rfl (by decide) ?_
      show WW W0 G 3 _ _ _ 176 [some (.ref l0), some (.int v41.1), none] [] v41.2 n _ _
      refine rr_aload_n (i := 0) C dX11_single_176 rfl rfl ?_
      replace hr := Option.bind_eq_some_iff.mp hr
      obtain ⟨v44, e45, hr⟩ := hr
      refine rr_rdR C dX11_single_177 fl_X11_118 e45 ?_
      refine rr_iload_n (i := 1) C dX11_single_180 rfl rfl ?_
      refine rr_aload_n (i := 0) C dX11_single_181 rfl rfl ?_
      replace hr := Option.bind_eq_some_iff.mp hr
      obtain ⟨u46, e47, hr⟩ := hr
      replace hr := Option.bind_eq_some_iff.mp hr
      obtain ⟨v48, e49, hr⟩ := hr
      refine rr_callVq (as := []) (st := [.int v41.1, va_rf v44]) (mc' := 0) (ms' := 0) C dX11_single_182 iv_X11_233 (by omega) e47 rfl (by rcases v44 with _ | _ <;> exact Nat.le_of_ble_eq_true rfl) (c_X11_word l0 (by omega) e49) (fun v_ h_ n_ q_ => ?_)
      obtain ⟨q1_, q2_, q3_⟩ := q_
      subst v_; subst h_; subst n_
      show WW W0 G 3 _ _ _ 185 [some (.ref l0), some (.int v41.1), none] [.long v48.1, .int v41.1, va_rf v44] v48.2 n _ _
      replace hr := Option.bind_eq_some_iff.mp hr
      obtain ⟨v50, e51, hr⟩ := hr
      refine rr_callS (as := [.long v48.1]) (st := [.int v41.1, va_rf v44]) (mc' := 0) (ms' := 0) C dX11_single_185 it_X11_284 (by omega) (by rcases v44 with _ | _ <;> exact Nat.le_of_ble_eq_true rfl) (c_X11_asked v48.1 (by omega) e51) (fun v_ h_ n_ q_ => ?_)
      obtain ⟨q1_, q2_, q3_⟩ := q_
      subst v_; subst h_; subst n_
      show WW W0 G 3 _ _ _ 188 [some (.ref l0), some (.int v41.1), none] [.int v50, .int v41.1, va_rf v44] v48.2 n _ _
      replace hr := Option.bind_eq_some_iff.mp hr
      obtain ⟨a52, e53, hr⟩ := hr
      subst e53
      replace hr := Option.bind_eq_some_iff.mp hr
      obtain ⟨h54, e55, hr⟩ := hr
      refine rr_stI C dX11_single_188 e55 ?_
      refine rr_aload_n (i := 0) C dX11_single_189 rfl rfl ?_
      replace hr := Option.bind_eq_some_iff.mp hr
      obtain ⟨v56, e57, hr⟩ := hr
      refine rr_rdR C dX11_single_190 fl_X11_118 e57 ?_
      refine rr_iload_n (i := 1) C dX11_single_193 rfl rfl ?_
      replace hr := Option.bind_eq_some_iff.mp hr
      obtain ⟨a58, e59, hr⟩ := hr
      subst e59
      replace hr := Option.bind_eq_some_iff.mp hr
      obtain ⟨v60, e61, hr⟩ := hr
      refine rr_ldI C dX11_single_194 e61 ?_
      refine rr_iconst (v := (-1)) C dX11_single_195 (by decide) ?_
      refine rr_icmp_ne (tgt := 201) C dX11_single_196 (by decide) (fun c196_ => ?_) (fun c196_ => ?_)
      · replace hr := (if_neg c196_).symm.trans hr
        refine rr_aload_n (i := 0) C dX11_single_201 rfl rfl ?_
        refine rr_aload_n (i := 0) C dX11_single_202 rfl rfl ?_
        replace hr := Option.bind_eq_some_iff.mp hr
        obtain ⟨v62, e63, hr⟩ := hr
        refine rr_rdI C dX11_single_203 fl_X11_230 e63 ?_
        replace hr := Option.bind_eq_some_iff.mp hr
        obtain ⟨h64, e65, hr⟩ := hr
        refine rr_wrF C dX11_single_206 fp_X11_221 rfl rfl e65 ?_
        refine rr_aload_n (i := 0) C dX11_single_209 rfl rfl ?_
        replace hr := Option.bind_eq_some_iff.mp hr
        obtain ⟨v66, e67, hr⟩ := hr
        refine rr_rdR C dX11_single_210 fl_X11_121 e67 ?_
        refine rr_iload_n (i := 1) C dX11_single_213 rfl rfl ?_
        refine rr_aload_n (i := 0) C dX11_single_214 rfl rfl ?_
        refine rr_bipush (v := 60) C dX11_single_215 (by decide) ?_
        replace hr := Option.bind_eq_some_iff.mp hr
        obtain ⟨u68, e69, hr⟩ := hr
        replace hr := Option.bind_eq_some_iff.mp hr
        obtain ⟨v70, e71, hr⟩ := hr
        refine rr_callVq (as := [.int 60]) (st := [.int v41.1, va_rf v66]) (mc' := 0) (ms' := 0) C dX11_single_217 iv_X11_281 (by omega) e69 rfl (by rcases v66 with _ | _ <;> exact Nat.le_of_ble_eq_true rfl) (c_X11_takesSign l0 60 (by omega) e71) (fun v_ h_ n_ q_ => ?_)
        obtain ⟨q1_, q2_, q3_⟩ := q_
        subst v_; subst h_; subst n_
        show WW W0 G 3 _ _ _ 220 [some (.ref l0), some (.int v41.1), none] [.int v70.1, .int v41.1, va_rf v66] v70.2 n _ _
        refine rr_if_eq (tgt := 228) C dX11_single_220 (by decide) (fun c220_ => ?_) (fun c220_ => ?_)
        · replace hr := (if_pos c220_).symm.trans hr
          refine rr_aload_n (i := 0) C dX11_single_228 rfl rfl ?_
          refine rr_bipush (v := 62) C dX11_single_229 (by decide) ?_
          replace hr := Option.bind_eq_some_iff.mp hr
          obtain ⟨u72, e73, hr⟩ := hr
          replace hr := Option.bind_eq_some_iff.mp hr
          obtain ⟨v74, e75, hr⟩ := hr
          refine rr_callVq (as := [.int 62]) (st := [.int v41.1, va_rf v66]) (mc' := 0) (ms' := 0) C dX11_single_231 iv_X11_281 (by omega) e73 rfl (by rcases v66 with _ | _ <;> exact Nat.le_of_ble_eq_true rfl) (c_X11_takesSign l0 62 (by omega) e75) (fun v_ h_ n_ q_ => ?_)
          obtain ⟨q1_, q2_, q3_⟩ := q_
          subst v_; subst h_; subst n_
          show WW W0 G 3 _ _ _ 234 [some (.ref l0), some (.int v41.1), none] [.int v74.1, .int v41.1, va_rf v66] v74.2 n _ _
          refine rr_if_eq (tgt := 242) C dX11_single_234 (by decide) (fun c234_ => ?_) (fun c234_ => ?_)
          · replace hr := (if_pos c234_).symm.trans hr
            refine rr_aload_n (i := 0) C dX11_single_242 rfl rfl ?_
            refine rr_bipush (v := 61) C dX11_single_243 (by decide) ?_
            replace hr := Option.bind_eq_some_iff.mp hr
            obtain ⟨u76, e77, hr⟩ := hr
            replace hr := Option.bind_eq_some_iff.mp hr
            obtain ⟨v78, e79, hr⟩ := hr
            refine rr_callVq (as := [.int 61]) (st := [.int v41.1, va_rf v66]) (mc' := 0) (ms' := 0) C dX11_single_245 iv_X11_281 (by omega) e77 rfl (by rcases v66 with _ | _ <;> exact Nat.le_of_ble_eq_true rfl) (c_X11_takesSign l0 61 (by omega) e79) (fun v_ h_ n_ q_ => ?_)
            obtain ⟨q1_, q2_, q3_⟩ := q_
            subst v_; subst h_; subst n_
            show WW W0 G 3 _ _ _ 248 [some (.ref l0), some (.int v41.1), none] [.int v78.1, .int v41.1, va_rf v66] v78.2 n _ _
            refine rr_if_eq (tgt := 256) C dX11_single_248 (by decide) (fun c248_ => ?_) (fun c248_ => ?_)
            · replace hr := (if_pos c248_).symm.trans hr
              refine rr_iconst (v := (-1)) C dX11_single_256 (by decide) ?_
              replace hr := Option.bind_eq_some_iff.mp hr
              obtain ⟨a80, e81, hr⟩ := hr
              subst e81
              replace hr := Option.bind_eq_some_iff.mp hr
              obtain ⟨h82, e83, hr⟩ := hr
              refine rr_stI C dX11_single_257 e83 ?_
              refine rr_aload_n (i := 0) C dX11_single_258 rfl rfl ?_
              replace hr := Option.bind_eq_some_iff.mp hr
              obtain ⟨v84, e85, hr⟩ := hr
              refine rr_rdR C dX11_single_259 fl_X11_121 e85 ?_
              refine rr_iload_n (i := 1) C dX11_single_262 rfl rfl ?_
              replace hr := Option.bind_eq_some_iff.mp hr
              obtain ⟨a86, e87, hr⟩ := hr
              subst e87
              replace hr := Option.bind_eq_some_iff.mp hr
              obtain ⟨v88, e89, hr⟩ := hr
              refine rr_ldI C dX11_single_263 e89 ?_
              refine rr_iconst (v := (-1)) C dX11_single_264 (by decide) ?_
              refine rr_icmp_eq (tgt := 275) C dX11_single_265 (by decide) (fun c265_ => ?_) (fun c265_ => ?_)
              · replace hr := (if_pos c265_).symm.trans hr
                refine rr_iconst (v := (-1)) C dX11_single_275 (by decide) ?_
                obtain rfl := Option.some.inj hr
                exact rr_iret (ty := .int) C dX11_single_276 rfl rfl ⟨rfl, rfl, rfl⟩
              · replace hr := (if_neg c265_).symm.trans hr
                refine rr_aload_n (i := 0) C dX11_single_268 rfl rfl ?_
                replace hr := Option.bind_eq_some_iff.mp hr
                obtain ⟨u90, e91, hr⟩ := hr
                replace hr := Option.bind_eq_some_iff.mp hr
                obtain ⟨v92, e93, hr⟩ := hr
                refine rr_callVq (as := []) (st := []) (mc' := 0) (ms' := 0) C dX11_single_269 iv_X11_288 (by omega) e91 rfl (Nat.le_of_ble_eq_true rfl) (c_X11_takesPlain l0 (by omega) e93) (fun v_ h_ n_ q_ => ?_)
                obtain ⟨q1_, q2_, q3_⟩ := q_
                subst v_; subst h_; subst n_
                show WW W0 G 3 _ _ _ 272 [some (.ref l0), some (.int v41.1), none] [.int v92.1] v92.2 n _ _
                refine rr_if_ne (tgt := 277) C dX11_single_272 (by decide) (fun c272_ => ?_) (fun c272_ => ?_)
                · replace hr := (if_neg c272_).symm.trans hr
                  refine rr_aload_n (i := 0) C dX11_single_277 rfl rfl ?_
                  replace hr := Option.bind_eq_some_iff.mp hr
                  obtain ⟨v94, e95, hr⟩ := hr
                  refine rr_rdR C dX11_single_278 fl_X11_124 e95 ?_
                  refine rr_iload_n (i := 1) C dX11_single_281 rfl rfl ?_
                  refine rr_aload_n (i := 0) C dX11_single_282 rfl rfl ?_
                  replace hr := Option.bind_eq_some_iff.mp hr
                  obtain ⟨v96, e97, hr⟩ := hr
                  refine rr_rdI C dX11_single_283 fl_X11_237 e97 ?_
                  replace hr := Option.bind_eq_some_iff.mp hr
                  obtain ⟨a98, e99, hr⟩ := hr
                  subst e99
                  replace hr := Option.bind_eq_some_iff.mp hr
                  obtain ⟨h100, e101, hr⟩ := hr
                  refine rr_stI C dX11_single_286 e101 ?_
                  refine rr_iload_n (i := 1) C dX11_single_287 rfl rfl ?_
                  obtain rfl := Option.some.inj hr
                  exact rr_iret (ty := .int) C dX11_single_288 rfl rfl ⟨rfl, rfl, rfl⟩
                · replace hr := (if_pos c272_).symm.trans hr
                  refine rr_iconst (v := (-1)) C dX11_single_275 (by decide) ?_
                  obtain rfl := Option.some.inj hr
                  exact rr_iret (ty := .int) C dX11_single_276 rfl rfl ⟨rfl, rfl, rfl⟩
            · replace hr := (if_neg c248_).symm.trans hr
              refine rr_bipush (v := 61) C dX11_single_251 (by decide) ?_
              refine rr_goto (tgt := 257) C dX11_single_253 (by decide) ?_
              replace hr := Option.bind_eq_some_iff.mp hr
              obtain ⟨a102, e103, hr⟩ := hr
              subst e103
              replace hr := Option.bind_eq_some_iff.mp hr
              obtain ⟨h104, e105, hr⟩ := hr
              refine rr_stI C dX11_single_257 e105 ?_
              refine rr_aload_n (i := 0) C dX11_single_258 rfl rfl ?_
              replace hr := Option.bind_eq_some_iff.mp hr
              obtain ⟨v106, e107, hr⟩ := hr
              refine rr_rdR C dX11_single_259 fl_X11_121 e107 ?_
              refine rr_iload_n (i := 1) C dX11_single_262 rfl rfl ?_
              replace hr := Option.bind_eq_some_iff.mp hr
              obtain ⟨a108, e109, hr⟩ := hr
              subst e109
              replace hr := Option.bind_eq_some_iff.mp hr
              obtain ⟨v110, e111, hr⟩ := hr
              refine rr_ldI C dX11_single_263 e111 ?_
              refine rr_iconst (v := (-1)) C dX11_single_264 (by decide) ?_
              refine rr_icmp_eq (tgt := 275) C dX11_single_265 (by decide) (fun c265_ => ?_) (fun c265_ => ?_)
              · replace hr := (if_pos c265_).symm.trans hr
                refine rr_iconst (v := (-1)) C dX11_single_275 (by decide) ?_
                obtain rfl := Option.some.inj hr
                exact rr_iret (ty := .int) C dX11_single_276 rfl rfl ⟨rfl, rfl, rfl⟩
              · replace hr := (if_neg c265_).symm.trans hr
                refine rr_aload_n (i := 0) C dX11_single_268 rfl rfl ?_
                replace hr := Option.bind_eq_some_iff.mp hr
                obtain ⟨u112, e113, hr⟩ := hr
                replace hr := Option.bind_eq_some_iff.mp hr
                obtain ⟨v114, e115, hr⟩ := hr
                refine rr_callVq (as := []) (st := []) (mc' := 0) (ms' := 0) C dX11_single_269 iv_X11_288 (by omega) e113 rfl (Nat.le_of_ble_eq_true rfl) (c_X11_takesPlain l0 (by omega) e115) (fun v_ h_ n_ q_ => ?_)
                obtain ⟨q1_, q2_, q3_⟩ := q_
                subst v_; subst h_; subst n_
                show WW W0 G 3 _ _ _ 272 [some (.ref l0), some (.int v41.1), none] [.int v114.1] v114.2 n _ _
                refine rr_if_ne (tgt := 277) C dX11_single_272 (by decide) (fun c272_ => ?_) (fun c272_ => ?_)
                · replace hr := (if_neg c272_).symm.trans hr
                  refine rr_aload_n (i := 0) C dX11_single_277 rfl rfl ?_
                  replace hr := Option.bind_eq_some_iff.mp hr
                  obtain ⟨v116, e117, hr⟩ := hr
                  refine rr_rdR C dX11_single_278 fl_X11_124 e117 ?_
                  refine rr_iload_n (i := 1) C dX11_single_281 rfl rfl ?_
                  refine rr_aload_n (i := 0) C dX11_single_282 rfl rfl ?_
                  replace hr := Option.bind_eq_some_iff.mp hr
                  obtain ⟨v118, e119, hr⟩ := hr
                  refine rr_rdI C dX11_single_283 fl_X11_237 e119 ?_
                  replace hr := Option.bind_eq_some_iff.mp hr
                  obtain ⟨a120, e121, hr⟩ := hr
                  subst e121
                  replace hr := Option.bind_eq_some_iff.mp hr
                  obtain ⟨h122, e123, hr⟩ := hr
                  refine rr_stI C dX11_single_286 e123 ?_
                  refine rr_iload_n (i := 1) C dX11_single_287 rfl rfl ?_
                  obtain rfl := Option.some.inj hr
                  exact rr_iret (ty := .int) C dX11_single_288 rfl rfl ⟨rfl, rfl, rfl⟩
                · replace hr := (if_pos c272_).symm.trans hr
                  refine rr_iconst (v := (-1)) C dX11_single_275 (by decide) ?_
                  obtain rfl := Option.some.inj hr
                  exact rr_iret (ty := .int) C dX11_single_276 rfl rfl ⟨rfl, rfl, rfl⟩
          · replace hr := (if_neg c234_).symm.trans hr
            refine rr_bipush (v := 62) C dX11_single_237 (by decide) ?_
            refine rr_goto (tgt := 257) C dX11_single_239 (by decide) ?_
            replace hr := Option.bind_eq_some_iff.mp hr
            obtain ⟨a124, e125, hr⟩ := hr
            subst e125
            replace hr := Option.bind_eq_some_iff.mp hr
            obtain ⟨h126, e127, hr⟩ := hr
            refine rr_stI C dX11_single_257 e127 ?_
            refine rr_aload_n (i := 0) C dX11_single_258 rfl rfl ?_
            replace hr := Option.bind_eq_some_iff.mp hr
            obtain ⟨v128, e129, hr⟩ := hr
            refine rr_rdR C dX11_single_259 fl_X11_121 e129 ?_
            refine rr_iload_n (i := 1) C dX11_single_262 rfl rfl ?_
            replace hr := Option.bind_eq_some_iff.mp hr
            obtain ⟨a130, e131, hr⟩ := hr
            subst e131
            replace hr := Option.bind_eq_some_iff.mp hr
            obtain ⟨v132, e133, hr⟩ := hr
            refine rr_ldI C dX11_single_263 e133 ?_
            refine rr_iconst (v := (-1)) C dX11_single_264 (by decide) ?_
            refine rr_icmp_eq (tgt := 275) C dX11_single_265 (by decide) (fun c265_ => ?_) (fun c265_ => ?_)
            · replace hr := (if_pos c265_).symm.trans hr
              refine rr_iconst (v := (-1)) C dX11_single_275 (by decide) ?_
              obtain rfl := Option.some.inj hr
              exact rr_iret (ty := .int) C dX11_single_276 rfl rfl ⟨rfl, rfl, rfl⟩
            · replace hr := (if_neg c265_).symm.trans hr
              refine rr_aload_n (i := 0) C dX11_single_268 rfl rfl ?_
              replace hr := Option.bind_eq_some_iff.mp hr
              obtain ⟨u134, e135, hr⟩ := hr
              replace hr := Option.bind_eq_some_iff.mp hr
              obtain ⟨v136, e137, hr⟩ := hr
              refine rr_callVq (as := []) (st := []) (mc' := 0) (ms' := 0) C dX11_single_269 iv_X11_288 (by omega) e135 rfl (Nat.le_of_ble_eq_true rfl) (c_X11_takesPlain l0 (by omega) e137) (fun v_ h_ n_ q_ => ?_)
              obtain ⟨q1_, q2_, q3_⟩ := q_
              subst v_; subst h_; subst n_
              show WW W0 G 3 _ _ _ 272 [some (.ref l0), some (.int v41.1), none] [.int v136.1] v136.2 n _ _
              refine rr_if_ne (tgt := 277) C dX11_single_272 (by decide) (fun c272_ => ?_) (fun c272_ => ?_)
              · replace hr := (if_neg c272_).symm.trans hr
                refine rr_aload_n (i := 0) C dX11_single_277 rfl rfl ?_
                replace hr := Option.bind_eq_some_iff.mp hr
                obtain ⟨v138, e139, hr⟩ := hr
                refine rr_rdR C dX11_single_278 fl_X11_124 e139 ?_
                refine rr_iload_n (i := 1) C dX11_single_281 rfl rfl ?_
                refine rr_aload_n (i := 0) C dX11_single_282 rfl rfl ?_
                replace hr := Option.bind_eq_some_iff.mp hr
                obtain ⟨v140, e141, hr⟩ := hr
                refine rr_rdI C dX11_single_283 fl_X11_237 e141 ?_
                replace hr := Option.bind_eq_some_iff.mp hr
                obtain ⟨a142, e143, hr⟩ := hr
                subst e143
                replace hr := Option.bind_eq_some_iff.mp hr
                obtain ⟨h144, e145, hr⟩ := hr
                refine rr_stI C dX11_single_286 e145 ?_
                refine rr_iload_n (i := 1) C dX11_single_287 rfl rfl ?_
                obtain rfl := Option.some.inj hr
                exact rr_iret (ty := .int) C dX11_single_288 rfl rfl ⟨rfl, rfl, rfl⟩
              · replace hr := (if_pos c272_).symm.trans hr
                refine rr_iconst (v := (-1)) C dX11_single_275 (by decide) ?_
                obtain rfl := Option.some.inj hr
                exact rr_iret (ty := .int) C dX11_single_276 rfl rfl ⟨rfl, rfl, rfl⟩
        · replace hr := (if_neg c220_).symm.trans hr
          refine rr_bipush (v := 60) C dX11_single_223 (by decide) ?_
          refine rr_goto (tgt := 257) C dX11_single_225 (by decide) ?_
          replace hr := Option.bind_eq_some_iff.mp hr
          obtain ⟨a146, e147, hr⟩ := hr
          subst e147
          replace hr := Option.bind_eq_some_iff.mp hr
          obtain ⟨h148, e149, hr⟩ := hr
          refine rr_stI C dX11_single_257 e149 ?_
          refine rr_aload_n (i := 0) C dX11_single_258 rfl rfl ?_
          replace hr := Option.bind_eq_some_iff.mp hr
          obtain ⟨v150, e151, hr⟩ := hr
          refine rr_rdR C dX11_single_259 fl_X11_121 e151 ?_
          refine rr_iload_n (i := 1) C dX11_single_262 rfl rfl ?_
          replace hr := Option.bind_eq_some_iff.mp hr
          obtain ⟨a152, e153, hr⟩ := hr
          subst e153
          replace hr := Option.bind_eq_some_iff.mp hr
          obtain ⟨v154, e155, hr⟩ := hr
          refine rr_ldI C dX11_single_263 e155 ?_
          refine rr_iconst (v := (-1)) C dX11_single_264 (by decide) ?_
          refine rr_icmp_eq (tgt := 275) C dX11_single_265 (by decide) (fun c265_ => ?_) (fun c265_ => ?_)
          · replace hr := (if_pos c265_).symm.trans hr
            refine rr_iconst (v := (-1)) C dX11_single_275 (by decide) ?_
            obtain rfl := Option.some.inj hr
            exact rr_iret (ty := .int) C dX11_single_276 rfl rfl ⟨rfl, rfl, rfl⟩
          · replace hr := (if_neg c265_).symm.trans hr
            refine rr_aload_n (i := 0) C dX11_single_268 rfl rfl ?_
            replace hr := Option.bind_eq_some_iff.mp hr
            obtain ⟨u156, e157, hr⟩ := hr
            replace hr := Option.bind_eq_some_iff.mp hr
            obtain ⟨v158, e159, hr⟩ := hr
            refine rr_callVq (as := []) (st := []) (mc' := 0) (ms' := 0) C dX11_single_269 iv_X11_288 (by omega) e157 rfl (Nat.le_of_ble_eq_true rfl) (c_X11_takesPlain l0 (by omega) e159) (fun v_ h_ n_ q_ => ?_)
            obtain ⟨q1_, q2_, q3_⟩ := q_
            subst v_; subst h_; subst n_
            show WW W0 G 3 _ _ _ 272 [some (.ref l0), some (.int v41.1), none] [.int v158.1] v158.2 n _ _
            refine rr_if_ne (tgt := 277) C dX11_single_272 (by decide) (fun c272_ => ?_) (fun c272_ => ?_)
            · replace hr := (if_neg c272_).symm.trans hr
              refine rr_aload_n (i := 0) C dX11_single_277 rfl rfl ?_
              replace hr := Option.bind_eq_some_iff.mp hr
              obtain ⟨v160, e161, hr⟩ := hr
              refine rr_rdR C dX11_single_278 fl_X11_124 e161 ?_
              refine rr_iload_n (i := 1) C dX11_single_281 rfl rfl ?_
              refine rr_aload_n (i := 0) C dX11_single_282 rfl rfl ?_
              replace hr := Option.bind_eq_some_iff.mp hr
              obtain ⟨v162, e163, hr⟩ := hr
              refine rr_rdI C dX11_single_283 fl_X11_237 e163 ?_
              replace hr := Option.bind_eq_some_iff.mp hr
              obtain ⟨a164, e165, hr⟩ := hr
              subst e165
              replace hr := Option.bind_eq_some_iff.mp hr
              obtain ⟨h166, e167, hr⟩ := hr
              refine rr_stI C dX11_single_286 e167 ?_
              refine rr_iload_n (i := 1) C dX11_single_287 rfl rfl ?_
              obtain rfl := Option.some.inj hr
              exact rr_iret (ty := .int) C dX11_single_288 rfl rfl ⟨rfl, rfl, rfl⟩
            · replace hr := (if_pos c272_).symm.trans hr
              refine rr_iconst (v := (-1)) C dX11_single_275 (by decide) ?_
              obtain rfl := Option.some.inj hr
              exact rr_iret (ty := .int) C dX11_single_276 rfl rfl ⟨rfl, rfl, rfl⟩
      · replace hr := (if_pos c196_).symm.trans hr
        refine rr_iconst (v := (-1)) C dX11_single_199 (by decide) ?_
        obtain rfl := Option.some.inj hr
        exact rr_iret (ty := .int) C dX11_single_200 rfl rfl ⟨rfl, rfl, rfl⟩
    · replace hr := (if_neg c87_).symm.trans hr
      refine rr_aload_n (i := 0) C dX11_single_90 rfl rfl ?_
      replace hr := Option.bind_eq_some_iff.mp hr
      obtain ⟨v168, e169, hr⟩ := hr
      refine rr_rdR C dX11_single_91 fl_X11_135 e169 ?_
      refine rr_aload_n (i := 0) C dX11_single_94 rfl rfl ?_
      replace hr := Option.bind_eq_some_iff.mp hr
      obtain ⟨v170, e171, hr⟩ := hr
      refine rr_rdI C dX11_single_95 fl_X11_221 e171 ?_
      replace hr := Option.bind_eq_some_iff.mp hr
      obtain ⟨a172, e173, hr⟩ := hr
      subst e173
      replace hr := Option.bind_eq_some_iff.mp hr
      obtain ⟨v174, e175, hr⟩ := hr
      refine rr_ldB C dX11_single_98 e175 ?_
      refine rr_bipush (v := 40) C dX11_single_99 (by decide) ?_
      refine rr_icmp_ne (tgt := 170) C dX11_single_101 (by decide) (fun c101_ => ?_) (fun c101_ => ?_)
      · replace hr := (if_neg c101_).symm.trans hr
        refine rr_aload_n (i := 0) C dX11_single_170 rfl rfl ?_
        refine rr_iconst (v := 3) C dX11_single_171 (by decide) ?_
        replace hr := Option.bind_eq_some_iff.mp hr
        obtain ⟨u199, e200, hr⟩ := hr
        replace hr := Option.bind_eq_some_iff.mp hr
        obtain ⟨v201, e202, hr⟩ := hr
        refine rr_callVq (as := [.int 3]) (st := []) (mc' := 0) (ms' := 0) C dX11_single_172 iv_X11_245 (by omega) e200 rfl (Nat.le_of_ble_eq_true rfl) (c_X11_node l0 3 (by omega) e202) (fun v_ h_ n_ q_ => ?_)
        obtain ⟨q1_, q2_, q3_⟩ := q_
        subst v_; subst h_; subst n_
        show WW W0 G 3 _ _ _ 175 [some (.ref l0), none, none] [.int v201.1] v201.2 n _ _
        refine rr_istore_n (i := 1) C dX11_single_175 rfl (by decide) ?_
        show WW W0 G 3 _ _ _ 176 [some (.ref l0), some (.int v201.1), none] [] v201.2 n _ _
        refine rr_aload_n (i := 0) C dX11_single_176 rfl rfl ?_
        replace hr := Option.bind_eq_some_iff.mp hr
        obtain ⟨v204, e205, hr⟩ := hr
        refine rr_rdR C dX11_single_177 fl_X11_118 e205 ?_
        refine rr_iload_n (i := 1) C dX11_single_180 rfl rfl ?_
        refine rr_aload_n (i := 0) C dX11_single_181 rfl rfl ?_
        replace hr := Option.bind_eq_some_iff.mp hr
        obtain ⟨u206, e207, hr⟩ := hr
        replace hr := Option.bind_eq_some_iff.mp hr
        obtain ⟨v208, e209, hr⟩ := hr
        refine rr_callVq (as := []) (st := [.int v201.1, va_rf v204]) (mc' := 0) (ms' := 0) C dX11_single_182 iv_X11_233 (by omega) e207 rfl (by rcases v204 with _ | _ <;> exact Nat.le_of_ble_eq_true rfl) (c_X11_word l0 (by omega) e209) (fun v_ h_ n_ q_ => ?_)
        obtain ⟨q1_, q2_, q3_⟩ := q_
        subst v_; subst h_; subst n_
        show WW W0 G 3 _ _ _ 185 [some (.ref l0), some (.int v201.1), none] [.long v208.1, .int v201.1, va_rf v204] v208.2 n _ _
        replace hr := Option.bind_eq_some_iff.mp hr
        obtain ⟨v210, e211, hr⟩ := hr
        refine rr_callS (as := [.long v208.1]) (st := [.int v201.1, va_rf v204]) (mc' := 0) (ms' := 0) C dX11_single_185 it_X11_284 (by omega) (by rcases v204 with _ | _ <;> exact Nat.le_of_ble_eq_true rfl) (c_X11_asked v208.1 (by omega) e211) (fun v_ h_ n_ q_ => ?_)
        obtain ⟨q1_, q2_, q3_⟩ := q_
        subst v_; subst h_; subst n_
        show WW W0 G 3 _ _ _ 188 [some (.ref l0), some (.int v201.1), none] [.int v210, .int v201.1, va_rf v204] v208.2 n _ _
        replace hr := Option.bind_eq_some_iff.mp hr
        obtain ⟨a212, e213, hr⟩ := hr
        subst e213
        replace hr := Option.bind_eq_some_iff.mp hr
        obtain ⟨h214, e215, hr⟩ := hr
        refine rr_stI C dX11_single_188 e215 ?_
        refine rr_aload_n (i := 0) C dX11_single_189 rfl rfl ?_
        replace hr := Option.bind_eq_some_iff.mp hr
        obtain ⟨v216, e217, hr⟩ := hr
        refine rr_rdR C dX11_single_190 fl_X11_118 e217 ?_
        refine rr_iload_n (i := 1) C dX11_single_193 rfl rfl ?_
        replace hr := Option.bind_eq_some_iff.mp hr
        obtain ⟨a218, e219, hr⟩ := hr
        subst e219
        replace hr := Option.bind_eq_some_iff.mp hr
        obtain ⟨v220, e221, hr⟩ := hr
        refine rr_ldI C dX11_single_194 e221 ?_
        refine rr_iconst (v := (-1)) C dX11_single_195 (by decide) ?_
        refine rr_icmp_ne (tgt := 201) C dX11_single_196 (by decide) (fun c196_ => ?_) (fun c196_ => ?_)
        · replace hr := (if_neg c196_).symm.trans hr
          refine rr_aload_n (i := 0) C dX11_single_201 rfl rfl ?_
          refine rr_aload_n (i := 0) C dX11_single_202 rfl rfl ?_
          replace hr := Option.bind_eq_some_iff.mp hr
          obtain ⟨v222, e223, hr⟩ := hr
          refine rr_rdI C dX11_single_203 fl_X11_230 e223 ?_
          replace hr := Option.bind_eq_some_iff.mp hr
          obtain ⟨h224, e225, hr⟩ := hr
          refine rr_wrF C dX11_single_206 fp_X11_221 rfl rfl e225 ?_
          refine rr_aload_n (i := 0) C dX11_single_209 rfl rfl ?_
          replace hr := Option.bind_eq_some_iff.mp hr
          obtain ⟨v226, e227, hr⟩ := hr
          refine rr_rdR C dX11_single_210 fl_X11_121 e227 ?_
          refine rr_iload_n (i := 1) C dX11_single_213 rfl rfl ?_
          refine rr_aload_n (i := 0) C dX11_single_214 rfl rfl ?_
          refine rr_bipush (v := 60) C dX11_single_215 (by decide) ?_
          replace hr := Option.bind_eq_some_iff.mp hr
          obtain ⟨u228, e229, hr⟩ := hr
          replace hr := Option.bind_eq_some_iff.mp hr
          obtain ⟨v230, e231, hr⟩ := hr
          refine rr_callVq (as := [.int 60]) (st := [.int v201.1, va_rf v226]) (mc' := 0) (ms' := 0) C dX11_single_217 iv_X11_281 (by omega) e229 rfl (by rcases v226 with _ | _ <;> exact Nat.le_of_ble_eq_true rfl) (c_X11_takesSign l0 60 (by omega) e231) (fun v_ h_ n_ q_ => ?_)
          obtain ⟨q1_, q2_, q3_⟩ := q_
          subst v_; subst h_; subst n_
          show WW W0 G 3 _ _ _ 220 [some (.ref l0), some (.int v201.1), none] [.int v230.1, .int v201.1, va_rf v226] v230.2 n _ _
          refine rr_if_eq (tgt := 228) C dX11_single_220 (by decide) (fun c220_ => ?_) (fun c220_ => ?_)
          · replace hr := (if_pos c220_).symm.trans hr
            refine rr_aload_n (i := 0) C dX11_single_228 rfl rfl ?_
            refine rr_bipush (v := 62) C dX11_single_229 (by decide) ?_
            replace hr := Option.bind_eq_some_iff.mp hr
            obtain ⟨u232, e233, hr⟩ := hr
            replace hr := Option.bind_eq_some_iff.mp hr
            obtain ⟨v234, e235, hr⟩ := hr
            refine rr_callVq (as := [.int 62]) (st := [.int v201.1, va_rf v226]) (mc' := 0) (ms' := 0) C dX11_single_231 iv_X11_281 (by omega) e233 rfl (by rcases v226 with _ | _ <;> exact Nat.le_of_ble_eq_true rfl) (c_X11_takesSign l0 62 (by omega) e235) (fun v_ h_ n_ q_ => ?_)
            obtain ⟨q1_, q2_, q3_⟩ := q_
            subst v_; subst h_; subst n_
            show WW W0 G 3 _ _ _ 234 [some (.ref l0), some (.int v201.1), none] [.int v234.1, .int v201.1, va_rf v226] v234.2 n _ _
            refine rr_if_eq (tgt := 242) C dX11_single_234 (by decide) (fun c234_ => ?_) (fun c234_ => ?_)
            · replace hr := (if_pos c234_).symm.trans hr
              refine rr_aload_n (i := 0) C dX11_single_242 rfl rfl ?_
              refine rr_bipush (v := 61) C dX11_single_243 (by decide) ?_
              replace hr := Option.bind_eq_some_iff.mp hr
              obtain ⟨u236, e237, hr⟩ := hr
              replace hr := Option.bind_eq_some_iff.mp hr
              obtain ⟨v238, e239, hr⟩ := hr
              refine rr_callVq (as := [.int 61]) (st := [.int v201.1, va_rf v226]) (mc' := 0) (ms' := 0) C dX11_single_245 iv_X11_281 (by omega) e237 rfl (by rcases v226 with _ | _ <;> exact Nat.le_of_ble_eq_true rfl) (c_X11_takesSign l0 61 (by omega) e239) (fun v_ h_ n_ q_ => ?_)
              obtain ⟨q1_, q2_, q3_⟩ := q_
              subst v_; subst h_; subst n_
              show WW W0 G 3 _ _ _ 248 [some (.ref l0), some (.int v201.1), none] [.int v238.1, .int v201.1, va_rf v226] v238.2 n _ _
              refine rr_if_eq (tgt := 256) C dX11_single_248 (by decide) (fun c248_ => ?_) (fun c248_ => ?_)
              · replace hr := (if_pos c248_).symm.trans hr
                refine rr_iconst (v := (-1)) C dX11_single_256 (by decide) ?_
                replace hr := Option.bind_eq_some_iff.mp hr
                obtain ⟨a240, e241, hr⟩ := hr
                subst e241
                replace hr := Option.bind_eq_some_iff.mp hr
                obtain ⟨h242, e243, hr⟩ := hr
                refine rr_stI C dX11_single_257 e243 ?_
                refine rr_aload_n (i := 0) C dX11_single_258 rfl rfl ?_
                replace hr := Option.bind_eq_some_iff.mp hr
                obtain ⟨v244, e245, hr⟩ := hr
                refine rr_rdR C dX11_single_259 fl_X11_121 e245 ?_
                refine rr_iload_n (i := 1) C dX11_single_262 rfl rfl ?_
                replace hr := Option.bind_eq_some_iff.mp hr
                obtain ⟨a246, e247, hr⟩ := hr
                subst e247
                replace hr := Option.bind_eq_some_iff.mp hr
                obtain ⟨v248, e249, hr⟩ := hr
                refine rr_ldI C dX11_single_263 e249 ?_
                refine rr_iconst (v := (-1)) C dX11_single_264 (by decide) ?_
                refine rr_icmp_eq (tgt := 275) C dX11_single_265 (by decide) (fun c265_ => ?_) (fun c265_ => ?_)
                · replace hr := (if_pos c265_).symm.trans hr
                  refine rr_iconst (v := (-1)) C dX11_single_275 (by decide) ?_
                  obtain rfl := Option.some.inj hr
                  exact rr_iret (ty := .int) C dX11_single_276 rfl rfl ⟨rfl, rfl, rfl⟩
                · replace hr := (if_neg c265_).symm.trans hr
                  refine rr_aload_n (i := 0) C dX11_single_268 rfl rfl ?_
                  replace hr := Option.bind_eq_some_iff.mp hr
                  obtain ⟨u250, e251, hr⟩ := hr
                  replace hr := Option.bind_eq_some_iff.mp hr
                  obtain ⟨v252, e253, hr⟩ := hr
                  refine rr_callVq (as := []) (st := []) (mc' := 0) (ms' := 0) C dX11_single_269 iv_X11_288 (by omega) e251 rfl (Nat.le_of_ble_eq_true rfl) (c_X11_takesPlain l0 (by omega) e253) (fun v_ h_ n_ q_ => ?_)
                  obtain ⟨q1_, q2_, q3_⟩ := q_
                  subst v_; subst h_; subst n_
                  show WW W0 G 3 _ _ _ 272 [some (.ref l0), some (.int v201.1), none] [.int v252.1] v252.2 n _ _
                  refine rr_if_ne (tgt := 277) C dX11_single_272 (by decide) (fun c272_ => ?_) (fun c272_ => ?_)
                  · replace hr := (if_neg c272_).symm.trans hr
                    refine rr_aload_n (i := 0) C dX11_single_277 rfl rfl ?_
                    replace hr := Option.bind_eq_some_iff.mp hr
                    obtain ⟨v254, e255, hr⟩ := hr
                    refine rr_rdR C dX11_single_278 fl_X11_124 e255 ?_
                    refine rr_iload_n (i := 1) C dX11_single_281 rfl rfl ?_
                    refine rr_aload_n (i := 0) C dX11_single_282 rfl rfl ?_
                    replace hr := Option.bind_eq_some_iff.mp hr
                    obtain ⟨v256, e257, hr⟩ := hr
                    refine rr_rdI C dX11_single_283 fl_X11_237 e257 ?_
                    replace hr := Option.bind_eq_some_iff.mp hr
                    obtain ⟨a258, e259, hr⟩ := hr
                    subst e259
                    replace hr := Option.bind_eq_some_iff.mp hr
                    obtain ⟨h260, e261, hr⟩ := hr
                    refine rr_stI C dX11_single_286 e261 ?_
                    refine rr_iload_n (i := 1) C dX11_single_287 rfl rfl ?_
                    obtain rfl := Option.some.inj hr
                    exact rr_iret (ty := .int) C dX11_single_288 rfl rfl ⟨rfl, rfl, rfl⟩
                  · replace hr := (if_pos c272_).symm.trans hr
                    refine rr_iconst (v := (-1)) C dX11_single_275 (by decide) ?_
                    obtain rfl := Option.some.inj hr
                    exact rr_iret (ty := .int) C dX11_single_276 rfl rfl ⟨rfl, rfl, rfl⟩
              · replace hr := (if_neg c248_).symm.trans hr
                refine rr_bipush (v := 61) C dX11_single_251 (by decide) ?_
                refine rr_goto (tgt := 257) C dX11_single_253 (by decide) ?_
                replace hr := Option.bind_eq_some_iff.mp hr
                obtain ⟨a262, e263, hr⟩ := hr
                subst e263
                replace hr := Option.bind_eq_some_iff.mp hr
                obtain ⟨h264, e265, hr⟩ := hr
                refine rr_stI C dX11_single_257 e265 ?_
                refine rr_aload_n (i := 0) C dX11_single_258 rfl rfl ?_
                replace hr := Option.bind_eq_some_iff.mp hr
                obtain ⟨v266, e267, hr⟩ := hr
                refine rr_rdR C dX11_single_259 fl_X11_121 e267 ?_
                refine rr_iload_n (i := 1) C dX11_single_262 rfl rfl ?_
                replace hr := Option.bind_eq_some_iff.mp hr
                obtain ⟨a268, e269, hr⟩ := hr
                subst e269
                replace hr := Option.bind_eq_some_iff.mp hr
                obtain ⟨v270, e271, hr⟩ := hr
                refine rr_ldI C dX11_single_263 e271 ?_
                refine rr_iconst (v := (-1)) C dX11_single_264 (by decide) ?_
                refine rr_icmp_eq (tgt := 275) C dX11_single_265 (by decide) (fun c265_ => ?_) (fun c265_ => ?_)
                · replace hr := (if_pos c265_).symm.trans hr
                  refine rr_iconst (v := (-1)) C dX11_single_275 (by decide) ?_
                  obtain rfl := Option.some.inj hr
                  exact rr_iret (ty := .int) C dX11_single_276 rfl rfl ⟨rfl, rfl, rfl⟩
                · replace hr := (if_neg c265_).symm.trans hr
                  refine rr_aload_n (i := 0) C dX11_single_268 rfl rfl ?_
                  replace hr := Option.bind_eq_some_iff.mp hr
                  obtain ⟨u272, e273, hr⟩ := hr
                  replace hr := Option.bind_eq_some_iff.mp hr
                  obtain ⟨v274, e275, hr⟩ := hr
                  refine rr_callVq (as := []) (st := []) (mc' := 0) (ms' := 0) C dX11_single_269 iv_X11_288 (by omega) e273 rfl (Nat.le_of_ble_eq_true rfl) (c_X11_takesPlain l0 (by omega) e275) (fun v_ h_ n_ q_ => ?_)
                  obtain ⟨q1_, q2_, q3_⟩ := q_
                  subst v_; subst h_; subst n_
                  show WW W0 G 3 _ _ _ 272 [some (.ref l0), some (.int v201.1), none] [.int v274.1] v274.2 n _ _
                  refine rr_if_ne (tgt := 277) C dX11_single_272 (by decide) (fun c272_ => ?_) (fun c272_ => ?_)
                  · replace hr := (if_neg c272_).symm.trans hr
                    refine rr_aload_n (i := 0) C dX11_single_277 rfl rfl ?_
                    replace hr := Option.bind_eq_some_iff.mp hr
                    obtain ⟨v276, e277, hr⟩ := hr
                    refine rr_rdR C dX11_single_278 fl_X11_124 e277 ?_
                    refine rr_iload_n (i := 1) C dX11_single_281 rfl rfl ?_
                    refine rr_aload_n (i := 0) C dX11_single_282 rfl rfl ?_
                    replace hr := Option.bind_eq_some_iff.mp hr
                    obtain ⟨v278, e279, hr⟩ := hr
                    refine rr_rdI C dX11_single_283 fl_X11_237 e279 ?_
                    replace hr := Option.bind_eq_some_iff.mp hr
                    obtain ⟨a280, e281, hr⟩ := hr
                    subst e281
                    replace hr := Option.bind_eq_some_iff.mp hr
                    obtain ⟨h282, e283, hr⟩ := hr
                    refine rr_stI C dX11_single_286 e283 ?_
                    refine rr_iload_n (i := 1) C dX11_single_287 rfl rfl ?_
                    obtain rfl := Option.some.inj hr
                    exact rr_iret (ty := .int) C dX11_single_288 rfl rfl ⟨rfl, rfl, rfl⟩
                  · replace hr := (if_pos c272_).symm.trans hr
                    refine rr_iconst (v := (-1)) C dX11_single_275 (by decide) ?_
                    obtain rfl := Option.some.inj hr
                    exact rr_iret (ty := .int) C dX11_single_276 rfl rfl ⟨rfl, rfl, rfl⟩
            · replace hr := (if_neg c234_).symm.trans hr
              refine rr_bipush (v := 62) C dX11_single_237 (by decide) ?_
              refine rr_goto (tgt := 257) C dX11_single_239 (by decide) ?_
              replace hr := Option.bind_eq_some_iff.mp hr
              obtain ⟨a284, e285, hr⟩ := hr
              subst e285
              replace hr := Option.bind_eq_some_iff.mp hr
              obtain ⟨h286, e287, hr⟩ := hr
              refine rr_stI C dX11_single_257 e287 ?_
              refine rr_aload_n (i := 0) C dX11_single_258 rfl rfl ?_
              replace hr := Option.bind_eq_some_iff.mp hr
              obtain ⟨v288, e289, hr⟩ := hr
              refine rr_rdR C dX11_single_259 fl_X11_121 e289 ?_
              refine rr_iload_n (i := 1) C dX11_single_262 rfl rfl ?_
              replace hr := Option.bind_eq_some_iff.mp hr
              obtain ⟨a290, e291, hr⟩ := hr
              subst e291
              replace hr := Option.bind_eq_some_iff.mp hr
              obtain ⟨v292, e293, hr⟩ := hr
              refine rr_ldI C dX11_single_263 e293 ?_
              refine rr_iconst (v := (-1)) C dX11_single_264 (by decide) ?_
              refine rr_icmp_eq (tgt := 275) C dX11_single_265 (by decide) (fun c265_ => ?_) (fun c265_ => ?_)
              · replace hr := (if_pos c265_).symm.trans hr
                refine rr_iconst (v := (-1)) C dX11_single_275 (by decide) ?_
                obtain rfl := Option.some.inj hr
                exact rr_iret (ty := .int) C dX11_single_276 rfl rfl ⟨rfl, rfl, rfl⟩
              · replace hr := (if_neg c265_).symm.trans hr
                refine rr_aload_n (i := 0) C dX11_single_268 rfl rfl ?_
                replace hr := Option.bind_eq_some_iff.mp hr
                obtain ⟨u294, e295, hr⟩ := hr
                replace hr := Option.bind_eq_some_iff.mp hr
                obtain ⟨v296, e297, hr⟩ := hr
                refine rr_callVq (as := []) (st := []) (mc' := 0) (ms' := 0) C dX11_single_269 iv_X11_288 (by omega) e295 rfl (Nat.le_of_ble_eq_true rfl) (c_X11_takesPlain l0 (by omega) e297) (fun v_ h_ n_ q_ => ?_)
                obtain ⟨q1_, q2_, q3_⟩ := q_
                subst v_; subst h_; subst n_
                show WW W0 G 3 _ _ _ 272 [some (.ref l0), some (.int v201.1), none] [.int v296.1] v296.2 n _ _
                refine rr_if_ne (tgt := 277) C dX11_single_272 (by decide) (fun c272_ => ?_) (fun c272_ => ?_)
                · replace hr := (if_neg c272_).symm.trans hr
                  refine rr_aload_n (i := 0) C dX11_single_277 rfl rfl ?_
                  replace hr := Option.bind_eq_some_iff.mp hr
                  obtain ⟨v298, e299, hr⟩ := hr
                  refine rr_rdR C dX11_single_278 fl_X11_124 e299 ?_
                  refine rr_iload_n (i := 1) C dX11_single_281 rfl rfl ?_
                  refine rr_aload_n (i := 0) C dX11_single_282 rfl rfl ?_
                  replace hr := Option.bind_eq_some_iff.mp hr
                  obtain ⟨v300, e301, hr⟩ := hr
                  refine rr_rdI C dX11_single_283 fl_X11_237 e301 ?_
                  replace hr := Option.bind_eq_some_iff.mp hr
                  obtain ⟨a302, e303, hr⟩ := hr
                  subst e303
                  replace hr := Option.bind_eq_some_iff.mp hr
                  obtain ⟨h304, e305, hr⟩ := hr
                  refine rr_stI C dX11_single_286 e305 ?_
                  refine rr_iload_n (i := 1) C dX11_single_287 rfl rfl ?_
                  obtain rfl := Option.some.inj hr
                  exact rr_iret (ty := .int) C dX11_single_288 rfl rfl ⟨rfl, rfl, rfl⟩
                · replace hr := (if_pos c272_).symm.trans hr
                  refine rr_iconst (v := (-1)) C dX11_single_275 (by decide) ?_
                  obtain rfl := Option.some.inj hr
                  exact rr_iret (ty := .int) C dX11_single_276 rfl rfl ⟨rfl, rfl, rfl⟩
          · replace hr := (if_neg c220_).symm.trans hr
            refine rr_bipush (v := 60) C dX11_single_223 (by decide) ?_
            refine rr_goto (tgt := 257) C dX11_single_225 (by decide) ?_
            replace hr := Option.bind_eq_some_iff.mp hr
            obtain ⟨a306, e307, hr⟩ := hr
            subst e307
            replace hr := Option.bind_eq_some_iff.mp hr
            obtain ⟨h308, e309, hr⟩ := hr
            refine rr_stI C dX11_single_257 e309 ?_
            refine rr_aload_n (i := 0) C dX11_single_258 rfl rfl ?_
            replace hr := Option.bind_eq_some_iff.mp hr
            obtain ⟨v310, e311, hr⟩ := hr
            refine rr_rdR C dX11_single_259 fl_X11_121 e311 ?_
            refine rr_iload_n (i := 1) C dX11_single_262 rfl rfl ?_
            replace hr := Option.bind_eq_some_iff.mp hr
            obtain ⟨a312, e313, hr⟩ := hr
            subst e313
            replace hr := Option.bind_eq_some_iff.mp hr
            obtain ⟨v314, e315, hr⟩ := hr
            refine rr_ldI C dX11_single_263 e315 ?_
            refine rr_iconst (v := (-1)) C dX11_single_264 (by decide) ?_
            refine rr_icmp_eq (tgt := 275) C dX11_single_265 (by decide) (fun c265_ => ?_) (fun c265_ => ?_)
            · replace hr := (if_pos c265_).symm.trans hr
              refine rr_iconst (v := (-1)) C dX11_single_275 (by decide) ?_
              obtain rfl := Option.some.inj hr
              exact rr_iret (ty := .int) C dX11_single_276 rfl rfl ⟨rfl, rfl, rfl⟩
            · replace hr := (if_neg c265_).symm.trans hr
              refine rr_aload_n (i := 0) C dX11_single_268 rfl rfl ?_
              replace hr := Option.bind_eq_some_iff.mp hr
              obtain ⟨u316, e317, hr⟩ := hr
              replace hr := Option.bind_eq_some_iff.mp hr
              obtain ⟨v318, e319, hr⟩ := hr
              refine rr_callVq (as := []) (st := []) (mc' := 0) (ms' := 0) C dX11_single_269 iv_X11_288 (by omega) e317 rfl (Nat.le_of_ble_eq_true rfl) (c_X11_takesPlain l0 (by omega) e319) (fun v_ h_ n_ q_ => ?_)
              obtain ⟨q1_, q2_, q3_⟩ := q_
              subst v_; subst h_; subst n_
              show WW W0 G 3 _ _ _ 272 [some (.ref l0), some (.int v201.1), none] [.int v318.1] v318.2 n _ _
              refine rr_if_ne (tgt := 277) C dX11_single_272 (by decide) (fun c272_ => ?_) (fun c272_ => ?_)
              · replace hr := (if_neg c272_).symm.trans hr
                refine rr_aload_n (i := 0) C dX11_single_277 rfl rfl ?_
                replace hr := Option.bind_eq_some_iff.mp hr
                obtain ⟨v320, e321, hr⟩ := hr
                refine rr_rdR C dX11_single_278 fl_X11_124 e321 ?_
                refine rr_iload_n (i := 1) C dX11_single_281 rfl rfl ?_
                refine rr_aload_n (i := 0) C dX11_single_282 rfl rfl ?_
                replace hr := Option.bind_eq_some_iff.mp hr
                obtain ⟨v322, e323, hr⟩ := hr
                refine rr_rdI C dX11_single_283 fl_X11_237 e323 ?_
                replace hr := Option.bind_eq_some_iff.mp hr
                obtain ⟨a324, e325, hr⟩ := hr
                subst e325
                replace hr := Option.bind_eq_some_iff.mp hr
                obtain ⟨h326, e327, hr⟩ := hr
                refine rr_stI C dX11_single_286 e327 ?_
                refine rr_iload_n (i := 1) C dX11_single_287 rfl rfl ?_
                obtain rfl := Option.some.inj hr
                exact rr_iret (ty := .int) C dX11_single_288 rfl rfl ⟨rfl, rfl, rfl⟩
              · replace hr := (if_pos c272_).symm.trans hr
                refine rr_iconst (v := (-1)) C dX11_single_275 (by decide) ?_
                obtain rfl := Option.some.inj hr
                exact rr_iret (ty := .int) C dX11_single_276 rfl rfl ⟨rfl, rfl, rfl⟩
        · replace hr := (if_pos c196_).symm.trans hr
          refine rr_iconst (v := (-1)) C dX11_single_199 (by decide) ?_
          obtain rfl := Option.some.inj hr
          exact rr_iret (ty := .int) C dX11_single_200 rfl rfl ⟨rfl, rfl, rfl⟩
      · replace hr := (if_pos c101_).symm.trans hr
        refine rr_aload_n (i := 0) C dX11_single_104 rfl rfl ?_
        replace hr := Option.bind_eq_some_iff.mp hr
        obtain ⟨v176, e177, hr⟩ := hr
        refine rr_rdI C dX11_single_105 fl_X11_275 e177 ?_
        refine rr_bipush (v := 10) C dX11_single_108 (by decide) ?_
        refine rr_icmp_ne (tgt := 115) C dX11_single_110 (by decide) (fun c110_ => ?_) (fun c110_ => ?_)
        · replace hr := (if_neg c110_).symm.trans hr
          refine rr_aload_n (i := 0) C dX11_single_115 rfl rfl ?_
          refine rr_dup C dX11_single_116 rfl ?_
          replace hr := Option.bind_eq_some_iff.mp hr
          obtain ⟨v178, e179, hr⟩ := hr
          refine rr_rdI C dX11_single_117 fl_X11_275 e179 ?_
          refine rr_iconst (v := 1) C dX11_single_120 (by decide) ?_
          refine rr_iadd C dX11_single_121 ?_
          replace hr := Option.bind_eq_some_iff.mp hr
          obtain ⟨h180, e181, hr⟩ := hr
          refine rr_wrF C dX11_single_122 fp_X11_275 rfl rfl e181 ?_
          refine rr_aload_n (i := 0) C dX11_single_125 rfl rfl ?_
          refine rr_dup C dX11_single_126 rfl ?_
          replace hr := Option.bind_eq_some_iff.mp hr
          obtain ⟨v182, e183, hr⟩ := hr
          refine rr_rdI C dX11_single_127 fl_X11_221 e183 ?_
          refine rr_iconst (v := 1) C dX11_single_130 (by decide) ?_
          refine rr_iadd C dX11_single_131 ?_
          replace hr := Option.bind_eq_some_iff.mp hr
          obtain ⟨h184, e185, hr⟩ := hr
          refine rr_wrF C dX11_single_132 fp_X11_221 rfl rfl e185 ?_
          refine rr_aload_n (i := 0) C dX11_single_135 rfl rfl ?_
          replace hr := Option.bind_eq_some_iff.mp hr
          obtain ⟨u186, e187, hr⟩ := hr
          replace hr := Option.bind_eq_some_iff.mp hr
          obtain ⟨v188, e189, hr⟩ := hr
          refine rr_callVq (as := []) (st := []) (mc' := 0) (ms' := 0) C dX11_single_136 iv_X11_278 (by omega) e187 rfl (Nat.le_of_ble_eq_true rfl) (hF0 l0 (by omega) e189) (fun v_ h_ n_ q_ => ?_)
          obtain ⟨q1_, q2_, q3_⟩ := q_
          subst v_; subst h_; subst n_
          show WW W0 G 3 _ _ _ 139 [some (.ref l0), none, none] [.int v188.1] v188.2 n _ _
          refine rr_istore_n (i := 1) C dX11_single_139 rfl (by decide) ?_
          show WW W0 G 3 _ _ _ 140 [some (.ref l0), some (.int v188.1), none] [] v188.2 n _ _
          refine rr_aload_n (i := 0) C dX11_single_140 rfl rfl ?_
          refine rr_dup C dX11_single_141 rfl ?_
          replace hr := Option.bind_eq_some_iff.mp hr
          obtain ⟨v191, e192, hr⟩ := hr
          refine rr_rdI C dX11_single_142 fl_X11_275 e192 ?_
          refine rr_iconst (v := 1) C dX11_single_145 (by decide) ?_
          refine rr_isub C dX11_single_146 ?_
          replace hr := Option.bind_eq_some_iff.mp hr
          obtain ⟨h193, e194, hr⟩ := hr
          refine rr_wrF C dX11_single_147 fp_X11_275 rfl rfl e194 ?_
          refine rr_iload_n (i := 1) C dX11_single_150 rfl rfl ?_
          refine rr_iconst (v := (-1)) C dX11_single_151 (by decide) ?_
          refine rr_icmp_eq (tgt := 164) C dX11_single_152 (by decide) (fun c152_ => ?_) (fun c152_ => ?_)
          · replace hr := (if_pos c152_).symm.trans hr
            refine rr_iconst (v := (-1)) C dX11_single_164 (by decide) ?_
            refine rr_goto (tgt := 169) C dX11_single_165 (by decide) ?_
            obtain rfl := Option.some.inj hr
            exact rr_iret (ty := .int) C dX11_single_169 rfl rfl ⟨rfl, rfl, rfl⟩
          · replace hr := (if_neg c152_).symm.trans hr
            refine rr_aload_n (i := 0) C dX11_single_155 rfl rfl ?_
            refine rr_bipush (v := 41) C dX11_single_156 (by decide) ?_
            replace hr := Option.bind_eq_some_iff.mp hr
            obtain ⟨u195, e196, hr⟩ := hr
            replace hr := Option.bind_eq_some_iff.mp hr
            obtain ⟨v197, e198, hr⟩ := hr
            refine rr_callVq (as := [.int 41]) (st := []) (mc' := 0) (ms' := 0) C dX11_single_158 iv_X11_281 (by omega) e196 rfl (Nat.le_of_ble_eq_true rfl) (c_X11_takesSign l0 41 (by omega) e198) (fun v_ h_ n_ q_ => ?_)
            obtain ⟨q1_, q2_, q3_⟩ := q_
            subst v_; subst h_; subst n_
            show WW W0 G 3 _ _ _ 161 [some (.ref l0), some (.int v188.1), none] [.int v197.1] v197.2 n _ _
            refine rr_if_ne (tgt := 168) C dX11_single_161 (by decide) (fun c161_ => ?_) (fun c161_ => ?_)
            · replace hr := (if_neg c161_).symm.trans hr
              refine rr_iload_n (i := 1) C dX11_single_168 rfl rfl ?_
              obtain rfl := Option.some.inj hr
              exact rr_iret (ty := .int) C dX11_single_169 rfl rfl ⟨rfl, rfl, rfl⟩
            · replace hr := (if_pos c161_).symm.trans hr
              refine rr_iconst (v := (-1)) C dX11_single_164 (by decide) ?_
              refine rr_goto (tgt := 169) C dX11_single_165 (by decide) ?_
              obtain rfl := Option.some.inj hr
              exact rr_iret (ty := .int) C dX11_single_169 rfl rfl ⟨rfl, rfl, rfl⟩
        · replace hr := (if_pos c110_).symm.trans hr
          refine rr_iconst (v := (-1)) C dX11_single_113 (by decide) ?_
          obtain rfl := Option.some.inj hr
          exact rr_iret (ty := .int) C dX11_single_114 rfl rfl ⟨rfl, rfl, rfl⟩
  · replace hr := (if_pos c8_).symm.trans hr
    refine rr_aload_n (i := 0) C dX11_single_11 rfl rfl ?_
    replace hr := Option.bind_eq_some_iff.mp hr
    obtain ⟨v5, e6, hr⟩ := hr
    refine rr_rdI C dX11_single_12 fl_X11_275 e6 ?_
    refine rr_bipush (v := 10) C dX11_single_15 (by decide) ?_
    refine rr_icmp_ne (tgt := 22) C dX11_single_17 (by decide) (fun c17_ => ?_) (fun c17_ => ?_)
    · replace hr := (if_neg c17_).symm.trans hr
      refine rr_aload_n (i := 0) C dX11_single_22 rfl rfl ?_
      refine rr_dup C dX11_single_23 rfl ?_
      replace hr := Option.bind_eq_some_iff.mp hr
      obtain ⟨v7, e8, hr⟩ := hr
      refine rr_rdI C dX11_single_24 fl_X11_275 e8 ?_
      refine rr_iconst (v := 1) C dX11_single_27 (by decide) ?_
      refine rr_iadd C dX11_single_28 ?_
      replace hr := Option.bind_eq_some_iff.mp hr
      obtain ⟨h9, e10, hr⟩ := hr
      refine rr_wrF C dX11_single_29 fp_X11_275 rfl rfl e10 ?_
      refine rr_aload_n (i := 0) C dX11_single_32 rfl rfl ?_
      refine rr_aload_n (i := 0) C dX11_single_33 rfl rfl ?_
      replace hr := Option.bind_eq_some_iff.mp hr
      obtain ⟨v11, e12, hr⟩ := hr
      refine rr_rdI C dX11_single_34 fl_X11_230 e12 ?_
      replace hr := Option.bind_eq_some_iff.mp hr
      obtain ⟨h13, e14, hr⟩ := hr
      refine rr_wrF C dX11_single_37 fp_X11_221 rfl rfl e14 ?_
      refine rr_aload_n (i := 0) C dX11_single_40 rfl rfl ?_
      refine rr_iconst (v := 2) C dX11_single_41 (by decide) ?_
      replace hr := Option.bind_eq_some_iff.mp hr
      obtain ⟨u15, e16, hr⟩ := hr
      replace hr := Option.bind_eq_some_iff.mp hr
      obtain ⟨v17, e18, hr⟩ := hr
      refine rr_callVq (as := [.int 2]) (st := []) (mc' := 0) (ms' := 0) C dX11_single_42 iv_X11_245 (by omega) e16 rfl (Nat.le_of_ble_eq_true rfl) (c_X11_node l0 2 (by omega) e18) (fun v_ h_ n_ q_ => ?_)
      obtain ⟨q1_, q2_, q3_⟩ := q_
      subst v_; subst h_; subst n_
      show WW W0 G 3 _ _ _ 45 [some (.ref l0), none, none] [.int v17.1] v17.2 n _ _
      refine rr_istore_n (i := 1) C dX11_single_45 rfl (by decide) ?_
      show WW W0 G 3 _ _ _ 46 [some (.ref l0), some (.int v17.1), none] [] v17.2 n _ _
      refine rr_aload_n (i := 0) C dX11_single_46 rfl rfl ?_
      replace hr := Option.bind_eq_some_iff.mp hr
      obtain ⟨u20, e21, hr⟩ := hr
      replace hr := Option.bind_eq_some_iff.mp hr
      obtain ⟨v22, e23, hr⟩ := hr
      refine rr_callVq (as := []) (st := []) (mc' := 0) (ms' := 0) C dX11_single_47 iv_X11_258 (by omega) e21 rfl (Nat.le_of_ble_eq_true rfl) (hF2 l0 (by omega) e23) (fun v_ h_ n_ q_ => ?_)
      obtain ⟨q1_, q2_, q3_⟩ := q_
      subst v_; subst h_; subst n_
      show WW W0 G 3 _ _ _ 50 [some (.ref l0), some (.int v17.1), none] [.int v22.1] v22.2 n _ _
      refine rr_istore_n (i := 2) C dX11_single_50 rfl (by decide) ?_
      show WW W0 G 3 _ _ _ 51 [some (.ref l0), some (.int v17.1), some (.int v22.1)] [] v22.2 n _ _
      refine rr_aload_n (i := 0) C dX11_single_51 rfl rfl ?_
      replace hr := Option.bind_eq_some_iff.mp hr
      obtain ⟨v25, e26, hr⟩ := hr
      refine rr_rdR C dX11_single_52 fl_X11_112 e26 ?_
      refine rr_iload_n (i := 1) C dX11_single_55 rfl rfl ?_
      refine rr_iload_n (i := 2) C dX11_single_56 rfl rfl ?_
      replace hr := Option.bind_eq_some_iff.mp hr
      obtain ⟨a27, e28, hr⟩ := hr
      subst e28
      replace hr := Option.bind_eq_some_iff.mp hr
      obtain ⟨h29, e30, hr⟩ := hr
      refine rr_stI C dX11_single_57 e30 ?_
      refine rr_aload_n (i := 0) C dX11_single_58 rfl rfl ?_
      refine rr_dup C dX11_single_59 rfl ?_
      replace hr := Option.bind_eq_some_iff.mp hr
      obtain ⟨v31, e32, hr⟩ := hr
      refine rr_rdI C dX11_single_60 fl_X11_275 e32 ?_
      refine rr_iconst (v := 1) C dX11_single_63 (by decide) ?_
      refine rr_isub C dX11_single_64 ?_
      replace hr := Option.bind_eq_some_iff.mp hr
      obtain ⟨h33, e34, hr⟩ := hr
      refine rr_wrF C dX11_single_65 fp_X11_275 rfl rfl e34 ?_
      refine rr_iload_n (i := 2) C dX11_single_68 rfl rfl ?_
      refine rr_iconst (v := (-1)) C dX11_single_69 (by decide) ?_
      refine rr_icmp_ne (tgt := 77) C dX11_single_70 (by decide) (fun c70_ => ?_) (fun c70_ => ?_)
      · replace hr := (if_neg c70_).symm.trans hr
        refine rr_iload_n (i := 1) C dX11_single_77 rfl rfl ?_
        obtain rfl := Option.some.inj hr
        exact rr_iret (ty := .int) C dX11_single_78 rfl rfl ⟨rfl, rfl, rfl⟩
      · replace hr := (if_pos c70_).symm.trans hr
        refine rr_iconst (v := (-1)) C dX11_single_73 (by decide) ?_
        refine rr_goto (tgt := 78) C dX11_single_74 (by decide) ?_
        obtain rfl := Option.some.inj hr
        exact rr_iret (ty := .int) C dX11_single_78 rfl rfl ⟨rfl, rfl, rfl⟩
    · replace hr := (if_pos c17_).symm.trans hr
      refine rr_iconst (v := (-1)) C dX11_single_20 (by decide) ?_
      obtain rfl := Option.some.inj hr
      exact rr_iret (ty := .int) C dX11_single_21 rfl rfl ⟨rfl, rfl, rfl⟩
set_option maxHeartbeats 4000000 in
theorem cg_X11_expr {K : Nat} {G : mm_G} : ∀ d : Nat, (∀ {l : Launch} {h : mm_H} {n : Nat} (l0 : Nat) {r_ : Int32 × mm_H}, 48 ≤ n → ((g_X11_expr K d).1) h n l0 = some r_ → Sp G l yX11_any cX11_any 4 (some .int) (3 + d) 0 0 [.ref l0] h n (fun v h' n' => v = some (.int r_.1) ∧ h' = r_.2 ∧ n' = n)) ∧ (∀ {l : Launch} {h : mm_H} {n : Nat} (l0 : Nat) {r_ : Int32 × mm_H}, 48 ≤ n → ((g_X11_expr K d).2.1) h n l0 = some r_ → Sp G l yX11_all cX11_all 4 (some .int) (3 + d) 0 0 [.ref l0] h n (fun v h' n' => v = some (.int r_.1) ∧ h' = r_.2 ∧ n' = n)) ∧ (∀ {l : Launch} {h : mm_H} {n : Nat} (l0 : Nat) {r_ : Int32 × mm_H}, 48 ≤ n → ((g_X11_expr K d).2.2) h n l0 = some r_ → Sp G l yX11_single cX11_single 3 (some .int) (3 + d) 0 0 [.ref l0] h n (fun v h' n' => v = some (.int r_.1) ∧ h' = r_.2 ∧ n' = n)) := by
  intro d
  induction d with
  | zero =>
    exact ⟨(by intro l h n l0 r_ _ hr; cases hr), (by intro l h n l0 r_ _ hr; cases hr), (by intro l h n l0 r_ _ hr; cases hr)⟩
  | succ d ih =>
    obtain ⟨i0, i1, i2⟩ := ih
    exact ⟨(by intro l h n l0 r_ hn hr; exact cb_X11_any (D_ := 3 + d) (F_ := g_X11_expr K d) (by omega) i0 i1 i2 l0 hn hr), (by intro l h n l0 r_ hn hr; exact cb_X11_all (D_ := 3 + d) (F_ := g_X11_expr K d) (by omega) i0 i1 i2 l0 hn hr), (by intro l h n l0 r_ hn hr; exact cb_X11_single (D_ := 3 + d) (F_ := g_X11_expr K d) (by omega) i0 i1 i2 l0 hn hr)⟩
theorem c_X11_any {K : Nat} {G : mm_G} : ∀ {l : Launch} {h : mm_H} {n : Nat} (l0 : Nat) {r_ : Int32 × mm_H}, 48 ≤ n → q_X11_any K h n l0 = some r_ → Sp G l yX11_any cX11_any 4 (some .int) 51 0 0 [.ref l0] h n (fun v h' n' => v = some (.int r_.1) ∧ h' = r_.2 ∧ n' = n) := (cg_X11_expr (K := K) (G := G) 48).1
theorem c_X11_all {K : Nat} {G : mm_G} : ∀ {l : Launch} {h : mm_H} {n : Nat} (l0 : Nat) {r_ : Int32 × mm_H}, 48 ≤ n → q_X11_all K h n l0 = some r_ → Sp G l yX11_all cX11_all 4 (some .int) 51 0 0 [.ref l0] h n (fun v h' n' => v = some (.int r_.1) ∧ h' = r_.2 ∧ n' = n) := (cg_X11_expr (K := K) (G := G) 48).2.1
theorem c_X11_single {K : Nat} {G : mm_G} : ∀ {l : Launch} {h : mm_H} {n : Nat} (l0 : Nat) {r_ : Int32 × mm_H}, 48 ≤ n → q_X11_single K h n l0 = some r_ → Sp G l yX11_single cX11_single 3 (some .int) 51 0 0 [.ref l0] h n (fun v h' n' => v = some (.int r_.1) ∧ h' = r_.2 ∧ n' = n) := (cg_X11_expr (K := K) (G := G) 48).2.2

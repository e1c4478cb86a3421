def q_X11_earned (K : Nat) (h : mm_H) (n : Nat) (l0 : Nat) (l1 : Int32) (l2 : Int32) (l3 : Int32) (l4 : Int32) : Option (Int64 × mm_H) :=
  (ckq h n l0 10).bind fun u1 =>
  (q_X11_statement K h n l0 l1 l3 2 l2).bind fun v3 =>
  (ckq v3.2 n l0 10).bind fun u6 =>
  (q_X11_factBy K v3.2 n l0 l1 l3 (14 + l2) l4).bind fun v8 =>
  if v3.1 = (-1) then
    some (0, v3.2)
  else
  if v8 = (-1) then
    some (0, v3.2)
  else
  (rdR v3.2 n l0 10 38).bind fun v10 =>
  v10.bind fun a12 =>
  (ldI v3.2 n a12 v3.1).bind fun v14 =>
  if v14 = 0 then
    (rdR v3.2 n l0 10 39).bind fun v16 =>
    v16.bind fun a18 =>
    (ldI v3.2 n a18 v3.1).bind fun v20 =>
    (rdR v3.2 n l0 10 43).bind fun v23 =>
    v23.bind fun a25 =>
    (ldI v3.2 n a25 v3.1).bind fun v27 =>
    (rdR v3.2 n l0 10 42).bind fun v29 =>
    v29.bind fun a31 =>
    (ldI v3.2 n a31 v3.1).bind fun v33 =>
    (rdR v3.2 n l0 10 40).bind fun v35 =>
    v35.bind fun a37 =>
    (ldI v3.2 n a37 v3.1).bind fun v39 =>
    if (Int32.toInt64 v39) = 0 then none else
    (rdR v3.2 n l0 10 41).bind fun v42 =>
    v42.bind fun a44 =>
    (ldI v3.2 n a44 v3.1).bind fun v46 =>
    if 0 ≤ (lg_cmp (Int32.toInt64 (v8 - v20)) 0) then
      some (j_min (Int32.toInt64 v27) (((j_max 0 ((j_abs (Int32.toInt64 (v8 - v20))) - (Int32.toInt64 v33))) / (Int32.toInt64 v39)) * (Int32.toInt64 v46)), v3.2)
    else
    some (-(j_min (Int32.toInt64 v27) (((j_max 0 ((j_abs (Int32.toInt64 (v8 - v20))) - (Int32.toInt64 v33))) / (Int32.toInt64 v39)) * (Int32.toInt64 v46))), v3.2)
  else
  (rdR v3.2 n l0 10 39).bind fun v49 =>
  v49.bind fun a51 =>
  (ldI v3.2 n a51 v3.1).bind fun v53 =>
  (rdR v3.2 n l0 10 43).bind fun v56 =>
  v56.bind fun a58 =>
  (ldI v3.2 n a58 v3.1).bind fun v60 =>
  (rdR v3.2 n l0 10 42).bind fun v62 =>
  v62.bind fun a64 =>
  (ldI v3.2 n a64 v3.1).bind fun v66 =>
  (rdR v3.2 n l0 10 40).bind fun v68 =>
  v68.bind fun a70 =>
  (ldI v3.2 n a70 v3.1).bind fun v72 =>
  if (Int32.toInt64 v72) = 0 then none else
  (rdR v3.2 n l0 10 41).bind fun v75 =>
  v75.bind fun a77 =>
  (ldI v3.2 n a77 v3.1).bind fun v79 =>
  if 0 ≤ (lg_cmp (Int32.toInt64 (v53 - v8)) 0) then
    some (j_min (Int32.toInt64 v60) (((j_max 0 ((j_abs (Int32.toInt64 (v53 - v8))) - (Int32.toInt64 v66))) / (Int32.toInt64 v72)) * (Int32.toInt64 v79)), v3.2)
  else
  some (-(j_min (Int32.toInt64 v60) (((j_max 0 ((j_abs (Int32.toInt64 (v53 - v8))) - (Int32.toInt64 v66))) / (Int32.toInt64 v72)) * (Int32.toInt64 v79))), v3.2)
set_option maxRecDepth 100000 in
set_option maxHeartbeats 4000000 in
theorem c_X11_earned {K : Nat} {G : mm_G} {l : Launch} {h : mm_H} {n : Nat} (l0 : Nat) (l1 : Int32) (l2 : Int32) (l3 : Int32) (l4 : Int32) {r_ : Int64 × mm_H} (hn : 48 ≤ n) (hr : q_X11_earned K h n l0 l1 l2 l3 l4 = some r_) : Sp G l yX11_earned cX11_earned 11 (some .long) 50 0 0 [.ref l0, .int l1, .int l2, .int l3, .int l4] h n (fun v h' n' => v = some (.long r_.1) ∧ h' = r_.2 ∧ n' = n) := by
  refine Sp_of (by decide +kernel) (Nat.le_of_ble_eq_true rfl) hn ?_
  intro W0 hwl C
  subst hwl
  unfold q_X11_earned at hr
  show WW W0 G 11 0 0 _ 0 [some (.ref l0), some (.int l1), some (.int l2), some (.int l3), some (.int l4), none, none, none, none, none, none] [] h n 0 0
  refine rr_aload_n (i := 0) C dX11_earned_0 rfl rfl ?_
  refine rr_iload_n (i := 1) C dX11_earned_1 rfl rfl ?_
  refine rr_iload_n (i := 3) C dX11_earned_2 rfl rfl ?_
  refine rr_iconst (v := 2) C dX11_earned_3 (by decide) ?_
  refine rr_iload_n (i := 2) C dX11_earned_4 rfl rfl ?_
  replace hr := Option.bind_eq_some_iff.mp hr
  obtain ⟨u1, e2, hr⟩ := hr
  replace hr := Option.bind_eq_some_iff.mp hr
  obtain ⟨v3, e4, hr⟩ := hr
  refine rr_callVq (as := [.int l1, .int l3, .int 2, .int l2]) (st := []) (mc' := 0) (ms' := 0) C dX11_earned_5 iv_X11_417 (by decide) e2 rfl (Nat.le_of_ble_eq_true rfl) (c_X11_statement l0 l1 l3 2 l2 (by omega) e4) (fun v_ h_ n_ q_ => ?_)
  obtain ⟨q1_, q2_, q3_⟩ := q_
  subst v_; subst h_; subst n_
  show WW W0 G 11 _ _ _ 8 [some (.ref l0), some (.int l1), some (.int l2), some (.int l3), some (.int l4), none, none, none, none, none, none] [.int v3.1] v3.2 n _ _
  refine rr_istore C dX11_earned_8 (by decide) ?_
  show WW W0 G 11 _ _ _ 10 [some (.ref l0), some (.int l1), some (.int l2), some (.int l3), some (.int l4), some (.int v3.1), none, none, none, none, none] [] v3.2 n _ _
  refine rr_aload_n (i := 0) C dX11_earned_10 rfl rfl ?_
  refine rr_iload_n (i := 1) C dX11_earned_11 rfl rfl ?_
  refine rr_iload_n (i := 3) C dX11_earned_12 rfl rfl ?_
  refine rr_bipush (v := 14) C dX11_earned_13 (by decide) ?_
  refine rr_iload_n (i := 2) C dX11_earned_15 rfl rfl ?_
  refine rr_iadd C dX11_earned_16 ?_
  refine rr_iload C dX11_earned_17 rfl ?_
  replace hr := Option.bind_eq_some_iff.mp hr
  obtain ⟨u6, e7, hr⟩ := hr
  replace hr := Option.bind_eq_some_iff.mp hr
  obtain ⟨v8, e9, hr⟩ := hr
  refine rr_callVq (as := [.int l1, .int l3, .int (14 + l2), .int l4]) (st := []) (mc' := 0) (ms' := 0) C dX11_earned_19 iv_X11_198 (by decide) e7 rfl (Nat.le_of_ble_eq_true rfl) (c_X11_factBy l0 l1 l3 (14 + l2) l4 (by omega) e9) (fun v_ h_ n_ q_ => ?_)
  obtain ⟨q1_, q2_, q3_⟩ := q_
  subst v_; subst h_; subst n_
  show WW W0 G 11 _ _ _ 22 [some (.ref l0), some (.int l1), some (.int l2), some (.int l3), some (.int l4), some (.int v3.1), none, none, none, none, none] [.int v8] v3.2 n _ _
  refine rr_istore C dX11_earned_22 (by decide) ?_
  show WW W0 G 11 _ _ _ 24 [some (.ref l0), some (.int l1), some (.int l2), some (.int l3), some (.int l4), some (.int v3.1), some (.int v8), none, none, none, none] [] v3.2 n _ _
  refine rr_iload C dX11_earned_24 rfl ?_
  refine rr_iconst (v := (-1)) C dX11_earned_26 (by decide) ?_
  refine rr_icmp_eq (tgt := 36) C dX11_earned_27 (by decide) (fun c27_ => ?_) (fun c27_ => ?_)
  · replace hr := (if_pos c27_).symm.trans hr
    refine rr_lconst (v := 0) C dX11_earned_36 (by decide) ?_
    obtain rfl := Option.some.inj hr
    exact rr_lret C dX11_earned_37 rfl ⟨rfl, rfl, rfl⟩
  · replace hr := (if_neg c27_).symm.trans hr
    refine rr_iload C dX11_earned_30 rfl ?_
    refine rr_iconst (v := (-1)) C dX11_earned_32 (by decide) ?_
    refine rr_icmp_ne (tgt := 38) C dX11_earned_33 (by decide) (fun c33_ => ?_) (fun c33_ => ?_)
    · replace hr := (if_neg c33_).symm.trans hr
      refine rr_aload_n (i := 0) C dX11_earned_38 rfl rfl ?_
      replace hr := Option.bind_eq_some_iff.mp hr
      obtain ⟨v10, e11, hr⟩ := hr
      refine rr_rdR C dX11_earned_39 fl_X11_87 e11 ?_
      refine rr_iload C dX11_earned_42 rfl ?_
      replace hr := Option.bind_eq_some_iff.mp hr
      obtain ⟨a12, e13, hr⟩ := hr
      subst e13
      replace hr := Option.bind_eq_some_iff.mp hr
      obtain ⟨v14, e15, hr⟩ := hr
      refine rr_ldI C dX11_earned_44 e15 ?_
      refine rr_if_ne (tgt := 62) C dX11_earned_45 (by decide) (fun c45_ => ?_) (fun c45_ => ?_)
      · replace hr := (if_neg c45_).symm.trans hr
        refine rr_aload_n (i := 0) C dX11_earned_62 rfl rfl ?_
        replace hr := Option.bind_eq_some_iff.mp hr
        obtain ⟨v49, e50, hr⟩ := hr
        refine rr_rdR C dX11_earned_63 fl_X11_90 e50 ?_
        refine rr_iload C dX11_earned_66 rfl ?_
        replace hr := Option.bind_eq_some_iff.mp hr
        obtain ⟨a51, e52, hr⟩ := hr
        subst e52
        replace hr := Option.bind_eq_some_iff.mp hr
        obtain ⟨v53, e54, hr⟩ := hr
        refine rr_ldI C dX11_earned_68 e54 ?_
        refine rr_iload C dX11_earned_69 rfl ?_
        refine rr_isub C dX11_earned_71 ?_
        refine rr_i2l C dX11_earned_72 ?_
        refine rr_lstore C dX11_earned_73 (by decide) ?_
        show WW W0 G 11 _ _ _ 75 [some (.ref l0), some (.int l1), some (.int l2), some (.int l3), some (.int l4), some (.int v3.1), some (.int v8), some (.long (Int32.toInt64 (v53 - v8))), none, none, none] [] v3.2 n _ _
        refine rr_aload_n (i := 0) C dX11_earned_75 rfl rfl ?_
        replace hr := Option.bind_eq_some_iff.mp hr
        obtain ⟨v56, e57, hr⟩ := hr
        refine rr_rdR C dX11_earned_76 fl_X11_102 e57 ?_
        refine rr_iload C dX11_earned_79 rfl ?_
        replace hr := Option.bind_eq_some_iff.mp hr
        obtain ⟨a58, e59, hr⟩ := hr
        subst e59
        replace hr := Option.bind_eq_some_iff.mp hr
        obtain ⟨v60, e61, hr⟩ := hr
        refine rr_ldI C dX11_earned_81 e61 ?_
        refine rr_i2l C dX11_earned_82 ?_
        refine rr_lconst (v := 0) C dX11_earned_83 (by decide) ?_
        refine rr_lload C dX11_earned_84 rfl ?_
        refine rr_mabs_long C dX11_earned_86 ma_X11_485 (by decide) (Nat.le_of_ble_eq_true rfl) ?_
        refine rr_aload_n (i := 0) C dX11_earned_89 rfl rfl ?_
        replace hr := Option.bind_eq_some_iff.mp hr
        obtain ⟨v62, e63, hr⟩ := hr
        refine rr_rdR C dX11_earned_90 fl_X11_99 e63 ?_
        refine rr_iload C dX11_earned_93 rfl ?_
        replace hr := Option.bind_eq_some_iff.mp hr
        obtain ⟨a64, e65, hr⟩ := hr
        subst e65
        replace hr := Option.bind_eq_some_iff.mp hr
        obtain ⟨v66, e67, hr⟩ := hr
        refine rr_ldI C dX11_earned_95 e67 ?_
        refine rr_i2l C dX11_earned_96 ?_
        refine rr_lsub C dX11_earned_97 ?_
        refine rr_mmax_long C dX11_earned_98 ma_X11_457 (by decide) (Nat.le_of_ble_eq_true rfl) ?_
        refine rr_aload_n (i := 0) C dX11_earned_101 rfl rfl ?_
        replace hr := Option.bind_eq_some_iff.mp hr
        obtain ⟨v68, e69, hr⟩ := hr
        refine rr_rdR C dX11_earned_102 fl_X11_93 e69 ?_
        refine rr_iload C dX11_earned_105 rfl ?_
        replace hr := Option.bind_eq_some_iff.mp hr
        obtain ⟨a70, e71, hr⟩ := hr
        subst e71
        replace hr := Option.bind_eq_some_iff.mp hr
        obtain ⟨v72, e73, hr⟩ := hr
        refine rr_ldI C dX11_earned_107 e73 ?_
        refine rr_i2l C dX11_earned_108 ?_
        by_cases z74 : (Int32.toInt64 v72) = 0
        · replace hr := (if_pos z74).symm.trans hr
          cases hr
        replace hr := (if_neg z74).symm.trans hr
        refine rr_ldiv C dX11_earned_109 z74 ?_
        refine rr_aload_n (i := 0) C dX11_earned_110 rfl rfl ?_
        replace hr := Option.bind_eq_some_iff.mp hr
        obtain ⟨v75, e76, hr⟩ := hr
        refine rr_rdR C dX11_earned_111 fl_X11_96 e76 ?_
        refine rr_iload C dX11_earned_114 rfl ?_
        replace hr := Option.bind_eq_some_iff.mp hr
        obtain ⟨a77, e78, hr⟩ := hr
        subst e78
        replace hr := Option.bind_eq_some_iff.mp hr
        obtain ⟨v79, e80, hr⟩ := hr
        refine rr_ldI C dX11_earned_116 e80 ?_
        refine rr_i2l C dX11_earned_117 ?_
        refine rr_lmul C dX11_earned_118 ?_
        refine rr_mmin_long C dX11_earned_119 ma_X11_462 (by decide) (Nat.le_of_ble_eq_true rfl) ?_
        refine rr_lstore C dX11_earned_122 (by decide) ?_
        show WW W0 G 11 _ _ _ 124 [some (.ref l0), some (.int l1), some (.int l2), some (.int l3), some (.int l4), some (.int v3.1), some (.int v8), some (.long (Int32.toInt64 (v53 - v8))), none, some (.long (j_min (Int32.toInt64 v60) (((j_max 0 ((j_abs (Int32.toInt64 (v53 - v8))) - (Int32.toInt64 v66))) / (Int32.toInt64 v72)) * (Int32.toInt64 v79)))), none] [] v3.2 n _ _
        refine rr_lload C dX11_earned_124 rfl ?_
        refine rr_lconst (v := 0) C dX11_earned_126 (by decide) ?_
        refine rr_lcmp C dX11_earned_127 ?_
        refine rr_if_ge (tgt := 137) C dX11_earned_128 (by decide) (fun c128_ => ?_) (fun c128_ => ?_)
        · replace hr := (if_pos c128_).symm.trans hr
          refine rr_lload C dX11_earned_137 rfl ?_
          obtain rfl := Option.some.inj hr
          exact rr_lret C dX11_earned_139 rfl ⟨rfl, rfl, rfl⟩
        · replace hr := (if_neg c128_).symm.trans hr
          refine rr_lload C dX11_earned_131 rfl ?_
          refine rr_lneg C dX11_earned_133 ?_
          refine rr_goto (tgt := 139) C dX11_earned_134 (by decide) ?_
          obtain rfl := Option.some.inj hr
          exact rr_lret C dX11_earned_139 rfl ⟨rfl, rfl, rfl⟩
      · replace hr := (if_pos c45_).symm.trans hr
        refine rr_iload C dX11_earned_48 rfl ?_
        refine rr_aload_n (i := 0) C dX11_earned_50 rfl rfl ?_
        replace hr := Option.bind_eq_some_iff.mp hr
        obtain ⟨v16, e17, hr⟩ := hr
        refine rr_rdR C dX11_earned_51 fl_X11_90 e17 ?_
        refine rr_iload C dX11_earned_54 rfl ?_
        replace hr := Option.bind_eq_some_iff.mp hr
        obtain ⟨a18, e19, hr⟩ := hr
        subst e19
        replace hr := Option.bind_eq_some_iff.mp hr
        obtain ⟨v20, e21, hr⟩ := hr
        refine rr_ldI C dX11_earned_56 e21 ?_
        refine rr_isub C dX11_earned_57 ?_
        refine rr_i2l C dX11_earned_58 ?_
        refine rr_goto (tgt := 73) C dX11_earned_59 (by decide) ?_
        refine rr_lstore C dX11_earned_73 (by decide) ?_
        show WW W0 G 11 _ _ _ 75 [some (.ref l0), some (.int l1), some (.int l2), some (.int l3), some (.int l4), some (.int v3.1), some (.int v8), some (.long (Int32.toInt64 (v8 - v20))), none, none, none] [] v3.2 n _ _
        refine rr_aload_n (i := 0) C dX11_earned_75 rfl rfl ?_
        replace hr := Option.bind_eq_some_iff.mp hr
        obtain ⟨v23, e24, hr⟩ := hr
        refine rr_rdR C dX11_earned_76 fl_X11_102 e24 ?_
        refine rr_iload C dX11_earned_79 rfl ?_
        replace hr := Option.bind_eq_some_iff.mp hr
        obtain ⟨a25, e26, hr⟩ := hr
        subst e26
        replace hr := Option.bind_eq_some_iff.mp hr
        obtain ⟨v27, e28, hr⟩ := hr
        refine rr_ldI C dX11_earned_81 e28 ?_
        refine rr_i2l C dX11_earned_82 ?_
        refine rr_lconst (v := 0) C dX11_earned_83 (by decide) ?_
        refine rr_lload C dX11_earned_84 rfl ?_
        refine rr_mabs_long C dX11_earned_86 ma_X11_485 (by decide) (Nat.le_of_ble_eq_true rfl) ?_
        refine rr_aload_n (i := 0) C dX11_earned_89 rfl rfl ?_
        replace hr := Option.bind_eq_some_iff.mp hr
        obtain ⟨v29, e30, hr⟩ := hr
        refine rr_rdR C dX11_earned_90 fl_X11_99 e30 ?_
        refine rr_iload C dX11_earned_93 rfl ?_
        replace hr := Option.bind_eq_some_iff.mp hr
        obtain ⟨a31, e32, hr⟩ := hr
        subst e32
        replace hr := Option.bind_eq_some_iff.mp hr
        obtain ⟨v33, e34, hr⟩ := hr
        refine rr_ldI C dX11_earned_95 e34 ?_
        refine rr_i2l C dX11_earned_96 ?_
        refine rr_lsub C dX11_earned_97 ?_
        refine rr_mmax_long C dX11_earned_98 ma_X11_457 (by decide) (Nat.le_of_ble_eq_true rfl) ?_
        refine rr_aload_n (i := 0) C dX11_earned_101 rfl rfl ?_
        replace hr := Option.bind_eq_some_iff.mp hr
        obtain ⟨v35, e36, hr⟩ := hr
        refine rr_rdR C dX11_earned_102 fl_X11_93 e36 ?_
        refine rr_iload C dX11_earned_105 rfl ?_
        replace hr := Option.bind_eq_some_iff.mp hr
        obtain ⟨a37, e38, hr⟩ := hr
        subst e38
        replace hr := Option.bind_eq_some_iff.mp hr
        obtain ⟨v39, e40, hr⟩ := hr
        refine rr_ldI C dX11_earned_107 e40 ?_
        refine rr_i2l C dX11_earned_108 ?_
        by_cases z41 : (Int32.toInt64 v39) = 0
        · replace hr := (if_pos z41).symm.trans hr
          cases hr
        replace hr := (if_neg z41).symm.trans hr
        refine rr_ldiv C dX11_earned_109 z41 ?_
        refine rr_aload_n (i := 0) C dX11_earned_110 rfl rfl ?_
        replace hr := Option.bind_eq_some_iff.mp hr
        obtain ⟨v42, e43, hr⟩ := hr
        refine rr_rdR C dX11_earned_111 fl_X11_96 e43 ?_
        refine rr_iload C dX11_earned_114 rfl ?_
        replace hr := Option.bind_eq_some_iff.mp hr
        obtain ⟨a44, e45, hr⟩ := hr
        subst e45
        replace hr := Option.bind_eq_some_iff.mp hr
        obtain ⟨v46, e47, hr⟩ := hr
        refine rr_ldI C dX11_earned_116 e47 ?_
        refine rr_i2l C dX11_earned_117 ?_
        refine rr_lmul C dX11_earned_118 ?_
        refine rr_mmin_long C dX11_earned_119 ma_X11_462 (by decide) (Nat.le_of_ble_eq_true rfl) ?_
        refine rr_lstore C dX11_earned_122 (by decide) ?_
        show WW W0 G 11 _ _ _ 124 [some (.ref l0), some (.int l1), some (.int l2), some (.int l3), some (.int l4), some (.int v3.1), some (.int v8), some (.long (Int32.toInt64 (v8 - v20))), none, some (.long (j_min (Int32.toInt64 v27) (((j_max 0 ((j_abs (Int32.toInt64 (v8 - v20))) - (Int32.toInt64 v33))) / (Int32.toInt64 v39)) * (Int32.toInt64 v46)))), none] [] v3.2 n _ _
        refine rr_lload C dX11_earned_124 rfl ?_
        refine rr_lconst (v := 0) C dX11_earned_126 (by decide) ?_
        refine rr_lcmp C dX11_earned_127 ?_
        refine rr_if_ge (tgt := 137) C dX11_earned_128 (by decide) (fun c128_ => ?_) (fun c128_ => ?_)
        · replace hr := (if_pos c128_).symm.trans hr
          refine rr_lload C dX11_earned_137 rfl ?_
          obtain rfl := Option.some.inj hr
          exact rr_lret C dX11_earned_139 rfl ⟨rfl, rfl, rfl⟩
        · replace hr := (if_neg c128_).symm.trans hr
          refine rr_lload C dX11_earned_131 rfl ?_
          refine rr_lneg C dX11_earned_133 ?_
          refine rr_goto (tgt := 139) C dX11_earned_134 (by decide) ?_
          obtain rfl := Option.some.inj hr
          exact rr_lret C dX11_earned_139 rfl ⟨rfl, rfl, rfl⟩
    · replace hr := (if_pos c33_).symm.trans hr
      refine rr_lconst (v := 0) C dX11_earned_36 (by decide) ?_
      obtain rfl := Option.some.inj hr
      exact rr_lret C dX11_earned_37 rfl ⟨rfl, rfl, rfl⟩
def lp_X11_due_5 (K : Nat) (h : mm_H) (n : Nat) (l0 : Nat) (l1 : Int32) (l2 : Int32) : Nat → Int64 → Int32 → Option (Int64)
  | 0, _, _ => none
  | k_ + 1, l3, l5 =>
    (rdI h n l0 10 8).bind fun v1 =>
    if v1 ≤ l5 then
      some (l3)
    else
    (rdR h n l0 10 11).bind fun v3 =>
    v3.bind fun a5 =>
    (ldI h n a5 l5).bind fun v7 =>
    if v7 = l1 then
      (rdR h n l0 10 13).bind fun v9 =>
      v9.bind fun a11 =>
      (ldI h n a11 l5).bind fun v13 =>
      if v13 = l2 then
        (rdR h n l0 10 12).bind fun v15 =>
        v15.bind fun a17 =>
        (ldI h n a17 l5).bind fun v19 =>
        lp_X11_due_5 K h n l0 l1 l2 k_ (l3 + (Int32.toInt64 v19)) (l5 + 1)
      else
      lp_X11_due_5 K h n l0 l1 l2 k_ l3 (l5 + 1)
    else
    lp_X11_due_5 K h n l0 l1 l2 k_ l3 (l5 + 1)
def q_X11_due (K : Nat) (h : mm_H) (n : Nat) (l0 : Nat) (l1 : Int32) (l2 : Int32) : Option (Int64) :=
  (lp_X11_due_5 K h n l0 l1 l2 K 0 0).bind fun v22 =>
  some v22
set_option maxRecDepth 100000 in
set_option maxHeartbeats 4000000 in
theorem w_X11_due_5 {K : Nat} {W0 : mm_X} {G : mm_G} {mc ms kc ks : Nat} {Q_ : State → Prop} {h : mm_H} {n : Nat} (C : mm_C W0 G cX11_due yX11_due.cls 6 mc ms (some .long) 0 yX11_due.name) (hn : 48 ≤ n) (l0 : Nat) (l1 : Int32) (l2 : Int32) : ∀ (k_ : Nat) (l3 : Int64) (l5 : Int32) {r_ : Int64} (hr : lp_X11_due_5 K h n l0 l1 l2 k_ l3 l5 = some r_) (hx0 : WW W0 G 6 mc ms Q_ 53 [none, none, none, some (.long r_), none, none] [] h n kc ks), WW W0 G 6 mc ms Q_ 5 [some (.ref l0), some (.int l1), some (.int l2), some (.long l3), none, some (.int l5)] [] h n kc ks := by
  intro k_
  induction k_ with
  | zero =>
    intro l3 l5 r_ hr
    cases hr
  | succ k_ ih_ =>
    intro l3 l5 r_ hr hx0
    unfold lp_X11_due_5 at hr
    refine rr_iload C dX11_due_5 rfl ?_
    refine rr_aload_n (i := 0) C dX11_due_7 rfl rfl ?_
    replace hr := Option.bind_eq_some_iff.mp hr
    obtain ⟨v1, e2, hr⟩ := hr
    refine rr_rdI C dX11_due_8 fl_X11_202 e2 ?_
    refine rr_icmp_ge (tgt := 53) C dX11_due_11 (by decide) (fun c11_ => ?_) (fun c11_ => ?_)
    · replace hr := (if_pos c11_).symm.trans hr
      obtain rfl := Option.some.inj hr
      exact rr_keep [false, false, false, true, false, false] (hx0)
    · replace hr := (if_neg c11_).symm.trans hr
      refine rr_aload_n (i := 0) C dX11_due_14 rfl rfl ?_
      replace hr := Option.bind_eq_some_iff.mp hr
      obtain ⟨v3, e4, hr⟩ := hr
      refine rr_rdR C dX11_due_15 fl_X11_26 e4 ?_
      refine rr_iload C dX11_due_18 rfl ?_
      replace hr := Option.bind_eq_some_iff.mp hr
      obtain ⟨a5, e6, hr⟩ := hr
      subst e6
      replace hr := Option.bind_eq_some_iff.mp hr
      obtain ⟨v7, e8, hr⟩ := hr
      refine rr_ldI C dX11_due_20 e8 ?_
      refine rr_iload_n (i := 1) C dX11_due_21 rfl rfl ?_
      refine rr_icmp_ne (tgt := 47) C dX11_due_22 (by decide) (fun c22_ => ?_) (fun c22_ => ?_)
      · replace hr := (if_neg c22_).symm.trans hr
        refine rr_iinc (v := l5 + 1) C dX11_due_47 rfl rfl ?_
        show WW W0 G 6 _ _ _ 50 [some (.ref l0), some (.int l1), some (.int l2), some (.long l3), none, some (.int (l5 + 1))] [] h n _ _
        refine rr_goto (tgt := 5) C dX11_due_50 (by decide) ?_
        exact rr_keep [true, true, true, true, false, true] (ih_ _ _ hr hx0)
      · replace hr := (if_pos c22_).symm.trans hr
        refine rr_aload_n (i := 0) C dX11_due_25 rfl rfl ?_
        replace hr := Option.bind_eq_some_iff.mp hr
        obtain ⟨v9, e10, hr⟩ := hr
        refine rr_rdR C dX11_due_26 fl_X11_32 e10 ?_
        refine rr_iload C dX11_due_29 rfl ?_
        replace hr := Option.bind_eq_some_iff.mp hr
        obtain ⟨a11, e12, hr⟩ := hr
        subst e12
        replace hr := Option.bind_eq_some_iff.mp hr
        obtain ⟨v13, e14, hr⟩ := hr
        refine rr_ldI C dX11_due_31 e14 ?_
        refine rr_iload_n (i := 2) C dX11_due_32 rfl rfl ?_
        refine rr_icmp_ne (tgt := 47) C dX11_due_33 (by decide) (fun c33_ => ?_) (fun c33_ => ?_)
        · replace hr := (if_neg c33_).symm.trans hr
          refine rr_iinc (v := l5 + 1) C dX11_due_47 rfl rfl ?_
          show WW W0 G 6 _ _ _ 50 [some (.ref l0), some (.int l1), some (.int l2), some (.long l3), none, some (.int (l5 + 1))] [] h n _ _
          refine rr_goto (tgt := 5) C dX11_due_50 (by decide) ?_
          exact rr_keep [true, true, true, true, false, true] (ih_ _ _ hr hx0)
        · replace hr := (if_pos c33_).symm.trans hr
          refine rr_lload_n (i := 3) C dX11_due_36 rfl rfl ?_
          refine rr_aload_n (i := 0) C dX11_due_37 rfl rfl ?_
          replace hr := Option.bind_eq_some_iff.mp hr
          obtain ⟨v15, e16, hr⟩ := hr
          refine rr_rdR C dX11_due_38 fl_X11_29 e16 ?_
          refine rr_iload C dX11_due_41 rfl ?_
          replace hr := Option.bind_eq_some_iff.mp hr
          obtain ⟨a17, e18, hr⟩ := hr
          subst e18
          replace hr := Option.bind_eq_some_iff.mp hr
          obtain ⟨v19, e20, hr⟩ := hr
          refine rr_ldI C dX11_due_43 e20 ?_
          refine rr_i2l C dX11_due_44 ?_
          refine rr_ladd C dX11_due_45 ?_
          refine rr_lstore_n (i := 3) C dX11_due_46 rfl (by decide) ?_
          show WW W0 G 6 _ _ _ 47 [some (.ref l0), some (.int l1), some (.int l2), some (.long (l3 + (Int32.toInt64 v19))), none, some (.int l5)] [] h n _ _
          refine rr_iinc (v := l5 + 1) C dX11_due_47 rfl rfl ?_
          show WW W0 G 6 _ _ _ 50 [some (.ref l0), some (.int l1), some (.int l2), some (.long (l3 + (Int32.toInt64 v19))), none, some (.int (l5 + 1))] [] h n _ _
          refine rr_goto (tgt := 5) C dX11_due_50 (by decide) ?_
          exact rr_keep [true, true, true, true, false, true] (ih_ _ _ hr hx0)
set_option maxRecDepth 100000 in
set_option maxHeartbeats 4000000 in
theorem c_X11_due {K : Nat} {G : mm_G} {l : Launch} {h : mm_H} {n : Nat} (l0 : Nat) (l1 : Int32) (l2 : Int32) {r_ : Int64} (hn : 48 ≤ n) (hr : q_X11_due K h n l0 l1 l2 = some r_) : Sp G l yX11_due cX11_due 6 (some .long) 0 0 0 [.ref l0, .int l1, .int l2] h n (fun v h' n' => v = some (.long r_) ∧ h' = h ∧ n' = n) := by
  refine Sp_of (by decide +kernel) (Nat.le_of_ble_eq_true rfl) hn ?_
  intro W0 hwl C
  subst hwl
  unfold q_X11_due at hr
  show WW W0 G 6 0 0 _ 0 [some (.ref l0), some (.int l1), some (.int l2), none, none, none] [] h n 0 0
  refine rr_lconst (v := 0) C dX11_due_0 (by decide) ?_
  refine rr_lstore_n (i := 3) C dX11_due_1 rfl (by decide) ?_
  show WW W0 G 6 _ _ _ 2 [some (.ref l0), some (.int l1), some (.int l2), some (.long 0), none, none] [] h n _ _
  refine rr_iconst (v := 0) C dX11_due_2 (by decide) ?_
  refine rr_istore C dX11_due_3 (by decide) ?_
  show WW W0 G 6 _ _ _ 5 [some (.ref l0), some (.int l1), some (.int l2), some (.long 0), none, some (.int 0)] [] h n _ _
  replace hr := Option.bind_eq_some_iff.mp hr
  obtain ⟨v22, e23, hr⟩ := hr
  refine rr_keep [true, true, true, true, false, true] (w_X11_due_5 C (by omega) l0 l1 l2 K 0 0 e23 ?_)
  show WW W0 G 6 _ _ _ 53 [none, none, none, some (.long v22), none, none] [] h n _ _
  refine rr_lload_n (i := 3) C dX11_due_53 rfl rfl ?_
  obtain rfl := Option.some.inj hr
  exact rr_lret C dX11_due_54 rfl ⟨rfl, rfl, rfl⟩
def lp_X11_takenBack_52 (K : Nat) (n : Nat) (l0 : Nat) (l1 : Int32) (l2 : Int32) (l3 : Int64) (l5 : Int32) : Nat → Int64 → Int64 → Int32 → mm_H → Option (Int64 × mm_H)
  | 0, _, _, _, _ => none
  | k_ + 1, l6, l8, l10, h =>
    if l2 < l10 then
      some (l8, h)
    else
    (ckq h n l0 10).bind fun u23 =>
    (q_X11_wasDone K h n l0 l5 l10).bind fun v25 =>
    if v25 = 0 then
      (rdR h n l0 10 12).bind fun v27 =>
      v27.bind fun a29 =>
      (ldI h n a29 l5).bind fun v31 =>
      (ckq h n l0 10).bind fun u33 =>
      (q_X11_plainOf K h n l0 l1 l10 6 0).bind fun v35 =>
      lp_X11_takenBack_52 K n l0 l1 l2 l3 l5 k_ (l6 - (j_min l6 (((Int32.toInt64 v31) * (Int32.toInt64 v35.1)) / 100))) (j_min l6 (((Int32.toInt64 v31) * (Int32.toInt64 v35.1)) / 100)) (l10 + 1) v35.2
    else
    lp_X11_takenBack_52 K n l0 l1 l2 l3 l5 k_ (l6 - 0) 0 (l10 + 1) h
def lp_X11_takenBack_5 (K : Nat) (n : Nat) (l0 : Nat) (l1 : Int32) (l2 : Int32) : Nat → Int64 → Int32 → mm_H → Option (Int64 × mm_H)
  | 0, _, _, _ => none
  | k_ + 1, l3, l5, h =>
    (rdI h n l0 10 8).bind fun v1 =>
    if v1 ≤ l5 then
      some (l3, h)
    else
    (rdR h n l0 10 11).bind fun v3 =>
    v3.bind fun a5 =>
    (ldI h n a5 l5).bind fun v7 =>
    if v7 = l1 then
      (rdR h n l0 10 12).bind fun v9 =>
      v9.bind fun a11 =>
      (ldI h n a11 l5).bind fun v13 =>
      (rdR h n l0 10 13).bind fun v16 =>
      v16.bind fun a18 =>
      (ldI h n a18 l5).bind fun v20 =>
      (lp_X11_takenBack_52 K n l0 l1 l2 l3 l5 K (Int32.toInt64 v13) 0 (v20 + 1) h).bind fun v40 =>
      lp_X11_takenBack_5 K n l0 l1 l2 k_ (l3 + v40.1) (l5 + 1) v40.2
    else
    lp_X11_takenBack_5 K n l0 l1 l2 k_ l3 (l5 + 1) h
def q_X11_takenBack (K : Nat) (h : mm_H) (n : Nat) (l0 : Nat) (l1 : Int32) (l2 : Int32) : Option (Int64 × mm_H) :=
  (lp_X11_takenBack_5 K n l0 l1 l2 K 0 0 h).bind fun v43 =>
  some (v43.1, v43.2)
set_option maxRecDepth 100000 in
set_option maxHeartbeats 4000000 in
theorem w_X11_takenBack_52 {K : Nat} {W0 : mm_X} {G : mm_G} {mc ms kc ks : Nat} {Q_ : State → Prop} {n : Nat} (C : mm_C W0 G cX11_takenBack yX11_takenBack.cls 11 mc ms (some .long) 51 yX11_takenBack.name) (hn : 48 ≤ n) (l0 : Nat) (l1 : Int32) (l2 : Int32) (l3 : Int64) (l5 : Int32) : ∀ (k_ : Nat) (l6 : Int64) (l8 : Int64) (l10 : Int32) (h : mm_H) {r_ : Int64 × mm_H} (hr : lp_X11_takenBack_52 K n l0 l1 l2 l3 l5 k_ l6 l8 l10 h = some r_) (hx0 : WW W0 G 11 mc ms Q_ 117 [some (.ref l0), some (.int l1), some (.int l2), some (.long l3), none, some (.int l5), none, none, some (.long r_.1), none, none] [] r_.2 n kc ks), WW W0 G 11 mc ms Q_ 52 [some (.ref l0), some (.int l1), some (.int l2), some (.long l3), none, some (.int l5), some (.long l6), none, some (.long l8), none, some (.int l10)] [] h n kc ks := by
  intro k_
  induction k_ with
  | zero =>
    intro l6 l8 l10 h r_ hr
    cases hr
  | succ k_ ih_ =>
    intro l6 l8 l10 h r_ hr hx0
    unfold lp_X11_takenBack_52 at hr
    refine rr_iload C dX11_takenBack_52 rfl ?_
    refine rr_iload_n (i := 2) C dX11_takenBack_54 rfl rfl ?_
    refine rr_icmp_gt (tgt := 117) C dX11_takenBack_55 (by decide) (fun c55_ => ?_) (fun c55_ => ?_)
    · replace hr := (if_pos c55_).symm.trans hr
      obtain rfl := Option.some.inj hr
      exact rr_keep [true, true, true, true, false, true, false, false, true, false, false] (hx0)
    · replace hr := (if_neg c55_).symm.trans hr
      refine rr_aload_n (i := 0) C dX11_takenBack_58 rfl rfl ?_
      refine rr_iload C dX11_takenBack_59 rfl ?_
      refine rr_iload C dX11_takenBack_61 rfl ?_
      replace hr := Option.bind_eq_some_iff.mp hr
      obtain ⟨u23, e24, hr⟩ := hr
      replace hr := Option.bind_eq_some_iff.mp hr
      obtain ⟨v25, e26, hr⟩ := hr
      refine rr_callVq (as := [.int l5, .int l10]) (st := []) (mc' := 0) (ms' := 0) C dX11_takenBack_63 iv_X11_423 (by decide) e24 rfl (Nat.le_of_ble_eq_true rfl) (c_X11_wasDone l0 l5 l10 (by omega) e26) (fun v_ h_ n_ q_ => ?_)
      obtain ⟨q1_, q2_, q3_⟩ := q_
      subst v_; subst h_; subst n_
      show WW W0 G 11 _ _ _ 66 [some (.ref l0), some (.int l1), some (.int l2), some (.long l3), none, some (.int l5), some (.long l6), none, some (.long l8), none, some (.int l10)] [.int v25] h n _ _
      refine rr_if_eq (tgt := 73) C dX11_takenBack_66 (by decide) (fun c66_ => ?_) (fun c66_ => ?_)
      · replace hr := (if_pos c66_).symm.trans hr
        refine rr_lload C dX11_takenBack_73 rfl ?_
        refine rr_aload_n (i := 0) C dX11_takenBack_75 rfl rfl ?_
        replace hr := Option.bind_eq_some_iff.mp hr
        obtain ⟨v27, e28, hr⟩ := hr
        refine rr_rdR C dX11_takenBack_76 fl_X11_29 e28 ?_
        refine rr_iload C dX11_takenBack_79 rfl ?_
        replace hr := Option.bind_eq_some_iff.mp hr
        obtain ⟨a29, e30, hr⟩ := hr
        subst e30
        replace hr := Option.bind_eq_some_iff.mp hr
        obtain ⟨v31, e32, hr⟩ := hr
        refine rr_ldI C dX11_takenBack_81 e32 ?_
        refine rr_i2l C dX11_takenBack_82 ?_
        refine rr_aload_n (i := 0) C dX11_takenBack_83 rfl rfl ?_
        refine rr_iload_n (i := 1) C dX11_takenBack_84 rfl rfl ?_
        refine rr_iload C dX11_takenBack_85 rfl ?_
        refine rr_bipush (v := 6) C dX11_takenBack_87 (by decide) ?_
        refine rr_iconst (v := 0) C dX11_takenBack_89 (by decide) ?_
        replace hr := Option.bind_eq_some_iff.mp hr
        obtain ⟨u33, e34, hr⟩ := hr
        replace hr := Option.bind_eq_some_iff.mp hr
        obtain ⟨v35, e36, hr⟩ := hr
        refine rr_callVq (as := [.int l1, .int l10, .int 6, .int 0]) (st := [.long (Int32.toInt64 v31), .long l6]) (mc' := 0) (ms' := 0) C dX11_takenBack_90 iv_X11_430 (by decide) e34 rfl (Nat.le_of_ble_eq_true rfl) (c_X11_plainOf l0 l1 l10 6 0 (by omega) e36) (fun v_ h_ n_ q_ => ?_)
        obtain ⟨q1_, q2_, q3_⟩ := q_
        subst v_; subst h_; subst n_
        show WW W0 G 11 _ _ _ 93 [some (.ref l0), some (.int l1), some (.int l2), some (.long l3), none, some (.int l5), some (.long l6), none, some (.long l8), none, some (.int l10)] [.int v35.1, .long (Int32.toInt64 v31), .long l6] v35.2 n _ _
        refine rr_i2l C dX11_takenBack_93 ?_
        refine rr_lmul C dX11_takenBack_94 ?_
        refine rr_ldc2 C dX11_takenBack_95 ct_X11_433 ?_
        refine rr_ldiv C dX11_takenBack_98 (by decide) ?_
        refine rr_mmin_long C dX11_takenBack_99 ma_X11_462 (by decide) (Nat.le_of_ble_eq_true rfl) ?_
        refine rr_lstore C dX11_takenBack_102 (by decide) ?_
        show WW W0 G 11 _ _ _ 104 [some (.ref l0), some (.int l1), some (.int l2), some (.long l3), none, some (.int l5), some (.long l6), none, some (.long (j_min l6 (((Int32.toInt64 v31) * (Int32.toInt64 v35.1)) / 100))), none, some (.int l10)] [] v35.2 n _ _
        refine rr_lload C dX11_takenBack_104 rfl ?_
        refine rr_lload C dX11_takenBack_106 rfl ?_
        refine rr_lsub C dX11_takenBack_108 ?_
        refine rr_lstore C dX11_takenBack_109 (by decide) ?_
        show WW W0 G 11 _ _ _ 111 [some (.ref l0), some (.int l1), some (.int l2), some (.long l3), none, some (.int l5), some (.long (l6 - (j_min l6 (((Int32.toInt64 v31) * (Int32.toInt64 v35.1)) / 100)))), none, some (.long (j_min l6 (((Int32.toInt64 v31) * (Int32.toInt64 v35.1)) / 100))), none, some (.int l10)] [] v35.2 n _ _
        refine rr_iinc (v := l10 + 1) C dX11_takenBack_111 rfl rfl ?_
        show WW W0 G 11 _ _ _ 114 [some (.ref l0), some (.int l1), some (.int l2), some (.long l3), none, some (.int l5), some (.long (l6 - (j_min l6 (((Int32.toInt64 v31) * (Int32.toInt64 v35.1)) / 100)))), none, some (.long (j_min l6 (((Int32.toInt64 v31) * (Int32.toInt64 v35.1)) / 100))), none, some (.int (l10 + 1))] [] v35.2 n _ _
        refine rr_goto (tgt := 52) C dX11_takenBack_114 (by decide) ?_
        exact rr_keep [true, true, true, true, false, true, true, false, true, false, true] (ih_ _ _ _ _ hr hx0)
      · replace hr := (if_neg c66_).symm.trans hr
        refine rr_lconst (v := 0) C dX11_takenBack_69 (by decide) ?_
        refine rr_goto (tgt := 102) C dX11_takenBack_70 (by decide) ?_
        refine rr_lstore C dX11_takenBack_102 (by decide) ?_
        show WW W0 G 11 _ _ _ 104 [some (.ref l0), some (.int l1), some (.int l2), some (.long l3), none, some (.int l5), some (.long l6), none, some (.long 0), none, some (.int l10)] [] h n _ _
        refine rr_lload C dX11_takenBack_104 rfl ?_
        refine rr_lload C dX11_takenBack_106 rfl ?_
        refine rr_lsub C dX11_takenBack_108 ?_
        refine rr_lstore C dX11_takenBack_109 (by decide) ?_
        show WW W0 G 11 _ _ _ 111 [some (.ref l0), some (.int l1), some (.int l2), some (.long l3), none, some (.int l5), some (.long (l6 - 0)), none, some (.long 0), none, some (.int l10)] [] h n _ _
        refine rr_iinc (v := l10 + 1) C dX11_takenBack_111 rfl rfl ?_
        show WW W0 G 11 _ _ _ 114 [some (.ref l0), some (.int l1), some (.int l2), some (.long l3), none, some (.int l5), some (.long (l6 - 0)), none, some (.long 0), none, some (.int (l10 + 1))] [] h n _ _
        refine rr_goto (tgt := 52) C dX11_takenBack_114 (by decide) ?_
        exact rr_keep [true, true, true, true, false, true, true, false, true, false, true] (ih_ _ _ _ _ hr hx0)
set_option maxRecDepth 100000 in
set_option maxHeartbeats 4000000 in
theorem w_X11_takenBack_5 {K : Nat} {W0 : mm_X} {G : mm_G} {mc ms kc ks : Nat} {Q_ : State → Prop} {n : Nat} (C : mm_C W0 G cX11_takenBack yX11_takenBack.cls 11 mc ms (some .long) 51 yX11_takenBack.name) (hn : 48 ≤ n) (l0 : Nat) (l1 : Int32) (l2 : Int32) : ∀ (k_ : Nat) (l3 : Int64) (l5 : Int32) (h : mm_H) {r_ : Int64 × mm_H} (hr : lp_X11_takenBack_5 K n l0 l1 l2 k_ l3 l5 h = some r_) (hx0 : WW W0 G 11 mc ms Q_ 128 [none, none, none, some (.long r_.1), none, none, none, none, none, none, none] [] r_.2 n kc ks), WW W0 G 11 mc ms Q_ 5 [some (.ref l0), some (.int l1), some (.int l2), some (.long l3), none, some (.int l5), none, none, none, none, none] [] h n kc ks := by
  intro k_
  induction k_ with
  | zero =>
    intro l3 l5 h r_ hr
    cases hr
  | succ k_ ih_ =>
    intro l3 l5 h r_ hr hx0
    unfold lp_X11_takenBack_5 at hr
    refine rr_iload C dX11_takenBack_5 rfl ?_
    refine rr_aload_n (i := 0) C dX11_takenBack_7 rfl rfl ?_
    replace hr := Option.bind_eq_some_iff.mp hr
    obtain ⟨v1, e2, hr⟩ := hr
    refine rr_rdI C dX11_takenBack_8 fl_X11_202 e2 ?_
    refine rr_icmp_ge (tgt := 128) C dX11_takenBack_11 (by decide) (fun c11_ => ?_) (fun c11_ => ?_)
    · replace hr := (if_pos c11_).symm.trans hr
      obtain rfl := Option.some.inj hr
      exact rr_keep [false, false, false, true, false, false, false, false, false, false, false] (hx0)
    · replace hr := (if_neg c11_).symm.trans hr
      refine rr_aload_n (i := 0) C dX11_takenBack_14 rfl rfl ?_
      replace hr := Option.bind_eq_some_iff.mp hr
      obtain ⟨v3, e4, hr⟩ := hr
      refine rr_rdR C dX11_takenBack_15 fl_X11_26 e4 ?_
      refine rr_iload C dX11_takenBack_18 rfl ?_
      replace hr := Option.bind_eq_some_iff.mp hr
      obtain ⟨a5, e6, hr⟩ := hr
      subst e6
      replace hr := Option.bind_eq_some_iff.mp hr
      obtain ⟨v7, e8, hr⟩ := hr
      refine rr_ldI C dX11_takenBack_20 e8 ?_
      refine rr_iload_n (i := 1) C dX11_takenBack_21 rfl rfl ?_
      refine rr_icmp_eq (tgt := 28) C dX11_takenBack_22 (by decide) (fun c22_ => ?_) (fun c22_ => ?_)
      · replace hr := (if_pos c22_).symm.trans hr
        refine rr_aload_n (i := 0) C dX11_takenBack_28 rfl rfl ?_
        replace hr := Option.bind_eq_some_iff.mp hr
        obtain ⟨v9, e10, hr⟩ := hr
        refine rr_rdR C dX11_takenBack_29 fl_X11_29 e10 ?_
        refine rr_iload C dX11_takenBack_32 rfl ?_
        replace hr := Option.bind_eq_some_iff.mp hr
        obtain ⟨a11, e12, hr⟩ := hr
        subst e12
        replace hr := Option.bind_eq_some_iff.mp hr
        obtain ⟨v13, e14, hr⟩ := hr
        refine rr_ldI C dX11_takenBack_34 e14 ?_
        refine rr_i2l C dX11_takenBack_35 ?_
        refine rr_lstore C dX11_takenBack_36 (by decide) ?_
        show WW W0 G 11 _ _ _ 38 [some (.ref l0), some (.int l1), some (.int l2), some (.long l3), none, some (.int l5), some (.long (Int32.toInt64 v13)), none, none, none, none] [] h n _ _
        refine rr_lconst (v := 0) C dX11_takenBack_38 (by decide) ?_
        refine rr_lstore C dX11_takenBack_39 (by decide) ?_
        show WW W0 G 11 _ _ _ 41 [some (.ref l0), some (.int l1), some (.int l2), some (.long l3), none, some (.int l5), some (.long (Int32.toInt64 v13)), none, some (.long 0), none, none] [] h n _ _
        refine rr_aload_n (i := 0) C dX11_takenBack_41 rfl rfl ?_
        replace hr := Option.bind_eq_some_iff.mp hr
        obtain ⟨v16, e17, hr⟩ := hr
        refine rr_rdR C dX11_takenBack_42 fl_X11_32 e17 ?_
        refine rr_iload C dX11_takenBack_45 rfl ?_
        replace hr := Option.bind_eq_some_iff.mp hr
        obtain ⟨a18, e19, hr⟩ := hr
        subst e19
        replace hr := Option.bind_eq_some_iff.mp hr
        obtain ⟨v20, e21, hr⟩ := hr
        refine rr_ldI C dX11_takenBack_47 e21 ?_
        refine rr_iconst (v := 1) C dX11_takenBack_48 (by decide) ?_
        refine rr_iadd C dX11_takenBack_49 ?_
        refine rr_istore C dX11_takenBack_50 (by decide) ?_
        show WW W0 G 11 _ _ _ 52 [some (.ref l0), some (.int l1), some (.int l2), some (.long l3), none, some (.int l5), some (.long (Int32.toInt64 v13)), none, some (.long 0), none, some (.int (v20 + 1))] [] h n _ _
        replace hr := Option.bind_eq_some_iff.mp hr
        obtain ⟨v40, e41, hr⟩ := hr
        refine rr_keep [true, true, true, true, false, true, true, false, true, false, true] (w_X11_takenBack_52 C (by omega) l0 l1 l2 l3 l5 K (Int32.toInt64 v13) 0 (v20 + 1) h e41 ?_)
        show WW W0 G 11 _ _ _ 117 [some (.ref l0), some (.int l1), some (.int l2), some (.long l3), none, some (.int l5), none, none, some (.long v40.1), none, none] [] v40.2 n _ _
        refine rr_lload_n (i := 3) C dX11_takenBack_117 rfl rfl ?_
        refine rr_lload C dX11_takenBack_118 rfl ?_
        refine rr_ladd C dX11_takenBack_120 ?_
        refine rr_lstore_n (i := 3) C dX11_takenBack_121 rfl (by decide) ?_
        show WW W0 G 11 _ _ _ 122 [some (.ref l0), some (.int l1), some (.int l2), some (.long (l3 + v40.1)), none, some (.int l5), none, none, some (.long v40.1), none, none] [] v40.2 n _ _
        refine rr_iinc (v := l5 + 1) C dX11_takenBack_122 rfl rfl ?_
        show WW W0 G 11 _ _ _ 125 [some (.ref l0), some (.int l1), some (.int l2), some (.long (l3 + v40.1)), none, some (.int (l5 + 1)), none, none, some (.long v40.1), none, none] [] v40.2 n _ _
        refine rr_goto (tgt := 5) C dX11_takenBack_125 (by decide) ?_
        exact rr_keep [true, true, true, true, false, true, false, false, false, false, false] (ih_ _ _ _ hr hx0)
      · replace hr := (if_neg c22_).symm.trans hr
        refine rr_goto (tgt := 122) C dX11_takenBack_25 (by decide) ?_
        refine rr_iinc (v := l5 + 1) C dX11_takenBack_122 rfl rfl ?_
        show WW W0 G 11 _ _ _ 125 [some (.ref l0), some (.int l1), some (.int l2), some (.long l3), none, some (.int (l5 + 1)), none, none, none, none, none] [] h n _ _
        refine rr_goto (tgt := 5) C dX11_takenBack_125 (by decide) ?_
        exact rr_keep [true, true, true, true, false, true, false, false, false, false, false] (ih_ _ _ _ hr hx0)
set_option maxRecDepth 100000 in
set_option maxHeartbeats 4000000 in
theorem c_X11_takenBack {K : Nat} {G : mm_G} {l : Launch} {h : mm_H} {n : Nat} (l0 : Nat) (l1 : Int32) (l2 : Int32) {r_ : Int64 × mm_H} (hn : 48 ≤ n) (hr : q_X11_takenBack K h n l0 l1 l2 = some r_) : Sp G l yX11_takenBack cX11_takenBack 11 (some .long) 51 0 0 [.ref l0, .int l1, .int l2] h n (fun v h' n' => v = some (.long r_.1) ∧ h' = r_.2 ∧ n' = n) := by
  refine Sp_of (by decide +kernel) (Nat.le_of_ble_eq_true rfl) hn ?_
  intro W0 hwl C
  subst hwl
  unfold q_X11_takenBack at hr
  show WW W0 G 11 0 0 _ 0 [some (.ref l0), some (.int l1), some (.int l2), none, none, none, none, none, none, none, none] [] h n 0 0
  refine rr_lconst (v := 0) C dX11_takenBack_0 (by decide) ?_
  refine rr_lstore_n (i := 3) C dX11_takenBack_1 rfl (by decide) ?_
  show WW W0 G 11 _ _ _ 2 [some (.ref l0), some (.int l1), some (.int l2), some (.long 0), none, none, none, none, none, none, none] [] h n _ _
  refine rr_iconst (v := 0) C dX11_takenBack_2 (by decide) ?_
  refine rr_istore C dX11_takenBack_3 (by decide) ?_
  show WW W0 G 11 _ _ _ 5 [some (.ref l0), some (.int l1), some (.int l2), some (.long 0), none, some (.int 0), none, none, none, none, none] [] h n _ _
  replace hr := Option.bind_eq_some_iff.mp hr
  obtain ⟨v43, e44, hr⟩ := hr
  refine rr_keep [true, true, true, true, false, true, false, false, false, false, false] (w_X11_takenBack_5 C (by omega) l0 l1 l2 K 0 0 h e44 ?_)
  show WW W0 G 11 _ _ _ 128 [none, none, none, some (.long v43.1), none, none, none, none, none, none, none] [] v43.2 n _ _
  refine rr_lload_n (i := 3) C dX11_takenBack_128 rfl rfl ?_
  obtain rfl := Option.some.inj hr
  exact rr_lret C dX11_takenBack_129 rfl ⟨rfl, rfl, rfl⟩
def lp_X11_logged_6 (K : Nat) (h : mm_H) (n : Nat) (l0 : Nat) (l1 : Int32) (l2 : Int32) (l3 : Int32) : Nat → Int64 → Int32 → Option (Int64)
  | 0, _, _ => none
  | k_ + 1, l4, l6 =>
    (rdI h n l0 10 10).bind fun v1 =>
    if v1 ≤ l6 then
      some (l4)
    else
    (rdR h n l0 10 20).bind fun v3 =>
    v3.bind fun a5 =>
    (ldI h n a5 l6).bind fun v7 =>
    if v7 = l1 then
      (rdR h n l0 10 21).bind fun v9 =>
      v9.bind fun a11 =>
      (ldI h n a11 l6).bind fun v13 =>
      if v13 = l2 then
        (rdR h n l0 10 23).bind fun v15 =>
        v15.bind fun a17 =>
        (ldI h n a17 l6).bind fun v19 =>
        if l3 < v19 then
          lp_X11_logged_6 K h n l0 l1 l2 l3 k_ l4 (l6 + 1)
        else
        (rdR h n l0 10 22).bind fun v21 =>
        v21.bind fun a23 =>
        (ldI h n a23 l6).bind fun v25 =>
        lp_X11_logged_6 K h n l0 l1 l2 l3 k_ (l4 + (Int32.toInt64 v25)) (l6 + 1)
      else
      lp_X11_logged_6 K h n l0 l1 l2 l3 k_ l4 (l6 + 1)
    else
    lp_X11_logged_6 K h n l0 l1 l2 l3 k_ l4 (l6 + 1)
def lp_X11_logged_73 (K : Nat) (n : Nat) (l0 : Nat) (l1 : Int32) (l2 : Int32) (l3 : Int32) (l4 : Int64) : Nat → Int64 → Int32 → mm_H → Option (Int64 × mm_H)
  | 0, _, _, _ => none
  | k_ + 1, l6, l8, h =>
    if 4 ≤ l8 then
      some (l6, h)
    else
    (ckq h n l0 10).bind fun u30 =>
    (q_X11_allowedOf K h n l0 l1 l8 l2 l3).bind fun v32 =>
    lp_X11_logged_73 K n l0 l1 l2 l3 l4 k_ (l6 + (Int32.toInt64 v32.1)) (l8 + 1) v32.2
def q_X11_logged (K : Nat) (h : mm_H) (n : Nat) (l0 : Nat) (l1 : Int32) (l2 : Int32) (l3 : Int32) : Option (Int64 × mm_H) :=
  (lp_X11_logged_6 K h n l0 l1 l2 l3 K 0 0).bind fun v28 =>
  (lp_X11_logged_73 K n l0 l1 l2 l3 v28 K 0 0 h).bind fun v35 =>
  (ckq v35.2 n l0 10).bind fun u37 =>
  (q_X11_plainOf K v35.2 n l0 l1 l2 8 0).bind fun v39 =>
  if (lg_cmp v28 ((v35.1 * (Int32.toInt64 v39.1)) / 100)) < 0 then
    some (0, v39.2)
  else
  some (v28, v39.2)
set_option maxRecDepth 100000 in
set_option maxHeartbeats 4000000 in
theorem w_X11_logged_6 {K : Nat} {W0 : mm_X} {G : mm_G} {mc ms kc ks : Nat} {Q_ : State → Prop} {h : mm_H} {n : Nat} (C : mm_C W0 G cX11_logged yX11_logged.cls 9 mc ms (some .long) 51 yX11_logged.name) (hn : 48 ≤ n) (l0 : Nat) (l1 : Int32) (l2 : Int32) (l3 : Int32) : ∀ (k_ : Nat) (l4 : Int64) (l6 : Int32) {r_ : Int64} (hr : lp_X11_logged_6 K h n l0 l1 l2 l3 k_ l4 l6 = some r_) (hx0 : WW W0 G 9 mc ms Q_ 67 [some (.ref l0), some (.int l1), some (.int l2), some (.int l3), some (.long r_), none, none, none, none] [] h n kc ks), WW W0 G 9 mc ms Q_ 6 [some (.ref l0), some (.int l1), some (.int l2), some (.int l3), some (.long l4), none, some (.int l6), none, none] [] h n kc ks := by
  intro k_
  induction k_ with
  | zero =>
    intro l4 l6 r_ hr
    cases hr
  | succ k_ ih_ =>
    intro l4 l6 r_ hr hx0
    unfold lp_X11_logged_6 at hr
    refine rr_iload C dX11_logged_6 rfl ?_
    refine rr_aload_n (i := 0) C dX11_logged_8 rfl rfl ?_
    replace hr := Option.bind_eq_some_iff.mp hr
    obtain ⟨v1, e2, hr⟩ := hr
    refine rr_rdI C dX11_logged_9 fl_X11_211 e2 ?_
    refine rr_icmp_ge (tgt := 67) C dX11_logged_12 (by decide) (fun c12_ => ?_) (fun c12_ => ?_)
    · replace hr := (if_pos c12_).symm.trans hr
      obtain rfl := Option.some.inj hr
      exact rr_keep [true, true, true, true, true, false, false, false, false] (hx0)
    · replace hr := (if_neg c12_).symm.trans hr
      refine rr_aload_n (i := 0) C dX11_logged_15 rfl rfl ?_
      replace hr := Option.bind_eq_some_iff.mp hr
      obtain ⟨v3, e4, hr⟩ := hr
      refine rr_rdR C dX11_logged_16 fl_X11_53 e4 ?_
      refine rr_iload C dX11_logged_19 rfl ?_
      replace hr := Option.bind_eq_some_iff.mp hr
      obtain ⟨a5, e6, hr⟩ := hr
      subst e6
      replace hr := Option.bind_eq_some_iff.mp hr
      obtain ⟨v7, e8, hr⟩ := hr
      refine rr_ldI C dX11_logged_21 e8 ?_
      refine rr_iload_n (i := 1) C dX11_logged_22 rfl rfl ?_
      refine rr_icmp_ne (tgt := 61) C dX11_logged_23 (by decide) (fun c23_ => ?_) (fun c23_ => ?_)
      · replace hr := (if_neg c23_).symm.trans hr
        refine rr_iinc (v := l6 + 1) C dX11_logged_61 rfl rfl ?_
        show WW W0 G 9 _ _ _ 64 [some (.ref l0), some (.int l1), some (.int l2), some (.int l3), some (.long l4), none, some (.int (l6 + 1)), none, none] [] h n _ _
        refine rr_goto (tgt := 6) C dX11_logged_64 (by decide) ?_
        exact rr_keep [true, true, true, true, true, false, true, false, false] (ih_ _ _ hr hx0)
      · replace hr := (if_pos c23_).symm.trans hr
        refine rr_aload_n (i := 0) C dX11_logged_26 rfl rfl ?_
        replace hr := Option.bind_eq_some_iff.mp hr
        obtain ⟨v9, e10, hr⟩ := hr
        refine rr_rdR C dX11_logged_27 fl_X11_56 e10 ?_
        refine rr_iload C dX11_logged_30 rfl ?_
        replace hr := Option.bind_eq_some_iff.mp hr
        obtain ⟨a11, e12, hr⟩ := hr
        subst e12
        replace hr := Option.bind_eq_some_iff.mp hr
        obtain ⟨v13, e14, hr⟩ := hr
        refine rr_ldI C dX11_logged_32 e14 ?_
        refine rr_iload_n (i := 2) C dX11_logged_33 rfl rfl ?_
        refine rr_icmp_ne (tgt := 61) C dX11_logged_34 (by decide) (fun c34_ => ?_) (fun c34_ => ?_)
        · replace hr := (if_neg c34_).symm.trans hr
          refine rr_iinc (v := l6 + 1) C dX11_logged_61 rfl rfl ?_
          show WW W0 G 9 _ _ _ 64 [some (.ref l0), some (.int l1), some (.int l2), some (.int l3), some (.long l4), none, some (.int (l6 + 1)), none, none] [] h n _ _
          refine rr_goto (tgt := 6) C dX11_logged_64 (by decide) ?_
          exact rr_keep [true, true, true, true, true, false, true, false, false] (ih_ _ _ hr hx0)
        · replace hr := (if_pos c34_).symm.trans hr
          refine rr_aload_n (i := 0) C dX11_logged_37 rfl rfl ?_
          replace hr := Option.bind_eq_some_iff.mp hr
          obtain ⟨v15, e16, hr⟩ := hr
          refine rr_rdR C dX11_logged_38 fl_X11_62 e16 ?_
          refine rr_iload C dX11_logged_41 rfl ?_
          replace hr := Option.bind_eq_some_iff.mp hr
          obtain ⟨a17, e18, hr⟩ := hr
          subst e18
          replace hr := Option.bind_eq_some_iff.mp hr
          obtain ⟨v19, e20, hr⟩ := hr
          refine rr_ldI C dX11_logged_43 e20 ?_
          refine rr_iload_n (i := 3) C dX11_logged_44 rfl rfl ?_
          refine rr_icmp_gt (tgt := 61) C dX11_logged_45 (by decide) (fun c45_ => ?_) (fun c45_ => ?_)
          · replace hr := (if_pos c45_).symm.trans hr
            refine rr_iinc (v := l6 + 1) C dX11_logged_61 rfl rfl ?_
            show WW W0 G 9 _ _ _ 64 [some (.ref l0), some (.int l1), some (.int l2), some (.int l3), some (.long l4), none, some (.int (l6 + 1)), none, none] [] h n _ _
            refine rr_goto (tgt := 6) C dX11_logged_64 (by decide) ?_
            exact rr_keep [true, true, true, true, true, false, true, false, false] (ih_ _ _ hr hx0)
          · replace hr := (if_neg c45_).symm.trans hr
            refine rr_lload C dX11_logged_48 rfl ?_
            refine rr_aload_n (i := 0) C dX11_logged_50 rfl rfl ?_
            replace hr := Option.bind_eq_some_iff.mp hr
            obtain ⟨v21, e22, hr⟩ := hr
            refine rr_rdR C dX11_logged_51 fl_X11_59 e22 ?_
            refine rr_iload C dX11_logged_54 rfl ?_
            replace hr := Option.bind_eq_some_iff.mp hr
            obtain ⟨a23, e24, hr⟩ := hr
            subst e24
            replace hr := Option.bind_eq_some_iff.mp hr
            obtain ⟨v25, e26, hr⟩ := hr
            refine rr_ldI C dX11_logged_56 e26 ?_
            refine rr_i2l C dX11_logged_57 ?_
            refine rr_ladd C dX11_logged_58 ?_
            refine rr_lstore C dX11_logged_59 (by decide) ?_
            show WW W0 G 9 _ _ _ 61 [some (.ref l0), some (.int l1), some (.int l2), some (.int l3), some (.long (l4 + (Int32.toInt64 v25))), none, some (.int l6), none, none] [] h n _ _
            refine rr_iinc (v := l6 + 1) C dX11_logged_61 rfl rfl ?_
            show WW W0 G 9 _ _ _ 64 [some (.ref l0), some (.int l1), some (.int l2), some (.int l3), some (.long (l4 + (Int32.toInt64 v25))), none, some (.int (l6 + 1)), none, none] [] h n _ _
            refine rr_goto (tgt := 6) C dX11_logged_64 (by decide) ?_
            exact rr_keep [true, true, true, true, true, false, true, false, false] (ih_ _ _ hr hx0)
set_option maxRecDepth 100000 in
set_option maxHeartbeats 4000000 in
theorem w_X11_logged_73 {K : Nat} {W0 : mm_X} {G : mm_G} {mc ms kc ks : Nat} {Q_ : State → Prop} {n : Nat} (C : mm_C W0 G cX11_logged yX11_logged.cls 9 mc ms (some .long) 51 yX11_logged.name) (hn : 48 ≤ n) (l0 : Nat) (l1 : Int32) (l2 : Int32) (l3 : Int32) (l4 : Int64) : ∀ (k_ : Nat) (l6 : Int64) (l8 : Int32) (h : mm_H) {r_ : Int64 × mm_H} (hr : lp_X11_logged_73 K n l0 l1 l2 l3 l4 k_ l6 l8 h = some r_) (hx0 : WW W0 G 9 mc ms Q_ 100 [some (.ref l0), some (.int l1), some (.int l2), none, some (.long l4), none, some (.long r_.1), none, none] [] r_.2 n kc ks), WW W0 G 9 mc ms Q_ 73 [some (.ref l0), some (.int l1), some (.int l2), some (.int l3), some (.long l4), none, some (.long l6), none, some (.int l8)] [] h n kc ks := by
  intro k_
  induction k_ with
  | zero =>
    intro l6 l8 h r_ hr
    cases hr
  | succ k_ ih_ =>
    intro l6 l8 h r_ hr hx0
    unfold lp_X11_logged_73 at hr
    refine rr_iload C dX11_logged_73 rfl ?_
    refine rr_iconst (v := 4) C dX11_logged_75 (by decide) ?_
    refine rr_icmp_ge (tgt := 100) C dX11_logged_76 (by decide) (fun c76_ => ?_) (fun c76_ => ?_)
    · replace hr := (if_pos c76_).symm.trans hr
      obtain rfl := Option.some.inj hr
      exact rr_keep [true, true, true, false, true, false, true, false, false] (hx0)
    · replace hr := (if_neg c76_).symm.trans hr
      refine rr_lload C dX11_logged_79 rfl ?_
      refine rr_aload_n (i := 0) C dX11_logged_81 rfl rfl ?_
      refine rr_iload_n (i := 1) C dX11_logged_82 rfl rfl ?_
      refine rr_iload C dX11_logged_83 rfl ?_
      refine rr_iload_n (i := 2) C dX11_logged_85 rfl rfl ?_
      refine rr_iload_n (i := 3) C dX11_logged_86 rfl rfl ?_
      replace hr := Option.bind_eq_some_iff.mp hr
      obtain ⟨u30, e31, hr⟩ := hr
      replace hr := Option.bind_eq_some_iff.mp hr
      obtain ⟨v32, e33, hr⟩ := hr
      refine rr_callVq (as := [.int l1, .int l8, .int l2, .int l3]) (st := [.long l6]) (mc' := 0) (ms' := 0) C dX11_logged_87 iv_X11_482 (by decide) e31 rfl (Nat.le_of_ble_eq_true rfl) (c_X11_allowedOf l0 l1 l8 l2 l3 (by omega) e33) (fun v_ h_ n_ q_ => ?_)
      obtain ⟨q1_, q2_, q3_⟩ := q_
      subst v_; subst h_; subst n_
      show WW W0 G 9 _ _ _ 90 [some (.ref l0), some (.int l1), some (.int l2), some (.int l3), some (.long l4), none, some (.long l6), none, some (.int l8)] [.int v32.1, .long l6] v32.2 n _ _
      refine rr_i2l C dX11_logged_90 ?_
      refine rr_ladd C dX11_logged_91 ?_
      refine rr_lstore C dX11_logged_92 (by decide) ?_
      show WW W0 G 9 _ _ _ 94 [some (.ref l0), some (.int l1), some (.int l2), some (.int l3), some (.long l4), none, some (.long (l6 + (Int32.toInt64 v32.1))), none, some (.int l8)] [] v32.2 n _ _
      refine rr_iinc (v := l8 + 1) C dX11_logged_94 rfl rfl ?_
      show WW W0 G 9 _ _ _ 97 [some (.ref l0), some (.int l1), some (.int l2), some (.int l3), some (.long l4), none, some (.long (l6 + (Int32.toInt64 v32.1))), none, some (.int (l8 + 1))] [] v32.2 n _ _
      refine rr_goto (tgt := 73) C dX11_logged_97 (by decide) ?_
      exact rr_keep [true, true, true, true, true, false, true, false, true] (ih_ _ _ _ hr hx0)
set_option maxRecDepth 100000 in
set_option maxHeartbeats 4000000 in
theorem c_X11_logged {K : Nat} {G : mm_G} {l : Launch} {h : mm_H} {n : Nat} (l0 : Nat) (l1 : Int32) (l2 : Int32) (l3 : Int32) {r_ : Int64 × mm_H} (hn : 48 ≤ n) (hr : q_X11_logged K h n l0 l1 l2 l3 = some r_) : Sp G l yX11_logged cX11_logged 9 (some .long) 51 0 0 [.ref l0, .int l1, .int l2, .int l3] h n (fun v h' n' => v = some (.long r_.1) ∧ h' = r_.2 ∧ n' = n) := by
  refine Sp_of (by decide +kernel) (Nat.le_of_ble_eq_true rfl) hn ?_
  intro W0 hwl C
  subst hwl
  unfold q_X11_logged at hr
  show WW W0 G 9 0 0 _ 0 [some (.ref l0), some (.int l1), some (.int l2), some (.int l3), none, none, none, none, none] [] h n 0 0
  refine rr_lconst (v := 0) C dX11_logged_0 (by decide) ?_
  refine rr_lstore C dX11_logged_1 (by decide) ?_
  show WW W0 G 9 _ _ _ 3 [some (.ref l0), some (.int l1), some (.int l2), some (.int l3), some (.long 0), none, none, none, none] [] h n _ _
  refine rr_iconst (v := 0) C dX11_logged_3 (by decide) ?_
  refine rr_istore C dX11_logged_4 (by decide) ?_
  show WW W0 G 9 _ _ _ 6 [some (.ref l0), some (.int l1), some (.int l2), some (.int l3), some (.long 0), none, some (.int 0), none, none] [] h n _ _
  replace hr := Option.bind_eq_some_iff.mp hr
  obtain ⟨v28, e29, hr⟩ := hr
  refine rr_keep [true, true, true, true, true, false, true, false, false] (w_X11_logged_6 C (by omega) l0 l1 l2 l3 K 0 0 e29 ?_)
  show WW W0 G 9 _ _ _ 67 [some (.ref l0), some (.int l1), some (.int l2), some (.int l3), some (.long v28), none, none, none, none] [] h n _ _
  refine rr_lconst (v := 0) C dX11_logged_67 (by decide) ?_
  refine rr_lstore C dX11_logged_68 (by decide) ?_
  show WW W0 G 9 _ _ _ 70 [some (.ref l0), some (.int l1), some (.int l2), some (.int l3), some (.long v28), none, some (.long 0), none, none] [] h n _ _
  refine rr_iconst (v := 0) C dX11_logged_70 (by decide) ?_
  refine rr_istore C dX11_logged_71 (by decide) ?_
  show WW W0 G 9 _ _ _ 73 [some (.ref l0), some (.int l1), some (.int l2), some (.int l3), some (.long v28), none, some (.long 0), none, some (.int 0)] [] h n _ _
  replace hr := Option.bind_eq_some_iff.mp hr
  obtain ⟨v35, e36, hr⟩ := hr
  refine rr_keep [true, true, true, true, true, false, true, false, true] (w_X11_logged_73 C (by omega) l0 l1 l2 l3 v28 K 0 0 h e36 ?_)
  show WW W0 G 9 _ _ _ 100 [some (.ref l0), some (.int l1), some (.int l2), none, some (.long v28), none, some (.long v35.1), none, none] [] v35.2 n _ _
  refine rr_lload C dX11_logged_100 rfl ?_
  refine rr_lload C dX11_logged_102 rfl ?_
  refine rr_aload_n (i := 0) C dX11_logged_104 rfl rfl ?_
  refine rr_iload_n (i := 1) C dX11_logged_105 rfl rfl ?_
  refine rr_iload_n (i := 2) C dX11_logged_106 rfl rfl ?_
  refine rr_bipush (v := 8) C dX11_logged_107 (by decide) ?_
  refine rr_iconst (v := 0) C dX11_logged_109 (by decide) ?_
  replace hr := Option.bind_eq_some_iff.mp hr
  obtain ⟨u37, e38, hr⟩ := hr
  replace hr := Option.bind_eq_some_iff.mp hr
  obtain ⟨v39, e40, hr⟩ := hr
  refine rr_callVq (as := [.int l1, .int l2, .int 8, .int 0]) (st := [.long v35.1, .long v28]) (mc' := 0) (ms' := 0) C dX11_logged_110 iv_X11_430 (by decide) e38 rfl (Nat.le_of_ble_eq_true rfl) (c_X11_plainOf l0 l1 l2 8 0 (by omega) e40) (fun v_ h_ n_ q_ => ?_)
  obtain ⟨q1_, q2_, q3_⟩ := q_
  subst v_; subst h_; subst n_
  show WW W0 G 9 _ _ _ 113 [some (.ref l0), some (.int l1), some (.int l2), none, some (.long v28), none, some (.long v35.1), none, none] [.int v39.1, .long v35.1, .long v28] v39.2 n _ _
  refine rr_i2l C dX11_logged_113 ?_
  refine rr_lmul C dX11_logged_114 ?_
  refine rr_ldc2 C dX11_logged_115 ct_X11_433 ?_
  refine rr_ldiv C dX11_logged_118 (by decide) ?_
  refine rr_lcmp C dX11_logged_119 ?_
  refine rr_if_lt (tgt := 128) C dX11_logged_120 (by decide) (fun c120_ => ?_) (fun c120_ => ?_)
  · replace hr := (if_pos c120_).symm.trans hr
    refine rr_lconst (v := 0) C dX11_logged_128 (by decide) ?_
    obtain rfl := Option.some.inj hr
    exact rr_lret C dX11_logged_129 rfl ⟨rfl, rfl, rfl⟩
  · replace hr := (if_neg c120_).symm.trans hr
    refine rr_lload C dX11_logged_123 rfl ?_
    refine rr_goto (tgt := 129) C dX11_logged_125 (by decide) ?_
    obtain rfl := Option.some.inj hr
    exact rr_lret C dX11_logged_129 rfl ⟨rfl, rfl, rfl⟩
def q_X11_lineOf (K : Nat) (h : mm_H) (n : Nat) (l0 : Nat) (l1 : Int32) (l2 : Int32) (l3 : Int32) (l4 : Int32) : Option (Int64 × mm_H) :=
  if 4 ≤ l4 then
    if l4 = 4 then
      (rdR h n l0 10 58).bind fun v1 =>
      v1.bind fun a3 =>
      (ldJ h n a3 l2).bind fun v5 =>
      (ckq h n l0 10).bind fun u7 =>
      (q_X11_plainOf K h n l0 l1 l2 3 0).bind fun v9 =>
      some ((v5 * (Int32.toInt64 v9.1)) / 1000, v9.2)
    else
    if l4 = 5 then
      (ckq h n l0 10).bind fun u11 =>
      (q_X11_due K h n l0 l1 l2).bind fun v13 =>
      some (v13, h)
    else
    if l4 = 6 then
      (ckq h n l0 10).bind fun u15 =>
      (q_X11_takenBack K h n l0 l1 l2).bind fun v17 =>
      some (-v17.1, v17.2)
    else
    if l4 = 14 then
      (ckq h n l0 10).bind fun u19 =>
      (q_X11_logged K h n l0 l1 l2 l3).bind fun v21 =>
      some (v21.1, v21.2)
    else
    if l2 = 0 then
      some (0, h)
    else
    if 10 ≤ l4 then
      (ckq h n l0 10).bind fun u23 =>
      (q_X11_shared K h n l0 l1 (l4 - 10) (l2 - 1) l3).bind fun v25 =>
      some (v25.1, v25.2)
    else
    (ckq h n l0 10).bind fun u27 =>
    (q_X11_earned K h n l0 l1 (l4 - 7) (l2 - 1) l3).bind fun v29 =>
    some (v29.1, v29.2)
  else
  (ckq h n l0 10).bind fun u31 =>
  (q_X11_allowedOf K h n l0 l1 l4 l2 l3).bind fun v33 =>
  some (Int32.toInt64 v33.1, v33.2)
set_option maxRecDepth 100000 in
set_option maxHeartbeats 4000000 in
theorem c_X11_lineOf {K : Nat} {G : mm_G} {l : Launch} {h : mm_H} {n : Nat} (l0 : Nat) (l1 : Int32) (l2 : Int32) (l3 : Int32) (l4 : Int32) {r_ : Int64 × mm_H} (hn : 48 ≤ n) (hr : q_X11_lineOf K h n l0 l1 l2 l3 l4 = some r_) : Sp G l yX11_lineOf cX11_lineOf 5 (some .long) 53 0 0 [.ref l0, .int l1, .int l2, .int l3, .int l4] h n (fun v h' n' => v = some (.long r_.1) ∧ h' = r_.2 ∧ n' = n) := by
  refine Sp_of (by decide +kernel) (Nat.le_of_ble_eq_true rfl) hn ?_
  intro W0 hwl C
  subst hwl
  unfold q_X11_lineOf at hr
  show WW W0 G 5 0 0 _ 0 [some (.ref l0), some (.int l1), some (.int l2), some (.int l3), some (.int l4)] [] h n 0 0
  refine rr_iload C dX11_lineOf_0 rfl ?_
  refine rr_iconst (v := 4) C dX11_lineOf_2 (by decide) ?_
  refine rr_icmp_ge (tgt := 17) C dX11_lineOf_3 (by decide) (fun c3_ => ?_) (fun c3_ => ?_)
  · replace hr := (if_pos c3_).symm.trans hr
    refine rr_iload C dX11_lineOf_17 rfl ?_
    by_cases s19_4 : l4 = 4
    · replace hr := (if_pos s19_4).symm.trans hr
      refine rr_lookup (off := 41) (tgt := 60) C dX11_lineOf_19 (by decide) (by rw [s19_4]; rfl) (by decide) ?_
      refine rr_aload_n (i := 0) C dX11_lineOf_60 rfl rfl ?_
      replace hr := Option.bind_eq_some_iff.mp hr
      obtain ⟨v1, e2, hr⟩ := hr
      refine rr_rdR C dX11_lineOf_61 fl_X11_141 e2 ?_
      refine rr_iload_n (i := 2) C dX11_lineOf_64 rfl rfl ?_
      replace hr := Option.bind_eq_some_iff.mp hr
      obtain ⟨a3, e4, hr⟩ := hr
      subst e4
      replace hr := Option.bind_eq_some_iff.mp hr
      obtain ⟨v5, e6, hr⟩ := hr
      refine rr_ldJ C dX11_lineOf_65 e6 ?_
      refine rr_aload_n (i := 0) C dX11_lineOf_66 rfl rfl ?_
      refine rr_iload_n (i := 1) C dX11_lineOf_67 rfl rfl ?_
      refine rr_iload_n (i := 2) C dX11_lineOf_68 rfl rfl ?_
      refine rr_iconst (v := 3) C dX11_lineOf_69 (by decide) ?_
      refine rr_iconst (v := 0) C dX11_lineOf_70 (by decide) ?_
      replace hr := Option.bind_eq_some_iff.mp hr
      obtain ⟨u7, e8, hr⟩ := hr
      replace hr := Option.bind_eq_some_iff.mp hr
      obtain ⟨v9, e10, hr⟩ := hr
      refine rr_callVq (as := [.int l1, .int l2, .int 3, .int 0]) (st := [.long v5]) (mc' := 0) (ms' := 0) C dX11_lineOf_71 iv_X11_430 (by decide) e8 rfl (Nat.le_of_ble_eq_true rfl) (c_X11_plainOf l0 l1 l2 3 0 (by omega) e10) (fun v_ h_ n_ q_ => ?_)
      obtain ⟨q1_, q2_, q3_⟩ := q_
      subst v_; subst h_; subst n_
      show WW W0 G 5 _ _ _ 74 [some (.ref l0), some (.int l1), some (.int l2), some (.int l3), some (.int l4)] [.int v9.1, .long v5] v9.2 n _ _
      refine rr_i2l C dX11_lineOf_74 ?_
      refine rr_lmul C dX11_lineOf_75 ?_
      refine rr_ldc2 C dX11_lineOf_76 ct_X11_500 ?_
      refine rr_ldiv C dX11_lineOf_79 (by decide) ?_
      obtain rfl := Option.some.inj hr
      exact rr_lret C dX11_lineOf_80 rfl ⟨rfl, rfl, rfl⟩
    replace hr := (if_neg s19_4).symm.trans hr
    by_cases s19_5 : l4 = 5
    · replace hr := (if_pos s19_5).symm.trans hr
      refine rr_lookup (off := 62) (tgt := 81) C dX11_lineOf_19 (by decide) (by rw [s19_5]; rfl) (by decide) ?_
      refine rr_aload_n (i := 0) C dX11_lineOf_81 rfl rfl ?_
      refine rr_iload_n (i := 1) C dX11_lineOf_82 rfl rfl ?_
      refine rr_iload_n (i := 2) C dX11_lineOf_83 rfl rfl ?_
      replace hr := Option.bind_eq_some_iff.mp hr
      obtain ⟨u11, e12, hr⟩ := hr
      replace hr := Option.bind_eq_some_iff.mp hr
      obtain ⟨v13, e14, hr⟩ := hr
      refine rr_callVq (as := [.int l1, .int l2]) (st := []) (mc' := 0) (ms' := 0) C dX11_lineOf_84 iv_X11_502 (by decide) e12 rfl (Nat.le_of_ble_eq_true rfl) (c_X11_due l0 l1 l2 (by omega) e14) (fun v_ h_ n_ q_ => ?_)
      obtain ⟨q1_, q2_, q3_⟩ := q_
      subst v_; subst h_; subst n_
      show WW W0 G 5 _ _ _ 87 [some (.ref l0), some (.int l1), some (.int l2), some (.int l3), some (.int l4)] [.long v13] h n _ _
      obtain rfl := Option.some.inj hr
      exact rr_lret C dX11_lineOf_87 rfl ⟨rfl, rfl, rfl⟩
    replace hr := (if_neg s19_5).symm.trans hr
    by_cases s19_6 : l4 = 6
    · replace hr := (if_pos s19_6).symm.trans hr
      refine rr_lookup (off := 69) (tgt := 88) C dX11_lineOf_19 (by decide) (by rw [s19_6]; rfl) (by decide) ?_
      refine rr_aload_n (i := 0) C dX11_lineOf_88 rfl rfl ?_
      refine rr_iload_n (i := 1) C dX11_lineOf_89 rfl rfl ?_
      refine rr_iload_n (i := 2) C dX11_lineOf_90 rfl rfl ?_
      replace hr := Option.bind_eq_some_iff.mp hr
      obtain ⟨u15, e16, hr⟩ := hr
      replace hr := Option.bind_eq_some_iff.mp hr
      obtain ⟨v17, e18, hr⟩ := hr
      refine rr_callVq (as := [.int l1, .int l2]) (st := []) (mc' := 0) (ms' := 0) C dX11_lineOf_91 iv_X11_506 (by decide) e16 rfl (Nat.le_of_ble_eq_true rfl) (c_X11_takenBack l0 l1 l2 (by omega) e18) (fun v_ h_ n_ q_ => ?_)
      obtain ⟨q1_, q2_, q3_⟩ := q_
      subst v_; subst h_; subst n_
      show WW W0 G 5 _ _ _ 94 [some (.ref l0), some (.int l1), some (.int l2), some (.int l3), some (.int l4)] [.long v17.1] v17.2 n _ _
      refine rr_lneg C dX11_lineOf_94 ?_
      obtain rfl := Option.some.inj hr
      exact rr_lret C dX11_lineOf_95 rfl ⟨rfl, rfl, rfl⟩
    replace hr := (if_neg s19_6).symm.trans hr
    by_cases s19_14 : l4 = 14
    · replace hr := (if_pos s19_14).symm.trans hr
      refine rr_lookup (off := 77) (tgt := 96) C dX11_lineOf_19 (by decide) (by rw [s19_14]; rfl) (by decide) ?_
      refine rr_aload_n (i := 0) C dX11_lineOf_96 rfl rfl ?_
      refine rr_iload_n (i := 1) C dX11_lineOf_97 rfl rfl ?_
      refine rr_iload_n (i := 2) C dX11_lineOf_98 rfl rfl ?_
      refine rr_iload_n (i := 3) C dX11_lineOf_99 rfl rfl ?_
      replace hr := Option.bind_eq_some_iff.mp hr
      obtain ⟨u19, e20, hr⟩ := hr
      replace hr := Option.bind_eq_some_iff.mp hr
      obtain ⟨v21, e22, hr⟩ := hr
      refine rr_callVq (as := [.int l1, .int l2, .int l3]) (st := []) (mc' := 0) (ms' := 0) C dX11_lineOf_100 iv_X11_509 (by decide) e20 rfl (Nat.le_of_ble_eq_true rfl) (c_X11_logged l0 l1 l2 l3 (by omega) e22) (fun v_ h_ n_ q_ => ?_)
      obtain ⟨q1_, q2_, q3_⟩ := q_
      subst v_; subst h_; subst n_
      show WW W0 G 5 _ _ _ 103 [some (.ref l0), some (.int l1), some (.int l2), some (.int l3), some (.int l4)] [.long v21.1] v21.2 n _ _
      obtain rfl := Option.some.inj hr
      exact rr_lret C dX11_lineOf_103 rfl ⟨rfl, rfl, rfl⟩
    replace hr := (if_neg s19_14).symm.trans hr
    refine rr_lookup (off := 85) (tgt := 104) C dX11_lineOf_19 (by decide) ((lv_osw s19_4 rfl).trans ((lv_osw s19_5 rfl).trans ((lv_osw s19_6 rfl).trans ((lv_osw s19_14 rfl).trans rfl)))) (by decide) ?_
    refine rr_iload_n (i := 2) C dX11_lineOf_104 rfl rfl ?_
    refine rr_if_ne (tgt := 110) C dX11_lineOf_105 (by decide) (fun c105_ => ?_) (fun c105_ => ?_)
    · replace hr := (if_neg c105_).symm.trans hr
      refine rr_iload C dX11_lineOf_110 rfl ?_
      refine rr_bipush (v := 10) C dX11_lineOf_112 (by decide) ?_
      refine rr_icmp_ge (tgt := 134) C dX11_lineOf_114 (by decide) (fun c114_ => ?_) (fun c114_ => ?_)
      · replace hr := (if_pos c114_).symm.trans hr
        refine rr_aload_n (i := 0) C dX11_lineOf_134 rfl rfl ?_
        refine rr_iload_n (i := 1) C dX11_lineOf_135 rfl rfl ?_
        refine rr_iload C dX11_lineOf_136 rfl ?_
        refine rr_bipush (v := 10) C dX11_lineOf_138 (by decide) ?_
        refine rr_isub C dX11_lineOf_140 ?_
        refine rr_iload_n (i := 2) C dX11_lineOf_141 rfl rfl ?_
        refine rr_iconst (v := 1) C dX11_lineOf_142 (by decide) ?_
        refine rr_isub C dX11_lineOf_143 ?_
        refine rr_iload_n (i := 3) C dX11_lineOf_144 rfl rfl ?_
        replace hr := Option.bind_eq_some_iff.mp hr
        obtain ⟨u23, e24, hr⟩ := hr
        replace hr := Option.bind_eq_some_iff.mp hr
        obtain ⟨v25, e26, hr⟩ := hr
        refine rr_callVq (as := [.int l1, .int (l4 - 10), .int (l2 - 1), .int l3]) (st := []) (mc' := 0) (ms' := 0) C dX11_lineOf_145 iv_X11_516 (by decide) e24 rfl (Nat.le_of_ble_eq_true rfl) (c_X11_shared l0 l1 (l4 - 10) (l2 - 1) l3 (by omega) e26) (fun v_ h_ n_ q_ => ?_)
        obtain ⟨q1_, q2_, q3_⟩ := q_
        subst v_; subst h_; subst n_
        show WW W0 G 5 _ _ _ 148 [some (.ref l0), some (.int l1), some (.int l2), some (.int l3), some (.int l4)] [.long v25.1] v25.2 n _ _
        obtain rfl := Option.some.inj hr
        exact rr_lret C dX11_lineOf_148 rfl ⟨rfl, rfl, rfl⟩
      · replace hr := (if_neg c114_).symm.trans hr
        refine rr_aload_n (i := 0) C dX11_lineOf_117 rfl rfl ?_
        refine rr_iload_n (i := 1) C dX11_lineOf_118 rfl rfl ?_
        refine rr_iload C dX11_lineOf_119 rfl ?_
        refine rr_bipush (v := 7) C dX11_lineOf_121 (by decide) ?_
        refine rr_isub C dX11_lineOf_123 ?_
        refine rr_iload_n (i := 2) C dX11_lineOf_124 rfl rfl ?_
        refine rr_iconst (v := 1) C dX11_lineOf_125 (by decide) ?_
        refine rr_isub C dX11_lineOf_126 ?_
        refine rr_iload_n (i := 3) C dX11_lineOf_127 rfl rfl ?_
        replace hr := Option.bind_eq_some_iff.mp hr
        obtain ⟨u27, e28, hr⟩ := hr
        replace hr := Option.bind_eq_some_iff.mp hr
        obtain ⟨v29, e30, hr⟩ := hr
        refine rr_callVq (as := [.int l1, .int (l4 - 7), .int (l2 - 1), .int l3]) (st := []) (mc' := 0) (ms' := 0) C dX11_lineOf_128 iv_X11_513 (by decide) e28 rfl (Nat.le_of_ble_eq_true rfl) (c_X11_earned l0 l1 (l4 - 7) (l2 - 1) l3 (by omega) e30) (fun v_ h_ n_ q_ => ?_)
        obtain ⟨q1_, q2_, q3_⟩ := q_
        subst v_; subst h_; subst n_
        show WW W0 G 5 _ _ _ 131 [some (.ref l0), some (.int l1), some (.int l2), some (.int l3), some (.int l4)] [.long v29.1] v29.2 n _ _
        refine rr_goto (tgt := 148) C dX11_lineOf_131 (by decide) ?_
        obtain rfl := Option.some.inj hr
        exact rr_lret C dX11_lineOf_148 rfl ⟨rfl, rfl, rfl⟩
    · replace hr := (if_pos c105_).symm.trans hr
      refine rr_lconst (v := 0) C dX11_lineOf_108 (by decide) ?_
      obtain rfl := Option.some.inj hr
      exact rr_lret C dX11_lineOf_109 rfl ⟨rfl, rfl, rfl⟩
  · replace hr := (if_neg c3_).symm.trans hr
    refine rr_aload_n (i := 0) C dX11_lineOf_6 rfl rfl ?_
    refine rr_iload_n (i := 1) C dX11_lineOf_7 rfl rfl ?_
    refine rr_iload C dX11_lineOf_8 rfl ?_
    refine rr_iload_n (i := 2) C dX11_lineOf_10 rfl rfl ?_
    refine rr_iload_n (i := 3) C dX11_lineOf_11 rfl rfl ?_
    replace hr := Option.bind_eq_some_iff.mp hr
    obtain ⟨u31, e32, hr⟩ := hr
    replace hr := Option.bind_eq_some_iff.mp hr
    obtain ⟨v33, e34, hr⟩ := hr
    refine rr_callVq (as := [.int l1, .int l4, .int l2, .int l3]) (st := []) (mc' := 0) (ms' := 0) C dX11_lineOf_12 iv_X11_482 (by decide) e32 rfl (Nat.le_of_ble_eq_true rfl) (c_X11_allowedOf l0 l1 l4 l2 l3 (by omega) e34) (fun v_ h_ n_ q_ => ?_)
    obtain ⟨q1_, q2_, q3_⟩ := q_
    subst v_; subst h_; subst n_
    show WW W0 G 5 _ _ _ 15 [some (.ref l0), some (.int l1), some (.int l2), some (.int l3), some (.int l4)] [.int v33.1] v33.2 n _ _
    refine rr_i2l C dX11_lineOf_15 ?_
    obtain rfl := Option.some.inj hr
    exact rr_lret C dX11_lineOf_16 rfl ⟨rfl, rfl, rfl⟩
def q_X11_isYearOf (K : Nat) (h : mm_H) (n : Nat) (l0 : Nat) (l1 : Int32) (l2 : Int32) (l3 : Int32) : Option (Int32) :=
  (ckq h n l0 10).bind fun u1 =>
  (q_X11_isFirm K h n l0 l1).bind fun v3 =>
  if v3 = 0 then
    some 0
  else
  (q_X11_isYear K h n l2).bind fun v5 =>
  if v5 = 0 then
    some 0
  else
  (q_X11_isDay K h n l3).bind fun v7 =>
  if v7 = 0 then
    some 0
  else
  some 1
set_option maxRecDepth 100000 in
set_option maxHeartbeats 4000000 in
theorem c_X11_isYearOf {K : Nat} {G : mm_G} {l : Launch} {h : mm_H} {n : Nat} (l0 : Nat) (l1 : Int32) (l2 : Int32) (l3 : Int32) {r_ : Int32} (hn : 48 ≤ n) (hr : q_X11_isYearOf K h n l0 l1 l2 l3 = some r_) : Sp G l yX11_isYearOf cX11_isYearOf 4 (some .boolean) 2 0 0 [.ref l0, .int l1, .int l2, .int l3] h n (fun v h' n' => v = some (.int r_) ∧ h' = h ∧ n' = n) := by
  refine Sp_of (by decide +kernel) (Nat.le_of_ble_eq_true rfl) hn ?_
  intro W0 hwl C
  subst hwl
  unfold q_X11_isYearOf at hr
  show WW W0 G 4 0 0 _ 0 [some (.ref l0), some (.int l1), some (.int l2), some (.int l3)] [] h n 0 0
  refine rr_aload_n (i := 0) C dX11_isYearOf_0 rfl rfl ?_
  refine rr_iload_n (i := 1) C dX11_isYearOf_1 rfl rfl ?_
  replace hr := Option.bind_eq_some_iff.mp hr
  obtain ⟨u1, e2, hr⟩ := hr
  replace hr := Option.bind_eq_some_iff.mp hr
  obtain ⟨v3, e4, hr⟩ := hr
  refine rr_callVq (as := [.int l1]) (st := []) (mc' := 0) (ms' := 0) C dX11_isYearOf_2 iv_X11_177 (by decide) e2 rfl (Nat.le_of_ble_eq_true rfl) (c_X11_isFirm l0 l1 (by omega) e4) (fun v_ h_ n_ q_ => ?_)
  obtain ⟨q1_, q2_, q3_⟩ := q_
  subst v_; subst h_; subst n_
  show WW W0 G 4 _ _ _ 5 [some (.ref l0), some (.int l1), some (.int l2), some (.int l3)] [.int v3] h n _ _
  refine rr_if_eq (tgt := 26) C dX11_isYearOf_5 (by decide) (fun c5_ => ?_) (fun c5_ => ?_)
  · replace hr := (if_pos c5_).symm.trans hr
    refine rr_iconst (v := 0) C dX11_isYearOf_26 (by decide) ?_
    obtain rfl := Option.some.inj hr
    exact rr_iret (ty := .boolean) C dX11_isYearOf_27 rfl rfl ⟨rfl, rfl, rfl⟩
  · replace hr := (if_neg c5_).symm.trans hr
    refine rr_iload_n (i := 2) C dX11_isYearOf_8 rfl rfl ?_
    replace hr := Option.bind_eq_some_iff.mp hr
    obtain ⟨v5, e6, hr⟩ := hr
    refine rr_callS (as := [.int l2]) (st := []) (mc' := 0) (ms' := 0) C dX11_isYearOf_9 it_X11_181 (by decide) (Nat.le_of_ble_eq_true rfl) (c_X11_isYear l2 (by omega) e6) (fun v_ h_ n_ q_ => ?_)
    obtain ⟨q1_, q2_, q3_⟩ := q_
    subst v_; subst h_; subst n_
    show WW W0 G 4 _ _ _ 12 [some (.ref l0), some (.int l1), some (.int l2), some (.int l3)] [.int v5] h n _ _
    refine rr_if_eq (tgt := 26) C dX11_isYearOf_12 (by decide) (fun c12_ => ?_) (fun c12_ => ?_)
    · replace hr := (if_pos c12_).symm.trans hr
      refine rr_iconst (v := 0) C dX11_isYearOf_26 (by decide) ?_
      obtain rfl := Option.some.inj hr
      exact rr_iret (ty := .boolean) C dX11_isYearOf_27 rfl rfl ⟨rfl, rfl, rfl⟩
    · replace hr := (if_neg c12_).symm.trans hr
      refine rr_iload_n (i := 3) C dX11_isYearOf_15 rfl rfl ?_
      replace hr := Option.bind_eq_some_iff.mp hr
      obtain ⟨v7, e8, hr⟩ := hr
      refine rr_callS (as := [.int l3]) (st := []) (mc' := 0) (ms' := 0) C dX11_isYearOf_16 it_X11_195 (by decide) (Nat.le_of_ble_eq_true rfl) (c_X11_isDay l3 (by omega) e8) (fun v_ h_ n_ q_ => ?_)
      obtain ⟨q1_, q2_, q3_⟩ := q_
      subst v_; subst h_; subst n_
      show WW W0 G 4 _ _ _ 19 [some (.ref l0), some (.int l1), some (.int l2), some (.int l3)] [.int v7] h n _ _
      refine rr_if_eq (tgt := 26) C dX11_isYearOf_19 (by decide) (fun c19_ => ?_) (fun c19_ => ?_)
      · replace hr := (if_pos c19_).symm.trans hr
        refine rr_iconst (v := 0) C dX11_isYearOf_26 (by decide) ?_
        obtain rfl := Option.some.inj hr
        exact rr_iret (ty := .boolean) C dX11_isYearOf_27 rfl rfl ⟨rfl, rfl, rfl⟩
      · replace hr := (if_neg c19_).symm.trans hr
        refine rr_iconst (v := 1) C dX11_isYearOf_22 (by decide) ?_
        refine rr_goto (tgt := 27) C dX11_isYearOf_23 (by decide) ?_
        obtain rfl := Option.some.inj hr
        exact rr_iret (ty := .boolean) C dX11_isYearOf_27 rfl rfl ⟨rfl, rfl, rfl⟩
def q_X11_line (K : Nat) (h : mm_H) (n : Nat) (l0 : Nat) (l1 : Int32) (l2 : Int32) (l3 : Int32) (l4 : Int32) : Option (Int64 × mm_H) :=
  (ckq h n l0 10).bind fun u1 =>
  (q_X11_isYearOf K h n l0 l1 l2 l3).bind fun v3 =>
  if v3 = 0 then
    some ((-2000000000000), h)
  else
  (q_X11_isIn K h n l4 0 14).bind fun v5 =>
  if v5 = 0 then
    some ((-2000000000000), h)
  else
  (ckq h n l0 10).bind fun u7 =>
  (q_X11_prepares K h n l0 l1).bind fun v9 =>
  (ckq v9 n l0 10).bind fun u11 =>
  (q_X11_lineOf K v9 n l0 l1 l2 l3 l4).bind fun v13 =>
  some (v13.1, v13.2)
set_option maxRecDepth 100000 in
set_option maxHeartbeats 4000000 in
theorem c_X11_line {K : Nat} {G : mm_G} {l : Launch} {h : mm_H} {n : Nat} (l0 : Nat) (l1 : Int32) (l2 : Int32) (l3 : Int32) (l4 : Int32) {r_ : Int64 × mm_H} (hn : 48 ≤ n) (hr : q_X11_line K h n l0 l1 l2 l3 l4 = some r_) : Sp G l yX11_line cX11_line 5 (some .long) 54 0 0 [.ref l0, .int l1, .int l2, .int l3, .int l4] h n (fun v h' n' => v = some (.long r_.1) ∧ h' = r_.2 ∧ n' = n) := by
  refine Sp_of (by decide +kernel) (Nat.le_of_ble_eq_true rfl) hn ?_
  intro W0 hwl C
  subst hwl
  unfold q_X11_line at hr
  show WW W0 G 5 0 0 _ 0 [some (.ref l0), some (.int l1), some (.int l2), some (.int l3), some (.int l4)] [] h n 0 0
  refine rr_aload_n (i := 0) C dX11_line_0 rfl rfl ?_
  refine rr_iload_n (i := 1) C dX11_line_1 rfl rfl ?_
  refine rr_iload_n (i := 2) C dX11_line_2 rfl rfl ?_
  refine rr_iload_n (i := 3) C dX11_line_3 rfl rfl ?_
  replace hr := Option.bind_eq_some_iff.mp hr
  obtain ⟨u1, e2, hr⟩ := hr
  replace hr := Option.bind_eq_some_iff.mp hr
  obtain ⟨v3, e4, hr⟩ := hr
  refine rr_callVq (as := [.int l1, .int l2, .int l3]) (st := []) (mc' := 0) (ms' := 0) C dX11_line_4 iv_X11_519 (by decide) e2 rfl (Nat.le_of_ble_eq_true rfl) (c_X11_isYearOf l0 l1 l2 l3 (by omega) e4) (fun v_ h_ n_ q_ => ?_)
  obtain ⟨q1_, q2_, q3_⟩ := q_
  subst v_; subst h_; subst n_
  show WW W0 G 5 _ _ _ 7 [some (.ref l0), some (.int l1), some (.int l2), some (.int l3), some (.int l4)] [.int v3] h n _ _
  refine rr_if_eq (tgt := 21) C dX11_line_7 (by decide) (fun c7_ => ?_) (fun c7_ => ?_)
  · replace hr := (if_pos c7_).symm.trans hr
    refine rr_ldc2 C dX11_line_21 ct_X11_441 ?_
    obtain rfl := Option.some.inj hr
    exact rr_lret C dX11_line_24 rfl ⟨rfl, rfl, rfl⟩
  · replace hr := (if_neg c7_).symm.trans hr
    refine rr_iload C dX11_line_10 rfl ?_
    refine rr_iconst (v := 0) C dX11_line_12 (by decide) ?_
    refine rr_bipush (v := 14) C dX11_line_13 (by decide) ?_
    replace hr := Option.bind_eq_some_iff.mp hr
    obtain ⟨v5, e6, hr⟩ := hr
    refine rr_callS (as := [.int l4, .int 0, .int 14]) (st := []) (mc' := 0) (ms' := 0) C dX11_line_15 it_X11_165 (by decide) (Nat.le_of_ble_eq_true rfl) (c_X11_isIn l4 0 14 (by omega) e6) (fun v_ h_ n_ q_ => ?_)
    obtain ⟨q1_, q2_, q3_⟩ := q_
    subst v_; subst h_; subst n_
    show WW W0 G 5 _ _ _ 18 [some (.ref l0), some (.int l1), some (.int l2), some (.int l3), some (.int l4)] [.int v5] h n _ _
    refine rr_if_ne (tgt := 25) C dX11_line_18 (by decide) (fun c18_ => ?_) (fun c18_ => ?_)
    · replace hr := (if_neg c18_).symm.trans hr
      refine rr_aload_n (i := 0) C dX11_line_25 rfl rfl ?_
      refine rr_iload_n (i := 1) C dX11_line_26 rfl rfl ?_
      replace hr := Option.bind_eq_some_iff.mp hr
      obtain ⟨u7, e8, hr⟩ := hr
      replace hr := Option.bind_eq_some_iff.mp hr
      obtain ⟨v9, e10, hr⟩ := hr
      refine rr_callVq (as := [.int l1]) (st := []) (mc' := 0) (ms' := 0) C dX11_line_27 iv_X11_438 (by decide) e8 rfl (Nat.le_of_ble_eq_true rfl) (c_X11_prepares l0 l1 (by omega) e10) (fun v_ h_ n_ q_ => ?_)
      obtain ⟨q1_, q2_, q3_⟩ := q_
      subst v_; subst h_; subst n_
      show WW W0 G 5 _ _ _ 30 [some (.ref l0), some (.int l1), some (.int l2), some (.int l3), some (.int l4)] [] v9 n _ _
      refine rr_aload_n (i := 0) C dX11_line_30 rfl rfl ?_
      refine rr_iload_n (i := 1) C dX11_line_31 rfl rfl ?_
      refine rr_iload_n (i := 2) C dX11_line_32 rfl rfl ?_
      refine rr_iload_n (i := 3) C dX11_line_33 rfl rfl ?_
      refine rr_iload C dX11_line_34 rfl ?_
      replace hr := Option.bind_eq_some_iff.mp hr
      obtain ⟨u11, e12, hr⟩ := hr
      replace hr := Option.bind_eq_some_iff.mp hr
      obtain ⟨v13, e14, hr⟩ := hr
      refine rr_callVq (as := [.int l1, .int l2, .int l3, .int l4]) (st := []) (mc' := 0) (ms' := 0) C dX11_line_36 iv_X11_522 (by decide) e12 rfl (Nat.le_of_ble_eq_true rfl) (c_X11_lineOf l0 l1 l2 l3 l4 (by omega) e14) (fun v_ h_ n_ q_ => ?_)
      obtain ⟨q1_, q2_, q3_⟩ := q_
      subst v_; subst h_; subst n_
      show WW W0 G 5 _ _ _ 39 [some (.ref l0), some (.int l1), some (.int l2), some (.int l3), some (.int l4)] [.long v13.1] v13.2 n _ _
      obtain rfl := Option.some.inj hr
      exact rr_lret C dX11_line_39 rfl ⟨rfl, rfl, rfl⟩
    · replace hr := (if_pos c18_).symm.trans hr
      refine rr_ldc2 C dX11_line_21 ct_X11_441 ?_
      obtain rfl := Option.some.inj hr
      exact rr_lret C dX11_line_24 rfl ⟨rfl, rfl, rfl⟩
def lp_X11_revenueOf_6 (K : Nat) (n : Nat) (l0 : Nat) (l1 : Int32) (l2 : Int32) (l3 : Int32) : Nat → Int64 → Int32 → mm_H → Option (Int64 × mm_H)
  | 0, _, _, _ => none
  | k_ + 1, l4, l6, h =>
    if 15 ≤ l6 then
      some (l4, h)
    else
    (ckq h n l0 10).bind fun u1 =>
    (q_X11_lineOf K h n l0 l1 l2 l3 l6).bind fun v3 =>
    lp_X11_revenueOf_6 K n l0 l1 l2 l3 k_ (l4 + v3.1) (l6 + 1) v3.2
def q_X11_revenueOf (K : Nat) (h : mm_H) (n : Nat) (l0 : Nat) (l1 : Int32) (l2 : Int32) (l3 : Int32) : Option (Int64 × mm_H) :=
  (lp_X11_revenueOf_6 K n l0 l1 l2 l3 K 0 0 h).bind fun v6 =>
  some (v6.1, v6.2)
set_option maxRecDepth 100000 in
set_option maxHeartbeats 4000000 in
theorem w_X11_revenueOf_6 {K : Nat} {W0 : mm_X} {G : mm_G} {mc ms kc ks : Nat} {Q_ : State → Prop} {n : Nat} (C : mm_C W0 G cX11_revenueOf yX11_revenueOf.cls 7 mc ms (some .long) 54 yX11_revenueOf.name) (hn : 48 ≤ n) (l0 : Nat) (l1 : Int32) (l2 : Int32) (l3 : Int32) : ∀ (k_ : Nat) (l4 : Int64) (l6 : Int32) (h : mm_H) {r_ : Int64 × mm_H} (hr : lp_X11_revenueOf_6 K n l0 l1 l2 l3 k_ l4 l6 h = some r_) (hx0 : WW W0 G 7 mc ms Q_ 33 [none, none, none, none, some (.long r_.1), none, none] [] r_.2 n kc ks), WW W0 G 7 mc ms Q_ 6 [some (.ref l0), some (.int l1), some (.int l2), some (.int l3), some (.long l4), none, some (.int l6)] [] h n kc ks := by
  intro k_
  induction k_ with
  | zero =>
    intro l4 l6 h r_ hr
    cases hr
  | succ k_ ih_ =>
    intro l4 l6 h r_ hr hx0
    unfold lp_X11_revenueOf_6 at hr
    refine rr_iload C dX11_revenueOf_6 rfl ?_
    refine rr_bipush (v := 15) C dX11_revenueOf_8 (by decide) ?_
    refine rr_icmp_ge (tgt := 33) C dX11_revenueOf_10 (by decide) (fun c10_ => ?_) (fun c10_ => ?_)
    · replace hr := (if_pos c10_).symm.trans hr
      obtain rfl := Option.some.inj hr
      exact rr_keep [false, false, false, false, true, false, false] (hx0)
    · replace hr := (if_neg c10_).symm.trans hr
      refine rr_lload C dX11_revenueOf_13 rfl ?_
      refine rr_aload_n (i := 0) C dX11_revenueOf_15 rfl rfl ?_
      refine rr_iload_n (i := 1) C dX11_revenueOf_16 rfl rfl ?_
      refine rr_iload_n (i := 2) C dX11_revenueOf_17 rfl rfl ?_
      refine rr_iload_n (i := 3) C dX11_revenueOf_18 rfl rfl ?_
      refine rr_iload C dX11_revenueOf_19 rfl ?_
      replace hr := Option.bind_eq_some_iff.mp hr
      obtain ⟨u1, e2, hr⟩ := hr
      replace hr := Option.bind_eq_some_iff.mp hr
      obtain ⟨v3, e4, hr⟩ := hr
      refine rr_callVq (as := [.int l1, .int l2, .int l3, .int l6]) (st := [.long l4]) (mc' := 0) (ms' := 0) C dX11_revenueOf_21 iv_X11_522 (by decide) e2 rfl (Nat.le_of_ble_eq_true rfl) (c_X11_lineOf l0 l1 l2 l3 l6 (by omega) e4) (fun v_ h_ n_ q_ => ?_)
      obtain ⟨q1_, q2_, q3_⟩ := q_
      subst v_; subst h_; subst n_
      show WW W0 G 7 _ _ _ 24 [some (.ref l0), some (.int l1), some (.int l2), some (.int l3), some (.long l4), none, some (.int l6)] [.long v3.1, .long l4] v3.2 n _ _
      refine rr_ladd C dX11_revenueOf_24 ?_
      refine rr_lstore C dX11_revenueOf_25 (by decide) ?_
      show WW W0 G 7 _ _ _ 27 [some (.ref l0), some (.int l1), some (.int l2), some (.int l3), some (.long (l4 + v3.1)), none, some (.int l6)] [] v3.2 n _ _
      refine rr_iinc (v := l6 + 1) C dX11_revenueOf_27 rfl rfl ?_
      show WW W0 G 7 _ _ _ 30 [some (.ref l0), some (.int l1), some (.int l2), some (.int l3), some (.long (l4 + v3.1)), none, some (.int (l6 + 1))] [] v3.2 n _ _
      refine rr_goto (tgt := 6) C dX11_revenueOf_30 (by decide) ?_
      exact rr_keep [true, true, true, true, true, false, true] (ih_ _ _ _ hr hx0)
set_option maxRecDepth 100000 in
set_option maxHeartbeats 4000000 in
theorem c_X11_revenueOf {K : Nat} {G : mm_G} {l : Launch} {h : mm_H} {n : Nat} (l0 : Nat) (l1 : Int32) (l2 : Int32) (l3 : Int32) {r_ : Int64 × mm_H} (hn : 48 ≤ n) (hr : q_X11_revenueOf K h n l0 l1 l2 l3 = some r_) : Sp G l yX11_revenueOf cX11_revenueOf 7 (some .long) 54 0 0 [.ref l0, .int l1, .int l2, .int l3] h n (fun v h' n' => v = some (.long r_.1) ∧ h' = r_.2 ∧ n' = n) := by
  refine Sp_of (by decide +kernel) (Nat.le_of_ble_eq_true rfl) hn ?_
  intro W0 hwl C
  subst hwl
  unfold q_X11_revenueOf at hr
  show WW W0 G 7 0 0 _ 0 [some (.ref l0), some (.int l1), some (.int l2), some (.int l3), none, none, none] [] h n 0 0
  refine rr_lconst (v := 0) C dX11_revenueOf_0 (by decide) ?_
  refine rr_lstore C dX11_revenueOf_1 (by decide) ?_
  show WW W0 G 7 _ _ _ 3 [some (.ref l0), some (.int l1), some (.int l2), some (.int l3), some (.long 0), none, none] [] h n _ _
  refine rr_iconst (v := 0) C dX11_revenueOf_3 (by decide) ?_
  refine rr_istore C dX11_revenueOf_4 (by decide) ?_
  show WW W0 G 7 _ _ _ 6 [some (.ref l0), some (.int l1), some (.int l2), some (.int l3), some (.long 0), none, some (.int 0)] [] h n _ _
  replace hr := Option.bind_eq_some_iff.mp hr
  obtain ⟨v6, e7, hr⟩ := hr
  refine rr_keep [true, true, true, true, true, false, true] (w_X11_revenueOf_6 C (by omega) l0 l1 l2 l3 K 0 0 h e7 ?_)
  show WW W0 G 7 _ _ _ 33 [none, none, none, none, some (.long v6.1), none, none] [] v6.2 n _ _
  refine rr_lload C dX11_revenueOf_33 rfl ?_
  obtain rfl := Option.some.inj hr
  exact rr_lret C dX11_revenueOf_35 rfl ⟨rfl, rfl, rfl⟩
def q_X11_revenue (K : Nat) (h : mm_H) (n : Nat) (l0 : Nat) (l1 : Int32) (l2 : Int32) (l3 : Int32) : Option (Int64 × mm_H) :=
  (ckq h n l0 10).bind fun u1 =>
  (q_X11_isYearOf K h n l0 l1 l2 l3).bind fun v3 =>
  if v3 = 0 then
    some ((-2000000000000), h)
  else
  (ckq h n l0 10).bind fun u5 =>
  (q_X11_prepares K h n l0 l1).bind fun v7 =>
  (ckq v7 n l0 10).bind fun u9 =>
  (q_X11_revenueOf K v7 n l0 l1 l2 l3).bind fun v11 =>
  some (v11.1, v11.2)
set_option maxRecDepth 100000 in
set_option maxHeartbeats 4000000 in
theorem c_X11_revenue {K : Nat} {G : mm_G} {l : Launch} {h : mm_H} {n : Nat} (l0 : Nat) (l1 : Int32) (l2 : Int32) (l3 : Int32) {r_ : Int64 × mm_H} (hn : 48 ≤ n) (hr : q_X11_revenue K h n l0 l1 l2 l3 = some r_) : Sp G l yX11_revenue cX11_revenue 4 (some .long) 55 0 0 [.ref l0, .int l1, .int l2, .int l3] h n (fun v h' n' => v = some (.long r_.1) ∧ h' = r_.2 ∧ n' = n) := by
  refine Sp_of (by decide +kernel) (Nat.le_of_ble_eq_true rfl) hn ?_
  intro W0 hwl C
  subst hwl
  unfold q_X11_revenue at hr
  show WW W0 G 4 0 0 _ 0 [some (.ref l0), some (.int l1), some (.int l2), some (.int l3)] [] h n 0 0
  refine rr_aload_n (i := 0) C dX11_revenue_0 rfl rfl ?_
  refine rr_iload_n (i := 1) C dX11_revenue_1 rfl rfl ?_
  refine rr_iload_n (i := 2) C dX11_revenue_2 rfl rfl ?_
  refine rr_iload_n (i := 3) C dX11_revenue_3 rfl rfl ?_
  replace hr := Option.bind_eq_some_iff.mp hr
  obtain ⟨u1, e2, hr⟩ := hr
  replace hr := Option.bind_eq_some_iff.mp hr
  obtain ⟨v3, e4, hr⟩ := hr
  refine rr_callVq (as := [.int l1, .int l2, .int l3]) (st := []) (mc' := 0) (ms' := 0) C dX11_revenue_4 iv_X11_519 (by decide) e2 rfl (Nat.le_of_ble_eq_true rfl) (c_X11_isYearOf l0 l1 l2 l3 (by omega) e4) (fun v_ h_ n_ q_ => ?_)
  obtain ⟨q1_, q2_, q3_⟩ := q_
  subst v_; subst h_; subst n_
  show WW W0 G 4 _ _ _ 7 [some (.ref l0), some (.int l1), some (.int l2), some (.int l3)] [.int v3] h n _ _
  refine rr_if_ne (tgt := 14) C dX11_revenue_7 (by decide) (fun c7_ => ?_) (fun c7_ => ?_)
  · replace hr := (if_neg c7_).symm.trans hr
    refine rr_aload_n (i := 0) C dX11_revenue_14 rfl rfl ?_
    refine rr_iload_n (i := 1) C dX11_revenue_15 rfl rfl ?_
    replace hr := Option.bind_eq_some_iff.mp hr
    obtain ⟨u5, e6, hr⟩ := hr
    replace hr := Option.bind_eq_some_iff.mp hr
    obtain ⟨v7, e8, hr⟩ := hr
    refine rr_callVq (as := [.int l1]) (st := []) (mc' := 0) (ms' := 0) C dX11_revenue_16 iv_X11_438 (by decide) e6 rfl (Nat.le_of_ble_eq_true rfl) (c_X11_prepares l0 l1 (by omega) e8) (fun v_ h_ n_ q_ => ?_)
    obtain ⟨q1_, q2_, q3_⟩ := q_
    subst v_; subst h_; subst n_
    show WW W0 G 4 _ _ _ 19 [some (.ref l0), some (.int l1), some (.int l2), some (.int l3)] [] v7 n _ _
    refine rr_aload_n (i := 0) C dX11_revenue_19 rfl rfl ?_
    refine rr_iload_n (i := 1) C dX11_revenue_20 rfl rfl ?_
    refine rr_iload_n (i := 2) C dX11_revenue_21 rfl rfl ?_
    refine rr_iload_n (i := 3) C dX11_revenue_22 rfl rfl ?_
    replace hr := Option.bind_eq_some_iff.mp hr
    obtain ⟨u9, e10, hr⟩ := hr
    replace hr := Option.bind_eq_some_iff.mp hr
    obtain ⟨v11, e12, hr⟩ := hr
    refine rr_callVq (as := [.int l1, .int l2, .int l3]) (st := []) (mc' := 0) (ms' := 0) C dX11_revenue_23 iv_X11_525 (by decide) e10 rfl (Nat.le_of_ble_eq_true rfl) (c_X11_revenueOf l0 l1 l2 l3 (by omega) e12) (fun v_ h_ n_ q_ => ?_)
    obtain ⟨q1_, q2_, q3_⟩ := q_
    subst v_; subst h_; subst n_
    show WW W0 G 4 _ _ _ 26 [some (.ref l0), some (.int l1), some (.int l2), some (.int l3)] [.long v11.1] v11.2 n _ _
    obtain rfl := Option.some.inj hr
    exact rr_lret C dX11_revenue_26 rfl ⟨rfl, rfl, rfl⟩
  · replace hr := (if_pos c7_).symm.trans hr
    refine rr_ldc2 C dX11_revenue_10 ct_X11_441 ?_
    obtain rfl := Option.some.inj hr
    exact rr_lret C dX11_revenue_13 rfl ⟨rfl, rfl, rfl⟩
def lp_X11_billsOf_15 (K : Nat) (n : Nat) (l0 : Nat) (l1 : Int32) (l2 : Int32) (l3 : Int32) : Nat → Int64 → Int32 → mm_H → Option (Int64 × mm_H)
  | 0, _, _, _ => none
  | k_ + 1, l4, l6, h =>
    if l2 < l6 then
      some (l4, h)
    else
    (ckq h n l0 10).bind fun u4 =>
    (q_X11_revenueOf K h n l0 l1 l6 l3).bind fun v6 =>
    (rdJ v6.2 n l0 10 66).bind fun v8 =>
    (ckq v6.2 n l0 10).bind fun u11 =>
    (q_X11_plainOf K v6.2 n l0 l1 l6 7 (-1)).bind fun v13 =>
    if (l6 - l6 / 5 * 5) ≤ 0 then
      (wrF v13.2 n l0 10 66 (.long ((v6.1 + v8) - (v6.1 + v8)))).bind fun h18 =>
      lp_X11_billsOf_15 K n l0 l1 l2 l3 k_ (v6.1 + v8) (l6 + 1) h18
    else
    if 4 ≤ (l6 - l6 / 5 * 5) then
      (wrF v13.2 n l0 10 66 (.long ((v6.1 + v8) - (v6.1 + v8)))).bind fun h21 =>
      lp_X11_billsOf_15 K n l0 l1 l2 l3 k_ (v6.1 + v8) (l6 + 1) h21
    else
    if v13.1 = (-1) then
      (wrF v13.2 n l0 10 66 (.long ((v6.1 + v8) - (v6.1 + v8)))).bind fun h24 =>
      lp_X11_billsOf_15 K n l0 l1 l2 l3 k_ (v6.1 + v8) (l6 + 1) h24
    else
    (wrF v13.2 n l0 10 66 (.long ((v6.1 + v8) - (j_max ((l4 * (Int32.toInt64 (100 - v13.1))) / 100) (j_min ((l4 * (Int32.toInt64 (100 + v13.1))) / 100) (v6.1 + v8)))))).bind fun h28 =>
    lp_X11_billsOf_15 K n l0 l1 l2 l3 k_ (j_max ((l4 * (Int32.toInt64 (100 - v13.1))) / 100) (j_min ((l4 * (Int32.toInt64 (100 + v13.1))) / 100) (v6.1 + v8))) (l6 + 1) h28
def q_X11_billsOf (K : Nat) (h : mm_H) (n : Nat) (l0 : Nat) (l1 : Int32) (l2 : Int32) (l3 : Int32) : Option (Int64 × mm_H) :=
  (wrF h n l0 10 66 (.long 0)).bind fun h1 =>
  (lp_X11_billsOf_15 K n l0 l1 l2 l3 K 0 ((l2 / 5) * 5) h1).bind fun v30 =>
  some (v30.1, v30.2)
set_option maxRecDepth 100000 in
set_option maxHeartbeats 4000000 in
theorem w_X11_billsOf_15 {K : Nat} {W0 : mm_X} {G : mm_G} {mc ms kc ks : Nat} {Q_ : State → Prop} {n : Nat} (C : mm_C W0 G cX11_billsOf yX11_billsOf.cls 12 mc ms (some .long) 55 yX11_billsOf.name) (hn : 48 ≤ n) (l0 : Nat) (l1 : Int32) (l2 : Int32) (l3 : Int32) : ∀ (k_ : Nat) (l4 : Int64) (l6 : Int32) (h : mm_H) {r_ : Int64 × mm_H} (hr : lp_X11_billsOf_15 K n l0 l1 l2 l3 k_ l4 l6 h = some r_) (hx0 : WW W0 G 12 mc ms Q_ 128 [none, none, none, none, some (.long r_.1), none, none, none, none, none, none, none] [] r_.2 n kc ks), WW W0 G 12 mc ms Q_ 15 [some (.ref l0), some (.int l1), some (.int l2), some (.int l3), some (.long l4), none, some (.int l6), none, none, none, none, none] [] h n kc ks := by
  intro k_
  induction k_ with
  | zero =>
    intro l4 l6 h r_ hr
    cases hr
  | succ k_ ih_ =>
    intro l4 l6 h r_ hr hx0
    unfold lp_X11_billsOf_15 at hr
    refine rr_iload C dX11_billsOf_15 rfl ?_
    refine rr_iload_n (i := 2) C dX11_billsOf_17 rfl rfl ?_
    refine rr_icmp_gt (tgt := 128) C dX11_billsOf_18 (by decide) (fun c18_ => ?_) (fun c18_ => ?_)
    · replace hr := (if_pos c18_).symm.trans hr
      obtain rfl := Option.some.inj hr
      exact rr_keep [false, false, false, false, true, false, false, false, false, false, false, false] (hx0)
    · replace hr := (if_neg c18_).symm.trans hr
      refine rr_aload_n (i := 0) C dX11_billsOf_21 rfl rfl ?_
      refine rr_iload_n (i := 1) C dX11_billsOf_22 rfl rfl ?_
      refine rr_iload C dX11_billsOf_23 rfl ?_
      refine rr_iload_n (i := 3) C dX11_billsOf_25 rfl rfl ?_
      replace hr := Option.bind_eq_some_iff.mp hr
      obtain ⟨u4, e5, hr⟩ := hr
      replace hr := Option.bind_eq_some_iff.mp hr
      obtain ⟨v6, e7, hr⟩ := hr
      refine rr_callVq (as := [.int l1, .int l6, .int l3]) (st := []) (mc' := 0) (ms' := 0) C dX11_billsOf_26 iv_X11_525 (by decide) e5 rfl (Nat.le_of_ble_eq_true rfl) (c_X11_revenueOf l0 l1 l6 l3 (by omega) e7) (fun v_ h_ n_ q_ => ?_)
      obtain ⟨q1_, q2_, q3_⟩ := q_
      subst v_; subst h_; subst n_
      show WW W0 G 12 _ _ _ 29 [some (.ref l0), some (.int l1), some (.int l2), some (.int l3), some (.long l4), none, some (.int l6), none, none, none, none, none] [.long v6.1] v6.2 n _ _
      refine rr_aload_n (i := 0) C dX11_billsOf_29 rfl rfl ?_
      replace hr := Option.bind_eq_some_iff.mp hr
      obtain ⟨v8, e9, hr⟩ := hr
      refine rr_rdJ C dX11_billsOf_30 fl_X11_528 e9 ?_
      refine rr_ladd C dX11_billsOf_33 ?_
      refine rr_lstore C dX11_billsOf_34 (by decide) ?_
      show WW W0 G 12 _ _ _ 36 [some (.ref l0), some (.int l1), some (.int l2), some (.int l3), some (.long l4), none, some (.int l6), some (.long (v6.1 + v8)), none, none, none, none] [] v6.2 n _ _
      refine rr_aload_n (i := 0) C dX11_billsOf_36 rfl rfl ?_
      refine rr_iload_n (i := 1) C dX11_billsOf_37 rfl rfl ?_
      refine rr_iload C dX11_billsOf_38 rfl ?_
      refine rr_bipush (v := 7) C dX11_billsOf_40 (by decide) ?_
      refine rr_iconst (v := (-1)) C dX11_billsOf_42 (by decide) ?_
      replace hr := Option.bind_eq_some_iff.mp hr
      obtain ⟨u11, e12, hr⟩ := hr
      replace hr := Option.bind_eq_some_iff.mp hr
      obtain ⟨v13, e14, hr⟩ := hr
      refine rr_callVq (as := [.int l1, .int l6, .int 7, .int (-1)]) (st := []) (mc' := 0) (ms' := 0) C dX11_billsOf_43 iv_X11_430 (by decide) e12 rfl (Nat.le_of_ble_eq_true rfl) (c_X11_plainOf l0 l1 l6 7 (-1) (by omega) e14) (fun v_ h_ n_ q_ => ?_)
      obtain ⟨q1_, q2_, q3_⟩ := q_
      subst v_; subst h_; subst n_
      show WW W0 G 12 _ _ _ 46 [some (.ref l0), some (.int l1), some (.int l2), some (.int l3), some (.long l4), none, some (.int l6), some (.long (v6.1 + v8)), none, none, none, none] [.int v13.1] v13.2 n _ _
      refine rr_istore C dX11_billsOf_46 (by decide) ?_
      show WW W0 G 12 _ _ _ 48 [some (.ref l0), some (.int l1), some (.int l2), some (.int l3), some (.long l4), none, some (.int l6), some (.long (v6.1 + v8)), none, some (.int v13.1), none, none] [] v13.2 n _ _
      refine rr_lload C dX11_billsOf_48 rfl ?_
      refine rr_lstore C dX11_billsOf_50 (by decide) ?_
      show WW W0 G 12 _ _ _ 52 [some (.ref l0), some (.int l1), some (.int l2), some (.int l3), some (.long l4), none, some (.int l6), some (.long (v6.1 + v8)), none, some (.int v13.1), some (.long (v6.1 + v8)), none] [] v13.2 n _ _
      refine rr_iload C dX11_billsOf_52 rfl ?_
      refine rr_iconst (v := 5) C dX11_billsOf_54 (by decide) ?_
      refine rr_irem C dX11_billsOf_55 (by decide) ?_
      refine rr_if_le (tgt := 109) C dX11_billsOf_56 (by decide) (fun c56_ => ?_) (fun c56_ => ?_)
      · replace hr := (if_pos c56_).symm.trans hr
        refine rr_lload C dX11_billsOf_109 rfl ?_
        refine rr_lstore C dX11_billsOf_111 (by decide) ?_
        show WW W0 G 12 _ _ _ 113 [some (.ref l0), some (.int l1), some (.int l2), some (.int l3), some (.long (v6.1 + v8)), none, some (.int l6), some (.long (v6.1 + v8)), none, some (.int v13.1), some (.long (v6.1 + v8)), none] [] v13.2 n _ _
        refine rr_aload_n (i := 0) C dX11_billsOf_113 rfl rfl ?_
        refine rr_lload C dX11_billsOf_114 rfl ?_
        refine rr_lload C dX11_billsOf_116 rfl ?_
        refine rr_lsub C dX11_billsOf_118 ?_
        replace hr := Option.bind_eq_some_iff.mp hr
        obtain ⟨h18, e19, hr⟩ := hr
        refine rr_wrF C dX11_billsOf_119 fp_X11_528 rfl rfl e19 ?_
        refine rr_iinc (v := l6 + 1) C dX11_billsOf_122 rfl rfl ?_
        show WW W0 G 12 _ _ _ 125 [some (.ref l0), some (.int l1), some (.int l2), some (.int l3), some (.long (v6.1 + v8)), none, some (.int (l6 + 1)), some (.long (v6.1 + v8)), none, some (.int v13.1), some (.long (v6.1 + v8)), none] [] h18 n _ _
        refine rr_goto (tgt := 15) C dX11_billsOf_125 (by decide) ?_
        exact rr_keep [true, true, true, true, true, false, true, false, false, false, false, false] (ih_ _ _ _ hr hx0)
      · replace hr := (if_neg c56_).symm.trans hr
        refine rr_iload C dX11_billsOf_59 rfl ?_
        refine rr_iconst (v := 5) C dX11_billsOf_61 (by decide) ?_
        refine rr_irem C dX11_billsOf_62 (by decide) ?_
        refine rr_iconst (v := 4) C dX11_billsOf_63 (by decide) ?_
        refine rr_icmp_ge (tgt := 109) C dX11_billsOf_64 (by decide) (fun c64_ => ?_) (fun c64_ => ?_)
        · replace hr := (if_pos c64_).symm.trans hr
          refine rr_lload C dX11_billsOf_109 rfl ?_
          refine rr_lstore C dX11_billsOf_111 (by decide) ?_
          show WW W0 G 12 _ _ _ 113 [some (.ref l0), some (.int l1), some (.int l2), some (.int l3), some (.long (v6.1 + v8)), none, some (.int l6), some (.long (v6.1 + v8)), none, some (.int v13.1), some (.long (v6.1 + v8)), none] [] v13.2 n _ _
          refine rr_aload_n (i := 0) C dX11_billsOf_113 rfl rfl ?_
          refine rr_lload C dX11_billsOf_114 rfl ?_
          refine rr_lload C dX11_billsOf_116 rfl ?_
          refine rr_lsub C dX11_billsOf_118 ?_
          replace hr := Option.bind_eq_some_iff.mp hr
          obtain ⟨h21, e22, hr⟩ := hr
          refine rr_wrF C dX11_billsOf_119 fp_X11_528 rfl rfl e22 ?_
          refine rr_iinc (v := l6 + 1) C dX11_billsOf_122 rfl rfl ?_
          show WW W0 G 12 _ _ _ 125 [some (.ref l0), some (.int l1), some (.int l2), some (.int l3), some (.long (v6.1 + v8)), none, some (.int (l6 + 1)), some (.long (v6.1 + v8)), none, some (.int v13.1), some (.long (v6.1 + v8)), none] [] h21 n _ _
          refine rr_goto (tgt := 15) C dX11_billsOf_125 (by decide) ?_
          exact rr_keep [true, true, true, true, true, false, true, false, false, false, false, false] (ih_ _ _ _ hr hx0)
        · replace hr := (if_neg c64_).symm.trans hr
          refine rr_iload C dX11_billsOf_67 rfl ?_
          refine rr_iconst (v := (-1)) C dX11_billsOf_69 (by decide) ?_
          refine rr_icmp_eq (tgt := 109) C dX11_billsOf_70 (by decide) (fun c70_ => ?_) (fun c70_ => ?_)
          · replace hr := (if_pos c70_).symm.trans hr
            refine rr_lload C dX11_billsOf_109 rfl ?_
            refine rr_lstore C dX11_billsOf_111 (by decide) ?_
            show WW W0 G 12 _ _ _ 113 [some (.ref l0), some (.int l1), some (.int l2), some (.int l3), some (.long (v6.1 + v8)), none, some (.int l6), some (.long (v6.1 + v8)), none, some (.int v13.1), some (.long (v6.1 + v8)), none] [] v13.2 n _ _
            refine rr_aload_n (i := 0) C dX11_billsOf_113 rfl rfl ?_
            refine rr_lload C dX11_billsOf_114 rfl ?_
            refine rr_lload C dX11_billsOf_116 rfl ?_
            refine rr_lsub C dX11_billsOf_118 ?_
            replace hr := Option.bind_eq_some_iff.mp hr
            obtain ⟨h24, e25, hr⟩ := hr
            refine rr_wrF C dX11_billsOf_119 fp_X11_528 rfl rfl e25 ?_
            refine rr_iinc (v := l6 + 1) C dX11_billsOf_122 rfl rfl ?_
            show WW W0 G 12 _ _ _ 125 [some (.ref l0), some (.int l1), some (.int l2), some (.int l3), some (.long (v6.1 + v8)), none, some (.int (l6 + 1)), some (.long (v6.1 + v8)), none, some (.int v13.1), some (.long (v6.1 + v8)), none] [] h24 n _ _
            refine rr_goto (tgt := 15) C dX11_billsOf_125 (by decide) ?_
            exact rr_keep [true, true, true, true, true, false, true, false, false, false, false, false] (ih_ _ _ _ hr hx0)
          · replace hr := (if_neg c70_).symm.trans hr
            refine rr_lload C dX11_billsOf_73 rfl ?_
            refine rr_bipush (v := 100) C dX11_billsOf_75 (by decide) ?_
            refine rr_iload C dX11_billsOf_77 rfl ?_
            refine rr_isub C dX11_billsOf_79 ?_
            refine rr_i2l C dX11_billsOf_80 ?_
            refine rr_lmul C dX11_billsOf_81 ?_
            refine rr_ldc2 C dX11_billsOf_82 ct_X11_433 ?_
            refine rr_ldiv C dX11_billsOf_85 (by decide) ?_
            refine rr_lload C dX11_billsOf_86 rfl ?_
            refine rr_bipush (v := 100) C dX11_billsOf_88 (by decide) ?_
            refine rr_iload C dX11_billsOf_90 rfl ?_
            refine rr_iadd C dX11_billsOf_92 ?_
            refine rr_i2l C dX11_billsOf_93 ?_
            refine rr_lmul C dX11_billsOf_94 ?_
            refine rr_ldc2 C dX11_billsOf_95 ct_X11_433 ?_
            refine rr_ldiv C dX11_billsOf_98 (by decide) ?_
            refine rr_lload C dX11_billsOf_99 rfl ?_
            refine rr_mmin_long C dX11_billsOf_101 ma_X11_462 (by decide) (Nat.le_of_ble_eq_true rfl) ?_
            refine rr_mmax_long C dX11_billsOf_104 ma_X11_457 (by decide) (Nat.le_of_ble_eq_true rfl) ?_
            refine rr_lstore C dX11_billsOf_107 (by decide) ?_
            show WW W0 G 12 _ _ _ 109 [some (.ref l0), some (.int l1), some (.int l2), some (.int l3), some (.long l4), none, some (.int l6), some (.long (v6.1 + v8)), none, some (.int v13.1), some (.long (j_max ((l4 * (Int32.toInt64 (100 - v13.1))) / 100) (j_min ((l4 * (Int32.toInt64 (100 + v13.1))) / 100) (v6.1 + v8)))), none] [] v13.2 n _ _
            refine rr_lload C dX11_billsOf_109 rfl ?_
            refine rr_lstore C dX11_billsOf_111 (by decide) ?_
            show WW W0 G 12 _ _ _ 113 [some (.ref l0), some (.int l1), some (.int l2), some (.int l3), some (.long (j_max ((l4 * (Int32.toInt64 (100 - v13.1))) / 100) (j_min ((l4 * (Int32.toInt64 (100 + v13.1))) / 100) (v6.1 + v8)))), none, some (.int l6), some (.long (v6.1 + v8)), none, some (.int v13.1), some (.long (j_max ((l4 * (Int32.toInt64 (100 - v13.1))) / 100) (j_min ((l4 * (Int32.toInt64 (100 + v13.1))) / 100) (v6.1 + v8)))), none] [] v13.2 n _ _
            refine rr_aload_n (i := 0) C dX11_billsOf_113 rfl rfl ?_
            refine rr_lload C dX11_billsOf_114 rfl ?_
            refine rr_lload C dX11_billsOf_116 rfl ?_
            refine rr_lsub C dX11_billsOf_118 ?_
            replace hr := Option.bind_eq_some_iff.mp hr
            obtain ⟨h28, e29, hr⟩ := hr
            refine rr_wrF C dX11_billsOf_119 fp_X11_528 rfl rfl e29 ?_
            refine rr_iinc (v := l6 + 1) C dX11_billsOf_122 rfl rfl ?_
            show WW W0 G 12 _ _ _ 125 [some (.ref l0), some (.int l1), some (.int l2), some (.int l3), some (.long (j_max ((l4 * (Int32.toInt64 (100 - v13.1))) / 100) (j_min ((l4 * (Int32.toInt64 (100 + v13.1))) / 100) (v6.1 + v8)))), none, some (.int (l6 + 1)), some (.long (v6.1 + v8)), none, some (.int v13.1), some (.long (j_max ((l4 * (Int32.toInt64 (100 - v13.1))) / 100) (j_min ((l4 * (Int32.toInt64 (100 + v13.1))) / 100) (v6.1 + v8)))), none] [] h28 n _ _
            refine rr_goto (tgt := 15) C dX11_billsOf_125 (by decide) ?_
            exact rr_keep [true, true, true, true, true, false, true, false, false, false, false, false] (ih_ _ _ _ hr hx0)
set_option maxRecDepth 100000 in
set_option maxHeartbeats 4000000 in
theorem c_X11_billsOf {K : Nat} {G : mm_G} {l : Launch} {h : mm_H} {n : Nat} (l0 : Nat) (l1 : Int32) (l2 : Int32) (l3 : Int32) {r_ : Int64 × mm_H} (hn : 48 ≤ n) (hr : q_X11_billsOf K h n l0 l1 l2 l3 = some r_) : Sp G l yX11_billsOf cX11_billsOf 12 (some .long) 55 0 0 [.ref l0, .int l1, .int l2, .int l3] h n (fun v h' n' => v = some (.long r_.1) ∧ h' = r_.2 ∧ n' = n) := by
  refine Sp_of (by decide +kernel) (Nat.le_of_ble_eq_true rfl) hn ?_
  intro W0 hwl C
  subst hwl
  unfold q_X11_billsOf at hr
  show WW W0 G 12 0 0 _ 0 [some (.ref l0), some (.int l1), some (.int l2), some (.int l3), none, none, none, none, none, none, none, none] [] h n 0 0
  refine rr_lconst (v := 0) C dX11_billsOf_0 (by decide) ?_
  refine rr_lstore C dX11_billsOf_1 (by decide) ?_
  show WW W0 G 12 _ _ _ 3 [some (.ref l0), some (.int l1), some (.int l2), some (.int l3), some (.long 0), none, none, none, none, none, none, none] [] h n _ _
  refine rr_aload_n (i := 0) C dX11_billsOf_3 rfl rfl ?_
  refine rr_lconst (v := 0) C dX11_billsOf_4 (by decide) ?_
  replace hr := Option.bind_eq_some_iff.mp hr
  obtain ⟨h1, e2, hr⟩ := hr
  refine rr_wrF C dX11_billsOf_5 fp_X11_528 rfl rfl e2 ?_
  refine rr_iload_n (i := 2) C dX11_billsOf_8 rfl rfl ?_
  refine rr_iconst (v := 5) C dX11_billsOf_9 (by decide) ?_
  refine rr_idiv C dX11_billsOf_10 (by decide) ?_
  refine rr_iconst (v := 5) C dX11_billsOf_11 (by decide) ?_
  refine rr_imul C dX11_billsOf_12 ?_
  refine rr_istore C dX11_billsOf_13 (by decide) ?_
  show WW W0 G 12 _ _ _ 15 [some (.ref l0), some (.int l1), some (.int l2), some (.int l3), some (.long 0), none, some (.int ((l2 / 5) * 5)), none, none, none, none, none] [] h1 n _ _
  replace hr := Option.bind_eq_some_iff.mp hr
  obtain ⟨v30, e31, hr⟩ := hr
  refine rr_keep [true, true, true, true, true, false, true, false, false, false, false, false] (w_X11_billsOf_15 C (by omega) l0 l1 l2 l3 K 0 ((l2 / 5) * 5) h1 e31 ?_)
  show WW W0 G 12 _ _ _ 128 [none, none, none, none, some (.long v30.1), none, none, none, none, none, none, none] [] v30.2 n _ _
  refine rr_lload C dX11_billsOf_128 rfl ?_
  obtain rfl := Option.some.inj hr
  exact rr_lret C dX11_billsOf_130 rfl ⟨rfl, rfl, rfl⟩
def q_X11_bills (K : Nat) (h : mm_H) (n : Nat) (l0 : Nat) (l1 : Int32) (l2 : Int32) (l3 : Int32) (l4 : Int32) : Option (Int64 × mm_H) :=
  (ckq h n l0 10).bind fun u1 =>
  (q_X11_isYearOf K h n l0 l1 l2 l3).bind fun v3 =>
  if v3 = 0 then
    some ((-2000000000000), h)
  else
  (q_X11_isIn K h n l4 0 1).bind fun v5 =>
  if v5 = 0 then
    some ((-2000000000000), h)
  else
  (ckq h n l0 10).bind fun u7 =>
  (q_X11_prepares K h n l0 l1).bind fun v9 =>
  (ckq v9 n l0 10).bind fun u11 =>
  (q_X11_billsOf K v9 n l0 l1 l2 l3).bind fun v13 =>
  if l4 = 0 then
    some (v13.1, v13.2)
  else
  (rdJ v13.2 n l0 10 66).bind fun v16 =>
  some (v16, v13.2)
set_option maxRecDepth 100000 in
set_option maxHeartbeats 4000000 in
theorem c_X11_bills {K : Nat} {G : mm_G} {l : Launch} {h : mm_H} {n : Nat} (l0 : Nat) (l1 : Int32) (l2 : Int32) (l3 : Int32) (l4 : Int32) {r_ : Int64 × mm_H} (hn : 48 ≤ n) (hr : q_X11_bills K h n l0 l1 l2 l3 l4 = some r_) : Sp G l yX11_bills cX11_bills 7 (some .long) 56 0 0 [.ref l0, .int l1, .int l2, .int l3, .int l4] h n (fun v h' n' => v = some (.long r_.1) ∧ h' = r_.2 ∧ n' = n) := by
  refine Sp_of (by decide +kernel) (Nat.le_of_ble_eq_true rfl) hn ?_
  intro W0 hwl C
  subst hwl
  unfold q_X11_bills at hr
  show WW W0 G 7 0 0 _ 0 [some (.ref l0), some (.int l1), some (.int l2), some (.int l3), some (.int l4), none, none] [] h n 0 0
  refine rr_aload_n (i := 0) C dX11_bills_0 rfl rfl ?_
  refine rr_iload_n (i := 1) C dX11_bills_1 rfl rfl ?_
  refine rr_iload_n (i := 2) C dX11_bills_2 rfl rfl ?_
  refine rr_iload_n (i := 3) C dX11_bills_3 rfl rfl ?_
  replace hr := Option.bind_eq_some_iff.mp hr
  obtain ⟨u1, e2, hr⟩ := hr
  replace hr := Option.bind_eq_some_iff.mp hr
  obtain ⟨v3, e4, hr⟩ := hr
  refine rr_callVq (as := [.int l1, .int l2, .int l3]) (st := []) (mc' := 0) (ms' := 0) C dX11_bills_4 iv_X11_519 (by decide) e2 rfl (Nat.le_of_ble_eq_true rfl) (c_X11_isYearOf l0 l1 l2 l3 (by omega) e4) (fun v_ h_ n_ q_ => ?_)
  obtain ⟨q1_, q2_, q3_⟩ := q_
  subst v_; subst h_; subst n_
  show WW W0 G 7 _ _ _ 7 [some (.ref l0), some (.int l1), some (.int l2), some (.int l3), some (.int l4), none, none] [.int v3] h n _ _
  refine rr_if_eq (tgt := 20) C dX11_bills_7 (by decide) (fun c7_ => ?_) (fun c7_ => ?_)
  · replace hr := (if_pos c7_).symm.trans hr
    refine rr_ldc2 C dX11_bills_20 ct_X11_441 ?_
    obtain rfl := Option.some.inj hr
    exact rr_lret C dX11_bills_23 rfl ⟨rfl, rfl, rfl⟩
  · replace hr := (if_neg c7_).symm.trans hr
    refine rr_iload C dX11_bills_10 rfl ?_
    refine rr_iconst (v := 0) C dX11_bills_12 (by decide) ?_
    refine rr_iconst (v := 1) C dX11_bills_13 (by decide) ?_
    replace hr := Option.bind_eq_some_iff.mp hr
    obtain ⟨v5, e6, hr⟩ := hr
    refine rr_callS (as := [.int l4, .int 0, .int 1]) (st := []) (mc' := 0) (ms' := 0) C dX11_bills_14 it_X11_165 (by decide) (Nat.le_of_ble_eq_true rfl) (c_X11_isIn l4 0 1 (by omega) e6) (fun v_ h_ n_ q_ => ?_)
    obtain ⟨q1_, q2_, q3_⟩ := q_
    subst v_; subst h_; subst n_
    show WW W0 G 7 _ _ _ 17 [some (.ref l0), some (.int l1), some (.int l2), some (.int l3), some (.int l4), none, none] [.int v5] h n _ _
    refine rr_if_ne (tgt := 24) C dX11_bills_17 (by decide) (fun c17_ => ?_) (fun c17_ => ?_)
    · replace hr := (if_neg c17_).symm.trans hr
      refine rr_aload_n (i := 0) C dX11_bills_24 rfl rfl ?_
      refine rr_iload_n (i := 1) C dX11_bills_25 rfl rfl ?_
      replace hr := Option.bind_eq_some_iff.mp hr
      obtain ⟨u7, e8, hr⟩ := hr
      replace hr := Option.bind_eq_some_iff.mp hr
      obtain ⟨v9, e10, hr⟩ := hr
      refine rr_callVq (as := [.int l1]) (st := []) (mc' := 0) (ms' := 0) C dX11_bills_26 iv_X11_438 (by decide) e8 rfl (Nat.le_of_ble_eq_true rfl) (c_X11_prepares l0 l1 (by omega) e10) (fun v_ h_ n_ q_ => ?_)
      obtain ⟨q1_, q2_, q3_⟩ := q_
      subst v_; subst h_; subst n_
      show WW W0 G 7 _ _ _ 29 [some (.ref l0), some (.int l1), some (.int l2), some (.int l3), some (.int l4), none, none] [] v9 n _ _
      refine rr_aload_n (i := 0) C dX11_bills_29 rfl rfl ?_
      refine rr_iload_n (i := 1) C dX11_bills_30 rfl rfl ?_
      refine rr_iload_n (i := 2) C dX11_bills_31 rfl rfl ?_
      refine rr_iload_n (i := 3) C dX11_bills_32 rfl rfl ?_
      replace hr := Option.bind_eq_some_iff.mp hr
      obtain ⟨u11, e12, hr⟩ := hr
      replace hr := Option.bind_eq_some_iff.mp hr
      obtain ⟨v13, e14, hr⟩ := hr
      refine rr_callVq (as := [.int l1, .int l2, .int l3]) (st := []) (mc' := 0) (ms' := 0) C dX11_bills_33 iv_X11_532 (by decide) e12 rfl (Nat.le_of_ble_eq_true rfl) (c_X11_billsOf l0 l1 l2 l3 (by omega) e14) (fun v_ h_ n_ q_ => ?_)
      obtain ⟨q1_, q2_, q3_⟩ := q_
      subst v_; subst h_; subst n_
      show WW W0 G 7 _ _ _ 36 [some (.ref l0), some (.int l1), some (.int l2), some (.int l3), some (.int l4), none, none] [.long v13.1] v13.2 n _ _
      refine rr_lstore C dX11_bills_36 (by decide) ?_
      show WW W0 G 7 _ _ _ 38 [some (.ref l0), some (.int l1), some (.int l2), some (.int l3), some (.int l4), some (.long v13.1), none] [] v13.2 n _ _
      refine rr_iload C dX11_bills_38 rfl ?_
      refine rr_if_ne (tgt := 48) C dX11_bills_40 (by decide) (fun c40_ => ?_) (fun c40_ => ?_)
      · replace hr := (if_neg c40_).symm.trans hr
        refine rr_aload_n (i := 0) C dX11_bills_48 rfl rfl ?_
        replace hr := Option.bind_eq_some_iff.mp hr
        obtain ⟨v16, e17, hr⟩ := hr
        refine rr_rdJ C dX11_bills_49 fl_X11_528 e17 ?_
        obtain rfl := Option.some.inj hr
        exact rr_lret C dX11_bills_52 rfl ⟨rfl, rfl, rfl⟩
      · replace hr := (if_pos c40_).symm.trans hr
        refine rr_lload C dX11_bills_43 rfl ?_
        refine rr_goto (tgt := 52) C dX11_bills_45 (by decide) ?_
        obtain rfl := Option.some.inj hr
        exact rr_lret C dX11_bills_52 rfl ⟨rfl, rfl, rfl⟩
    · replace hr := (if_pos c17_).symm.trans hr
      refine rr_ldc2 C dX11_bills_20 ct_X11_441 ?_
      obtain rfl := Option.some.inj hr
      exact rr_lret C dX11_bills_23 rfl ⟨rfl, rfl, rfl⟩
def q_X11_partsOf (K : Nat) (h : mm_H) (n : Nat) (l0 : Int32) : Option (Int32) :=
  if l0 = 0 then
    some 2
  else
  if l0 = 1 then
    some 3
  else
  some 5
set_option maxRecDepth 100000 in
set_option maxHeartbeats 4000000 in
theorem c_X11_partsOf {K : Nat} {G : mm_G} {l : Launch} {h : mm_H} {n : Nat} (l0 : Int32) {r_ : Int32} (hn : 48 ≤ n) (hr : q_X11_partsOf K h n l0 = some r_) : Sp G l yX11_partsOf cX11_partsOf 1 (some .int) 0 0 0 [.int l0] h n (fun v h' n' => v = some (.int r_) ∧ h' = h ∧ n' = n) := by
  refine Sp_of (by decide +kernel) (Nat.le_of_ble_eq_true rfl) hn ?_
  intro W0 hwl C
  subst hwl
  unfold q_X11_partsOf at hr
  show WW W0 G 1 0 0 _ 0 [some (.int l0)] [] h n 0 0
  refine rr_iload_n (i := 0) C dX11_partsOf_0 rfl rfl ?_
  refine rr_if_ne (tgt := 8) C dX11_partsOf_1 (by decide) (fun c1_ => ?_) (fun c1_ => ?_)
  · replace hr := (if_neg c1_).symm.trans hr
    refine rr_iload_n (i := 0) C dX11_partsOf_8 rfl rfl ?_
    refine rr_iconst (v := 1) C dX11_partsOf_9 (by decide) ?_
    refine rr_icmp_ne (tgt := 17) C dX11_partsOf_10 (by decide) (fun c10_ => ?_) (fun c10_ => ?_)
    · replace hr := (if_neg c10_).symm.trans hr
      refine rr_iconst (v := 5) C dX11_partsOf_17 (by decide) ?_
      obtain rfl := Option.some.inj hr
      exact rr_iret (ty := .int) C dX11_partsOf_18 rfl rfl ⟨rfl, rfl, rfl⟩
    · replace hr := (if_pos c10_).symm.trans hr
      refine rr_iconst (v := 3) C dX11_partsOf_13 (by decide) ?_
      refine rr_goto (tgt := 18) C dX11_partsOf_14 (by decide) ?_
      obtain rfl := Option.some.inj hr
      exact rr_iret (ty := .int) C dX11_partsOf_18 rfl rfl ⟨rfl, rfl, rfl⟩
  · replace hr := (if_pos c1_).symm.trans hr
    refine rr_iconst (v := 2) C dX11_partsOf_4 (by decide) ?_
    refine rr_goto (tgt := 18) C dX11_partsOf_5 (by decide) ?_
    obtain rfl := Option.some.inj hr
    exact rr_iret (ty := .int) C dX11_partsOf_18 rfl rfl ⟨rfl, rfl, rfl⟩
def q_X11_homes (K : Nat) (h : mm_H) (n : Nat) (l0 : Nat) (l1 : Int32) (l2 : Int32) (l3 : Int32) (l4 : Int32) : Option (Int32) :=
  (ckq h n l0 10).bind fun u1 =>
  (q_X11_factBy K h n l0 l1 l2 (11 + l4) l3).bind fun v3 =>
  some (i_max 0 v3)
set_option maxRecDepth 100000 in
set_option maxHeartbeats 4000000 in
theorem c_X11_homes {K : Nat} {G : mm_G} {l : Launch} {h : mm_H} {n : Nat} (l0 : Nat) (l1 : Int32) (l2 : Int32) (l3 : Int32) (l4 : Int32) {r_ : Int32} (hn : 48 ≤ n) (hr : q_X11_homes K h n l0 l1 l2 l3 l4 = some r_) : Sp G l yX11_homes cX11_homes 5 (some .int) 2 0 0 [.ref l0, .int l1, .int l2, .int l3, .int l4] h n (fun v h' n' => v = some (.int r_) ∧ h' = h ∧ n' = n) := by
  refine Sp_of (by decide +kernel) (Nat.le_of_ble_eq_true rfl) hn ?_
  intro W0 hwl C
  subst hwl
  unfold q_X11_homes at hr
  show WW W0 G 5 0 0 _ 0 [some (.ref l0), some (.int l1), some (.int l2), some (.int l3), some (.int l4)] [] h n 0 0
  refine rr_iconst (v := 0) C dX11_homes_0 (by decide) ?_
  refine rr_aload_n (i := 0) C dX11_homes_1 rfl rfl ?_
  refine rr_iload_n (i := 1) C dX11_homes_2 rfl rfl ?_
  refine rr_iload_n (i := 2) C dX11_homes_3 rfl rfl ?_
  refine rr_bipush (v := 11) C dX11_homes_4 (by decide) ?_
  refine rr_iload C dX11_homes_6 rfl ?_
  refine rr_iadd C dX11_homes_8 ?_
  refine rr_iload_n (i := 3) C dX11_homes_9 rfl rfl ?_
  replace hr := Option.bind_eq_some_iff.mp hr
  obtain ⟨u1, e2, hr⟩ := hr
  replace hr := Option.bind_eq_some_iff.mp hr
  obtain ⟨v3, e4, hr⟩ := hr
  refine rr_callVq (as := [.int l1, .int l2, .int (11 + l4), .int l3]) (st := [.int 0]) (mc' := 0) (ms' := 0) C dX11_homes_10 iv_X11_198 (by decide) e2 rfl (Nat.le_of_ble_eq_true rfl) (c_X11_factBy l0 l1 l2 (11 + l4) l3 (by omega) e4) (fun v_ h_ n_ q_ => ?_)
  obtain ⟨q1_, q2_, q3_⟩ := q_
  subst v_; subst h_; subst n_
  show WW W0 G 5 _ _ _ 13 [some (.ref l0), some (.int l1), some (.int l2), some (.int l3), some (.int l4)] [.int v3, .int 0] h n _ _
  refine rr_mmax C dX11_homes_13 ma_X11_406 (by decide) (Nat.le_of_ble_eq_true rfl) ?_
  obtain rfl := Option.some.inj hr
  exact rr_iret (ty := .int) C dX11_homes_16 rfl rfl ⟨rfl, rfl, rfl⟩
def lp_X11_paid_6 (K : Nat) (h : mm_H) (n : Nat) (l0 : Nat) (l1 : Int64) (l3 : Int32) (l4 : Int32) (l5 : Int32) (l6 : Int32) : Nat → Int64 → Int32 → Option (Int64)
  | 0, _, _ => none
  | k_ + 1, l7, l9 =>
    if 3 ≤ l9 then
      some (l7)
    else
    (ckq h n l0 10).bind fun u1 =>
    (q_X11_homes K h n l0 l3 l4 l5 l9).bind fun v3 =>
    (q_X11_partsOf K h n l9).bind fun v5 =>
    lp_X11_paid_6 K h n l0 l1 l3 l4 l5 l6 k_ (l7 + ((Int32.toInt64 v3) * (Int32.toInt64 v5))) (l9 + 1)
def q_X11_paid (K : Nat) (h : mm_H) (n : Nat) (l0 : Nat) (l1 : Int64) (l3 : Int32) (l4 : Int32) (l5 : Int32) (l6 : Int32) : Option (Int64) :=
  (lp_X11_paid_6 K h n l0 l1 l3 l4 l5 l6 K 0 0).bind fun v8 =>
  if (lg_cmp v8 0) = 0 then
    some 0
  else
  (q_X11_partsOf K h n l6).bind fun v10 =>
  if v8 = 0 then none else
  some ((l1 * (Int32.toInt64 v10)) / v8)
set_option maxRecDepth 100000 in
set_option maxHeartbeats 4000000 in
theorem w_X11_paid_6 {K : Nat} {W0 : mm_X} {G : mm_G} {mc ms kc ks : Nat} {Q_ : State → Prop} {h : mm_H} {n : Nat} (C : mm_C W0 G cX11_paid yX11_paid.cls 10 mc ms (some .long) 3 yX11_paid.name) (hn : 48 ≤ n) (l0 : Nat) (l1 : Int64) (l3 : Int32) (l4 : Int32) (l5 : Int32) (l6 : Int32) : ∀ (k_ : Nat) (l7 : Int64) (l9 : Int32) {r_ : Int64} (hr : lp_X11_paid_6 K h n l0 l1 l3 l4 l5 l6 k_ l7 l9 = some r_) (hx0 : WW W0 G 10 mc ms Q_ 42 [none, some (.long l1), none, none, none, none, some (.int l6), some (.long r_), none, none] [] h n kc ks), WW W0 G 10 mc ms Q_ 6 [some (.ref l0), some (.long l1), none, some (.int l3), some (.int l4), some (.int l5), some (.int l6), some (.long l7), none, some (.int l9)] [] h n kc ks := by
  intro k_
  induction k_ with
  | zero =>
    intro l7 l9 r_ hr
    cases hr
  | succ k_ ih_ =>
    intro l7 l9 r_ hr hx0
    unfold lp_X11_paid_6 at hr
    refine rr_iload C dX11_paid_6 rfl ?_
    refine rr_iconst (v := 3) C dX11_paid_8 (by decide) ?_
    refine rr_icmp_ge (tgt := 42) C dX11_paid_9 (by decide) (fun c9_ => ?_) (fun c9_ => ?_)
    · replace hr := (if_pos c9_).symm.trans hr
      obtain rfl := Option.some.inj hr
      exact rr_keep [false, true, false, false, false, false, true, true, false, false] (hx0)
    · replace hr := (if_neg c9_).symm.trans hr
      refine rr_lload C dX11_paid_12 rfl ?_
      refine rr_aload_n (i := 0) C dX11_paid_14 rfl rfl ?_
      refine rr_iload_n (i := 3) C dX11_paid_15 rfl rfl ?_
      refine rr_iload C dX11_paid_16 rfl ?_
      refine rr_iload C dX11_paid_18 rfl ?_
      refine rr_iload C dX11_paid_20 rfl ?_
      replace hr := Option.bind_eq_some_iff.mp hr
      obtain ⟨u1, e2, hr⟩ := hr
      replace hr := Option.bind_eq_some_iff.mp hr
      obtain ⟨v3, e4, hr⟩ := hr
      refine rr_callVq (as := [.int l3, .int l4, .int l5, .int l9]) (st := [.long l7]) (mc' := 0) (ms' := 0) C dX11_paid_22 iv_X11_535 (by decide) e2 rfl (Nat.le_of_ble_eq_true rfl) (c_X11_homes l0 l3 l4 l5 l9 (by omega) e4) (fun v_ h_ n_ q_ => ?_)
      obtain ⟨q1_, q2_, q3_⟩ := q_
      subst v_; subst h_; subst n_
      show WW W0 G 10 _ _ _ 25 [some (.ref l0), some (.long l1), none, some (.int l3), some (.int l4), some (.int l5), some (.int l6), some (.long l7), none, some (.int l9)] [.int v3, .long l7] h n _ _
      refine rr_i2l C dX11_paid_25 ?_
      refine rr_iload C dX11_paid_26 rfl ?_
      replace hr := Option.bind_eq_some_iff.mp hr
      obtain ⟨v5, e6, hr⟩ := hr
      refine rr_callS (as := [.int l9]) (st := [.long (Int32.toInt64 v3), .long l7]) (mc' := 0) (ms' := 0) C dX11_paid_28 it_X11_538 (by decide) (Nat.le_of_ble_eq_true rfl) (c_X11_partsOf l9 (by omega) e6) (fun v_ h_ n_ q_ => ?_)
      obtain ⟨q1_, q2_, q3_⟩ := q_
      subst v_; subst h_; subst n_
      show WW W0 G 10 _ _ _ 31 [some (.ref l0), some (.long l1), none, some (.int l3), some (.int l4), some (.int l5), some (.int l6), some (.long l7), none, some (.int l9)] [.int v5, .long (Int32.toInt64 v3), .long l7] h n _ _
      refine rr_i2l C dX11_paid_31 ?_
      refine rr_lmul C dX11_paid_32 ?_
      refine rr_ladd C dX11_paid_33 ?_
      refine rr_lstore C dX11_paid_34 (by decide) ?_
      show WW W0 G 10 _ _ _ 36 [some (.ref l0), some (.long l1), none, some (.int l3), some (.int l4), some (.int l5), some (.int l6), some (.long (l7 + ((Int32.toInt64 v3) * (Int32.toInt64 v5)))), none, some (.int l9)] [] h n _ _
      refine rr_iinc (v := l9 + 1) C dX11_paid_36 rfl rfl ?_
      show WW W0 G 10 _ _ _ 39 [some (.ref l0), some (.long l1), none, some (.int l3), some (.int l4), some (.int l5), some (.int l6), some (.long (l7 + ((Int32.toInt64 v3) * (Int32.toInt64 v5)))), none, some (.int (l9 + 1))] [] h n _ _
      refine rr_goto (tgt := 6) C dX11_paid_39 (by decide) ?_
      exact rr_keep [true, true, false, true, true, true, true, true, false, true] (ih_ _ _ hr hx0)
set_option maxRecDepth 100000 in
set_option maxHeartbeats 4000000 in
theorem c_X11_paid {K : Nat} {G : mm_G} {l : Launch} {h : mm_H} {n : Nat} (l0 : Nat) (l1 : Int64) (l3 : Int32) (l4 : Int32) (l5 : Int32) (l6 : Int32) {r_ : Int64} (hn : 48 ≤ n) (hr : q_X11_paid K h n l0 l1 l3 l4 l5 l6 = some r_) : Sp G l yX11_paid cX11_paid 10 (some .long) 3 0 0 [.ref l0, .long l1, .int l3, .int l4, .int l5, .int l6] h n (fun v h' n' => v = some (.long r_) ∧ h' = h ∧ n' = n) := by
  refine Sp_of (by decide +kernel) (Nat.le_of_ble_eq_true rfl) hn ?_
  intro W0 hwl C
  subst hwl
  unfold q_X11_paid at hr
  show WW W0 G 10 0 0 _ 0 [some (.ref l0), some (.long l1), none, some (.int l3), some (.int l4), some (.int l5), some (.int l6), none, none, none] [] h n 0 0
  refine rr_lconst (v := 0) C dX11_paid_0 (by decide) ?_
  refine rr_lstore C dX11_paid_1 (by decide) ?_
  show WW W0 G 10 _ _ _ 3 [some (.ref l0), some (.long l1), none, some (.int l3), some (.int l4), some (.int l5), some (.int l6), some (.long 0), none, none] [] h n _ _
  refine rr_iconst (v := 0) C dX11_paid_3 (by decide) ?_
  refine rr_istore C dX11_paid_4 (by decide) ?_
  show WW W0 G 10 _ _ _ 6 [some (.ref l0), some (.long l1), none, some (.int l3), some (.int l4), some (.int l5), some (.int l6), some (.long 0), none, some (.int 0)] [] h n _ _
  replace hr := Option.bind_eq_some_iff.mp hr
  obtain ⟨v8, e9, hr⟩ := hr
  refine rr_keep [true, true, false, true, true, true, true, true, false, true] (w_X11_paid_6 C (by omega) l0 l1 l3 l4 l5 l6 K 0 0 e9 ?_)
  show WW W0 G 10 _ _ _ 42 [none, some (.long l1), none, none, none, none, some (.int l6), some (.long v8), none, none] [] h n _ _
  refine rr_lload C dX11_paid_42 rfl ?_
  refine rr_lconst (v := 0) C dX11_paid_44 (by decide) ?_
  refine rr_lcmp C dX11_paid_45 ?_
  refine rr_if_ne (tgt := 53) C dX11_paid_46 (by decide) (fun c46_ => ?_) (fun c46_ => ?_)
  · replace hr := (if_neg c46_).symm.trans hr
    refine rr_lload_n (i := 1) C dX11_paid_53 rfl rfl ?_
    refine rr_iload C dX11_paid_54 rfl ?_
    replace hr := Option.bind_eq_some_iff.mp hr
    obtain ⟨v10, e11, hr⟩ := hr
    refine rr_callS (as := [.int l6]) (st := [.long l1]) (mc' := 0) (ms' := 0) C dX11_paid_56 it_X11_538 (by decide) (Nat.le_of_ble_eq_true rfl) (c_X11_partsOf l6 (by omega) e11) (fun v_ h_ n_ q_ => ?_)
    obtain ⟨q1_, q2_, q3_⟩ := q_
    subst v_; subst h_; subst n_
    show WW W0 G 10 _ _ _ 59 [none, some (.long l1), none, none, none, none, some (.int l6), some (.long v8), none, none] [.int v10, .long l1] h n _ _
    refine rr_i2l C dX11_paid_59 ?_
    refine rr_lmul C dX11_paid_60 ?_
    refine rr_lload C dX11_paid_61 rfl ?_
    by_cases z12 : v8 = 0
    · replace hr := (if_pos z12).symm.trans hr
      cases hr
    replace hr := (if_neg z12).symm.trans hr
    refine rr_ldiv C dX11_paid_63 z12 ?_
    obtain rfl := Option.some.inj hr
    exact rr_lret C dX11_paid_64 rfl ⟨rfl, rfl, rfl⟩
  · replace hr := (if_pos c46_).symm.trans hr
    refine rr_lconst (v := 0) C dX11_paid_49 (by decide) ?_
    refine rr_goto (tgt := 64) C dX11_paid_50 (by decide) ?_
    obtain rfl := Option.some.inj hr
    exact rr_lret C dX11_paid_64 rfl ⟨rfl, rfl, rfl⟩
def lp_X11_home_63 (K : Nat) (h : mm_H) (n : Nat) (l0 : Nat) (l1 : Int32) (l2 : Int32) (l3 : Int32) (l5 : Int64) : Nat → Int64 → Int32 → Option (Int64)
  | 0, _, _ => none
  | k_ + 1, l7, l9 =>
    if 3 ≤ l9 then
      some (l7)
    else
    (ckq h n l0 10).bind fun u17 =>
    (q_X11_homes K h n l0 l1 l2 l3 l9).bind fun v19 =>
    (ckq h n l0 10).bind fun u21 =>
    (q_X11_paid K h n l0 l5 l1 l2 l3 l9).bind fun v23 =>
    lp_X11_home_63 K h n l0 l1 l2 l3 l5 k_ (l7 - ((Int32.toInt64 v19) * v23)) (l9 + 1)
def q_X11_home (K : Nat) (h : mm_H) (n : Nat) (l0 : Nat) (l1 : Int32) (l2 : Int32) (l3 : Int32) (l4 : Int32) : Option (Int64 × mm_H) :=
  (ckq h n l0 10).bind fun u1 =>
  (q_X11_isYearOf K h n l0 l1 l2 l3).bind fun v3 =>
  if v3 = 0 then
    some ((-2000000000000), h)
  else
  (q_X11_isIn K h n l4 0 3).bind fun v5 =>
  if v5 = 0 then
    some ((-2000000000000), h)
  else
  (ckq h n l0 10).bind fun u7 =>
  (q_X11_prepares K h n l0 l1).bind fun v9 =>
  (ckq v9 n l0 10).bind fun u11 =>
  (q_X11_billsOf K v9 n l0 l1 l2 l3).bind fun v13 =>
  if 3 ≤ l4 then
    (lp_X11_home_63 K v13.2 n l0 l1 l2 l3 v13.1 K v13.1 0).bind fun v26 =>
    some (v26, v13.2)
  else
  (ckq v13.2 n l0 10).bind fun u28 =>
  (q_X11_paid K v13.2 n l0 v13.1 l1 l2 l3 l4).bind fun v30 =>
  some (v30, v13.2)
set_option maxRecDepth 100000 in
set_option maxHeartbeats 4000000 in
theorem w_X11_home_63 {K : Nat} {W0 : mm_X} {G : mm_G} {mc ms kc ks : Nat} {Q_ : State → Prop} {h : mm_H} {n : Nat} (C : mm_C W0 G cX11_home yX11_home.cls 10 mc ms (some .long) 56 yX11_home.name) (hn : 48 ≤ n) (l0 : Nat) (l1 : Int32) (l2 : Int32) (l3 : Int32) (l5 : Int64) : ∀ (k_ : Nat) (l7 : Int64) (l9 : Int32) {r_ : Int64} (hr : lp_X11_home_63 K h n l0 l1 l2 l3 l5 k_ l7 l9 = some r_) (hx0 : WW W0 G 10 mc ms Q_ 102 [none, none, none, none, none, none, none, some (.long r_), none, none] [] h n kc ks), WW W0 G 10 mc ms Q_ 63 [some (.ref l0), some (.int l1), some (.int l2), some (.int l3), none, some (.long l5), none, some (.long l7), none, some (.int l9)] [] h n kc ks := by
  intro k_
  induction k_ with
  | zero =>
    intro l7 l9 r_ hr
    cases hr
  | succ k_ ih_ =>
    intro l7 l9 r_ hr hx0
    unfold lp_X11_home_63 at hr
    refine rr_iload C dX11_home_63 rfl ?_
    refine rr_iconst (v := 3) C dX11_home_65 (by decide) ?_
    refine rr_icmp_ge (tgt := 102) C dX11_home_66 (by decide) (fun c66_ => ?_) (fun c66_ => ?_)
    · replace hr := (if_pos c66_).symm.trans hr
      obtain rfl := Option.some.inj hr
      exact rr_keep [false, false, false, false, false, false, false, true, false, false] (hx0)
    · replace hr := (if_neg c66_).symm.trans hr
      refine rr_lload C dX11_home_69 rfl ?_
      refine rr_aload_n (i := 0) C dX11_home_71 rfl rfl ?_
      refine rr_iload_n (i := 1) C dX11_home_72 rfl rfl ?_
      refine rr_iload_n (i := 2) C dX11_home_73 rfl rfl ?_
      refine rr_iload_n (i := 3) C dX11_home_74 rfl rfl ?_
      refine rr_iload C dX11_home_75 rfl ?_
      replace hr := Option.bind_eq_some_iff.mp hr
      obtain ⟨u17, e18, hr⟩ := hr
      replace hr := Option.bind_eq_some_iff.mp hr
      obtain ⟨v19, e20, hr⟩ := hr
      refine rr_callVq (as := [.int l1, .int l2, .int l3, .int l9]) (st := [.long l7]) (mc' := 0) (ms' := 0) C dX11_home_77 iv_X11_535 (by decide) e18 rfl (Nat.le_of_ble_eq_true rfl) (c_X11_homes l0 l1 l2 l3 l9 (by omega) e20) (fun v_ h_ n_ q_ => ?_)
      obtain ⟨q1_, q2_, q3_⟩ := q_
      subst v_; subst h_; subst n_
      show WW W0 G 10 _ _ _ 80 [some (.ref l0), some (.int l1), some (.int l2), some (.int l3), none, some (.long l5), none, some (.long l7), none, some (.int l9)] [.int v19, .long l7] h n _ _
      refine rr_i2l C dX11_home_80 ?_
      refine rr_aload_n (i := 0) C dX11_home_81 rfl rfl ?_
      refine rr_lload C dX11_home_82 rfl ?_
      refine rr_iload_n (i := 1) C dX11_home_84 rfl rfl ?_
      refine rr_iload_n (i := 2) C dX11_home_85 rfl rfl ?_
      refine rr_iload_n (i := 3) C dX11_home_86 rfl rfl ?_
      refine rr_iload C dX11_home_87 rfl ?_
      replace hr := Option.bind_eq_some_iff.mp hr
      obtain ⟨u21, e22, hr⟩ := hr
      replace hr := Option.bind_eq_some_iff.mp hr
      obtain ⟨v23, e24, hr⟩ := hr
      refine rr_callVq (as := [.long l5, .int l1, .int l2, .int l3, .int l9]) (st := [.long (Int32.toInt64 v19), .long l7]) (mc' := 0) (ms' := 0) C dX11_home_89 iv_X11_541 (by decide) e22 rfl (Nat.le_of_ble_eq_true rfl) (c_X11_paid l0 l5 l1 l2 l3 l9 (by omega) e24) (fun v_ h_ n_ q_ => ?_)
      obtain ⟨q1_, q2_, q3_⟩ := q_
      subst v_; subst h_; subst n_
      show WW W0 G 10 _ _ _ 92 [some (.ref l0), some (.int l1), some (.int l2), some (.int l3), none, some (.long l5), none, some (.long l7), none, some (.int l9)] [.long v23, .long (Int32.toInt64 v19), .long l7] h n _ _
      refine rr_lmul C dX11_home_92 ?_
      refine rr_lsub C dX11_home_93 ?_
      refine rr_lstore C dX11_home_94 (by decide) ?_
      show WW W0 G 10 _ _ _ 96 [some (.ref l0), some (.int l1), some (.int l2), some (.int l3), none, some (.long l5), none, some (.long (l7 - ((Int32.toInt64 v19) * v23))), none, some (.int l9)] [] h n _ _
      refine rr_iinc (v := l9 + 1) C dX11_home_96 rfl rfl ?_
      show WW W0 G 10 _ _ _ 99 [some (.ref l0), some (.int l1), some (.int l2), some (.int l3), none, some (.long l5), none, some (.long (l7 - ((Int32.toInt64 v19) * v23))), none, some (.int (l9 + 1))] [] h n _ _
      refine rr_goto (tgt := 63) C dX11_home_99 (by decide) ?_
      exact rr_keep [true, true, true, true, false, true, false, true, false, true] (ih_ _ _ hr hx0)
set_option maxRecDepth 100000 in
set_option maxHeartbeats 4000000 in
theorem c_X11_home {K : Nat} {G : mm_G} {l : Launch} {h : mm_H} {n : Nat} (l0 : Nat) (l1 : Int32) (l2 : Int32) (l3 : Int32) (l4 : Int32) {r_ : Int64 × mm_H} (hn : 48 ≤ n) (hr : q_X11_home K h n l0 l1 l2 l3 l4 = some r_) : Sp G l yX11_home cX11_home 10 (some .long) 56 0 0 [.ref l0, .int l1, .int l2, .int l3, .int l4] h n (fun v h' n' => v = some (.long r_.1) ∧ h' = r_.2 ∧ n' = n) := by
  refine Sp_of (by decide +kernel) (Nat.le_of_ble_eq_true rfl) hn ?_
  intro W0 hwl C
  subst hwl
  unfold q_X11_home at hr
  show WW W0 G 10 0 0 _ 0 [some (.ref l0), some (.int l1), some (.int l2), some (.int l3), some (.int l4), none, none, none, none, none] [] h n 0 0
  refine rr_aload_n (i := 0) C dX11_home_0 rfl rfl ?_
  refine rr_iload_n (i := 1) C dX11_home_1 rfl rfl ?_
  refine rr_iload_n (i := 2) C dX11_home_2 rfl rfl ?_
  refine rr_iload_n (i := 3) C dX11_home_3 rfl rfl ?_
  replace hr := Option.bind_eq_some_iff.mp hr
  obtain ⟨u1, e2, hr⟩ := hr
  replace hr := Option.bind_eq_some_iff.mp hr
  obtain ⟨v3, e4, hr⟩ := hr
  refine rr_callVq (as := [.int l1, .int l2, .int l3]) (st := []) (mc' := 0) (ms' := 0) C dX11_home_4 iv_X11_519 (by decide) e2 rfl (Nat.le_of_ble_eq_true rfl) (c_X11_isYearOf l0 l1 l2 l3 (by omega) e4) (fun v_ h_ n_ q_ => ?_)
  obtain ⟨q1_, q2_, q3_⟩ := q_
  subst v_; subst h_; subst n_
  show WW W0 G 10 _ _ _ 7 [some (.ref l0), some (.int l1), some (.int l2), some (.int l3), some (.int l4), none, none, none, none, none] [.int v3] h n _ _
  refine rr_if_eq (tgt := 20) C dX11_home_7 (by decide) (fun c7_ => ?_) (fun c7_ => ?_)
  · replace hr := (if_pos c7_).symm.trans hr
    refine rr_ldc2 C dX11_home_20 ct_X11_441 ?_
    obtain rfl := Option.some.inj hr
    exact rr_lret C dX11_home_23 rfl ⟨rfl, rfl, rfl⟩
  · replace hr := (if_neg c7_).symm.trans hr
    refine rr_iload C dX11_home_10 rfl ?_
    refine rr_iconst (v := 0) C dX11_home_12 (by decide) ?_
    refine rr_iconst (v := 3) C dX11_home_13 (by decide) ?_
    replace hr := Option.bind_eq_some_iff.mp hr
    obtain ⟨v5, e6, hr⟩ := hr
    refine rr_callS (as := [.int l4, .int 0, .int 3]) (st := []) (mc' := 0) (ms' := 0) C dX11_home_14 it_X11_165 (by decide) (Nat.le_of_ble_eq_true rfl) (c_X11_isIn l4 0 3 (by omega) e6) (fun v_ h_ n_ q_ => ?_)
    obtain ⟨q1_, q2_, q3_⟩ := q_
    subst v_; subst h_; subst n_
    show WW W0 G 10 _ _ _ 17 [some (.ref l0), some (.int l1), some (.int l2), some (.int l3), some (.int l4), none, none, none, none, none] [.int v5] h n _ _
    refine rr_if_ne (tgt := 24) C dX11_home_17 (by decide) (fun c17_ => ?_) (fun c17_ => ?_)
    · replace hr := (if_neg c17_).symm.trans hr
      refine rr_aload_n (i := 0) C dX11_home_24 rfl rfl ?_
      refine rr_iload_n (i := 1) C dX11_home_25 rfl rfl ?_
      replace hr := Option.bind_eq_some_iff.mp hr
      obtain ⟨u7, e8, hr⟩ := hr
      replace hr := Option.bind_eq_some_iff.mp hr
      obtain ⟨v9, e10, hr⟩ := hr
      refine rr_callVq (as := [.int l1]) (st := []) (mc' := 0) (ms' := 0) C dX11_home_26 iv_X11_438 (by decide) e8 rfl (Nat.le_of_ble_eq_true rfl) (c_X11_prepares l0 l1 (by omega) e10) (fun v_ h_ n_ q_ => ?_)
      obtain ⟨q1_, q2_, q3_⟩ := q_
      subst v_; subst h_; subst n_
      show WW W0 G 10 _ _ _ 29 [some (.ref l0), some (.int l1), some (.int l2), some (.int l3), some (.int l4), none, none, none, none, none] [] v9 n _ _
      refine rr_aload_n (i := 0) C dX11_home_29 rfl rfl ?_
      refine rr_iload_n (i := 1) C dX11_home_30 rfl rfl ?_
      refine rr_iload_n (i := 2) C dX11_home_31 rfl rfl ?_
      refine rr_iload_n (i := 3) C dX11_home_32 rfl rfl ?_
      replace hr := Option.bind_eq_some_iff.mp hr
      obtain ⟨u11, e12, hr⟩ := hr
      replace hr := Option.bind_eq_some_iff.mp hr
      obtain ⟨v13, e14, hr⟩ := hr
      refine rr_callVq (as := [.int l1, .int l2, .int l3]) (st := []) (mc' := 0) (ms' := 0) C dX11_home_33 iv_X11_532 (by decide) e12 rfl (Nat.le_of_ble_eq_true rfl) (c_X11_billsOf l0 l1 l2 l3 (by omega) e14) (fun v_ h_ n_ q_ => ?_)
      obtain ⟨q1_, q2_, q3_⟩ := q_
      subst v_; subst h_; subst n_
      show WW W0 G 10 _ _ _ 36 [some (.ref l0), some (.int l1), some (.int l2), some (.int l3), some (.int l4), none, none, none, none, none] [.long v13.1] v13.2 n _ _
      refine rr_lstore C dX11_home_36 (by decide) ?_
      show WW W0 G 10 _ _ _ 38 [some (.ref l0), some (.int l1), some (.int l2), some (.int l3), some (.int l4), some (.long v13.1), none, none, none, none] [] v13.2 n _ _
      refine rr_iload C dX11_home_38 rfl ?_
      refine rr_iconst (v := 3) C dX11_home_40 (by decide) ?_
      refine rr_icmp_ge (tgt := 56) C dX11_home_41 (by decide) (fun c41_ => ?_) (fun c41_ => ?_)
      · replace hr := (if_pos c41_).symm.trans hr
        refine rr_lload C dX11_home_56 rfl ?_
        refine rr_lstore C dX11_home_58 (by decide) ?_
        show WW W0 G 10 _ _ _ 60 [some (.ref l0), some (.int l1), some (.int l2), some (.int l3), some (.int l4), some (.long v13.1), none, some (.long v13.1), none, none] [] v13.2 n _ _
        refine rr_iconst (v := 0) C dX11_home_60 (by decide) ?_
        refine rr_istore C dX11_home_61 (by decide) ?_
        show WW W0 G 10 _ _ _ 63 [some (.ref l0), some (.int l1), some (.int l2), some (.int l3), some (.int l4), some (.long v13.1), none, some (.long v13.1), none, some (.int 0)] [] v13.2 n _ _
        replace hr := Option.bind_eq_some_iff.mp hr
        obtain ⟨v26, e27, hr⟩ := hr
        refine rr_keep [true, true, true, true, false, true, false, true, false, true] (w_X11_home_63 C (by omega) l0 l1 l2 l3 v13.1 K v13.1 0 e27 ?_)
        show WW W0 G 10 _ _ _ 102 [none, none, none, none, none, none, none, some (.long v26), none, none] [] v13.2 n _ _
        refine rr_lload C dX11_home_102 rfl ?_
        obtain rfl := Option.some.inj hr
        exact rr_lret C dX11_home_104 rfl ⟨rfl, rfl, rfl⟩
      · replace hr := (if_neg c41_).symm.trans hr
        refine rr_aload_n (i := 0) C dX11_home_44 rfl rfl ?_
        refine rr_lload C dX11_home_45 rfl ?_
        refine rr_iload_n (i := 1) C dX11_home_47 rfl rfl ?_
        refine rr_iload_n (i := 2) C dX11_home_48 rfl rfl ?_
        refine rr_iload_n (i := 3) C dX11_home_49 rfl rfl ?_
        refine rr_iload C dX11_home_50 rfl ?_
        replace hr := Option.bind_eq_some_iff.mp hr
        obtain ⟨u28, e29, hr⟩ := hr
        replace hr := Option.bind_eq_some_iff.mp hr
        obtain ⟨v30, e31, hr⟩ := hr
        refine rr_callVq (as := [.long v13.1, .int l1, .int l2, .int l3, .int l4]) (st := []) (mc' := 0) (ms' := 0) C dX11_home_52 iv_X11_541 (by decide) e29 rfl (Nat.le_of_ble_eq_true rfl) (c_X11_paid l0 v13.1 l1 l2 l3 l4 (by omega) e31) (fun v_ h_ n_ q_ => ?_)
        obtain ⟨q1_, q2_, q3_⟩ := q_
        subst v_; subst h_; subst n_
        show WW W0 G 10 _ _ _ 55 [some (.ref l0), some (.int l1), some (.int l2), some (.int l3), some (.int l4), some (.long v13.1), none, none, none, none] [.long v30] v13.2 n _ _
        obtain rfl := Option.some.inj hr
        exact rr_lret C dX11_home_55 rfl ⟨rfl, rfl, rfl⟩
    · replace hr := (if_pos c17_).symm.trans hr
      refine rr_ldc2 C dX11_home_20 ct_X11_441 ?_
      obtain rfl := Option.some.inj hr
      exact rr_lret C dX11_home_23 rfl ⟨rfl, rfl, rfl⟩
def q_X11_who (K : Nat) (h : mm_H) (n : Nat) (l0 : Nat) (l1 : Int32) (l2 : Int32) (l3 : Int32) (l4 : Int32) (l5 : Int32) : Option (Int64 × mm_H) :=
  (ckq h n l0 10).bind fun u1 =>
  (q_X11_isYearOf K h n l0 l1 l2 l3).bind fun v3 =>
  if v3 = 0 then
    some ((-2000000000000), h)
  else
  (q_X11_isIn K h n l4 0 2).bind fun v5 =>
  if v5 = 0 then
    some ((-2000000000000), h)
  else
  (q_X11_isIn K h n l5 0 14).bind fun v7 =>
  if v7 = 0 then
    some ((-2000000000000), h)
  else
  (ckq h n l0 10).bind fun u9 =>
  (q_X11_prepares K h n l0 l1).bind fun v11 =>
  (ckq v11 n l0 10).bind fun u13 =>
  (q_X11_lineOf K v11 n l0 l1 l2 l3 l5).bind fun v15 =>
  (ckq v15.2 n l0 10).bind fun u17 =>
  (q_X11_paid K v15.2 n l0 v15.1 l1 l2 l3 l4).bind fun v19 =>
  some (v19, v15.2)
set_option maxRecDepth 100000 in
set_option maxHeartbeats 4000000 in
theorem c_X11_who {K : Nat} {G : mm_G} {l : Launch} {h : mm_H} {n : Nat} (l0 : Nat) (l1 : Int32) (l2 : Int32) (l3 : Int32) (l4 : Int32) (l5 : Int32) {r_ : Int64 × mm_H} (hn : 48 ≤ n) (hr : q_X11_who K h n l0 l1 l2 l3 l4 l5 = some r_) : Sp G l yX11_who cX11_who 6 (some .long) 54 0 0 [.ref l0, .int l1, .int l2, .int l3, .int l4, .int l5] h n (fun v h' n' => v = some (.long r_.1) ∧ h' = r_.2 ∧ n' = n) := by
  refine Sp_of (by decide +kernel) (Nat.le_of_ble_eq_true rfl) hn ?_
  intro W0 hwl C
  subst hwl
  unfold q_X11_who at hr
  show WW W0 G 6 0 0 _ 0 [some (.ref l0), some (.int l1), some (.int l2), some (.int l3), some (.int l4), some (.int l5)] [] h n 0 0
  refine rr_aload_n (i := 0) C dX11_who_0 rfl rfl ?_
  refine rr_iload_n (i := 1) C dX11_who_1 rfl rfl ?_
  refine rr_iload_n (i := 2) C dX11_who_2 rfl rfl ?_
  refine rr_iload_n (i := 3) C dX11_who_3 rfl rfl ?_
  replace hr := Option.bind_eq_some_iff.mp hr
  obtain ⟨u1, e2, hr⟩ := hr
  replace hr := Option.bind_eq_some_iff.mp hr
  obtain ⟨v3, e4, hr⟩ := hr
  refine rr_callVq (as := [.int l1, .int l2, .int l3]) (st := []) (mc' := 0) (ms' := 0) C dX11_who_4 iv_X11_519 (by decide) e2 rfl (Nat.le_of_ble_eq_true rfl) (c_X11_isYearOf l0 l1 l2 l3 (by omega) e4) (fun v_ h_ n_ q_ => ?_)
  obtain ⟨q1_, q2_, q3_⟩ := q_
  subst v_; subst h_; subst n_
  show WW W0 G 6 _ _ _ 7 [some (.ref l0), some (.int l1), some (.int l2), some (.int l3), some (.int l4), some (.int l5)] [.int v3] h n _ _
  refine rr_if_eq (tgt := 31) C dX11_who_7 (by decide) (fun c7_ => ?_) (fun c7_ => ?_)
  · replace hr := (if_pos c7_).symm.trans hr
    refine rr_ldc2 C dX11_who_31 ct_X11_441 ?_
    obtain rfl := Option.some.inj hr
    exact rr_lret C dX11_who_34 rfl ⟨rfl, rfl, rfl⟩
  · replace hr := (if_neg c7_).symm.trans hr
    refine rr_iload C dX11_who_10 rfl ?_
    refine rr_iconst (v := 0) C dX11_who_12 (by decide) ?_
    refine rr_iconst (v := 2) C dX11_who_13 (by decide) ?_
    replace hr := Option.bind_eq_some_iff.mp hr
    obtain ⟨v5, e6, hr⟩ := hr
    refine rr_callS (as := [.int l4, .int 0, .int 2]) (st := []) (mc' := 0) (ms' := 0) C dX11_who_14 it_X11_165 (by decide) (Nat.le_of_ble_eq_true rfl) (c_X11_isIn l4 0 2 (by omega) e6) (fun v_ h_ n_ q_ => ?_)
    obtain ⟨q1_, q2_, q3_⟩ := q_
    subst v_; subst h_; subst n_
    show WW W0 G 6 _ _ _ 17 [some (.ref l0), some (.int l1), some (.int l2), some (.int l3), some (.int l4), some (.int l5)] [.int v5] h n _ _
    refine rr_if_eq (tgt := 31) C dX11_who_17 (by decide) (fun c17_ => ?_) (fun c17_ => ?_)
    · replace hr := (if_pos c17_).symm.trans hr
      refine rr_ldc2 C dX11_who_31 ct_X11_441 ?_
      obtain rfl := Option.some.inj hr
      exact rr_lret C dX11_who_34 rfl ⟨rfl, rfl, rfl⟩
    · replace hr := (if_neg c17_).symm.trans hr
      refine rr_iload C dX11_who_20 rfl ?_
      refine rr_iconst (v := 0) C dX11_who_22 (by decide) ?_
      refine rr_bipush (v := 14) C dX11_who_23 (by decide) ?_
      replace hr := Option.bind_eq_some_iff.mp hr
      obtain ⟨v7, e8, hr⟩ := hr
      refine rr_callS (as := [.int l5, .int 0, .int 14]) (st := []) (mc' := 0) (ms' := 0) C dX11_who_25 it_X11_165 (by decide) (Nat.le_of_ble_eq_true rfl) (c_X11_isIn l5 0 14 (by omega) e8) (fun v_ h_ n_ q_ => ?_)
      obtain ⟨q1_, q2_, q3_⟩ := q_
      subst v_; subst h_; subst n_
      show WW W0 G 6 _ _ _ 28 [some (.ref l0), some (.int l1), some (.int l2), some (.int l3), some (.int l4), some (.int l5)] [.int v7] h n _ _
      refine rr_if_ne (tgt := 35) C dX11_who_28 (by decide) (fun c28_ => ?_) (fun c28_ => ?_)
      · replace hr := (if_neg c28_).symm.trans hr
        refine rr_aload_n (i := 0) C dX11_who_35 rfl rfl ?_
        refine rr_iload_n (i := 1) C dX11_who_36 rfl rfl ?_
        replace hr := Option.bind_eq_some_iff.mp hr
        obtain ⟨u9, e10, hr⟩ := hr
        replace hr := Option.bind_eq_some_iff.mp hr
        obtain ⟨v11, e12, hr⟩ := hr
        refine rr_callVq (as := [.int l1]) (st := []) (mc' := 0) (ms' := 0) C dX11_who_37 iv_X11_438 (by decide) e10 rfl (Nat.le_of_ble_eq_true rfl) (c_X11_prepares l0 l1 (by omega) e12) (fun v_ h_ n_ q_ => ?_)
        obtain ⟨q1_, q2_, q3_⟩ := q_
        subst v_; subst h_; subst n_
        show WW W0 G 6 _ _ _ 40 [some (.ref l0), some (.int l1), some (.int l2), some (.int l3), some (.int l4), some (.int l5)] [] v11 n _ _
        refine rr_aload_n (i := 0) C dX11_who_40 rfl rfl ?_
        refine rr_aload_n (i := 0) C dX11_who_41 rfl rfl ?_
        refine rr_iload_n (i := 1) C dX11_who_42 rfl rfl ?_
        refine rr_iload_n (i := 2) C dX11_who_43 rfl rfl ?_
        refine rr_iload_n (i := 3) C dX11_who_44 rfl rfl ?_
        refine rr_iload C dX11_who_45 rfl ?_
        replace hr := Option.bind_eq_some_iff.mp hr
        obtain ⟨u13, e14, hr⟩ := hr
        replace hr := Option.bind_eq_some_iff.mp hr
        obtain ⟨v15, e16, hr⟩ := hr
        refine rr_callVq (as := [.int l1, .int l2, .int l3, .int l5]) (st := [.ref l0]) (mc' := 0) (ms' := 0) C dX11_who_47 iv_X11_522 (by decide) e14 rfl (Nat.le_of_ble_eq_true rfl) (c_X11_lineOf l0 l1 l2 l3 l5 (by omega) e16) (fun v_ h_ n_ q_ => ?_)
        obtain ⟨q1_, q2_, q3_⟩ := q_
        subst v_; subst h_; subst n_
        show WW W0 G 6 _ _ _ 50 [some (.ref l0), some (.int l1), some (.int l2), some (.int l3), some (.int l4), some (.int l5)] [.long v15.1, .ref l0] v15.2 n _ _
        refine rr_iload_n (i := 1) C dX11_who_50 rfl rfl ?_
        refine rr_iload_n (i := 2) C dX11_who_51 rfl rfl ?_
        refine rr_iload_n (i := 3) C dX11_who_52 rfl rfl ?_
        refine rr_iload C dX11_who_53 rfl ?_
        replace hr := Option.bind_eq_some_iff.mp hr
        obtain ⟨u17, e18, hr⟩ := hr
        replace hr := Option.bind_eq_some_iff.mp hr
        obtain ⟨v19, e20, hr⟩ := hr
        refine rr_callVq (as := [.long v15.1, .int l1, .int l2, .int l3, .int l4]) (st := []) (mc' := 0) (ms' := 0) C dX11_who_55 iv_X11_541 (by decide) e18 rfl (Nat.le_of_ble_eq_true rfl) (c_X11_paid l0 v15.1 l1 l2 l3 l4 (by omega) e20) (fun v_ h_ n_ q_ => ?_)
        obtain ⟨q1_, q2_, q3_⟩ := q_
        subst v_; subst h_; subst n_
        show WW W0 G 6 _ _ _ 58 [some (.ref l0), some (.int l1), some (.int l2), some (.int l3), some (.int l4), some (.int l5)] [.long v19] v15.2 n _ _
        obtain rfl := Option.some.inj hr
        exact rr_lret C dX11_who_58 rfl ⟨rfl, rfl, rfl⟩
      · replace hr := (if_pos c28_).symm.trans hr
        refine rr_ldc2 C dX11_who_31 ct_X11_441 ?_
        obtain rfl := Option.some.inj hr
        exact rr_lret C dX11_who_34 rfl ⟨rfl, rfl, rfl⟩
def q_X11_tried (K : Nat) (h : mm_H) (n : Nat) (l0 : Nat) (l1 : Int32) (l2 : Int32) : Option (Int64 × mm_H) :=
  (rdI h n l0 10 31).bind fun v1 =>
  if v1 = 0 then
    some ((-2000000000000), h)
  else
  (ckq h n l0 10).bind fun u3 =>
  (q_X11_isFirm K h n l0 l1).bind fun v5 =>
  if v5 = 0 then
    some ((-2000000000000), h)
  else
  (q_X11_isYear K h n l2).bind fun v7 =>
  if v7 = 0 then
    some ((-2000000000000), h)
  else
  (wrF h n l0 10 56 (.int (l2 / 5))).bind fun h9 =>
  (wrF h9 n l0 10 57 (.int 8)).bind fun h11 =>
  (ckq h11 n l0 10).bind fun u13 =>
  (q_X11_prepares K h11 n l0 l1).bind fun v15 =>
  (rdI v15 n l0 10 0).bind fun v17 =>
  (ckq v15 n l0 10).bind fun u19 =>
  (q_X11_revenueOf K v15 n l0 l1 l2 v17).bind fun v21 =>
  (wrF v21.2 n l0 10 56 (.int (-1))).bind fun h24 =>
  some (v21.1, h24)
set_option maxRecDepth 100000 in
set_option maxHeartbeats 4000000 in
theorem c_X11_tried {K : Nat} {G : mm_G} {l : Launch} {h : mm_H} {n : Nat} (l0 : Nat) (l1 : Int32) (l2 : Int32) {r_ : Int64 × mm_H} (hn : 48 ≤ n) (hr : q_X11_tried K h n l0 l1 l2 = some r_) : Sp G l yX11_tried cX11_tried 5 (some .long) 55 0 0 [.ref l0, .int l1, .int l2] h n (fun v h' n' => v = some (.long r_.1) ∧ h' = r_.2 ∧ n' = n) := by
  refine Sp_of (by decide +kernel) (Nat.le_of_ble_eq_true rfl) hn ?_
  intro W0 hwl C
  subst hwl
  unfold q_X11_tried at hr
  show WW W0 G 5 0 0 _ 0 [some (.ref l0), some (.int l1), some (.int l2), none, none] [] h n 0 0
  refine rr_aload_n (i := 0) C dX11_tried_0 rfl rfl ?_
  replace hr := Option.bind_eq_some_iff.mp hr
  obtain ⟨v1, e2, hr⟩ := hr
  refine rr_rdI C dX11_tried_1 fl_X11_393 e2 ?_
  refine rr_if_eq (tgt := 22) C dX11_tried_4 (by decide) (fun c4_ => ?_) (fun c4_ => ?_)
  · replace hr := (if_pos c4_).symm.trans hr
    refine rr_ldc2 C dX11_tried_22 ct_X11_441 ?_
    obtain rfl := Option.some.inj hr
    exact rr_lret C dX11_tried_25 rfl ⟨rfl, rfl, rfl⟩
  · replace hr := (if_neg c4_).symm.trans hr
    refine rr_aload_n (i := 0) C dX11_tried_7 rfl rfl ?_
    refine rr_iload_n (i := 1) C dX11_tried_8 rfl rfl ?_
    replace hr := Option.bind_eq_some_iff.mp hr
    obtain ⟨u3, e4, hr⟩ := hr
    replace hr := Option.bind_eq_some_iff.mp hr
    obtain ⟨v5, e6, hr⟩ := hr
    refine rr_callVq (as := [.int l1]) (st := []) (mc' := 0) (ms' := 0) C dX11_tried_9 iv_X11_177 (by decide) e4 rfl (Nat.le_of_ble_eq_true rfl) (c_X11_isFirm l0 l1 (by omega) e6) (fun v_ h_ n_ q_ => ?_)
    obtain ⟨q1_, q2_, q3_⟩ := q_
    subst v_; subst h_; subst n_
    show WW W0 G 5 _ _ _ 12 [some (.ref l0), some (.int l1), some (.int l2), none, none] [.int v5] h n _ _
    refine rr_if_eq (tgt := 22) C dX11_tried_12 (by decide) (fun c12_ => ?_) (fun c12_ => ?_)
    · replace hr := (if_pos c12_).symm.trans hr
      refine rr_ldc2 C dX11_tried_22 ct_X11_441 ?_
      obtain rfl := Option.some.inj hr
      exact rr_lret C dX11_tried_25 rfl ⟨rfl, rfl, rfl⟩
    · replace hr := (if_neg c12_).symm.trans hr
      refine rr_iload_n (i := 2) C dX11_tried_15 rfl rfl ?_
      replace hr := Option.bind_eq_some_iff.mp hr
      obtain ⟨v7, e8, hr⟩ := hr
      refine rr_callS (as := [.int l2]) (st := []) (mc' := 0) (ms' := 0) C dX11_tried_16 it_X11_181 (by decide) (Nat.le_of_ble_eq_true rfl) (c_X11_isYear l2 (by omega) e8) (fun v_ h_ n_ q_ => ?_)
      obtain ⟨q1_, q2_, q3_⟩ := q_
      subst v_; subst h_; subst n_
      show WW W0 G 5 _ _ _ 19 [some (.ref l0), some (.int l1), some (.int l2), none, none] [.int v7] h n _ _
      refine rr_if_ne (tgt := 26) C dX11_tried_19 (by decide) (fun c19_ => ?_) (fun c19_ => ?_)
      · replace hr := (if_neg c19_).symm.trans hr
        refine rr_aload_n (i := 0) C dX11_tried_26 rfl rfl ?_
        refine rr_iload_n (i := 2) C dX11_tried_27 rfl rfl ?_
        refine rr_iconst (v := 5) C dX11_tried_28 (by decide) ?_
        refine rr_idiv C dX11_tried_29 (by decide) ?_
        replace hr := Option.bind_eq_some_iff.mp hr
        obtain ⟨h9, e10, hr⟩ := hr
        refine rr_wrF C dX11_tried_30 fp_X11_138 rfl rfl e10 ?_
        refine rr_aload_n (i := 0) C dX11_tried_33 rfl rfl ?_
        refine rr_bipush (v := 8) C dX11_tried_34 (by decide) ?_
        replace hr := Option.bind_eq_some_iff.mp hr
        obtain ⟨h11, e12, hr⟩ := hr
        refine rr_wrF C dX11_tried_36 fp_X11_397 rfl rfl e12 ?_
        refine rr_aload_n (i := 0) C dX11_tried_39 rfl rfl ?_
        refine rr_iload_n (i := 1) C dX11_tried_40 rfl rfl ?_
        replace hr := Option.bind_eq_some_iff.mp hr
        obtain ⟨u13, e14, hr⟩ := hr
        replace hr := Option.bind_eq_some_iff.mp hr
        obtain ⟨v15, e16, hr⟩ := hr
        refine rr_callVq (as := [.int l1]) (st := []) (mc' := 0) (ms' := 0) C dX11_tried_41 iv_X11_438 (by decide) e14 rfl (Nat.le_of_ble_eq_true rfl) (c_X11_prepares l0 l1 (by omega) e16) (fun v_ h_ n_ q_ => ?_)
        obtain ⟨q1_, q2_, q3_⟩ := q_
        subst v_; subst h_; subst n_
        show WW W0 G 5 _ _ _ 44 [some (.ref l0), some (.int l1), some (.int l2), none, none] [] v15 n _ _
        refine rr_aload_n (i := 0) C dX11_tried_44 rfl rfl ?_
        refine rr_iload_n (i := 1) C dX11_tried_45 rfl rfl ?_
        refine rr_iload_n (i := 2) C dX11_tried_46 rfl rfl ?_
        refine rr_aload_n (i := 0) C dX11_tried_47 rfl rfl ?_
        replace hr := Option.bind_eq_some_iff.mp hr
        obtain ⟨v17, e18, hr⟩ := hr
        refine rr_rdI C dX11_tried_48 fl_X11_172 e18 ?_
        replace hr := Option.bind_eq_some_iff.mp hr
        obtain ⟨u19, e20, hr⟩ := hr
        replace hr := Option.bind_eq_some_iff.mp hr
        obtain ⟨v21, e22, hr⟩ := hr
        refine rr_callVq (as := [.int l1, .int l2, .int v17]) (st := []) (mc' := 0) (ms' := 0) C dX11_tried_51 iv_X11_525 (by decide) e20 rfl (Nat.le_of_ble_eq_true rfl) (c_X11_revenueOf l0 l1 l2 v17 (by omega) e22) (fun v_ h_ n_ q_ => ?_)
        obtain ⟨q1_, q2_, q3_⟩ := q_
        subst v_; subst h_; subst n_
        show WW W0 G 5 _ _ _ 54 [some (.ref l0), some (.int l1), some (.int l2), none, none] [.long v21.1] v21.2 n _ _
        refine rr_lstore_n (i := 3) C dX11_tried_54 rfl (by decide) ?_
        show WW W0 G 5 _ _ _ 55 [some (.ref l0), some (.int l1), some (.int l2), some (.long v21.1), none] [] v21.2 n _ _
        refine rr_aload_n (i := 0) C dX11_tried_55 rfl rfl ?_
        refine rr_iconst (v := (-1)) C dX11_tried_56 (by decide) ?_
        replace hr := Option.bind_eq_some_iff.mp hr
        obtain ⟨h24, e25, hr⟩ := hr
        refine rr_wrF C dX11_tried_57 fp_X11_138 rfl rfl e25 ?_
        refine rr_lload_n (i := 3) C dX11_tried_60 rfl rfl ?_
        obtain rfl := Option.some.inj hr
        exact rr_lret C dX11_tried_61 rfl ⟨rfl, rfl, rfl⟩
      · replace hr := (if_pos c19_).symm.trans hr
        refine rr_ldc2 C dX11_tried_22 ct_X11_441 ?_
        obtain rfl := Option.some.inj hr
        exact rr_lret C dX11_tried_25 rfl ⟨rfl, rfl, rfl⟩

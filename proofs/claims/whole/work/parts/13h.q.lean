def q_X11_bench (K : Nat) (h : mm_H) (n : Nat) (l0 : Nat) (l1 : Int32) (l2 : Int32) (l3 : Int32) (l4 : Int32) : Option (Int32 × mm_H) :=
  (ckq h n l0 10).bind fun u1 =>
  (q_X11_isFirm K h n l0 l1).bind fun v3 =>
  if v3 = 0 then
    some ((-1), h)
  else
  (q_X11_isHead K h n l2).bind fun v5 =>
  if v5 = 0 then
    some ((-1), h)
  else
  (q_X11_isYear K h n l3).bind fun v7 =>
  if v7 = 0 then
    some ((-1), h)
  else
  (q_X11_isIn K h n l4 0 99999).bind fun v9 =>
  if v9 = 0 then
    some ((-1), h)
  else
  (rdI h n l0 10 9).bind fun v11 =>
  if v11 = 20 then
    some ((-1), h)
  else
  (rdR h n l0 10 15).bind fun v13 =>
  (rdI h n l0 10 9).bind fun v15 =>
  v13.bind fun a17 =>
  (stI h n a17 v15 l1).bind fun h19 =>
  (rdR h19 n l0 10 16).bind fun v21 =>
  (rdI h19 n l0 10 9).bind fun v23 =>
  v21.bind fun a25 =>
  (stI h19 n a25 v23 l2).bind fun h27 =>
  (rdR h27 n l0 10 17).bind fun v29 =>
  (rdI h27 n l0 10 9).bind fun v31 =>
  v29.bind fun a33 =>
  (stI h27 n a33 v31 l3).bind fun h35 =>
  (rdR h35 n l0 10 18).bind fun v37 =>
  (rdI h35 n l0 10 9).bind fun v39 =>
  v37.bind fun a41 =>
  (stI h35 n a41 v39 l4).bind fun h43 =>
  (rdR h43 n l0 10 19).bind fun v45 =>
  (rdI h43 n l0 10 9).bind fun v47 =>
  (rdI h43 n l0 10 0).bind fun v49 =>
  v45.bind fun a51 =>
  (stI h43 n a51 v47 v49).bind fun h53 =>
  (rdI h53 n l0 10 9).bind fun v55 =>
  (wrF h53 n l0 10 9 (.int (v55 + 1))).bind fun h57 =>
  (rdI h57 n l0 10 9).bind fun v59 =>
  some (v59, h57)
set_option maxRecDepth 100000 in
set_option maxHeartbeats 4000000 in
theorem c_X11_bench {K : Nat} {G : mm_G} {l : Launch} {h : mm_H} {n : Nat} (l0 : Nat) (l1 : Int32) (l2 : Int32) (l3 : Int32) (l4 : Int32) {r_ : Int32 × mm_H} (hn : 32 ≤ n) (hr : q_X11_bench K h n l0 l1 l2 l3 l4 = some r_) : Sp G l yX11_bench cX11_bench 5 (some .int) 2 0 0 [.ref l0, .int l1, .int l2, .int l3, .int l4] h n (fun v h' n' => v = some (.int r_.1) ∧ h' = r_.2 ∧ n' = n) := by
  refine Sp_of (by decide +kernel) (Nat.le_of_ble_eq_true rfl) hn ?_
  intro W0 hwl C
  subst hwl
  unfold q_X11_bench at hr
  show WW W0 G 5 0 0 _ 0 [some (.ref l0), some (.int l1), some (.int l2), some (.int l3), some (.int l4)] [] h n 0 0
  refine rr_aload_n (i := 0) C dX11_bench_0 rfl rfl ?_
  refine rr_iload_n (i := 1) C dX11_bench_1 rfl rfl ?_
  replace hr := Option.bind_eq_some_iff.mp hr
  obtain ⟨u1, e2, hr⟩ := hr
  replace hr := Option.bind_eq_some_iff.mp hr
  obtain ⟨v3, e4, hr⟩ := hr
  refine rr_callVq (as := [.int l1]) (st := []) (mc' := 0) (ms' := 0) C dX11_bench_2 iv_X11_177 (by decide) e2 rfl (Nat.le_of_ble_eq_true rfl) (c_X11_isFirm l0 l1 (by omega) e4) (fun v_ h_ n_ q_ => ?_)
  obtain ⟨q1_, q2_, q3_⟩ := q_
  subst v_; subst h_; subst n_
  show WW W0 G 5 _ _ _ 5 [some (.ref l0), some (.int l1), some (.int l2), some (.int l3), some (.int l4)] [.int v3] h n _ _
  refine rr_if_eq (tgt := 42) C dX11_bench_5 (by decide) (fun c5_ => ?_) (fun c5_ => ?_)
  · replace hr := (if_pos c5_).symm.trans hr
    refine rr_iconst (v := (-1)) C dX11_bench_42 (by decide) ?_
    obtain rfl := Option.some.inj hr
    exact rr_iret (ty := .int) C dX11_bench_43 rfl rfl ⟨rfl, rfl, rfl⟩
  · replace hr := (if_neg c5_).symm.trans hr
    refine rr_iload_n (i := 2) C dX11_bench_8 rfl rfl ?_
    replace hr := Option.bind_eq_some_iff.mp hr
    obtain ⟨v5, e6, hr⟩ := hr
    refine rr_callS (as := [.int l2]) (st := []) (mc' := 0) (ms' := 0) C dX11_bench_9 it_X11_205 (by decide) (Nat.le_of_ble_eq_true rfl) (c_X11_isHead l2 (by omega) e6) (fun v_ h_ n_ q_ => ?_)
    obtain ⟨q1_, q2_, q3_⟩ := q_
    subst v_; subst h_; subst n_
    show WW W0 G 5 _ _ _ 12 [some (.ref l0), some (.int l1), some (.int l2), some (.int l3), some (.int l4)] [.int v5] h n _ _
    refine rr_if_eq (tgt := 42) C dX11_bench_12 (by decide) (fun c12_ => ?_) (fun c12_ => ?_)
    · replace hr := (if_pos c12_).symm.trans hr
      refine rr_iconst (v := (-1)) C dX11_bench_42 (by decide) ?_
      obtain rfl := Option.some.inj hr
      exact rr_iret (ty := .int) C dX11_bench_43 rfl rfl ⟨rfl, rfl, rfl⟩
    · replace hr := (if_neg c12_).symm.trans hr
      refine rr_iload_n (i := 3) C dX11_bench_15 rfl rfl ?_
      replace hr := Option.bind_eq_some_iff.mp hr
      obtain ⟨v7, e8, hr⟩ := hr
      refine rr_callS (as := [.int l3]) (st := []) (mc' := 0) (ms' := 0) C dX11_bench_16 it_X11_181 (by decide) (Nat.le_of_ble_eq_true rfl) (c_X11_isYear l3 (by omega) e8) (fun v_ h_ n_ q_ => ?_)
      obtain ⟨q1_, q2_, q3_⟩ := q_
      subst v_; subst h_; subst n_
      show WW W0 G 5 _ _ _ 19 [some (.ref l0), some (.int l1), some (.int l2), some (.int l3), some (.int l4)] [.int v7] h n _ _
      refine rr_if_eq (tgt := 42) C dX11_bench_19 (by decide) (fun c19_ => ?_) (fun c19_ => ?_)
      · replace hr := (if_pos c19_).symm.trans hr
        refine rr_iconst (v := (-1)) C dX11_bench_42 (by decide) ?_
        obtain rfl := Option.some.inj hr
        exact rr_iret (ty := .int) C dX11_bench_43 rfl rfl ⟨rfl, rfl, rfl⟩
      · replace hr := (if_neg c19_).symm.trans hr
        refine rr_iload C dX11_bench_22 rfl ?_
        refine rr_iconst (v := 0) C dX11_bench_24 (by decide) ?_
        refine rr_ldc C dX11_bench_25 ct_X11_176 ?_
        replace hr := Option.bind_eq_some_iff.mp hr
        obtain ⟨v9, e10, hr⟩ := hr
        refine rr_callS (as := [.int l4, .int 0, .int 99999]) (st := []) (mc' := 0) (ms' := 0) C dX11_bench_27 it_X11_165 (by decide) (Nat.le_of_ble_eq_true rfl) (c_X11_isIn l4 0 99999 (by omega) e10) (fun v_ h_ n_ q_ => ?_)
        obtain ⟨q1_, q2_, q3_⟩ := q_
        subst v_; subst h_; subst n_
        show WW W0 G 5 _ _ _ 30 [some (.ref l0), some (.int l1), some (.int l2), some (.int l3), some (.int l4)] [.int v9] h n _ _
        refine rr_if_eq (tgt := 42) C dX11_bench_30 (by decide) (fun c30_ => ?_) (fun c30_ => ?_)
        · replace hr := (if_pos c30_).symm.trans hr
          refine rr_iconst (v := (-1)) C dX11_bench_42 (by decide) ?_
          obtain rfl := Option.some.inj hr
          exact rr_iret (ty := .int) C dX11_bench_43 rfl rfl ⟨rfl, rfl, rfl⟩
        · replace hr := (if_neg c30_).symm.trans hr
          refine rr_aload_n (i := 0) C dX11_bench_33 rfl rfl ?_
          replace hr := Option.bind_eq_some_iff.mp hr
          obtain ⟨v11, e12, hr⟩ := hr
          refine rr_rdI C dX11_bench_34 fl_X11_208 e12 ?_
          refine rr_bipush (v := 20) C dX11_bench_37 (by decide) ?_
          refine rr_icmp_ne (tgt := 44) C dX11_bench_39 (by decide) (fun c39_ => ?_) (fun c39_ => ?_)
          · replace hr := (if_neg c39_).symm.trans hr
            refine rr_aload_n (i := 0) C dX11_bench_44 rfl rfl ?_
            replace hr := Option.bind_eq_some_iff.mp hr
            obtain ⟨v13, e14, hr⟩ := hr
            refine rr_rdR C dX11_bench_45 fl_X11_38 e14 ?_
            refine rr_aload_n (i := 0) C dX11_bench_48 rfl rfl ?_
            replace hr := Option.bind_eq_some_iff.mp hr
            obtain ⟨v15, e16, hr⟩ := hr
            refine rr_rdI C dX11_bench_49 fl_X11_208 e16 ?_
            refine rr_iload_n (i := 1) C dX11_bench_52 rfl rfl ?_
            replace hr := Option.bind_eq_some_iff.mp hr
            obtain ⟨a17, e18, hr⟩ := hr
            subst e18
            replace hr := Option.bind_eq_some_iff.mp hr
            obtain ⟨h19, e20, hr⟩ := hr
            refine rr_stI C dX11_bench_53 e20 ?_
            refine rr_aload_n (i := 0) C dX11_bench_54 rfl rfl ?_
            replace hr := Option.bind_eq_some_iff.mp hr
            obtain ⟨v21, e22, hr⟩ := hr
            refine rr_rdR C dX11_bench_55 fl_X11_41 e22 ?_
            refine rr_aload_n (i := 0) C dX11_bench_58 rfl rfl ?_
            replace hr := Option.bind_eq_some_iff.mp hr
            obtain ⟨v23, e24, hr⟩ := hr
            refine rr_rdI C dX11_bench_59 fl_X11_208 e24 ?_
            refine rr_iload_n (i := 2) C dX11_bench_62 rfl rfl ?_
            replace hr := Option.bind_eq_some_iff.mp hr
            obtain ⟨a25, e26, hr⟩ := hr
            subst e26
            replace hr := Option.bind_eq_some_iff.mp hr
            obtain ⟨h27, e28, hr⟩ := hr
            refine rr_stI C dX11_bench_63 e28 ?_
            refine rr_aload_n (i := 0) C dX11_bench_64 rfl rfl ?_
            replace hr := Option.bind_eq_some_iff.mp hr
            obtain ⟨v29, e30, hr⟩ := hr
            refine rr_rdR C dX11_bench_65 fl_X11_44 e30 ?_
            refine rr_aload_n (i := 0) C dX11_bench_68 rfl rfl ?_
            replace hr := Option.bind_eq_some_iff.mp hr
            obtain ⟨v31, e32, hr⟩ := hr
            refine rr_rdI C dX11_bench_69 fl_X11_208 e32 ?_
            refine rr_iload_n (i := 3) C dX11_bench_72 rfl rfl ?_
            replace hr := Option.bind_eq_some_iff.mp hr
            obtain ⟨a33, e34, hr⟩ := hr
            subst e34
            replace hr := Option.bind_eq_some_iff.mp hr
            obtain ⟨h35, e36, hr⟩ := hr
            refine rr_stI C dX11_bench_73 e36 ?_
            refine rr_aload_n (i := 0) C dX11_bench_74 rfl rfl ?_
            replace hr := Option.bind_eq_some_iff.mp hr
            obtain ⟨v37, e38, hr⟩ := hr
            refine rr_rdR C dX11_bench_75 fl_X11_47 e38 ?_
            refine rr_aload_n (i := 0) C dX11_bench_78 rfl rfl ?_
            replace hr := Option.bind_eq_some_iff.mp hr
            obtain ⟨v39, e40, hr⟩ := hr
            refine rr_rdI C dX11_bench_79 fl_X11_208 e40 ?_
            refine rr_iload C dX11_bench_82 rfl ?_
            replace hr := Option.bind_eq_some_iff.mp hr
            obtain ⟨a41, e42, hr⟩ := hr
            subst e42
            replace hr := Option.bind_eq_some_iff.mp hr
            obtain ⟨h43, e44, hr⟩ := hr
            refine rr_stI C dX11_bench_84 e44 ?_
            refine rr_aload_n (i := 0) C dX11_bench_85 rfl rfl ?_
            replace hr := Option.bind_eq_some_iff.mp hr
            obtain ⟨v45, e46, hr⟩ := hr
            refine rr_rdR C dX11_bench_86 fl_X11_50 e46 ?_
            refine rr_aload_n (i := 0) C dX11_bench_89 rfl rfl ?_
            replace hr := Option.bind_eq_some_iff.mp hr
            obtain ⟨v47, e48, hr⟩ := hr
            refine rr_rdI C dX11_bench_90 fl_X11_208 e48 ?_
            refine rr_aload_n (i := 0) C dX11_bench_93 rfl rfl ?_
            replace hr := Option.bind_eq_some_iff.mp hr
            obtain ⟨v49, e50, hr⟩ := hr
            refine rr_rdI C dX11_bench_94 fl_X11_172 e50 ?_
            replace hr := Option.bind_eq_some_iff.mp hr
            obtain ⟨a51, e52, hr⟩ := hr
            subst e52
            replace hr := Option.bind_eq_some_iff.mp hr
            obtain ⟨h53, e54, hr⟩ := hr
            refine rr_stI C dX11_bench_97 e54 ?_
            refine rr_aload_n (i := 0) C dX11_bench_98 rfl rfl ?_
            refine rr_dup C dX11_bench_99 rfl ?_
            replace hr := Option.bind_eq_some_iff.mp hr
            obtain ⟨v55, e56, hr⟩ := hr
            refine rr_rdI C dX11_bench_100 fl_X11_208 e56 ?_
            refine rr_iconst (v := 1) C dX11_bench_103 (by decide) ?_
            refine rr_iadd C dX11_bench_104 ?_
            replace hr := Option.bind_eq_some_iff.mp hr
            obtain ⟨h57, e58, hr⟩ := hr
            refine rr_wrF C dX11_bench_105 fp_X11_208 rfl rfl e58 ?_
            refine rr_aload_n (i := 0) C dX11_bench_108 rfl rfl ?_
            replace hr := Option.bind_eq_some_iff.mp hr
            obtain ⟨v59, e60, hr⟩ := hr
            refine rr_rdI C dX11_bench_109 fl_X11_208 e60 ?_
            obtain rfl := Option.some.inj hr
            exact rr_iret (ty := .int) C dX11_bench_112 rfl rfl ⟨rfl, rfl, rfl⟩
          · replace hr := (if_pos c39_).symm.trans hr
            refine rr_iconst (v := (-1)) C dX11_bench_42 (by decide) ?_
            obtain rfl := Option.some.inj hr
            exact rr_iret (ty := .int) C dX11_bench_43 rfl rfl ⟨rfl, rfl, rfl⟩
def q_X11_log (K : Nat) (h : mm_H) (n : Nat) (l0 : Nat) (l1 : Int32) (l2 : Int32) (l3 : Int32) : Option (Int32 × mm_H) :=
  (ckq h n l0 10).bind fun u1 =>
  (q_X11_isFirm K h n l0 l1).bind fun v3 =>
  if v3 = 0 then
    some ((-1), h)
  else
  (rdI h n l0 10 0).bind fun v5 =>
  (q_X11_isIn K h n l2 ((v5 / 100) + 1) 14).bind fun v7 =>
  if v7 = 0 then
    some ((-1), h)
  else
  (q_X11_isIn K h n l3 1 99999).bind fun v9 =>
  if v9 = 0 then
    some ((-1), h)
  else
  (rdI h n l0 10 10).bind fun v11 =>
  if v11 = 20 then
    some ((-1), h)
  else
  (rdR h n l0 10 20).bind fun v13 =>
  (rdI h n l0 10 10).bind fun v15 =>
  v13.bind fun a17 =>
  (stI h n a17 v15 l1).bind fun h19 =>
  (rdR h19 n l0 10 21).bind fun v21 =>
  (rdI h19 n l0 10 10).bind fun v23 =>
  v21.bind fun a25 =>
  (stI h19 n a25 v23 l2).bind fun h27 =>
  (rdR h27 n l0 10 22).bind fun v29 =>
  (rdI h27 n l0 10 10).bind fun v31 =>
  v29.bind fun a33 =>
  (stI h27 n a33 v31 l3).bind fun h35 =>
  (rdR h35 n l0 10 23).bind fun v37 =>
  (rdI h35 n l0 10 10).bind fun v39 =>
  (rdI h35 n l0 10 0).bind fun v41 =>
  v37.bind fun a43 =>
  (stI h35 n a43 v39 v41).bind fun h45 =>
  (rdI h45 n l0 10 10).bind fun v47 =>
  (wrF h45 n l0 10 10 (.int (v47 + 1))).bind fun h49 =>
  (rdI h49 n l0 10 10).bind fun v51 =>
  some (v51, h49)
set_option maxRecDepth 100000 in
set_option maxHeartbeats 4000000 in
theorem c_X11_log {K : Nat} {G : mm_G} {l : Launch} {h : mm_H} {n : Nat} (l0 : Nat) (l1 : Int32) (l2 : Int32) (l3 : Int32) {r_ : Int32 × mm_H} (hn : 32 ≤ n) (hr : q_X11_log K h n l0 l1 l2 l3 = some r_) : Sp G l yX11_log cX11_log 4 (some .int) 2 0 0 [.ref l0, .int l1, .int l2, .int l3] h n (fun v h' n' => v = some (.int r_.1) ∧ h' = r_.2 ∧ n' = n) := by
  refine Sp_of (by decide +kernel) (Nat.le_of_ble_eq_true rfl) hn ?_
  intro W0 hwl C
  subst hwl
  unfold q_X11_log at hr
  show WW W0 G 4 0 0 _ 0 [some (.ref l0), some (.int l1), some (.int l2), some (.int l3)] [] h n 0 0
  refine rr_aload_n (i := 0) C dX11_log_0 rfl rfl ?_
  refine rr_iload_n (i := 1) C dX11_log_1 rfl rfl ?_
  replace hr := Option.bind_eq_some_iff.mp hr
  obtain ⟨u1, e2, hr⟩ := hr
  replace hr := Option.bind_eq_some_iff.mp hr
  obtain ⟨v3, e4, hr⟩ := hr
  refine rr_callVq (as := [.int l1]) (st := []) (mc' := 0) (ms' := 0) C dX11_log_2 iv_X11_177 (by decide) e2 rfl (Nat.le_of_ble_eq_true rfl) (c_X11_isFirm l0 l1 (by omega) e4) (fun v_ h_ n_ q_ => ?_)
  obtain ⟨q1_, q2_, q3_⟩ := q_
  subst v_; subst h_; subst n_
  show WW W0 G 4 _ _ _ 5 [some (.ref l0), some (.int l1), some (.int l2), some (.int l3)] [.int v3] h n _ _
  refine rr_if_eq (tgt := 45) C dX11_log_5 (by decide) (fun c5_ => ?_) (fun c5_ => ?_)
  · replace hr := (if_pos c5_).symm.trans hr
    refine rr_iconst (v := (-1)) C dX11_log_45 (by decide) ?_
    obtain rfl := Option.some.inj hr
    exact rr_iret (ty := .int) C dX11_log_46 rfl rfl ⟨rfl, rfl, rfl⟩
  · replace hr := (if_neg c5_).symm.trans hr
    refine rr_iload_n (i := 2) C dX11_log_8 rfl rfl ?_
    refine rr_aload_n (i := 0) C dX11_log_9 rfl rfl ?_
    replace hr := Option.bind_eq_some_iff.mp hr
    obtain ⟨v5, e6, hr⟩ := hr
    refine rr_rdI C dX11_log_10 fl_X11_172 e6 ?_
    refine rr_bipush (v := 100) C dX11_log_13 (by decide) ?_
    refine rr_idiv C dX11_log_15 (by decide) ?_
    refine rr_iconst (v := 1) C dX11_log_16 (by decide) ?_
    refine rr_iadd C dX11_log_17 ?_
    refine rr_bipush (v := 14) C dX11_log_18 (by decide) ?_
    replace hr := Option.bind_eq_some_iff.mp hr
    obtain ⟨v7, e8, hr⟩ := hr
    refine rr_callS (as := [.int l2, .int ((v5 / 100) + 1), .int 14]) (st := []) (mc' := 0) (ms' := 0) C dX11_log_20 it_X11_165 (by decide) (Nat.le_of_ble_eq_true rfl) (c_X11_isIn l2 ((v5 / 100) + 1) 14 (by omega) e8) (fun v_ h_ n_ q_ => ?_)
    obtain ⟨q1_, q2_, q3_⟩ := q_
    subst v_; subst h_; subst n_
    show WW W0 G 4 _ _ _ 23 [some (.ref l0), some (.int l1), some (.int l2), some (.int l3)] [.int v7] h n _ _
    refine rr_if_eq (tgt := 45) C dX11_log_23 (by decide) (fun c23_ => ?_) (fun c23_ => ?_)
    · replace hr := (if_pos c23_).symm.trans hr
      refine rr_iconst (v := (-1)) C dX11_log_45 (by decide) ?_
      obtain rfl := Option.some.inj hr
      exact rr_iret (ty := .int) C dX11_log_46 rfl rfl ⟨rfl, rfl, rfl⟩
    · replace hr := (if_neg c23_).symm.trans hr
      refine rr_iload_n (i := 3) C dX11_log_26 rfl rfl ?_
      refine rr_iconst (v := 1) C dX11_log_27 (by decide) ?_
      refine rr_ldc C dX11_log_28 ct_X11_176 ?_
      replace hr := Option.bind_eq_some_iff.mp hr
      obtain ⟨v9, e10, hr⟩ := hr
      refine rr_callS (as := [.int l3, .int 1, .int 99999]) (st := []) (mc' := 0) (ms' := 0) C dX11_log_30 it_X11_165 (by decide) (Nat.le_of_ble_eq_true rfl) (c_X11_isIn l3 1 99999 (by omega) e10) (fun v_ h_ n_ q_ => ?_)
      obtain ⟨q1_, q2_, q3_⟩ := q_
      subst v_; subst h_; subst n_
      show WW W0 G 4 _ _ _ 33 [some (.ref l0), some (.int l1), some (.int l2), some (.int l3)] [.int v9] h n _ _
      refine rr_if_eq (tgt := 45) C dX11_log_33 (by decide) (fun c33_ => ?_) (fun c33_ => ?_)
      · replace hr := (if_pos c33_).symm.trans hr
        refine rr_iconst (v := (-1)) C dX11_log_45 (by decide) ?_
        obtain rfl := Option.some.inj hr
        exact rr_iret (ty := .int) C dX11_log_46 rfl rfl ⟨rfl, rfl, rfl⟩
      · replace hr := (if_neg c33_).symm.trans hr
        refine rr_aload_n (i := 0) C dX11_log_36 rfl rfl ?_
        replace hr := Option.bind_eq_some_iff.mp hr
        obtain ⟨v11, e12, hr⟩ := hr
        refine rr_rdI C dX11_log_37 fl_X11_211 e12 ?_
        refine rr_bipush (v := 20) C dX11_log_40 (by decide) ?_
        refine rr_icmp_ne (tgt := 47) C dX11_log_42 (by decide) (fun c42_ => ?_) (fun c42_ => ?_)
        · replace hr := (if_neg c42_).symm.trans hr
          refine rr_aload_n (i := 0) C dX11_log_47 rfl rfl ?_
          replace hr := Option.bind_eq_some_iff.mp hr
          obtain ⟨v13, e14, hr⟩ := hr
          refine rr_rdR C dX11_log_48 fl_X11_53 e14 ?_
          refine rr_aload_n (i := 0) C dX11_log_51 rfl rfl ?_
          replace hr := Option.bind_eq_some_iff.mp hr
          obtain ⟨v15, e16, hr⟩ := hr
          refine rr_rdI C dX11_log_52 fl_X11_211 e16 ?_
          refine rr_iload_n (i := 1) C dX11_log_55 rfl rfl ?_
          replace hr := Option.bind_eq_some_iff.mp hr
          obtain ⟨a17, e18, hr⟩ := hr
          subst e18
          replace hr := Option.bind_eq_some_iff.mp hr
          obtain ⟨h19, e20, hr⟩ := hr
          refine rr_stI C dX11_log_56 e20 ?_
          refine rr_aload_n (i := 0) C dX11_log_57 rfl rfl ?_
          replace hr := Option.bind_eq_some_iff.mp hr
          obtain ⟨v21, e22, hr⟩ := hr
          refine rr_rdR C dX11_log_58 fl_X11_56 e22 ?_
          refine rr_aload_n (i := 0) C dX11_log_61 rfl rfl ?_
          replace hr := Option.bind_eq_some_iff.mp hr
          obtain ⟨v23, e24, hr⟩ := hr
          refine rr_rdI C dX11_log_62 fl_X11_211 e24 ?_
          refine rr_iload_n (i := 2) C dX11_log_65 rfl rfl ?_
          replace hr := Option.bind_eq_some_iff.mp hr
          obtain ⟨a25, e26, hr⟩ := hr
          subst e26
          replace hr := Option.bind_eq_some_iff.mp hr
          obtain ⟨h27, e28, hr⟩ := hr
          refine rr_stI C dX11_log_66 e28 ?_
          refine rr_aload_n (i := 0) C dX11_log_67 rfl rfl ?_
          replace hr := Option.bind_eq_some_iff.mp hr
          obtain ⟨v29, e30, hr⟩ := hr
          refine rr_rdR C dX11_log_68 fl_X11_59 e30 ?_
          refine rr_aload_n (i := 0) C dX11_log_71 rfl rfl ?_
          replace hr := Option.bind_eq_some_iff.mp hr
          obtain ⟨v31, e32, hr⟩ := hr
          refine rr_rdI C dX11_log_72 fl_X11_211 e32 ?_
          refine rr_iload_n (i := 3) C dX11_log_75 rfl rfl ?_
          replace hr := Option.bind_eq_some_iff.mp hr
          obtain ⟨a33, e34, hr⟩ := hr
          subst e34
          replace hr := Option.bind_eq_some_iff.mp hr
          obtain ⟨h35, e36, hr⟩ := hr
          refine rr_stI C dX11_log_76 e36 ?_
          refine rr_aload_n (i := 0) C dX11_log_77 rfl rfl ?_
          replace hr := Option.bind_eq_some_iff.mp hr
          obtain ⟨v37, e38, hr⟩ := hr
          refine rr_rdR C dX11_log_78 fl_X11_62 e38 ?_
          refine rr_aload_n (i := 0) C dX11_log_81 rfl rfl ?_
          replace hr := Option.bind_eq_some_iff.mp hr
          obtain ⟨v39, e40, hr⟩ := hr
          refine rr_rdI C dX11_log_82 fl_X11_211 e40 ?_
          refine rr_aload_n (i := 0) C dX11_log_85 rfl rfl ?_
          replace hr := Option.bind_eq_some_iff.mp hr
          obtain ⟨v41, e42, hr⟩ := hr
          refine rr_rdI C dX11_log_86 fl_X11_172 e42 ?_
          replace hr := Option.bind_eq_some_iff.mp hr
          obtain ⟨a43, e44, hr⟩ := hr
          subst e44
          replace hr := Option.bind_eq_some_iff.mp hr
          obtain ⟨h45, e46, hr⟩ := hr
          refine rr_stI C dX11_log_89 e46 ?_
          refine rr_aload_n (i := 0) C dX11_log_90 rfl rfl ?_
          refine rr_dup C dX11_log_91 rfl ?_
          replace hr := Option.bind_eq_some_iff.mp hr
          obtain ⟨v47, e48, hr⟩ := hr
          refine rr_rdI C dX11_log_92 fl_X11_211 e48 ?_
          refine rr_iconst (v := 1) C dX11_log_95 (by decide) ?_
          refine rr_iadd C dX11_log_96 ?_
          replace hr := Option.bind_eq_some_iff.mp hr
          obtain ⟨h49, e50, hr⟩ := hr
          refine rr_wrF C dX11_log_97 fp_X11_211 rfl rfl e50 ?_
          refine rr_aload_n (i := 0) C dX11_log_100 rfl rfl ?_
          replace hr := Option.bind_eq_some_iff.mp hr
          obtain ⟨v51, e52, hr⟩ := hr
          refine rr_rdI C dX11_log_101 fl_X11_211 e52 ?_
          obtain rfl := Option.some.inj hr
          exact rr_iret (ty := .int) C dX11_log_104 rfl rfl ⟨rfl, rfl, rfl⟩
        · replace hr := (if_pos c42_).symm.trans hr
          refine rr_iconst (v := (-1)) C dX11_log_45 (by decide) ?_
          obtain rfl := Option.some.inj hr
          exact rr_iret (ty := .int) C dX11_log_46 rfl rfl ⟨rfl, rfl, rfl⟩
def lp_X11_four_3 (K : Nat) (n : Nat) (l0 : Nat) (l1 : Int32) : Nat → Int32 → mm_H → Option (mm_H)
  | 0, _, _ => none
  | k_ + 1, l2, h =>
    if l2 < 0 then
      some (h)
    else
    (rdR h n l0 10 52).bind fun v1 =>
    (rdI h n l0 10 26).bind fun v3 =>
    v1.bind fun a5 =>
    (stB h n a5 v3 ((Int32.toInt8 (l1 >>> (l2 &&& 31))).toInt32)).bind fun h7 =>
    (rdI h7 n l0 10 26).bind fun v9 =>
    (wrF h7 n l0 10 26 (.int (v9 + 1))).bind fun h11 =>
    lp_X11_four_3 K n l0 l1 k_ (l2 + (-8)) h11
def q_X11_four (K : Nat) (h : mm_H) (n : Nat) (l0 : Nat) (l1 : Int32) : Option (mm_H) :=
  (lp_X11_four_3 K n l0 l1 K 24 h).bind fun v13 =>
  some v13
set_option maxRecDepth 100000 in
set_option maxHeartbeats 4000000 in
theorem w_X11_four_3 {K : Nat} {W0 : mm_X} {G : mm_G} {mc ms kc ks : Nat} {Q_ : State → Prop} {n : Nat} (C : mm_C W0 G cX11_four yX11_four.cls 3 mc ms none 0 yX11_four.name) (hn : 32 ≤ n) (l0 : Nat) (l1 : Int32) : ∀ (k_ : Nat) (l2 : Int32) (h : mm_H) {r_ : mm_H} (hr : lp_X11_four_3 K n l0 l1 k_ l2 h = some r_) (hx0 : WW W0 G 3 mc ms Q_ 36 [none, none, none] [] r_ n kc ks), WW W0 G 3 mc ms Q_ 3 [some (.ref l0), some (.int l1), some (.int l2)] [] h n kc ks := by
  intro k_
  induction k_ with
  | zero =>
    intro l2 h r_ hr
    cases hr
  | succ k_ ih_ =>
    intro l2 h r_ hr hx0
    unfold lp_X11_four_3 at hr
    refine rr_iload_n (i := 2) C dX11_four_3 rfl rfl ?_
    refine rr_if_lt (tgt := 36) C dX11_four_4 (by decide) (fun c4_ => ?_) (fun c4_ => ?_)
    · replace hr := (if_pos c4_).symm.trans hr
      obtain rfl := Option.some.inj hr
      exact rr_keep [false, false, false] (hx0)
    · replace hr := (if_neg c4_).symm.trans hr
      refine rr_aload_n (i := 0) C dX11_four_7 rfl rfl ?_
      replace hr := Option.bind_eq_some_iff.mp hr
      obtain ⟨v1, e2, hr⟩ := hr
      refine rr_rdR C dX11_four_8 fl_X11_131 e2 ?_
      refine rr_aload_n (i := 0) C dX11_four_11 rfl rfl ?_
      replace hr := Option.bind_eq_some_iff.mp hr
      obtain ⟨v3, e4, hr⟩ := hr
      refine rr_rdI C dX11_four_12 fl_X11_214 e4 ?_
      refine rr_iload_n (i := 1) C dX11_four_15 rfl rfl ?_
      refine rr_iload_n (i := 2) C dX11_four_16 rfl rfl ?_
      refine rr_ishr C dX11_four_17 ?_
      refine rr_i2b C dX11_four_18 ?_
      replace hr := Option.bind_eq_some_iff.mp hr
      obtain ⟨a5, e6, hr⟩ := hr
      subst e6
      replace hr := Option.bind_eq_some_iff.mp hr
      obtain ⟨h7, e8, hr⟩ := hr
      refine rr_stB C dX11_four_19 e8 ?_
      refine rr_aload_n (i := 0) C dX11_four_20 rfl rfl ?_
      refine rr_dup C dX11_four_21 rfl ?_
      replace hr := Option.bind_eq_some_iff.mp hr
      obtain ⟨v9, e10, hr⟩ := hr
      refine rr_rdI C dX11_four_22 fl_X11_214 e10 ?_
      refine rr_iconst (v := 1) C dX11_four_25 (by decide) ?_
      refine rr_iadd C dX11_four_26 ?_
      replace hr := Option.bind_eq_some_iff.mp hr
      obtain ⟨h11, e12, hr⟩ := hr
      refine rr_wrF C dX11_four_27 fp_X11_214 rfl rfl e12 ?_
      refine rr_iinc (v := l2 + (-8)) C dX11_four_30 rfl rfl ?_
      show WW W0 G 3 _ _ _ 33 [some (.ref l0), some (.int l1), some (.int (l2 + (-8)))] [] h11 n _ _
      refine rr_goto (tgt := 3) C dX11_four_33 (by decide) ?_
      exact rr_keep [true, true, true] (ih_ _ _ hr hx0)
set_option maxRecDepth 100000 in
set_option maxHeartbeats 4000000 in
theorem c_X11_four {K : Nat} {G : mm_G} {l : Launch} {h : mm_H} {n : Nat} (l0 : Nat) (l1 : Int32) {r_ : mm_H} (hn : 32 ≤ n) (hr : q_X11_four K h n l0 l1 = some r_) : Sp G l yX11_four cX11_four 3 none 0 0 0 [.ref l0, .int l1] h n (fun v h' n' => v = none ∧ h' = r_ ∧ n' = n) := by
  refine Sp_of (by decide +kernel) (Nat.le_of_ble_eq_true rfl) hn ?_
  intro W0 hwl C
  subst hwl
  unfold q_X11_four at hr
  show WW W0 G 3 0 0 _ 0 [some (.ref l0), some (.int l1), none] [] h n 0 0
  refine rr_bipush (v := 24) C dX11_four_0 (by decide) ?_
  refine rr_istore_n (i := 2) C dX11_four_2 rfl (by decide) ?_
  show WW W0 G 3 _ _ _ 3 [some (.ref l0), some (.int l1), some (.int 24)] [] h n _ _
  replace hr := Option.bind_eq_some_iff.mp hr
  obtain ⟨v13, e14, hr⟩ := hr
  refine rr_keep [true, true, true] (w_X11_four_3 C (by omega) l0 l1 K 24 h e14 ?_)
  show WW W0 G 3 _ _ _ 36 [none, none, none] [] v13 n _ _
  obtain rfl := Option.some.inj hr
  exact rr_vret C dX11_four_36 rfl ⟨rfl, rfl, rfl⟩
def q_X11_feed (K : Nat) (h : mm_H) (n : Nat) (l0 : Nat) (l1 : Int32) (l2 : Int32) (l3 : Int32) (l4 : Int32) (l5 : Int32) : Option (Int32 × mm_H) :=
  (rdI h n l0 10 26).bind fun v1 =>
  if (v1 + 20) ≤ 900 then
    (ckq h n l0 10).bind fun u3 =>
    (q_X11_four K h n l0 l1).bind fun v5 =>
    (ckq v5 n l0 10).bind fun u7 =>
    (q_X11_four K v5 n l0 l2).bind fun v9 =>
    (ckq v9 n l0 10).bind fun u11 =>
    (q_X11_four K v9 n l0 l3).bind fun v13 =>
    (ckq v13 n l0 10).bind fun u15 =>
    (q_X11_four K v13 n l0 l4).bind fun v17 =>
    (ckq v17 n l0 10).bind fun u19 =>
    (q_X11_four K v17 n l0 l5).bind fun v21 =>
    (rdI v21 n l0 10 26).bind fun v23 =>
    some (v23, v21)
  else
  some ((-1), h)
set_option maxRecDepth 100000 in
set_option maxHeartbeats 4000000 in
theorem c_X11_feed {K : Nat} {G : mm_G} {l : Launch} {h : mm_H} {n : Nat} (l0 : Nat) (l1 : Int32) (l2 : Int32) (l3 : Int32) (l4 : Int32) (l5 : Int32) {r_ : Int32 × mm_H} (hn : 32 ≤ n) (hr : q_X11_feed K h n l0 l1 l2 l3 l4 l5 = some r_) : Sp G l yX11_feed cX11_feed 6 (some .int) 1 0 0 [.ref l0, .int l1, .int l2, .int l3, .int l4, .int l5] h n (fun v h' n' => v = some (.int r_.1) ∧ h' = r_.2 ∧ n' = n) := by
  refine Sp_of (by decide +kernel) (Nat.le_of_ble_eq_true rfl) hn ?_
  intro W0 hwl C
  subst hwl
  unfold q_X11_feed at hr
  show WW W0 G 6 0 0 _ 0 [some (.ref l0), some (.int l1), some (.int l2), some (.int l3), some (.int l4), some (.int l5)] [] h n 0 0
  refine rr_aload_n (i := 0) C dX11_feed_0 rfl rfl ?_
  replace hr := Option.bind_eq_some_iff.mp hr
  obtain ⟨v1, e2, hr⟩ := hr
  refine rr_rdI C dX11_feed_1 fl_X11_214 e2 ?_
  refine rr_bipush (v := 20) C dX11_feed_4 (by decide) ?_
  refine rr_iadd C dX11_feed_6 ?_
  refine rr_sipush (v := 900) C dX11_feed_7 (by decide) ?_
  refine rr_icmp_le (tgt := 15) C dX11_feed_10 (by decide) (fun c10_ => ?_) (fun c10_ => ?_)
  · replace hr := (if_pos c10_).symm.trans hr
    refine rr_aload_n (i := 0) C dX11_feed_15 rfl rfl ?_
    refine rr_iload_n (i := 1) C dX11_feed_16 rfl rfl ?_
    replace hr := Option.bind_eq_some_iff.mp hr
    obtain ⟨u3, e4, hr⟩ := hr
    replace hr := Option.bind_eq_some_iff.mp hr
    obtain ⟨v5, e6, hr⟩ := hr
    refine rr_callVq (as := [.int l1]) (st := []) (mc' := 0) (ms' := 0) C dX11_feed_17 iv_X11_217 (by decide) e4 rfl (Nat.le_of_ble_eq_true rfl) (c_X11_four l0 l1 (by omega) e6) (fun v_ h_ n_ q_ => ?_)
    obtain ⟨q1_, q2_, q3_⟩ := q_
    subst v_; subst h_; subst n_
    show WW W0 G 6 _ _ _ 20 [some (.ref l0), some (.int l1), some (.int l2), some (.int l3), some (.int l4), some (.int l5)] [] v5 n _ _
    refine rr_aload_n (i := 0) C dX11_feed_20 rfl rfl ?_
    refine rr_iload_n (i := 2) C dX11_feed_21 rfl rfl ?_
    replace hr := Option.bind_eq_some_iff.mp hr
    obtain ⟨u7, e8, hr⟩ := hr
    replace hr := Option.bind_eq_some_iff.mp hr
    obtain ⟨v9, e10, hr⟩ := hr
    refine rr_callVq (as := [.int l2]) (st := []) (mc' := 0) (ms' := 0) C dX11_feed_22 iv_X11_217 (by decide) e8 rfl (Nat.le_of_ble_eq_true rfl) (c_X11_four l0 l2 (by omega) e10) (fun v_ h_ n_ q_ => ?_)
    obtain ⟨q1_, q2_, q3_⟩ := q_
    subst v_; subst h_; subst n_
    show WW W0 G 6 _ _ _ 25 [some (.ref l0), some (.int l1), some (.int l2), some (.int l3), some (.int l4), some (.int l5)] [] v9 n _ _
    refine rr_aload_n (i := 0) C dX11_feed_25 rfl rfl ?_
    refine rr_iload_n (i := 3) C dX11_feed_26 rfl rfl ?_
    replace hr := Option.bind_eq_some_iff.mp hr
    obtain ⟨u11, e12, hr⟩ := hr
    replace hr := Option.bind_eq_some_iff.mp hr
    obtain ⟨v13, e14, hr⟩ := hr
    refine rr_callVq (as := [.int l3]) (st := []) (mc' := 0) (ms' := 0) C dX11_feed_27 iv_X11_217 (by decide) e12 rfl (Nat.le_of_ble_eq_true rfl) (c_X11_four l0 l3 (by omega) e14) (fun v_ h_ n_ q_ => ?_)
    obtain ⟨q1_, q2_, q3_⟩ := q_
    subst v_; subst h_; subst n_
    show WW W0 G 6 _ _ _ 30 [some (.ref l0), some (.int l1), some (.int l2), some (.int l3), some (.int l4), some (.int l5)] [] v13 n _ _
    refine rr_aload_n (i := 0) C dX11_feed_30 rfl rfl ?_
    refine rr_iload C dX11_feed_31 rfl ?_
    replace hr := Option.bind_eq_some_iff.mp hr
    obtain ⟨u15, e16, hr⟩ := hr
    replace hr := Option.bind_eq_some_iff.mp hr
    obtain ⟨v17, e18, hr⟩ := hr
    refine rr_callVq (as := [.int l4]) (st := []) (mc' := 0) (ms' := 0) C dX11_feed_33 iv_X11_217 (by decide) e16 rfl (Nat.le_of_ble_eq_true rfl) (c_X11_four l0 l4 (by omega) e18) (fun v_ h_ n_ q_ => ?_)
    obtain ⟨q1_, q2_, q3_⟩ := q_
    subst v_; subst h_; subst n_
    show WW W0 G 6 _ _ _ 36 [some (.ref l0), some (.int l1), some (.int l2), some (.int l3), some (.int l4), some (.int l5)] [] v17 n _ _
    refine rr_aload_n (i := 0) C dX11_feed_36 rfl rfl ?_
    refine rr_iload C dX11_feed_37 rfl ?_
    replace hr := Option.bind_eq_some_iff.mp hr
    obtain ⟨u19, e20, hr⟩ := hr
    replace hr := Option.bind_eq_some_iff.mp hr
    obtain ⟨v21, e22, hr⟩ := hr
    refine rr_callVq (as := [.int l5]) (st := []) (mc' := 0) (ms' := 0) C dX11_feed_39 iv_X11_217 (by decide) e20 rfl (Nat.le_of_ble_eq_true rfl) (c_X11_four l0 l5 (by omega) e22) (fun v_ h_ n_ q_ => ?_)
    obtain ⟨q1_, q2_, q3_⟩ := q_
    subst v_; subst h_; subst n_
    show WW W0 G 6 _ _ _ 42 [some (.ref l0), some (.int l1), some (.int l2), some (.int l3), some (.int l4), some (.int l5)] [] v21 n _ _
    refine rr_aload_n (i := 0) C dX11_feed_42 rfl rfl ?_
    replace hr := Option.bind_eq_some_iff.mp hr
    obtain ⟨v23, e24, hr⟩ := hr
    refine rr_rdI C dX11_feed_43 fl_X11_214 e24 ?_
    obtain rfl := Option.some.inj hr
    exact rr_iret (ty := .int) C dX11_feed_46 rfl rfl ⟨rfl, rfl, rfl⟩
  · replace hr := (if_neg c10_).symm.trans hr
    refine rr_iconst (v := (-1)) C dX11_feed_13 (by decide) ?_
    obtain rfl := Option.some.inj hr
    exact rr_iret (ty := .int) C dX11_feed_14 rfl rfl ⟨rfl, rfl, rfl⟩
def lp_X11_blanks_0 (K : Nat) (n : Nat) (l0 : Nat) : Nat → mm_H → Option (mm_H)
  | 0, _ => none
  | k_ + 1, h =>
    (rdI h n l0 10 28).bind fun v1 =>
    (rdI h n l0 10 27).bind fun v3 =>
    if v3 ≤ v1 then
      some (h)
    else
    (rdR h n l0 10 53).bind fun v5 =>
    (rdI h n l0 10 28).bind fun v7 =>
    v5.bind fun a9 =>
    (ldB h n a9 v7).bind fun v11 =>
    if v11 = 32 then
      (rdI h n l0 10 28).bind fun v13 =>
      (wrF h n l0 10 28 (.int (v13 + 1))).bind fun h15 =>
      lp_X11_blanks_0 K n l0 k_  h15
    else
    (rdR h n l0 10 53).bind fun v17 =>
    (rdI h n l0 10 28).bind fun v19 =>
    v17.bind fun a21 =>
    (ldB h n a21 v19).bind fun v23 =>
    if v23 = 10 then
      (rdI h n l0 10 28).bind fun v25 =>
      (wrF h n l0 10 28 (.int (v25 + 1))).bind fun h27 =>
      lp_X11_blanks_0 K n l0 k_  h27
    else
    some (h)
def q_X11_blanks (K : Nat) (h : mm_H) (n : Nat) (l0 : Nat) : Option (mm_H) :=
  (lp_X11_blanks_0 K n l0 K  h).bind fun v29 =>
  some v29
set_option maxRecDepth 100000 in
set_option maxHeartbeats 4000000 in
theorem w_X11_blanks_0 {K : Nat} {W0 : mm_X} {G : mm_G} {mc ms kc ks : Nat} {Q_ : State → Prop} {n : Nat} (C : mm_C W0 G cX11_blanks yX11_blanks.cls 1 mc ms none 0 yX11_blanks.name) (hn : 32 ≤ n) (l0 : Nat) : ∀ (k_ : Nat)  (h : mm_H) {r_ : mm_H} (hr : lp_X11_blanks_0 K n l0 k_  h = some r_) (hx0 : WW W0 G 1 mc ms Q_ 52 [none] [] r_ n kc ks), WW W0 G 1 mc ms Q_ 0 [some (.ref l0)] [] h n kc ks := by
  intro k_
  induction k_ with
  | zero =>
    intro h r_ hr
    cases hr
  | succ k_ ih_ =>
    intro h r_ hr hx0
    unfold lp_X11_blanks_0 at hr
    refine rr_aload_n (i := 0) C dX11_blanks_0 rfl rfl ?_
    replace hr := Option.bind_eq_some_iff.mp hr
    obtain ⟨v1, e2, hr⟩ := hr
    refine rr_rdI C dX11_blanks_1 fl_X11_221 e2 ?_
    refine rr_aload_n (i := 0) C dX11_blanks_4 rfl rfl ?_
    replace hr := Option.bind_eq_some_iff.mp hr
    obtain ⟨v3, e4, hr⟩ := hr
    refine rr_rdI C dX11_blanks_5 fl_X11_224 e4 ?_
    refine rr_icmp_ge (tgt := 52) C dX11_blanks_8 (by decide) (fun c8_ => ?_) (fun c8_ => ?_)
    · replace hr := (if_pos c8_).symm.trans hr
      obtain rfl := Option.some.inj hr
      exact rr_keep [false] (hx0)
    · replace hr := (if_neg c8_).symm.trans hr
      refine rr_aload_n (i := 0) C dX11_blanks_11 rfl rfl ?_
      replace hr := Option.bind_eq_some_iff.mp hr
      obtain ⟨v5, e6, hr⟩ := hr
      refine rr_rdR C dX11_blanks_12 fl_X11_135 e6 ?_
      refine rr_aload_n (i := 0) C dX11_blanks_15 rfl rfl ?_
      replace hr := Option.bind_eq_some_iff.mp hr
      obtain ⟨v7, e8, hr⟩ := hr
      refine rr_rdI C dX11_blanks_16 fl_X11_221 e8 ?_
      replace hr := Option.bind_eq_some_iff.mp hr
      obtain ⟨a9, e10, hr⟩ := hr
      subst e10
      replace hr := Option.bind_eq_some_iff.mp hr
      obtain ⟨v11, e12, hr⟩ := hr
      refine rr_ldB C dX11_blanks_19 e12 ?_
      refine rr_bipush (v := 32) C dX11_blanks_20 (by decide) ?_
      refine rr_icmp_eq (tgt := 39) C dX11_blanks_22 (by decide) (fun c22_ => ?_) (fun c22_ => ?_)
      · replace hr := (if_pos c22_).symm.trans hr
        refine rr_aload_n (i := 0) C dX11_blanks_39 rfl rfl ?_
        refine rr_dup C dX11_blanks_40 rfl ?_
        replace hr := Option.bind_eq_some_iff.mp hr
        obtain ⟨v13, e14, hr⟩ := hr
        refine rr_rdI C dX11_blanks_41 fl_X11_221 e14 ?_
        refine rr_iconst (v := 1) C dX11_blanks_44 (by decide) ?_
        refine rr_iadd C dX11_blanks_45 ?_
        replace hr := Option.bind_eq_some_iff.mp hr
        obtain ⟨h15, e16, hr⟩ := hr
        refine rr_wrF C dX11_blanks_46 fp_X11_221 rfl rfl e16 ?_
        refine rr_goto (tgt := 0) C dX11_blanks_49 (by decide) ?_
        exact rr_keep [true] (ih_  _ hr hx0)
      · replace hr := (if_neg c22_).symm.trans hr
        refine rr_aload_n (i := 0) C dX11_blanks_25 rfl rfl ?_
        replace hr := Option.bind_eq_some_iff.mp hr
        obtain ⟨v17, e18, hr⟩ := hr
        refine rr_rdR C dX11_blanks_26 fl_X11_135 e18 ?_
        refine rr_aload_n (i := 0) C dX11_blanks_29 rfl rfl ?_
        replace hr := Option.bind_eq_some_iff.mp hr
        obtain ⟨v19, e20, hr⟩ := hr
        refine rr_rdI C dX11_blanks_30 fl_X11_221 e20 ?_
        replace hr := Option.bind_eq_some_iff.mp hr
        obtain ⟨a21, e22, hr⟩ := hr
        subst e22
        replace hr := Option.bind_eq_some_iff.mp hr
        obtain ⟨v23, e24, hr⟩ := hr
        refine rr_ldB C dX11_blanks_33 e24 ?_
        refine rr_bipush (v := 10) C dX11_blanks_34 (by decide) ?_
        refine rr_icmp_ne (tgt := 52) C dX11_blanks_36 (by decide) (fun c36_ => ?_) (fun c36_ => ?_)
        · replace hr := (if_neg c36_).symm.trans hr
          obtain rfl := Option.some.inj hr
          exact rr_keep [false] (hx0)
        · replace hr := (if_pos c36_).symm.trans hr
          refine rr_aload_n (i := 0) C dX11_blanks_39 rfl rfl ?_
          refine rr_dup C dX11_blanks_40 rfl ?_
          replace hr := Option.bind_eq_some_iff.mp hr
          obtain ⟨v25, e26, hr⟩ := hr
          refine rr_rdI C dX11_blanks_41 fl_X11_221 e26 ?_
          refine rr_iconst (v := 1) C dX11_blanks_44 (by decide) ?_
          refine rr_iadd C dX11_blanks_45 ?_
          replace hr := Option.bind_eq_some_iff.mp hr
          obtain ⟨h27, e28, hr⟩ := hr
          refine rr_wrF C dX11_blanks_46 fp_X11_221 rfl rfl e28 ?_
          refine rr_goto (tgt := 0) C dX11_blanks_49 (by decide) ?_
          exact rr_keep [true] (ih_  _ hr hx0)
set_option maxRecDepth 100000 in
set_option maxHeartbeats 4000000 in
theorem c_X11_blanks {K : Nat} {G : mm_G} {l : Launch} {h : mm_H} {n : Nat} (l0 : Nat) {r_ : mm_H} (hn : 32 ≤ n) (hr : q_X11_blanks K h n l0 = some r_) : Sp G l yX11_blanks cX11_blanks 1 none 0 0 0 [.ref l0] h n (fun v h' n' => v = none ∧ h' = r_ ∧ n' = n) := by
  refine Sp_of (by decide +kernel) (Nat.le_of_ble_eq_true rfl) hn ?_
  intro W0 hwl C
  subst hwl
  unfold q_X11_blanks at hr
  show WW W0 G 1 0 0 _ 0 [some (.ref l0)] [] h n 0 0
  replace hr := Option.bind_eq_some_iff.mp hr
  obtain ⟨v29, e30, hr⟩ := hr
  refine rr_keep [true] (w_X11_blanks_0 C (by omega) l0 K  h e30 ?_)
  show WW W0 G 1 _ _ _ 52 [none] [] v29 n _ _
  obtain rfl := Option.some.inj hr
  exact rr_vret C dX11_blanks_52 rfl ⟨rfl, rfl, rfl⟩
def lp_X11_word_14 (K : Nat) (n : Nat) (l0 : Nat) : Nat → Int64 → mm_H → Option (Int64 × mm_H)
  | 0, _, _ => none
  | k_ + 1, l1, h =>
    (rdI h n l0 10 54).bind fun v9 =>
    (rdI h n l0 10 27).bind fun v11 =>
    if v11 ≤ v9 then
      some (l1, h)
    else
    (rdR h n l0 10 53).bind fun v13 =>
    (rdI h n l0 10 54).bind fun v15 =>
    v13.bind fun a17 =>
    (ldB h n a17 v15).bind fun v19 =>
    if v19 < 97 then
      some (l1, h)
    else
    (rdR h n l0 10 53).bind fun v21 =>
    (rdI h n l0 10 54).bind fun v23 =>
    v21.bind fun a25 =>
    (ldB h n a25 v23).bind fun v27 =>
    if 122 < v27 then
      some (l1, h)
    else
    (rdI h n l0 10 54).bind fun v29 =>
    (rdI h n l0 10 28).bind fun v31 =>
    if 7 ≤ (v29 - v31) then
      (rdI h n l0 10 54).bind fun v33 =>
      (wrF h n l0 10 54 (.int (v33 + 1))).bind fun h35 =>
      lp_X11_word_14 K n l0 k_ 0 h35
    else
    (rdR h n l0 10 53).bind fun v37 =>
    (rdI h n l0 10 54).bind fun v39 =>
    v37.bind fun a41 =>
    (ldB h n a41 v39).bind fun v43 =>
    (rdI h n l0 10 54).bind fun v46 =>
    (wrF h n l0 10 54 (.int (v46 + 1))).bind fun h48 =>
    lp_X11_word_14 K n l0 k_ ((l1 <<< ((Int32.toInt64 8) &&& 63)) ||| (Int32.toInt64 v43)) h48
def q_X11_word (K : Nat) (h : mm_H) (n : Nat) (l0 : Nat) : Option (Int64 × mm_H) :=
  (ckq h n l0 10).bind fun u1 =>
  (q_X11_blanks K h n l0).bind fun v3 =>
  (rdI v3 n l0 10 28).bind fun v5 =>
  (wrF v3 n l0 10 54 (.int v5)).bind fun h7 =>
  (lp_X11_word_14 K n l0 K 0 h7).bind fun v50 =>
  (rdI v50.2 n l0 10 54).bind fun v52 =>
  (rdI v50.2 n l0 10 28).bind fun v54 =>
  if (v52 - v54) ≤ 7 then
    some (v50.1, v50.2)
  else
  some (0, v50.2)
set_option maxRecDepth 100000 in
set_option maxHeartbeats 4000000 in
theorem w_X11_word_14 {K : Nat} {W0 : mm_X} {G : mm_G} {mc ms kc ks : Nat} {Q_ : State → Prop} {n : Nat} (C : mm_C W0 G cX11_word yX11_word.cls 3 mc ms (some .long) 1 yX11_word.name) (hn : 32 ≤ n) (l0 : Nat) : ∀ (k_ : Nat) (l1 : Int64) (h : mm_H) {r_ : Int64 × mm_H} (hr : lp_X11_word_14 K n l0 k_ l1 h = some r_) (hx0 : WW W0 G 3 mc ms Q_ 100 [some (.ref l0), some (.long r_.1), none] [] r_.2 n kc ks), WW W0 G 3 mc ms Q_ 14 [some (.ref l0), some (.long l1), none] [] h n kc ks := by
  intro k_
  induction k_ with
  | zero =>
    intro l1 h r_ hr
    cases hr
  | succ k_ ih_ =>
    intro l1 h r_ hr hx0
    unfold lp_X11_word_14 at hr
    refine rr_aload_n (i := 0) C dX11_word_14 rfl rfl ?_
    replace hr := Option.bind_eq_some_iff.mp hr
    obtain ⟨v9, e10, hr⟩ := hr
    refine rr_rdI C dX11_word_15 fl_X11_230 e10 ?_
    refine rr_aload_n (i := 0) C dX11_word_18 rfl rfl ?_
    replace hr := Option.bind_eq_some_iff.mp hr
    obtain ⟨v11, e12, hr⟩ := hr
    refine rr_rdI C dX11_word_19 fl_X11_224 e12 ?_
    refine rr_icmp_ge (tgt := 100) C dX11_word_22 (by decide) (fun c22_ => ?_) (fun c22_ => ?_)
    · replace hr := (if_pos c22_).symm.trans hr
      obtain rfl := Option.some.inj hr
      exact rr_keep [true, true, false] (hx0)
    · replace hr := (if_neg c22_).symm.trans hr
      refine rr_aload_n (i := 0) C dX11_word_25 rfl rfl ?_
      replace hr := Option.bind_eq_some_iff.mp hr
      obtain ⟨v13, e14, hr⟩ := hr
      refine rr_rdR C dX11_word_26 fl_X11_135 e14 ?_
      refine rr_aload_n (i := 0) C dX11_word_29 rfl rfl ?_
      replace hr := Option.bind_eq_some_iff.mp hr
      obtain ⟨v15, e16, hr⟩ := hr
      refine rr_rdI C dX11_word_30 fl_X11_230 e16 ?_
      replace hr := Option.bind_eq_some_iff.mp hr
      obtain ⟨a17, e18, hr⟩ := hr
      subst e18
      replace hr := Option.bind_eq_some_iff.mp hr
      obtain ⟨v19, e20, hr⟩ := hr
      refine rr_ldB C dX11_word_33 e20 ?_
      refine rr_bipush (v := 97) C dX11_word_34 (by decide) ?_
      refine rr_icmp_lt (tgt := 100) C dX11_word_36 (by decide) (fun c36_ => ?_) (fun c36_ => ?_)
      · replace hr := (if_pos c36_).symm.trans hr
        obtain rfl := Option.some.inj hr
        exact rr_keep [true, true, false] (hx0)
      · replace hr := (if_neg c36_).symm.trans hr
        refine rr_aload_n (i := 0) C dX11_word_39 rfl rfl ?_
        replace hr := Option.bind_eq_some_iff.mp hr
        obtain ⟨v21, e22, hr⟩ := hr
        refine rr_rdR C dX11_word_40 fl_X11_135 e22 ?_
        refine rr_aload_n (i := 0) C dX11_word_43 rfl rfl ?_
        replace hr := Option.bind_eq_some_iff.mp hr
        obtain ⟨v23, e24, hr⟩ := hr
        refine rr_rdI C dX11_word_44 fl_X11_230 e24 ?_
        replace hr := Option.bind_eq_some_iff.mp hr
        obtain ⟨a25, e26, hr⟩ := hr
        subst e26
        replace hr := Option.bind_eq_some_iff.mp hr
        obtain ⟨v27, e28, hr⟩ := hr
        refine rr_ldB C dX11_word_47 e28 ?_
        refine rr_bipush (v := 122) C dX11_word_48 (by decide) ?_
        refine rr_icmp_gt (tgt := 100) C dX11_word_50 (by decide) (fun c50_ => ?_) (fun c50_ => ?_)
        · replace hr := (if_pos c50_).symm.trans hr
          obtain rfl := Option.some.inj hr
          exact rr_keep [true, true, false] (hx0)
        · replace hr := (if_neg c50_).symm.trans hr
          refine rr_aload_n (i := 0) C dX11_word_53 rfl rfl ?_
          replace hr := Option.bind_eq_some_iff.mp hr
          obtain ⟨v29, e30, hr⟩ := hr
          refine rr_rdI C dX11_word_54 fl_X11_230 e30 ?_
          refine rr_aload_n (i := 0) C dX11_word_57 rfl rfl ?_
          replace hr := Option.bind_eq_some_iff.mp hr
          obtain ⟨v31, e32, hr⟩ := hr
          refine rr_rdI C dX11_word_58 fl_X11_221 e32 ?_
          refine rr_isub C dX11_word_61 ?_
          refine rr_bipush (v := 7) C dX11_word_62 (by decide) ?_
          refine rr_icmp_ge (tgt := 85) C dX11_word_64 (by decide) (fun c64_ => ?_) (fun c64_ => ?_)
          · replace hr := (if_pos c64_).symm.trans hr
            refine rr_lconst (v := 0) C dX11_word_85 (by decide) ?_
            refine rr_lstore_n (i := 1) C dX11_word_86 rfl (by decide) ?_
            show WW W0 G 3 _ _ _ 87 [some (.ref l0), some (.long 0), none] [] h n _ _
            refine rr_aload_n (i := 0) C dX11_word_87 rfl rfl ?_
            refine rr_dup C dX11_word_88 rfl ?_
            replace hr := Option.bind_eq_some_iff.mp hr
            obtain ⟨v33, e34, hr⟩ := hr
            refine rr_rdI C dX11_word_89 fl_X11_230 e34 ?_
            refine rr_iconst (v := 1) C dX11_word_92 (by decide) ?_
            refine rr_iadd C dX11_word_93 ?_
            replace hr := Option.bind_eq_some_iff.mp hr
            obtain ⟨h35, e36, hr⟩ := hr
            refine rr_wrF C dX11_word_94 fp_X11_230 rfl rfl e36 ?_
            refine rr_goto (tgt := 14) C dX11_word_97 (by decide) ?_
            exact rr_keep [true, true, false] (ih_ _ _ hr hx0)
          · replace hr := (if_neg c64_).symm.trans hr
            refine rr_lload_n (i := 1) C dX11_word_67 rfl rfl ?_
            refine rr_bipush (v := 8) C dX11_word_68 (by decide) ?_
            refine rr_lshl C dX11_word_70 ?_
            refine rr_aload_n (i := 0) C dX11_word_71 rfl rfl ?_
            replace hr := Option.bind_eq_some_iff.mp hr
            obtain ⟨v37, e38, hr⟩ := hr
            refine rr_rdR C dX11_word_72 fl_X11_135 e38 ?_
            refine rr_aload_n (i := 0) C dX11_word_75 rfl rfl ?_
            replace hr := Option.bind_eq_some_iff.mp hr
            obtain ⟨v39, e40, hr⟩ := hr
            refine rr_rdI C dX11_word_76 fl_X11_230 e40 ?_
            replace hr := Option.bind_eq_some_iff.mp hr
            obtain ⟨a41, e42, hr⟩ := hr
            subst e42
            replace hr := Option.bind_eq_some_iff.mp hr
            obtain ⟨v43, e44, hr⟩ := hr
            refine rr_ldB C dX11_word_79 e44 ?_
            refine rr_i2l C dX11_word_80 ?_
            refine rr_lor C dX11_word_81 ?_
            refine rr_goto (tgt := 86) C dX11_word_82 (by decide) ?_
            refine rr_lstore_n (i := 1) C dX11_word_86 rfl (by decide) ?_
            show WW W0 G 3 _ _ _ 87 [some (.ref l0), some (.long ((l1 <<< ((Int32.toInt64 8) &&& 63)) ||| (Int32.toInt64 v43))), none] [] h n _ _
            refine rr_aload_n (i := 0) C dX11_word_87 rfl rfl ?_
            refine rr_dup C dX11_word_88 rfl ?_
            replace hr := Option.bind_eq_some_iff.mp hr
            obtain ⟨v46, e47, hr⟩ := hr
            refine rr_rdI C dX11_word_89 fl_X11_230 e47 ?_
            refine rr_iconst (v := 1) C dX11_word_92 (by decide) ?_
            refine rr_iadd C dX11_word_93 ?_
            replace hr := Option.bind_eq_some_iff.mp hr
            obtain ⟨h48, e49, hr⟩ := hr
            refine rr_wrF C dX11_word_94 fp_X11_230 rfl rfl e49 ?_
            refine rr_goto (tgt := 14) C dX11_word_97 (by decide) ?_
            exact rr_keep [true, true, false] (ih_ _ _ hr hx0)
set_option maxRecDepth 100000 in
set_option maxHeartbeats 4000000 in
theorem c_X11_word {K : Nat} {G : mm_G} {l : Launch} {h : mm_H} {n : Nat} (l0 : Nat) {r_ : Int64 × mm_H} (hn : 32 ≤ n) (hr : q_X11_word K h n l0 = some r_) : Sp G l yX11_word cX11_word 3 (some .long) 1 0 0 [.ref l0] h n (fun v h' n' => v = some (.long r_.1) ∧ h' = r_.2 ∧ n' = n) := by
  refine Sp_of (by decide +kernel) (Nat.le_of_ble_eq_true rfl) hn ?_
  intro W0 hwl C
  subst hwl
  unfold q_X11_word at hr
  show WW W0 G 3 0 0 _ 0 [some (.ref l0), none, none] [] h n 0 0
  refine rr_aload_n (i := 0) C dX11_word_0 rfl rfl ?_
  replace hr := Option.bind_eq_some_iff.mp hr
  obtain ⟨u1, e2, hr⟩ := hr
  replace hr := Option.bind_eq_some_iff.mp hr
  obtain ⟨v3, e4, hr⟩ := hr
  refine rr_callVq (as := []) (st := []) (mc' := 0) (ms' := 0) C dX11_word_1 iv_X11_227 (by decide) e2 rfl (Nat.le_of_ble_eq_true rfl) (c_X11_blanks l0 (by omega) e4) (fun v_ h_ n_ q_ => ?_)
  obtain ⟨q1_, q2_, q3_⟩ := q_
  subst v_; subst h_; subst n_
  show WW W0 G 3 _ _ _ 4 [some (.ref l0), none, none] [] v3 n _ _
  refine rr_aload_n (i := 0) C dX11_word_4 rfl rfl ?_
  refine rr_aload_n (i := 0) C dX11_word_5 rfl rfl ?_
  replace hr := Option.bind_eq_some_iff.mp hr
  obtain ⟨v5, e6, hr⟩ := hr
  refine rr_rdI C dX11_word_6 fl_X11_221 e6 ?_
  replace hr := Option.bind_eq_some_iff.mp hr
  obtain ⟨h7, e8, hr⟩ := hr
  refine rr_wrF C dX11_word_9 fp_X11_230 rfl rfl e8 ?_
  refine rr_lconst (v := 0) C dX11_word_12 (by decide) ?_
  refine rr_lstore_n (i := 1) C dX11_word_13 rfl (by decide) ?_
  show WW W0 G 3 _ _ _ 14 [some (.ref l0), some (.long 0), none] [] h7 n _ _
  replace hr := Option.bind_eq_some_iff.mp hr
  obtain ⟨v50, e51, hr⟩ := hr
  refine rr_keep [true, true, false] (w_X11_word_14 C (by omega) l0 K 0 h7 e51 ?_)
  show WW W0 G 3 _ _ _ 100 [some (.ref l0), some (.long v50.1), none] [] v50.2 n _ _
  refine rr_aload_n (i := 0) C dX11_word_100 rfl rfl ?_
  replace hr := Option.bind_eq_some_iff.mp hr
  obtain ⟨v52, e53, hr⟩ := hr
  refine rr_rdI C dX11_word_101 fl_X11_230 e53 ?_
  refine rr_aload_n (i := 0) C dX11_word_104 rfl rfl ?_
  replace hr := Option.bind_eq_some_iff.mp hr
  obtain ⟨v54, e55, hr⟩ := hr
  refine rr_rdI C dX11_word_105 fl_X11_221 e55 ?_
  refine rr_isub C dX11_word_108 ?_
  refine rr_bipush (v := 7) C dX11_word_109 (by decide) ?_
  refine rr_icmp_le (tgt := 118) C dX11_word_111 (by decide) (fun c111_ => ?_) (fun c111_ => ?_)
  · replace hr := (if_pos c111_).symm.trans hr
    refine rr_lload_n (i := 1) C dX11_word_118 rfl rfl ?_
    obtain rfl := Option.some.inj hr
    exact rr_lret C dX11_word_119 rfl ⟨rfl, rfl, rfl⟩
  · replace hr := (if_neg c111_).symm.trans hr
    refine rr_lconst (v := 0) C dX11_word_114 (by decide) ?_
    refine rr_goto (tgt := 119) C dX11_word_115 (by decide) ?_
    obtain rfl := Option.some.inj hr
    exact rr_lret C dX11_word_119 rfl ⟨rfl, rfl, rfl⟩
def q_X11_takes (K : Nat) (h : mm_H) (n : Nat) (l0 : Nat) (l1 : Int64) : Option (Int32 × mm_H) :=
  (ckq h n l0 10).bind fun u1 =>
  (q_X11_word K h n l0).bind fun v3 =>
  if (lg_cmp v3.1 l1) = 0 then
    (rdI v3.2 n l0 10 54).bind fun v5 =>
    (wrF v3.2 n l0 10 28 (.int v5)).bind fun h7 =>
    some (1, h7)
  else
  some (0, v3.2)
set_option maxRecDepth 100000 in
set_option maxHeartbeats 4000000 in
theorem c_X11_takes {K : Nat} {G : mm_G} {l : Launch} {h : mm_H} {n : Nat} (l0 : Nat) (l1 : Int64) {r_ : Int32 × mm_H} (hn : 32 ≤ n) (hr : q_X11_takes K h n l0 l1 = some r_) : Sp G l yX11_takes cX11_takes 3 (some .boolean) 2 0 0 [.ref l0, .long l1] h n (fun v h' n' => v = some (.int r_.1) ∧ h' = r_.2 ∧ n' = n) := by
  refine Sp_of (by decide +kernel) (Nat.le_of_ble_eq_true rfl) hn ?_
  intro W0 hwl C
  subst hwl
  unfold q_X11_takes at hr
  show WW W0 G 3 0 0 _ 0 [some (.ref l0), some (.long l1), none] [] h n 0 0
  refine rr_aload_n (i := 0) C dX11_takes_0 rfl rfl ?_
  replace hr := Option.bind_eq_some_iff.mp hr
  obtain ⟨u1, e2, hr⟩ := hr
  replace hr := Option.bind_eq_some_iff.mp hr
  obtain ⟨v3, e4, hr⟩ := hr
  refine rr_callVq (as := []) (st := []) (mc' := 0) (ms' := 0) C dX11_takes_1 iv_X11_233 (by decide) e2 rfl (Nat.le_of_ble_eq_true rfl) (c_X11_word l0 (by omega) e4) (fun v_ h_ n_ q_ => ?_)
  obtain ⟨q1_, q2_, q3_⟩ := q_
  subst v_; subst h_; subst n_
  show WW W0 G 3 _ _ _ 4 [some (.ref l0), some (.long l1), none] [.long v3.1] v3.2 n _ _
  refine rr_lload_n (i := 1) C dX11_takes_4 rfl rfl ?_
  refine rr_lcmp C dX11_takes_5 ?_
  refine rr_if_eq (tgt := 11) C dX11_takes_6 (by decide) (fun c6_ => ?_) (fun c6_ => ?_)
  · replace hr := (if_pos c6_).symm.trans hr
    refine rr_aload_n (i := 0) C dX11_takes_11 rfl rfl ?_
    refine rr_aload_n (i := 0) C dX11_takes_12 rfl rfl ?_
    replace hr := Option.bind_eq_some_iff.mp hr
    obtain ⟨v5, e6, hr⟩ := hr
    refine rr_rdI C dX11_takes_13 fl_X11_230 e6 ?_
    replace hr := Option.bind_eq_some_iff.mp hr
    obtain ⟨h7, e8, hr⟩ := hr
    refine rr_wrF C dX11_takes_16 fp_X11_221 rfl rfl e8 ?_
    refine rr_iconst (v := 1) C dX11_takes_19 (by decide) ?_
    obtain rfl := Option.some.inj hr
    exact rr_iret (ty := .boolean) C dX11_takes_20 rfl rfl ⟨rfl, rfl, rfl⟩
  · replace hr := (if_neg c6_).symm.trans hr
    refine rr_iconst (v := 0) C dX11_takes_9 (by decide) ?_
    obtain rfl := Option.some.inj hr
    exact rr_iret (ty := .boolean) C dX11_takes_10 rfl rfl ⟨rfl, rfl, rfl⟩
def q_X11_takesSign (K : Nat) (h : mm_H) (n : Nat) (l0 : Nat) (l1 : Int32) : Option (Int32 × mm_H) :=
  (ckq h n l0 10).bind fun u1 =>
  (q_X11_blanks K h n l0).bind fun v3 =>
  (rdI v3 n l0 10 28).bind fun v5 =>
  (rdI v3 n l0 10 27).bind fun v7 =>
  if v5 = v7 then
    some (0, v3)
  else
  (rdR v3 n l0 10 53).bind fun v9 =>
  (rdI v3 n l0 10 28).bind fun v11 =>
  v9.bind fun a13 =>
  (ldB v3 n a13 v11).bind fun v15 =>
  if v15 = l1 then
    (rdI v3 n l0 10 28).bind fun v17 =>
    (wrF v3 n l0 10 28 (.int (v17 + 1))).bind fun h19 =>
    some (1, h19)
  else
  some (0, v3)
set_option maxRecDepth 100000 in
set_option maxHeartbeats 4000000 in
theorem c_X11_takesSign {K : Nat} {G : mm_G} {l : Launch} {h : mm_H} {n : Nat} (l0 : Nat) (l1 : Int32) {r_ : Int32 × mm_H} (hn : 32 ≤ n) (hr : q_X11_takesSign K h n l0 l1 = some r_) : Sp G l yX11_takesSign cX11_takesSign 2 (some .boolean) 1 0 0 [.ref l0, .int l1] h n (fun v h' n' => v = some (.int r_.1) ∧ h' = r_.2 ∧ n' = n) := by
  refine Sp_of (by decide +kernel) (Nat.le_of_ble_eq_true rfl) hn ?_
  intro W0 hwl C
  subst hwl
  unfold q_X11_takesSign at hr
  show WW W0 G 2 0 0 _ 0 [some (.ref l0), some (.int l1)] [] h n 0 0
  refine rr_aload_n (i := 0) C dX11_takesSign_0 rfl rfl ?_
  replace hr := Option.bind_eq_some_iff.mp hr
  obtain ⟨u1, e2, hr⟩ := hr
  replace hr := Option.bind_eq_some_iff.mp hr
  obtain ⟨v3, e4, hr⟩ := hr
  refine rr_callVq (as := []) (st := []) (mc' := 0) (ms' := 0) C dX11_takesSign_1 iv_X11_227 (by decide) e2 rfl (Nat.le_of_ble_eq_true rfl) (c_X11_blanks l0 (by omega) e4) (fun v_ h_ n_ q_ => ?_)
  obtain ⟨q1_, q2_, q3_⟩ := q_
  subst v_; subst h_; subst n_
  show WW W0 G 2 _ _ _ 4 [some (.ref l0), some (.int l1)] [] v3 n _ _
  refine rr_aload_n (i := 0) C dX11_takesSign_4 rfl rfl ?_
  replace hr := Option.bind_eq_some_iff.mp hr
  obtain ⟨v5, e6, hr⟩ := hr
  refine rr_rdI C dX11_takesSign_5 fl_X11_221 e6 ?_
  refine rr_aload_n (i := 0) C dX11_takesSign_8 rfl rfl ?_
  replace hr := Option.bind_eq_some_iff.mp hr
  obtain ⟨v7, e8, hr⟩ := hr
  refine rr_rdI C dX11_takesSign_9 fl_X11_224 e8 ?_
  refine rr_icmp_eq (tgt := 28) C dX11_takesSign_12 (by decide) (fun c12_ => ?_) (fun c12_ => ?_)
  · replace hr := (if_pos c12_).symm.trans hr
    refine rr_iconst (v := 0) C dX11_takesSign_28 (by decide) ?_
    obtain rfl := Option.some.inj hr
    exact rr_iret (ty := .boolean) C dX11_takesSign_29 rfl rfl ⟨rfl, rfl, rfl⟩
  · replace hr := (if_neg c12_).symm.trans hr
    refine rr_aload_n (i := 0) C dX11_takesSign_15 rfl rfl ?_
    replace hr := Option.bind_eq_some_iff.mp hr
    obtain ⟨v9, e10, hr⟩ := hr
    refine rr_rdR C dX11_takesSign_16 fl_X11_135 e10 ?_
    refine rr_aload_n (i := 0) C dX11_takesSign_19 rfl rfl ?_
    replace hr := Option.bind_eq_some_iff.mp hr
    obtain ⟨v11, e12, hr⟩ := hr
    refine rr_rdI C dX11_takesSign_20 fl_X11_221 e12 ?_
    replace hr := Option.bind_eq_some_iff.mp hr
    obtain ⟨a13, e14, hr⟩ := hr
    subst e14
    replace hr := Option.bind_eq_some_iff.mp hr
    obtain ⟨v15, e16, hr⟩ := hr
    refine rr_ldB C dX11_takesSign_23 e16 ?_
    refine rr_iload_n (i := 1) C dX11_takesSign_24 rfl rfl ?_
    refine rr_icmp_eq (tgt := 30) C dX11_takesSign_25 (by decide) (fun c25_ => ?_) (fun c25_ => ?_)
    · replace hr := (if_pos c25_).symm.trans hr
      refine rr_aload_n (i := 0) C dX11_takesSign_30 rfl rfl ?_
      refine rr_dup C dX11_takesSign_31 rfl ?_
      replace hr := Option.bind_eq_some_iff.mp hr
      obtain ⟨v17, e18, hr⟩ := hr
      refine rr_rdI C dX11_takesSign_32 fl_X11_221 e18 ?_
      refine rr_iconst (v := 1) C dX11_takesSign_35 (by decide) ?_
      refine rr_iadd C dX11_takesSign_36 ?_
      replace hr := Option.bind_eq_some_iff.mp hr
      obtain ⟨h19, e20, hr⟩ := hr
      refine rr_wrF C dX11_takesSign_37 fp_X11_221 rfl rfl e20 ?_
      refine rr_iconst (v := 1) C dX11_takesSign_40 (by decide) ?_
      obtain rfl := Option.some.inj hr
      exact rr_iret (ty := .boolean) C dX11_takesSign_41 rfl rfl ⟨rfl, rfl, rfl⟩
    · replace hr := (if_neg c25_).symm.trans hr
      refine rr_iconst (v := 0) C dX11_takesSign_28 (by decide) ?_
      obtain rfl := Option.some.inj hr
      exact rr_iret (ty := .boolean) C dX11_takesSign_29 rfl rfl ⟨rfl, rfl, rfl⟩
def lp_X11_takesNumber_14 (K : Nat) (n : Nat) (l0 : Nat) (l1 : Int32) (l2 : Int32) : Nat → Int32 → mm_H → Option (Int32 × mm_H)
  | 0, _, _ => none
  | k_ + 1, l3, h =>
    (rdI h n l0 10 27).bind fun v9 =>
    if v9 ≤ l3 then
      some (l3, h)
    else
    (rdR h n l0 10 53).bind fun v11 =>
    v11.bind fun a13 =>
    (ldB h n a13 l3).bind fun v15 =>
    if v15 < 48 then
      some (l3, h)
    else
    (rdR h n l0 10 53).bind fun v17 =>
    v17.bind fun a19 =>
    (ldB h n a19 l3).bind fun v21 =>
    if 57 < v21 then
      some (l3, h)
    else
    (rdI h n l0 10 28).bind fun v23 =>
    if 5 ≤ (l3 - v23) then
      lp_X11_takesNumber_14 K n l0 l1 l2 k_ (l3 + 1) h
    else
    (rdI h n l0 10 55).bind fun v25 =>
    (rdR h n l0 10 53).bind fun v27 =>
    v27.bind fun a29 =>
    (ldB h n a29 l3).bind fun v31 =>
    (wrF h n l0 10 55 (.int (((10 * v25) + v31) - 48))).bind fun h33 =>
    lp_X11_takesNumber_14 K n l0 l1 l2 k_ (l3 + 1) h33
def q_X11_takesNumber (K : Nat) (h : mm_H) (n : Nat) (l0 : Nat) (l1 : Int32) (l2 : Int32) : Option (Int32 × mm_H) :=
  (ckq h n l0 10).bind fun u1 =>
  (q_X11_blanks K h n l0).bind fun v3 =>
  (rdI v3 n l0 10 28).bind fun v5 =>
  (wrF v3 n l0 10 55 (.int 0)).bind fun h7 =>
  (lp_X11_takesNumber_14 K n l0 l1 l2 K v5 h7).bind fun v35 =>
  (rdI v35.2 n l0 10 28).bind fun v37 =>
  if v35.1 = v37 then
    some (0, v35.2)
  else
  (rdI v35.2 n l0 10 28).bind fun v39 =>
  if 5 < (v35.1 - v39) then
    some (0, v35.2)
  else
  (rdI v35.2 n l0 10 55).bind fun v41 =>
  (q_X11_isIn K v35.2 n v41 l1 l2).bind fun v43 =>
  if v43 = 0 then
    some (0, v35.2)
  else
  (wrF v35.2 n l0 10 28 (.int v35.1)).bind fun h45 =>
  some (1, h45)
set_option maxRecDepth 100000 in
set_option maxHeartbeats 4000000 in
theorem w_X11_takesNumber_14 {K : Nat} {W0 : mm_X} {G : mm_G} {mc ms kc ks : Nat} {Q_ : State → Prop} {n : Nat} (C : mm_C W0 G cX11_takesNumber yX11_takesNumber.cls 4 mc ms (some .boolean) 1 yX11_takesNumber.name) (hn : 32 ≤ n) (l0 : Nat) (l1 : Int32) (l2 : Int32) : ∀ (k_ : Nat) (l3 : Int32) (h : mm_H) {r_ : Int32 × mm_H} (hr : lp_X11_takesNumber_14 K n l0 l1 l2 k_ l3 h = some r_) (hx0 : WW W0 G 4 mc ms Q_ 81 [some (.ref l0), some (.int l1), some (.int l2), some (.int r_.1)] [] r_.2 n kc ks), WW W0 G 4 mc ms Q_ 14 [some (.ref l0), some (.int l1), some (.int l2), some (.int l3)] [] h n kc ks := by
  intro k_
  induction k_ with
  | zero =>
    intro l3 h r_ hr
    cases hr
  | succ k_ ih_ =>
    intro l3 h r_ hr hx0
    unfold lp_X11_takesNumber_14 at hr
    refine rr_iload_n (i := 3) C dX11_takesNumber_14 rfl rfl ?_
    refine rr_aload_n (i := 0) C dX11_takesNumber_15 rfl rfl ?_
    replace hr := Option.bind_eq_some_iff.mp hr
    obtain ⟨v9, e10, hr⟩ := hr
    refine rr_rdI C dX11_takesNumber_16 fl_X11_224 e10 ?_
    refine rr_icmp_ge (tgt := 81) C dX11_takesNumber_19 (by decide) (fun c19_ => ?_) (fun c19_ => ?_)
    · replace hr := (if_pos c19_).symm.trans hr
      obtain rfl := Option.some.inj hr
      exact rr_keep [true, true, true, true] (hx0)
    · replace hr := (if_neg c19_).symm.trans hr
      refine rr_aload_n (i := 0) C dX11_takesNumber_22 rfl rfl ?_
      replace hr := Option.bind_eq_some_iff.mp hr
      obtain ⟨v11, e12, hr⟩ := hr
      refine rr_rdR C dX11_takesNumber_23 fl_X11_135 e12 ?_
      refine rr_iload_n (i := 3) C dX11_takesNumber_26 rfl rfl ?_
      replace hr := Option.bind_eq_some_iff.mp hr
      obtain ⟨a13, e14, hr⟩ := hr
      subst e14
      replace hr := Option.bind_eq_some_iff.mp hr
      obtain ⟨v15, e16, hr⟩ := hr
      refine rr_ldB C dX11_takesNumber_27 e16 ?_
      refine rr_bipush (v := 48) C dX11_takesNumber_28 (by decide) ?_
      refine rr_icmp_lt (tgt := 81) C dX11_takesNumber_30 (by decide) (fun c30_ => ?_) (fun c30_ => ?_)
      · replace hr := (if_pos c30_).symm.trans hr
        obtain rfl := Option.some.inj hr
        exact rr_keep [true, true, true, true] (hx0)
      · replace hr := (if_neg c30_).symm.trans hr
        refine rr_aload_n (i := 0) C dX11_takesNumber_33 rfl rfl ?_
        replace hr := Option.bind_eq_some_iff.mp hr
        obtain ⟨v17, e18, hr⟩ := hr
        refine rr_rdR C dX11_takesNumber_34 fl_X11_135 e18 ?_
        refine rr_iload_n (i := 3) C dX11_takesNumber_37 rfl rfl ?_
        replace hr := Option.bind_eq_some_iff.mp hr
        obtain ⟨a19, e20, hr⟩ := hr
        subst e20
        replace hr := Option.bind_eq_some_iff.mp hr
        obtain ⟨v21, e22, hr⟩ := hr
        refine rr_ldB C dX11_takesNumber_38 e22 ?_
        refine rr_bipush (v := 57) C dX11_takesNumber_39 (by decide) ?_
        refine rr_icmp_gt (tgt := 81) C dX11_takesNumber_41 (by decide) (fun c41_ => ?_) (fun c41_ => ?_)
        · replace hr := (if_pos c41_).symm.trans hr
          obtain rfl := Option.some.inj hr
          exact rr_keep [true, true, true, true] (hx0)
        · replace hr := (if_neg c41_).symm.trans hr
          refine rr_iload_n (i := 3) C dX11_takesNumber_44 rfl rfl ?_
          refine rr_aload_n (i := 0) C dX11_takesNumber_45 rfl rfl ?_
          replace hr := Option.bind_eq_some_iff.mp hr
          obtain ⟨v23, e24, hr⟩ := hr
          refine rr_rdI C dX11_takesNumber_46 fl_X11_221 e24 ?_
          refine rr_isub C dX11_takesNumber_49 ?_
          refine rr_iconst (v := 5) C dX11_takesNumber_50 (by decide) ?_
          refine rr_icmp_ge (tgt := 75) C dX11_takesNumber_51 (by decide) (fun c51_ => ?_) (fun c51_ => ?_)
          · replace hr := (if_pos c51_).symm.trans hr
            refine rr_iinc (v := l3 + 1) C dX11_takesNumber_75 rfl rfl ?_
            show WW W0 G 4 _ _ _ 78 [some (.ref l0), some (.int l1), some (.int l2), some (.int (l3 + 1))] [] h n _ _
            refine rr_goto (tgt := 14) C dX11_takesNumber_78 (by decide) ?_
            exact rr_keep [true, true, true, true] (ih_ _ _ hr hx0)
          · replace hr := (if_neg c51_).symm.trans hr
            refine rr_aload_n (i := 0) C dX11_takesNumber_54 rfl rfl ?_
            refine rr_bipush (v := 10) C dX11_takesNumber_55 (by decide) ?_
            refine rr_aload_n (i := 0) C dX11_takesNumber_57 rfl rfl ?_
            replace hr := Option.bind_eq_some_iff.mp hr
            obtain ⟨v25, e26, hr⟩ := hr
            refine rr_rdI C dX11_takesNumber_58 fl_X11_237 e26 ?_
            refine rr_imul C dX11_takesNumber_61 ?_
            refine rr_aload_n (i := 0) C dX11_takesNumber_62 rfl rfl ?_
            replace hr := Option.bind_eq_some_iff.mp hr
            obtain ⟨v27, e28, hr⟩ := hr
            refine rr_rdR C dX11_takesNumber_63 fl_X11_135 e28 ?_
            refine rr_iload_n (i := 3) C dX11_takesNumber_66 rfl rfl ?_
            replace hr := Option.bind_eq_some_iff.mp hr
            obtain ⟨a29, e30, hr⟩ := hr
            subst e30
            replace hr := Option.bind_eq_some_iff.mp hr
            obtain ⟨v31, e32, hr⟩ := hr
            refine rr_ldB C dX11_takesNumber_67 e32 ?_
            refine rr_iadd C dX11_takesNumber_68 ?_
            refine rr_bipush (v := 48) C dX11_takesNumber_69 (by decide) ?_
            refine rr_isub C dX11_takesNumber_71 ?_
            replace hr := Option.bind_eq_some_iff.mp hr
            obtain ⟨h33, e34, hr⟩ := hr
            refine rr_wrF C dX11_takesNumber_72 fp_X11_237 rfl rfl e34 ?_
            refine rr_iinc (v := l3 + 1) C dX11_takesNumber_75 rfl rfl ?_
            show WW W0 G 4 _ _ _ 78 [some (.ref l0), some (.int l1), some (.int l2), some (.int (l3 + 1))] [] h33 n _ _
            refine rr_goto (tgt := 14) C dX11_takesNumber_78 (by decide) ?_
            exact rr_keep [true, true, true, true] (ih_ _ _ hr hx0)
set_option maxRecDepth 100000 in
set_option maxHeartbeats 4000000 in
theorem c_X11_takesNumber {K : Nat} {G : mm_G} {l : Launch} {h : mm_H} {n : Nat} (l0 : Nat) (l1 : Int32) (l2 : Int32) {r_ : Int32 × mm_H} (hn : 32 ≤ n) (hr : q_X11_takesNumber K h n l0 l1 l2 = some r_) : Sp G l yX11_takesNumber cX11_takesNumber 4 (some .boolean) 1 0 0 [.ref l0, .int l1, .int l2] h n (fun v h' n' => v = some (.int r_.1) ∧ h' = r_.2 ∧ n' = n) := by
  refine Sp_of (by decide +kernel) (Nat.le_of_ble_eq_true rfl) hn ?_
  intro W0 hwl C
  subst hwl
  unfold q_X11_takesNumber at hr
  show WW W0 G 4 0 0 _ 0 [some (.ref l0), some (.int l1), some (.int l2), none] [] h n 0 0
  refine rr_aload_n (i := 0) C dX11_takesNumber_0 rfl rfl ?_
  replace hr := Option.bind_eq_some_iff.mp hr
  obtain ⟨u1, e2, hr⟩ := hr
  replace hr := Option.bind_eq_some_iff.mp hr
  obtain ⟨v3, e4, hr⟩ := hr
  refine rr_callVq (as := []) (st := []) (mc' := 0) (ms' := 0) C dX11_takesNumber_1 iv_X11_227 (by decide) e2 rfl (Nat.le_of_ble_eq_true rfl) (c_X11_blanks l0 (by omega) e4) (fun v_ h_ n_ q_ => ?_)
  obtain ⟨q1_, q2_, q3_⟩ := q_
  subst v_; subst h_; subst n_
  show WW W0 G 4 _ _ _ 4 [some (.ref l0), some (.int l1), some (.int l2), none] [] v3 n _ _
  refine rr_aload_n (i := 0) C dX11_takesNumber_4 rfl rfl ?_
  replace hr := Option.bind_eq_some_iff.mp hr
  obtain ⟨v5, e6, hr⟩ := hr
  refine rr_rdI C dX11_takesNumber_5 fl_X11_221 e6 ?_
  refine rr_istore_n (i := 3) C dX11_takesNumber_8 rfl (by decide) ?_
  show WW W0 G 4 _ _ _ 9 [some (.ref l0), some (.int l1), some (.int l2), some (.int v5)] [] v3 n _ _
  refine rr_aload_n (i := 0) C dX11_takesNumber_9 rfl rfl ?_
  refine rr_iconst (v := 0) C dX11_takesNumber_10 (by decide) ?_
  replace hr := Option.bind_eq_some_iff.mp hr
  obtain ⟨h7, e8, hr⟩ := hr
  refine rr_wrF C dX11_takesNumber_11 fp_X11_237 rfl rfl e8 ?_
  replace hr := Option.bind_eq_some_iff.mp hr
  obtain ⟨v35, e36, hr⟩ := hr
  refine rr_keep [true, true, true, true] (w_X11_takesNumber_14 C (by omega) l0 l1 l2 K v5 h7 e36 ?_)
  show WW W0 G 4 _ _ _ 81 [some (.ref l0), some (.int l1), some (.int l2), some (.int v35.1)] [] v35.2 n _ _
  refine rr_iload_n (i := 3) C dX11_takesNumber_81 rfl rfl ?_
  refine rr_aload_n (i := 0) C dX11_takesNumber_82 rfl rfl ?_
  replace hr := Option.bind_eq_some_iff.mp hr
  obtain ⟨v37, e38, hr⟩ := hr
  refine rr_rdI C dX11_takesNumber_83 fl_X11_221 e38 ?_
  refine rr_icmp_eq (tgt := 111) C dX11_takesNumber_86 (by decide) (fun c86_ => ?_) (fun c86_ => ?_)
  · replace hr := (if_pos c86_).symm.trans hr
    refine rr_iconst (v := 0) C dX11_takesNumber_111 (by decide) ?_
    obtain rfl := Option.some.inj hr
    exact rr_iret (ty := .boolean) C dX11_takesNumber_112 rfl rfl ⟨rfl, rfl, rfl⟩
  · replace hr := (if_neg c86_).symm.trans hr
    refine rr_iload_n (i := 3) C dX11_takesNumber_89 rfl rfl ?_
    refine rr_aload_n (i := 0) C dX11_takesNumber_90 rfl rfl ?_
    replace hr := Option.bind_eq_some_iff.mp hr
    obtain ⟨v39, e40, hr⟩ := hr
    refine rr_rdI C dX11_takesNumber_91 fl_X11_221 e40 ?_
    refine rr_isub C dX11_takesNumber_94 ?_
    refine rr_iconst (v := 5) C dX11_takesNumber_95 (by decide) ?_
    refine rr_icmp_gt (tgt := 111) C dX11_takesNumber_96 (by decide) (fun c96_ => ?_) (fun c96_ => ?_)
    · replace hr := (if_pos c96_).symm.trans hr
      refine rr_iconst (v := 0) C dX11_takesNumber_111 (by decide) ?_
      obtain rfl := Option.some.inj hr
      exact rr_iret (ty := .boolean) C dX11_takesNumber_112 rfl rfl ⟨rfl, rfl, rfl⟩
    · replace hr := (if_neg c96_).symm.trans hr
      refine rr_aload_n (i := 0) C dX11_takesNumber_99 rfl rfl ?_
      replace hr := Option.bind_eq_some_iff.mp hr
      obtain ⟨v41, e42, hr⟩ := hr
      refine rr_rdI C dX11_takesNumber_100 fl_X11_237 e42 ?_
      refine rr_iload_n (i := 1) C dX11_takesNumber_103 rfl rfl ?_
      refine rr_iload_n (i := 2) C dX11_takesNumber_104 rfl rfl ?_
      replace hr := Option.bind_eq_some_iff.mp hr
      obtain ⟨v43, e44, hr⟩ := hr
      refine rr_callS (as := [.int v41, .int l1, .int l2]) (st := []) (mc' := 0) (ms' := 0) C dX11_takesNumber_105 it_X11_165 (by decide) (Nat.le_of_ble_eq_true rfl) (c_X11_isIn v41 l1 l2 (by omega) e44) (fun v_ h_ n_ q_ => ?_)
      obtain ⟨q1_, q2_, q3_⟩ := q_
      subst v_; subst h_; subst n_
      show WW W0 G 4 _ _ _ 108 [some (.ref l0), some (.int l1), some (.int l2), some (.int v35.1)] [.int v43] v35.2 n _ _
      refine rr_if_ne (tgt := 113) C dX11_takesNumber_108 (by decide) (fun c108_ => ?_) (fun c108_ => ?_)
      · replace hr := (if_neg c108_).symm.trans hr
        refine rr_aload_n (i := 0) C dX11_takesNumber_113 rfl rfl ?_
        refine rr_iload_n (i := 3) C dX11_takesNumber_114 rfl rfl ?_
        replace hr := Option.bind_eq_some_iff.mp hr
        obtain ⟨h45, e46, hr⟩ := hr
        refine rr_wrF C dX11_takesNumber_115 fp_X11_221 rfl rfl e46 ?_
        refine rr_iconst (v := 1) C dX11_takesNumber_118 (by decide) ?_
        obtain rfl := Option.some.inj hr
        exact rr_iret (ty := .boolean) C dX11_takesNumber_119 rfl rfl ⟨rfl, rfl, rfl⟩
      · replace hr := (if_pos c108_).symm.trans hr
        refine rr_iconst (v := 0) C dX11_takesNumber_111 (by decide) ?_
        obtain rfl := Option.some.inj hr
        exact rr_iret (ty := .boolean) C dX11_takesNumber_112 rfl rfl ⟨rfl, rfl, rfl⟩
def q_X11_takesPlain (K : Nat) (h : mm_H) (n : Nat) (l0 : Nat) : Option (Int32 × mm_H) :=
  (ckq h n l0 10).bind fun u1 =>
  (q_X11_takesNumber K h n l0 0 99999).bind fun v3 =>
  (ckz v3.1).bind fun u5 =>
  some (v3.1, v3.2)
set_option maxRecDepth 100000 in
set_option maxHeartbeats 4000000 in
theorem c_X11_takesPlain {K : Nat} {G : mm_G} {l : Launch} {h : mm_H} {n : Nat} (l0 : Nat) {r_ : Int32 × mm_H} (hn : 32 ≤ n) (hr : q_X11_takesPlain K h n l0 = some r_) : Sp G l yX11_takesPlain cX11_takesPlain 1 (some .boolean) 2 0 0 [.ref l0] h n (fun v h' n' => v = some (.int r_.1) ∧ h' = r_.2 ∧ n' = n) := by
  refine Sp_of (by decide +kernel) (Nat.le_of_ble_eq_true rfl) hn ?_
  intro W0 hwl C
  subst hwl
  unfold q_X11_takesPlain at hr
  show WW W0 G 1 0 0 _ 0 [some (.ref l0)] [] h n 0 0
  refine rr_aload_n (i := 0) C dX11_takesPlain_0 rfl rfl ?_
  refine rr_iconst (v := 0) C dX11_takesPlain_1 (by decide) ?_
  refine rr_ldc C dX11_takesPlain_2 ct_X11_176 ?_
  replace hr := Option.bind_eq_some_iff.mp hr
  obtain ⟨u1, e2, hr⟩ := hr
  replace hr := Option.bind_eq_some_iff.mp hr
  obtain ⟨v3, e4, hr⟩ := hr
  refine rr_callVq (as := [.int 0, .int 99999]) (st := []) (mc' := 0) (ms' := 0) C dX11_takesPlain_4 iv_X11_240 (by decide) e2 rfl (Nat.le_of_ble_eq_true rfl) (c_X11_takesNumber l0 0 99999 (by omega) e4) (fun v_ h_ n_ q_ => ?_)
  obtain ⟨q1_, q2_, q3_⟩ := q_
  subst v_; subst h_; subst n_
  show WW W0 G 1 _ _ _ 7 [some (.ref l0)] [.int v3.1] v3.2 n _ _
  replace hr := Option.bind_eq_some_iff.mp hr
  obtain ⟨u5, e6, hr⟩ := hr
  obtain rfl := Option.some.inj hr
  exact rr_iret (ty := .boolean) C dX11_takesPlain_7 rfl (ckz_s e6) ⟨rfl, rfl, rfl⟩
def q_X11_node (K : Nat) (h : mm_H) (n : Nat) (l0 : Nat) (l1 : Int32) : Option (Int32 × mm_H) :=
  (rdR h n l0 10 35).bind fun v1 =>
  v1.bind fun a3 =>
  (ldI h n a3 13).bind fun v5 =>
  (rdR h n l0 10 45).bind fun v8 =>
  v8.bind fun a10 =>
  (stI h n a10 (84500 + v5) l1).bind fun h12 =>
  (rdR h12 n l0 10 46).bind fun v14 =>
  v14.bind fun a16 =>
  (stI h12 n a16 (84500 + v5) (-1)).bind fun h18 =>
  (rdR h18 n l0 10 47).bind fun v20 =>
  v20.bind fun a22 =>
  (stI h18 n a22 (84500 + v5) (-1)).bind fun h24 =>
  (rdR h24 n l0 10 35).bind fun v26 =>
  v26.bind fun a28 =>
  (ldI h24 n a28 13).bind fun v30 =>
  (stI h24 n a28 13 (v30 + 1)).bind fun h32 =>
  some (84500 + v5, h32)
set_option maxRecDepth 100000 in
set_option maxHeartbeats 4000000 in
theorem c_X11_node {K : Nat} {G : mm_G} {l : Launch} {h : mm_H} {n : Nat} (l0 : Nat) (l1 : Int32) {r_ : Int32 × mm_H} (hn : 32 ≤ n) (hr : q_X11_node K h n l0 l1 = some r_) : Sp G l yX11_node cX11_node 3 (some .int) 0 0 0 [.ref l0, .int l1] h n (fun v h' n' => v = some (.int r_.1) ∧ h' = r_.2 ∧ n' = n) := by
  refine Sp_of (by decide +kernel) (Nat.le_of_ble_eq_true rfl) hn ?_
  intro W0 hwl C
  subst hwl
  unfold q_X11_node at hr
  show WW W0 G 3 0 0 _ 0 [some (.ref l0), some (.int l1), none] [] h n 0 0
  refine rr_ldc C dX11_node_0 ct_X11_244 ?_
  refine rr_aload_n (i := 0) C dX11_node_2 rfl rfl ?_
  replace hr := Option.bind_eq_some_iff.mp hr
  obtain ⟨v1, e2, hr⟩ := hr
  refine rr_rdR C dX11_node_3 fl_X11_78 e2 ?_
  refine rr_bipush (v := 13) C dX11_node_6 (by decide) ?_
  replace hr := Option.bind_eq_some_iff.mp hr
  obtain ⟨a3, e4, hr⟩ := hr
  subst e4
  replace hr := Option.bind_eq_some_iff.mp hr
  obtain ⟨v5, e6, hr⟩ := hr
  refine rr_ldI C dX11_node_8 e6 ?_
  refine rr_iadd C dX11_node_9 ?_
  refine rr_istore_n (i := 2) C dX11_node_10 rfl (by decide) ?_
  show WW W0 G 3 _ _ _ 11 [some (.ref l0), some (.int l1), some (.int (84500 + v5))] [] h n _ _
  refine rr_aload_n (i := 0) C dX11_node_11 rfl rfl ?_
  replace hr := Option.bind_eq_some_iff.mp hr
  obtain ⟨v8, e9, hr⟩ := hr
  refine rr_rdR C dX11_node_12 fl_X11_109 e9 ?_
  refine rr_iload_n (i := 2) C dX11_node_15 rfl rfl ?_
  refine rr_iload_n (i := 1) C dX11_node_16 rfl rfl ?_
  replace hr := Option.bind_eq_some_iff.mp hr
  obtain ⟨a10, e11, hr⟩ := hr
  subst e11
  replace hr := Option.bind_eq_some_iff.mp hr
  obtain ⟨h12, e13, hr⟩ := hr
  refine rr_stI C dX11_node_17 e13 ?_
  refine rr_aload_n (i := 0) C dX11_node_18 rfl rfl ?_
  replace hr := Option.bind_eq_some_iff.mp hr
  obtain ⟨v14, e15, hr⟩ := hr
  refine rr_rdR C dX11_node_19 fl_X11_112 e15 ?_
  refine rr_iload_n (i := 2) C dX11_node_22 rfl rfl ?_
  refine rr_iconst (v := (-1)) C dX11_node_23 (by decide) ?_
  replace hr := Option.bind_eq_some_iff.mp hr
  obtain ⟨a16, e17, hr⟩ := hr
  subst e17
  replace hr := Option.bind_eq_some_iff.mp hr
  obtain ⟨h18, e19, hr⟩ := hr
  refine rr_stI C dX11_node_24 e19 ?_
  refine rr_aload_n (i := 0) C dX11_node_25 rfl rfl ?_
  replace hr := Option.bind_eq_some_iff.mp hr
  obtain ⟨v20, e21, hr⟩ := hr
  refine rr_rdR C dX11_node_26 fl_X11_115 e21 ?_
  refine rr_iload_n (i := 2) C dX11_node_29 rfl rfl ?_
  refine rr_iconst (v := (-1)) C dX11_node_30 (by decide) ?_
  replace hr := Option.bind_eq_some_iff.mp hr
  obtain ⟨a22, e23, hr⟩ := hr
  subst e23
  replace hr := Option.bind_eq_some_iff.mp hr
  obtain ⟨h24, e25, hr⟩ := hr
  refine rr_stI C dX11_node_31 e25 ?_
  refine rr_aload_n (i := 0) C dX11_node_32 rfl rfl ?_
  replace hr := Option.bind_eq_some_iff.mp hr
  obtain ⟨v26, e27, hr⟩ := hr
  refine rr_rdR C dX11_node_33 fl_X11_78 e27 ?_
  refine rr_bipush (v := 13) C dX11_node_36 (by decide) ?_
  refine rr_dup2 C dX11_node_38 rfl (rf_cat _) ?_
  replace hr := Option.bind_eq_some_iff.mp hr
  obtain ⟨a28, e29, hr⟩ := hr
  subst e29
  replace hr := Option.bind_eq_some_iff.mp hr
  obtain ⟨v30, e31, hr⟩ := hr
  refine rr_ldI C dX11_node_39 e31 ?_
  refine rr_iconst (v := 1) C dX11_node_40 (by decide) ?_
  refine rr_iadd C dX11_node_41 ?_
  replace hr := Option.bind_eq_some_iff.mp hr
  obtain ⟨h32, e33, hr⟩ := hr
  refine rr_stI C dX11_node_42 e33 ?_
  refine rr_iload_n (i := 2) C dX11_node_43 rfl rfl ?_
  obtain rfl := Option.some.inj hr
  exact rr_iret (ty := .int) C dX11_node_44 rfl rfl ⟨rfl, rfl, rfl⟩
def q_X11_asked (K : Nat) (h : mm_H) (n : Nat) (l0 : Int64) : Option (Int32) :=
  if (lg_cmp l0 2036687218) = 0 then
    some 0
  else
  if (lg_cmp l0 1718186605) = 0 then
    some 1
  else
  if (lg_cmp l0 448546039155) = 0 then
    some 2
  else
  if (lg_cmp l0 512970880104) = 0 then
    some 3
  else
  if (lg_cmp l0 1818326117) = 0 then
    some 4
  else
  some (-1)
set_option maxRecDepth 100000 in
set_option maxHeartbeats 4000000 in
theorem c_X11_asked {K : Nat} {G : mm_G} {l : Launch} {h : mm_H} {n : Nat} (l0 : Int64) {r_ : Int32} (hn : 32 ≤ n) (hr : q_X11_asked K h n l0 = some r_) : Sp G l yX11_asked cX11_asked 2 (some .int) 0 0 0 [.long l0] h n (fun v h' n' => v = some (.int r_) ∧ h' = h ∧ n' = n) := by
  refine Sp_of (by decide +kernel) (Nat.le_of_ble_eq_true rfl) hn ?_
  intro W0 hwl C
  subst hwl
  unfold q_X11_asked at hr
  show WW W0 G 2 0 0 _ 0 [some (.long l0), none] [] h n 0 0
  refine rr_lload_n (i := 0) C dX11_asked_0 rfl rfl ?_
  refine rr_ldc2 C dX11_asked_1 ct_X11_263 ?_
  refine rr_lcmp C dX11_asked_4 ?_
  refine rr_if_ne (tgt := 12) C dX11_asked_5 (by decide) (fun c5_ => ?_) (fun c5_ => ?_)
  · replace hr := (if_neg c5_).symm.trans hr
    refine rr_lload_n (i := 0) C dX11_asked_12 rfl rfl ?_
    refine rr_ldc2 C dX11_asked_13 ct_X11_265 ?_
    refine rr_lcmp C dX11_asked_16 ?_
    refine rr_if_ne (tgt := 24) C dX11_asked_17 (by decide) (fun c17_ => ?_) (fun c17_ => ?_)
    · replace hr := (if_neg c17_).symm.trans hr
      refine rr_lload_n (i := 0) C dX11_asked_24 rfl rfl ?_
      refine rr_ldc2 C dX11_asked_25 ct_X11_267 ?_
      refine rr_lcmp C dX11_asked_28 ?_
      refine rr_if_ne (tgt := 36) C dX11_asked_29 (by decide) (fun c29_ => ?_) (fun c29_ => ?_)
      · replace hr := (if_neg c29_).symm.trans hr
        refine rr_lload_n (i := 0) C dX11_asked_36 rfl rfl ?_
        refine rr_ldc2 C dX11_asked_37 ct_X11_269 ?_
        refine rr_lcmp C dX11_asked_40 ?_
        refine rr_if_ne (tgt := 48) C dX11_asked_41 (by decide) (fun c41_ => ?_) (fun c41_ => ?_)
        · replace hr := (if_neg c41_).symm.trans hr
          refine rr_lload_n (i := 0) C dX11_asked_48 rfl rfl ?_
          refine rr_ldc2 C dX11_asked_49 ct_X11_271 ?_
          refine rr_lcmp C dX11_asked_52 ?_
          refine rr_if_ne (tgt := 60) C dX11_asked_53 (by decide) (fun c53_ => ?_) (fun c53_ => ?_)
          · replace hr := (if_neg c53_).symm.trans hr
            refine rr_iconst (v := (-1)) C dX11_asked_60 (by decide) ?_
            obtain rfl := Option.some.inj hr
            exact rr_iret (ty := .int) C dX11_asked_61 rfl rfl ⟨rfl, rfl, rfl⟩
          · replace hr := (if_pos c53_).symm.trans hr
            refine rr_iconst (v := 4) C dX11_asked_56 (by decide) ?_
            refine rr_goto (tgt := 61) C dX11_asked_57 (by decide) ?_
            obtain rfl := Option.some.inj hr
            exact rr_iret (ty := .int) C dX11_asked_61 rfl rfl ⟨rfl, rfl, rfl⟩
        · replace hr := (if_pos c41_).symm.trans hr
          refine rr_iconst (v := 3) C dX11_asked_44 (by decide) ?_
          refine rr_goto (tgt := 61) C dX11_asked_45 (by decide) ?_
          obtain rfl := Option.some.inj hr
          exact rr_iret (ty := .int) C dX11_asked_61 rfl rfl ⟨rfl, rfl, rfl⟩
      · replace hr := (if_pos c29_).symm.trans hr
        refine rr_iconst (v := 2) C dX11_asked_32 (by decide) ?_
        refine rr_goto (tgt := 61) C dX11_asked_33 (by decide) ?_
        obtain rfl := Option.some.inj hr
        exact rr_iret (ty := .int) C dX11_asked_61 rfl rfl ⟨rfl, rfl, rfl⟩
    · replace hr := (if_pos c17_).symm.trans hr
      refine rr_iconst (v := 1) C dX11_asked_20 (by decide) ?_
      refine rr_goto (tgt := 61) C dX11_asked_21 (by decide) ?_
      obtain rfl := Option.some.inj hr
      exact rr_iret (ty := .int) C dX11_asked_61 rfl rfl ⟨rfl, rfl, rfl⟩
  · replace hr := (if_pos c5_).symm.trans hr
    refine rr_iconst (v := 0) C dX11_asked_8 (by decide) ?_
    refine rr_goto (tgt := 61) C dX11_asked_9 (by decide) ?_
    obtain rfl := Option.some.inj hr
    exact rr_iret (ty := .int) C dX11_asked_61 rfl rfl ⟨rfl, rfl, rfl⟩
def q_X11_head (K : Nat) (h : mm_H) (n : Nat) (l0 : Nat) (l1 : Int32) : Option (Int32 × mm_H) :=
  (rdR h n l0 10 37).bind fun v1 =>
  (ckq h n l0 10).bind fun u3 =>
  (q_X11_takes K h n l0 7501166).bind fun v5 =>
  if v5.1 = 0 then
    (ckq v5.2 n l0 10).bind fun u7 =>
    (q_X11_takes K v5.2 n l0 482805310835).bind fun v9 =>
    if v9.1 = 0 then
      (ckq v9.2 n l0 10).bind fun u11 =>
      (q_X11_takes K v9.2 n l0 482906432882).bind fun v13 =>
      if v13.1 = 0 then
        (ckq v13.2 n l0 10).bind fun u15 =>
        (q_X11_takes K v13.2 n l0 478694368626).bind fun v17 =>
        if v17.1 = 0 then
          v1.bind fun a19 =>
          (stI v17.2 n a19 l1 (-1)).bind fun h21 =>
          (rdR h21 n l0 10 37).bind fun v23 =>
          v23.bind fun a25 =>
          (ldI h21 n a25 l1).bind fun v27 =>
          if v27 = (-1) then
            some (0, h21)
          else
          some (1, h21)
        else
        v1.bind fun a29 =>
        (stI v17.2 n a29 l1 3).bind fun h31 =>
        (rdR h31 n l0 10 37).bind fun v33 =>
        v33.bind fun a35 =>
        (ldI h31 n a35 l1).bind fun v37 =>
        if v37 = (-1) then
          some (0, h31)
        else
        some (1, h31)
      else
      v1.bind fun a39 =>
      (stI v13.2 n a39 l1 2).bind fun h41 =>
      (rdR h41 n l0 10 37).bind fun v43 =>
      v43.bind fun a45 =>
      (ldI h41 n a45 l1).bind fun v47 =>
      if v47 = (-1) then
        some (0, h41)
      else
      some (1, h41)
    else
    v1.bind fun a49 =>
    (stI v9.2 n a49 l1 1).bind fun h51 =>
    (rdR h51 n l0 10 37).bind fun v53 =>
    v53.bind fun a55 =>
    (ldI h51 n a55 l1).bind fun v57 =>
    if v57 = (-1) then
      some (0, h51)
    else
    some (1, h51)
  else
  v1.bind fun a59 =>
  (stI v5.2 n a59 l1 0).bind fun h61 =>
  (rdR h61 n l0 10 37).bind fun v63 =>
  v63.bind fun a65 =>
  (ldI h61 n a65 l1).bind fun v67 =>
  if v67 = (-1) then
    some (0, h61)
  else
  some (1, h61)
set_option maxRecDepth 100000 in
set_option maxHeartbeats 4000000 in
theorem c_X11_head {K : Nat} {G : mm_G} {l : Launch} {h : mm_H} {n : Nat} (l0 : Nat) (l1 : Int32) {r_ : Int32 × mm_H} (hn : 32 ≤ n) (hr : q_X11_head K h n l0 l1 = some r_) : Sp G l yX11_head cX11_head 2 (some .boolean) 3 0 0 [.ref l0, .int l1] h n (fun v h' n' => v = some (.int r_.1) ∧ h' = r_.2 ∧ n' = n) := by
  refine Sp_of (by decide +kernel) (Nat.le_of_ble_eq_true rfl) hn ?_
  intro W0 hwl C
  subst hwl
  unfold q_X11_head at hr
  show WW W0 G 2 0 0 _ 0 [some (.ref l0), some (.int l1)] [] h n 0 0
  refine rr_aload_n (i := 0) C dX11_head_0 rfl rfl ?_
  replace hr := Option.bind_eq_some_iff.mp hr
  obtain ⟨v1, e2, hr⟩ := hr
  refine rr_rdR C dX11_head_1 fl_X11_84 e2 ?_
  refine rr_iload_n (i := 1) C dX11_head_4 rfl rfl ?_
  refine rr_aload_n (i := 0) C dX11_head_5 rfl rfl ?_
  refine rr_ldc2 C dX11_head_6 ct_X11_292 ?_
  replace hr := Option.bind_eq_some_iff.mp hr
  obtain ⟨u3, e4, hr⟩ := hr
  replace hr := Option.bind_eq_some_iff.mp hr
  obtain ⟨v5, e6, hr⟩ := hr
  refine rr_callVq (as := [.long 7501166]) (st := [.int l1, va_rf v1]) (mc' := 0) (ms' := 0) C dX11_head_9 iv_X11_254 (by decide) e4 rfl (by rcases v1 with _ | _ <;> exact Nat.le_of_ble_eq_true rfl) (c_X11_takes l0 7501166 (by omega) e6) (fun v_ h_ n_ q_ => ?_)
  obtain ⟨q1_, q2_, q3_⟩ := q_
  subst v_; subst h_; subst n_
  show WW W0 G 2 _ _ _ 12 [some (.ref l0), some (.int l1)] [.int v5.1, .int l1, va_rf v1] v5.2 n _ _
  refine rr_if_eq (tgt := 19) C dX11_head_12 (by decide) (fun c12_ => ?_) (fun c12_ => ?_)
  · replace hr := (if_pos c12_).symm.trans hr
    refine rr_aload_n (i := 0) C dX11_head_19 rfl rfl ?_
    refine rr_ldc2 C dX11_head_20 ct_X11_294 ?_
    replace hr := Option.bind_eq_some_iff.mp hr
    obtain ⟨u7, e8, hr⟩ := hr
    replace hr := Option.bind_eq_some_iff.mp hr
    obtain ⟨v9, e10, hr⟩ := hr
    refine rr_callVq (as := [.long 482805310835]) (st := [.int l1, va_rf v1]) (mc' := 0) (ms' := 0) C dX11_head_23 iv_X11_254 (by decide) e8 rfl (by rcases v1 with _ | _ <;> exact Nat.le_of_ble_eq_true rfl) (c_X11_takes l0 482805310835 (by omega) e10) (fun v_ h_ n_ q_ => ?_)
    obtain ⟨q1_, q2_, q3_⟩ := q_
    subst v_; subst h_; subst n_
    show WW W0 G 2 _ _ _ 26 [some (.ref l0), some (.int l1)] [.int v9.1, .int l1, va_rf v1] v9.2 n _ _
    refine rr_if_eq (tgt := 33) C dX11_head_26 (by decide) (fun c26_ => ?_) (fun c26_ => ?_)
    · replace hr := (if_pos c26_).symm.trans hr
      refine rr_aload_n (i := 0) C dX11_head_33 rfl rfl ?_
      refine rr_ldc2 C dX11_head_34 ct_X11_296 ?_
      replace hr := Option.bind_eq_some_iff.mp hr
      obtain ⟨u11, e12, hr⟩ := hr
      replace hr := Option.bind_eq_some_iff.mp hr
      obtain ⟨v13, e14, hr⟩ := hr
      refine rr_callVq (as := [.long 482906432882]) (st := [.int l1, va_rf v1]) (mc' := 0) (ms' := 0) C dX11_head_37 iv_X11_254 (by decide) e12 rfl (by rcases v1 with _ | _ <;> exact Nat.le_of_ble_eq_true rfl) (c_X11_takes l0 482906432882 (by omega) e14) (fun v_ h_ n_ q_ => ?_)
      obtain ⟨q1_, q2_, q3_⟩ := q_
      subst v_; subst h_; subst n_
      show WW W0 G 2 _ _ _ 40 [some (.ref l0), some (.int l1)] [.int v13.1, .int l1, va_rf v1] v13.2 n _ _
      refine rr_if_eq (tgt := 47) C dX11_head_40 (by decide) (fun c40_ => ?_) (fun c40_ => ?_)
      · replace hr := (if_pos c40_).symm.trans hr
        refine rr_aload_n (i := 0) C dX11_head_47 rfl rfl ?_
        refine rr_ldc2 C dX11_head_48 ct_X11_298 ?_
        replace hr := Option.bind_eq_some_iff.mp hr
        obtain ⟨u15, e16, hr⟩ := hr
        replace hr := Option.bind_eq_some_iff.mp hr
        obtain ⟨v17, e18, hr⟩ := hr
        refine rr_callVq (as := [.long 478694368626]) (st := [.int l1, va_rf v1]) (mc' := 0) (ms' := 0) C dX11_head_51 iv_X11_254 (by decide) e16 rfl (by rcases v1 with _ | _ <;> exact Nat.le_of_ble_eq_true rfl) (c_X11_takes l0 478694368626 (by omega) e18) (fun v_ h_ n_ q_ => ?_)
        obtain ⟨q1_, q2_, q3_⟩ := q_
        subst v_; subst h_; subst n_
        show WW W0 G 2 _ _ _ 54 [some (.ref l0), some (.int l1)] [.int v17.1, .int l1, va_rf v1] v17.2 n _ _
        refine rr_if_eq (tgt := 61) C dX11_head_54 (by decide) (fun c54_ => ?_) (fun c54_ => ?_)
        · replace hr := (if_pos c54_).symm.trans hr
          refine rr_iconst (v := (-1)) C dX11_head_61 (by decide) ?_
          replace hr := Option.bind_eq_some_iff.mp hr
          obtain ⟨a19, e20, hr⟩ := hr
          subst e20
          replace hr := Option.bind_eq_some_iff.mp hr
          obtain ⟨h21, e22, hr⟩ := hr
          refine rr_stI C dX11_head_62 e22 ?_
          refine rr_aload_n (i := 0) C dX11_head_63 rfl rfl ?_
          replace hr := Option.bind_eq_some_iff.mp hr
          obtain ⟨v23, e24, hr⟩ := hr
          refine rr_rdR C dX11_head_64 fl_X11_84 e24 ?_
          refine rr_iload_n (i := 1) C dX11_head_67 rfl rfl ?_
          replace hr := Option.bind_eq_some_iff.mp hr
          obtain ⟨a25, e26, hr⟩ := hr
          subst e26
          replace hr := Option.bind_eq_some_iff.mp hr
          obtain ⟨v27, e28, hr⟩ := hr
          refine rr_ldI C dX11_head_68 e28 ?_
          refine rr_iconst (v := (-1)) C dX11_head_69 (by decide) ?_
          refine rr_icmp_eq (tgt := 77) C dX11_head_70 (by decide) (fun c70_ => ?_) (fun c70_ => ?_)
          · replace hr := (if_pos c70_).symm.trans hr
            refine rr_iconst (v := 0) C dX11_head_77 (by decide) ?_
            obtain rfl := Option.some.inj hr
            exact rr_iret (ty := .boolean) C dX11_head_78 rfl rfl ⟨rfl, rfl, rfl⟩
          · replace hr := (if_neg c70_).symm.trans hr
            refine rr_iconst (v := 1) C dX11_head_73 (by decide) ?_
            refine rr_goto (tgt := 78) C dX11_head_74 (by decide) ?_
            obtain rfl := Option.some.inj hr
            exact rr_iret (ty := .boolean) C dX11_head_78 rfl rfl ⟨rfl, rfl, rfl⟩
        · replace hr := (if_neg c54_).symm.trans hr
          refine rr_iconst (v := 3) C dX11_head_57 (by decide) ?_
          refine rr_goto (tgt := 62) C dX11_head_58 (by decide) ?_
          replace hr := Option.bind_eq_some_iff.mp hr
          obtain ⟨a29, e30, hr⟩ := hr
          subst e30
          replace hr := Option.bind_eq_some_iff.mp hr
          obtain ⟨h31, e32, hr⟩ := hr
          refine rr_stI C dX11_head_62 e32 ?_
          refine rr_aload_n (i := 0) C dX11_head_63 rfl rfl ?_
          replace hr := Option.bind_eq_some_iff.mp hr
          obtain ⟨v33, e34, hr⟩ := hr
          refine rr_rdR C dX11_head_64 fl_X11_84 e34 ?_
          refine rr_iload_n (i := 1) C dX11_head_67 rfl rfl ?_
          replace hr := Option.bind_eq_some_iff.mp hr
          obtain ⟨a35, e36, hr⟩ := hr
          subst e36
          replace hr := Option.bind_eq_some_iff.mp hr
          obtain ⟨v37, e38, hr⟩ := hr
          refine rr_ldI C dX11_head_68 e38 ?_
          refine rr_iconst (v := (-1)) C dX11_head_69 (by decide) ?_
          refine rr_icmp_eq (tgt := 77) C dX11_head_70 (by decide) (fun c70_ => ?_) (fun c70_ => ?_)
          · replace hr := (if_pos c70_).symm.trans hr
            refine rr_iconst (v := 0) C dX11_head_77 (by decide) ?_
            obtain rfl := Option.some.inj hr
            exact rr_iret (ty := .boolean) C dX11_head_78 rfl rfl ⟨rfl, rfl, rfl⟩
          · replace hr := (if_neg c70_).symm.trans hr
            refine rr_iconst (v := 1) C dX11_head_73 (by decide) ?_
            refine rr_goto (tgt := 78) C dX11_head_74 (by decide) ?_
            obtain rfl := Option.some.inj hr
            exact rr_iret (ty := .boolean) C dX11_head_78 rfl rfl ⟨rfl, rfl, rfl⟩
      · replace hr := (if_neg c40_).symm.trans hr
        refine rr_iconst (v := 2) C dX11_head_43 (by decide) ?_
        refine rr_goto (tgt := 62) C dX11_head_44 (by decide) ?_
        replace hr := Option.bind_eq_some_iff.mp hr
        obtain ⟨a39, e40, hr⟩ := hr
        subst e40
        replace hr := Option.bind_eq_some_iff.mp hr
        obtain ⟨h41, e42, hr⟩ := hr
        refine rr_stI C dX11_head_62 e42 ?_
        refine rr_aload_n (i := 0) C dX11_head_63 rfl rfl ?_
        replace hr := Option.bind_eq_some_iff.mp hr
        obtain ⟨v43, e44, hr⟩ := hr
        refine rr_rdR C dX11_head_64 fl_X11_84 e44 ?_
        refine rr_iload_n (i := 1) C dX11_head_67 rfl rfl ?_
        replace hr := Option.bind_eq_some_iff.mp hr
        obtain ⟨a45, e46, hr⟩ := hr
        subst e46
        replace hr := Option.bind_eq_some_iff.mp hr
        obtain ⟨v47, e48, hr⟩ := hr
        refine rr_ldI C dX11_head_68 e48 ?_
        refine rr_iconst (v := (-1)) C dX11_head_69 (by decide) ?_
        refine rr_icmp_eq (tgt := 77) C dX11_head_70 (by decide) (fun c70_ => ?_) (fun c70_ => ?_)
        · replace hr := (if_pos c70_).symm.trans hr
          refine rr_iconst (v := 0) C dX11_head_77 (by decide) ?_
          obtain rfl := Option.some.inj hr
          exact rr_iret (ty := .boolean) C dX11_head_78 rfl rfl ⟨rfl, rfl, rfl⟩
        · replace hr := (if_neg c70_).symm.trans hr
          refine rr_iconst (v := 1) C dX11_head_73 (by decide) ?_
          refine rr_goto (tgt := 78) C dX11_head_74 (by decide) ?_
          obtain rfl := Option.some.inj hr
          exact rr_iret (ty := .boolean) C dX11_head_78 rfl rfl ⟨rfl, rfl, rfl⟩
    · replace hr := (if_neg c26_).symm.trans hr
      refine rr_iconst (v := 1) C dX11_head_29 (by decide) ?_
      refine rr_goto (tgt := 62) C dX11_head_30 (by decide) ?_
      replace hr := Option.bind_eq_some_iff.mp hr
      obtain ⟨a49, e50, hr⟩ := hr
      subst e50
      replace hr := Option.bind_eq_some_iff.mp hr
      obtain ⟨h51, e52, hr⟩ := hr
      refine rr_stI C dX11_head_62 e52 ?_
      refine rr_aload_n (i := 0) C dX11_head_63 rfl rfl ?_
      replace hr := Option.bind_eq_some_iff.mp hr
      obtain ⟨v53, e54, hr⟩ := hr
      refine rr_rdR C dX11_head_64 fl_X11_84 e54 ?_
      refine rr_iload_n (i := 1) C dX11_head_67 rfl rfl ?_
      replace hr := Option.bind_eq_some_iff.mp hr
      obtain ⟨a55, e56, hr⟩ := hr
      subst e56
      replace hr := Option.bind_eq_some_iff.mp hr
      obtain ⟨v57, e58, hr⟩ := hr
      refine rr_ldI C dX11_head_68 e58 ?_
      refine rr_iconst (v := (-1)) C dX11_head_69 (by decide) ?_
      refine rr_icmp_eq (tgt := 77) C dX11_head_70 (by decide) (fun c70_ => ?_) (fun c70_ => ?_)
      · replace hr := (if_pos c70_).symm.trans hr
        refine rr_iconst (v := 0) C dX11_head_77 (by decide) ?_
        obtain rfl := Option.some.inj hr
        exact rr_iret (ty := .boolean) C dX11_head_78 rfl rfl ⟨rfl, rfl, rfl⟩
      · replace hr := (if_neg c70_).symm.trans hr
        refine rr_iconst (v := 1) C dX11_head_73 (by decide) ?_
        refine rr_goto (tgt := 78) C dX11_head_74 (by decide) ?_
        obtain rfl := Option.some.inj hr
        exact rr_iret (ty := .boolean) C dX11_head_78 rfl rfl ⟨rfl, rfl, rfl⟩
  · replace hr := (if_neg c12_).symm.trans hr
    refine rr_iconst (v := 0) C dX11_head_15 (by decide) ?_
    refine rr_goto (tgt := 62) C dX11_head_16 (by decide) ?_
    replace hr := Option.bind_eq_some_iff.mp hr
    obtain ⟨a59, e60, hr⟩ := hr
    subst e60
    replace hr := Option.bind_eq_some_iff.mp hr
    obtain ⟨h61, e62, hr⟩ := hr
    refine rr_stI C dX11_head_62 e62 ?_
    refine rr_aload_n (i := 0) C dX11_head_63 rfl rfl ?_
    replace hr := Option.bind_eq_some_iff.mp hr
    obtain ⟨v63, e64, hr⟩ := hr
    refine rr_rdR C dX11_head_64 fl_X11_84 e64 ?_
    refine rr_iload_n (i := 1) C dX11_head_67 rfl rfl ?_
    replace hr := Option.bind_eq_some_iff.mp hr
    obtain ⟨a65, e66, hr⟩ := hr
    subst e66
    replace hr := Option.bind_eq_some_iff.mp hr
    obtain ⟨v67, e68, hr⟩ := hr
    refine rr_ldI C dX11_head_68 e68 ?_
    refine rr_iconst (v := (-1)) C dX11_head_69 (by decide) ?_
    refine rr_icmp_eq (tgt := 77) C dX11_head_70 (by decide) (fun c70_ => ?_) (fun c70_ => ?_)
    · replace hr := (if_pos c70_).symm.trans hr
      refine rr_iconst (v := 0) C dX11_head_77 (by decide) ?_
      obtain rfl := Option.some.inj hr
      exact rr_iret (ty := .boolean) C dX11_head_78 rfl rfl ⟨rfl, rfl, rfl⟩
    · replace hr := (if_neg c70_).symm.trans hr
      refine rr_iconst (v := 1) C dX11_head_73 (by decide) ?_
      refine rr_goto (tgt := 78) C dX11_head_74 (by decide) ?_
      obtain rfl := Option.some.inj hr
      exact rr_iret (ty := .boolean) C dX11_head_78 rfl rfl ⟨rfl, rfl, rfl⟩

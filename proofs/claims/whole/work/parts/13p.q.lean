def q_X11_keeps (K : Nat) (h : mm_H) (n : Nat) (l0 : Nat) (l1 : Int32) (l2 : Int32) (l3 : Int32) (l4 : Int32) (l5 : Int32) : Option (Int64 × mm_H) :=
  (rdI h n l0 10 0).bind fun v1 =>
  (ckq h n l0 10).bind fun u3 =>
  (q_X11_factBy K h n l0 l1 l3 (3 + l2) v1).bind fun v5 =>
  (q_X11_moded K h n (((Int32.toInt64 v5) * (Int32.toInt64 l5)) / 100)).bind fun v8 =>
  (rdR h n l0 10 40).bind fun v10 =>
  v10.bind fun a12 =>
  (ldI h n a12 l4).bind fun v14 =>
  (ckq h n l0 10).bind fun u17 =>
  (q_X11_bearsBy K h n l0 l1 l2 l3 ((Int32.toInt64 v5) - ((v8 * (Int32.toInt64 v14)) / 100))).bind fun v19 =>
  some (-v19.1, v19.2)
set_option maxRecDepth 100000 in
set_option maxHeartbeats 4000000 in
theorem c_X11_keeps {K : Nat} {G : mm_G} {l : Launch} {h : mm_H} {n : Nat} (l0 : Nat) (l1 : Int32) (l2 : Int32) (l3 : Int32) (l4 : Int32) (l5 : Int32) {r_ : Int64 × mm_H} (hn : 48 ≤ n) (hr : q_X11_keeps K h n l0 l1 l2 l3 l4 l5 = some r_) : Sp G l yX11_keeps cX11_keeps 10 (some .long) 51 0 0 [.ref l0, .int l1, .int l2, .int l3, .int l4, .int l5] h n (fun v h' n' => v = some (.long r_.1) ∧ h' = r_.2 ∧ n' = n) := by
  refine Sp_of (by decide +kernel) (Nat.le_of_ble_eq_true rfl) hn ?_
  intro W0 hwl C
  subst hwl
  unfold q_X11_keeps at hr
  show WW W0 G 10 0 0 _ 0 [some (.ref l0), some (.int l1), some (.int l2), some (.int l3), some (.int l4), some (.int l5), none, none, none, none] [] h n 0 0
  refine rr_aload_n (i := 0) C dX11_keeps_0 rfl rfl ?_
  refine rr_iload_n (i := 1) C dX11_keeps_1 rfl rfl ?_
  refine rr_iload_n (i := 3) C dX11_keeps_2 rfl rfl ?_
  refine rr_iconst (v := 3) C dX11_keeps_3 (by decide) ?_
  refine rr_iload_n (i := 2) C dX11_keeps_4 rfl rfl ?_
  refine rr_iadd C dX11_keeps_5 ?_
  refine rr_aload_n (i := 0) C dX11_keeps_6 rfl rfl ?_
  replace hr := Option.bind_eq_some_iff.mp hr
  obtain ⟨v1, e2, hr⟩ := hr
  refine rr_rdI C dX11_keeps_7 fl_X11_172 e2 ?_
  replace hr := Option.bind_eq_some_iff.mp hr
  obtain ⟨u3, e4, hr⟩ := hr
  replace hr := Option.bind_eq_some_iff.mp hr
  obtain ⟨v5, e6, hr⟩ := hr
  refine rr_callVq (as := [.int l1, .int l3, .int (3 + l2), .int v1]) (st := []) (mc' := 0) (ms' := 0) C dX11_keeps_10 iv_X11_198 (by decide) e4 rfl (Nat.le_of_ble_eq_true rfl) (c_X11_factBy l0 l1 l3 (3 + l2) v1 (by omega) e6) (fun v_ h_ n_ q_ => ?_)
  obtain ⟨q1_, q2_, q3_⟩ := q_
  subst v_; subst h_; subst n_
  show WW W0 G 10 _ _ _ 13 [some (.ref l0), some (.int l1), some (.int l2), some (.int l3), some (.int l4), some (.int l5), none, none, none, none] [.int v5] h n _ _
  refine rr_i2l C dX11_keeps_13 ?_
  refine rr_lstore C dX11_keeps_14 (by decide) ?_
  show WW W0 G 10 _ _ _ 16 [some (.ref l0), some (.int l1), some (.int l2), some (.int l3), some (.int l4), some (.int l5), some (.long (Int32.toInt64 v5)), none, none, none] [] h n _ _
  refine rr_lload C dX11_keeps_16 rfl ?_
  refine rr_iload C dX11_keeps_18 rfl ?_
  refine rr_i2l C dX11_keeps_20 ?_
  refine rr_lmul C dX11_keeps_21 ?_
  refine rr_ldc2 C dX11_keeps_22 ct_X11_433 ?_
  refine rr_ldiv C dX11_keeps_25 (by decide) ?_
  replace hr := Option.bind_eq_some_iff.mp hr
  obtain ⟨v8, e9, hr⟩ := hr
  refine rr_callS (as := [.long (((Int32.toInt64 v5) * (Int32.toInt64 l5)) / 100)]) (st := []) (mc' := 0) (ms' := 0) C dX11_keeps_26 it_X11_474 (by decide) (Nat.le_of_ble_eq_true rfl) (c_X11_moded (((Int32.toInt64 v5) * (Int32.toInt64 l5)) / 100) (by omega) e9) (fun v_ h_ n_ q_ => ?_)
  obtain ⟨q1_, q2_, q3_⟩ := q_
  subst v_; subst h_; subst n_
  show WW W0 G 10 _ _ _ 29 [some (.ref l0), some (.int l1), some (.int l2), some (.int l3), some (.int l4), some (.int l5), some (.long (Int32.toInt64 v5)), none, none, none] [.long v8] h n _ _
  refine rr_aload_n (i := 0) C dX11_keeps_29 rfl rfl ?_
  replace hr := Option.bind_eq_some_iff.mp hr
  obtain ⟨v10, e11, hr⟩ := hr
  refine rr_rdR C dX11_keeps_30 fl_X11_93 e11 ?_
  refine rr_iload C dX11_keeps_33 rfl ?_
  replace hr := Option.bind_eq_some_iff.mp hr
  obtain ⟨a12, e13, hr⟩ := hr
  subst e13
  replace hr := Option.bind_eq_some_iff.mp hr
  obtain ⟨v14, e15, hr⟩ := hr
  refine rr_ldI C dX11_keeps_35 e15 ?_
  refine rr_i2l C dX11_keeps_36 ?_
  refine rr_lmul C dX11_keeps_37 ?_
  refine rr_ldc2 C dX11_keeps_38 ct_X11_433 ?_
  refine rr_ldiv C dX11_keeps_41 (by decide) ?_
  refine rr_lstore C dX11_keeps_42 (by decide) ?_
  show WW W0 G 10 _ _ _ 44 [some (.ref l0), some (.int l1), some (.int l2), some (.int l3), some (.int l4), some (.int l5), some (.long (Int32.toInt64 v5)), none, some (.long ((v8 * (Int32.toInt64 v14)) / 100)), none] [] h n _ _
  refine rr_aload_n (i := 0) C dX11_keeps_44 rfl rfl ?_
  refine rr_iload_n (i := 1) C dX11_keeps_45 rfl rfl ?_
  refine rr_iload_n (i := 2) C dX11_keeps_46 rfl rfl ?_
  refine rr_iload_n (i := 3) C dX11_keeps_47 rfl rfl ?_
  refine rr_lload C dX11_keeps_48 rfl ?_
  refine rr_lload C dX11_keeps_50 rfl ?_
  refine rr_lsub C dX11_keeps_52 ?_
  replace hr := Option.bind_eq_some_iff.mp hr
  obtain ⟨u17, e18, hr⟩ := hr
  replace hr := Option.bind_eq_some_iff.mp hr
  obtain ⟨v19, e20, hr⟩ := hr
  refine rr_callVq (as := [.int l1, .int l2, .int l3, .long ((Int32.toInt64 v5) - ((v8 * (Int32.toInt64 v14)) / 100))]) (st := []) (mc' := 0) (ms' := 0) C dX11_keeps_53 iv_X11_496 (by decide) e18 rfl (Nat.le_of_ble_eq_true rfl) (c_X11_bearsBy l0 l1 l2 l3 ((Int32.toInt64 v5) - ((v8 * (Int32.toInt64 v14)) / 100)) (by omega) e20) (fun v_ h_ n_ q_ => ?_)
  obtain ⟨q1_, q2_, q3_⟩ := q_
  subst v_; subst h_; subst n_
  show WW W0 G 10 _ _ _ 56 [some (.ref l0), some (.int l1), some (.int l2), some (.int l3), some (.int l4), some (.int l5), some (.long (Int32.toInt64 v5)), none, some (.long ((v8 * (Int32.toInt64 v14)) / 100)), none] [.long v19.1] v19.2 n _ _
  refine rr_lneg C dX11_keeps_56 ?_
  obtain rfl := Option.some.inj hr
  exact rr_lret C dX11_keeps_57 rfl ⟨rfl, rfl, rfl⟩
def lp_X11_hole_115 (K : Nat) (n : Nat) (l0 : Nat) (l1 : Int32) (l2 : Int32) (l3 : Int32) (l4 : Int32) (l5 : Int32) : Nat → Int32 → Int32 → mm_H → Option (Int32 × mm_H)
  | 0, _, _, _ => none
  | k_ + 1, l6, l7, h =>
    if 120 < l7 then
      some (l6, h)
    else
    (ckq h n l0 10).bind fun u36 =>
    (q_X11_keeps K h n l0 l1 l2 l3 l5 l7).bind fun v38 =>
    (ckq v38.2 n l0 10).bind fun u40 =>
    (q_X11_keeps K v38.2 n l0 l1 l2 l3 l5 l6).bind fun v42 =>
    if (lg_cmp v38.1 v42.1) ≤ 0 then
      lp_X11_hole_115 K n l0 l1 l2 l3 l4 l5 k_ l6 (l7 + 5) v42.2
    else
    lp_X11_hole_115 K n l0 l1 l2 l3 l4 l5 k_ l7 (l7 + 5) v42.2
def q_X11_hole (K : Nat) (h : mm_H) (n : Nat) (l0 : Nat) (l1 : Int32) (l2 : Int32) (l3 : Int32) (l4 : Int32) : Option (Int64 × mm_H) :=
  (ckq h n l0 10).bind fun u1 =>
  (q_X11_isFirm K h n l0 l1).bind fun v3 =>
  if v3 = 0 then
    some ((-2000000000000), h)
  else
  (q_X11_isHead K h n l2).bind fun v5 =>
  if v5 = 0 then
    some ((-2000000000000), h)
  else
  (q_X11_isYear K h n l3).bind fun v7 =>
  if v7 = 0 then
    some ((-2000000000000), h)
  else
  (q_X11_isIn K h n l4 0 2).bind fun v9 =>
  if v9 = 0 then
    some ((-2000000000000), h)
  else
  (ckq h n l0 10).bind fun u11 =>
  (q_X11_prepares K h n l0 l1).bind fun v13 =>
  (ckq v13 n l0 10).bind fun u15 =>
  (q_X11_statement K v13 n l0 l1 l3 0 l2).bind fun v17 =>
  if v17.1 = (-1) then
    some ((-2000000000000), v17.2)
  else
  (rdR v17.2 n l0 10 38).bind fun v20 =>
  v20.bind fun a22 =>
  (ldI v17.2 n a22 v17.1).bind fun v24 =>
  if v24 = 3 then
    (rdI v17.2 n l0 10 0).bind fun v26 =>
    (ckq v17.2 n l0 10).bind fun u28 =>
    (q_X11_factBy K v17.2 n l0 l1 l3 (3 + l2) v26).bind fun v30 =>
    if v30 = (-1) then
      some ((-2000000000000), v17.2)
    else
    if l4 = 2 then
      (ckq v17.2 n l0 10).bind fun u32 =>
      (q_X11_keeps K v17.2 n l0 l1 l2 l3 v17.1 100).bind fun v34 =>
      some (v34.1, v34.2)
    else
    (lp_X11_hole_115 K n l0 l1 l2 l3 l4 v17.1 K 80 85 v17.2).bind fun v44 =>
    if l4 = 0 then
      (ckq v44.2 n l0 10).bind fun u46 =>
      (q_X11_keeps K v44.2 n l0 l1 l2 l3 v17.1 v44.1).bind fun v48 =>
      some (v48.1, v48.2)
    else
    some (Int32.toInt64 v44.1, v44.2)
  else
  some ((-2000000000000), v17.2)
set_option maxRecDepth 100000 in
set_option maxHeartbeats 4000000 in
theorem w_X11_hole_115 {K : Nat} {W0 : mm_X} {G : mm_G} {mc ms kc ks : Nat} {Q_ : State → Prop} {n : Nat} (C : mm_C W0 G cX11_hole yX11_hole.cls 8 mc ms (some .long) 52 yX11_hole.name) (hn : 48 ≤ n) (l0 : Nat) (l1 : Int32) (l2 : Int32) (l3 : Int32) (l4 : Int32) (l5 : Int32) : ∀ (k_ : Nat) (l6 : Int32) (l7 : Int32) (h : mm_H) {r_ : Int32 × mm_H} (hr : lp_X11_hole_115 K n l0 l1 l2 l3 l4 l5 k_ l6 l7 h = some r_) (hx0 : WW W0 G 8 mc ms Q_ 158 [some (.ref l0), some (.int l1), some (.int l2), some (.int l3), some (.int l4), some (.int l5), some (.int r_.1), none] [] r_.2 n kc ks), WW W0 G 8 mc ms Q_ 115 [some (.ref l0), some (.int l1), some (.int l2), some (.int l3), some (.int l4), some (.int l5), some (.int l6), some (.int l7)] [] h n kc ks := by
  intro k_
  induction k_ with
  | zero =>
    intro l6 l7 h r_ hr
    cases hr
  | succ k_ ih_ =>
    intro l6 l7 h r_ hr hx0
    unfold lp_X11_hole_115 at hr
    refine rr_iload C dX11_hole_115 rfl ?_
    refine rr_bipush (v := 120) C dX11_hole_117 (by decide) ?_
    refine rr_icmp_gt (tgt := 158) C dX11_hole_119 (by decide) (fun c119_ => ?_) (fun c119_ => ?_)
    · replace hr := (if_pos c119_).symm.trans hr
      obtain rfl := Option.some.inj hr
      exact rr_keep [true, true, true, true, true, true, true, false] (hx0)
    · replace hr := (if_neg c119_).symm.trans hr
      refine rr_aload_n (i := 0) C dX11_hole_122 rfl rfl ?_
      refine rr_iload_n (i := 1) C dX11_hole_123 rfl rfl ?_
      refine rr_iload_n (i := 2) C dX11_hole_124 rfl rfl ?_
      refine rr_iload_n (i := 3) C dX11_hole_125 rfl rfl ?_
      refine rr_iload C dX11_hole_126 rfl ?_
      refine rr_iload C dX11_hole_128 rfl ?_
      replace hr := Option.bind_eq_some_iff.mp hr
      obtain ⟨u36, e37, hr⟩ := hr
      replace hr := Option.bind_eq_some_iff.mp hr
      obtain ⟨v38, e39, hr⟩ := hr
      refine rr_callVq (as := [.int l1, .int l2, .int l3, .int l5, .int l7]) (st := []) (mc' := 0) (ms' := 0) C dX11_hole_130 iv_X11_545 (by decide) e37 rfl (Nat.le_of_ble_eq_true rfl) (c_X11_keeps l0 l1 l2 l3 l5 l7 (by omega) e39) (fun v_ h_ n_ q_ => ?_)
      obtain ⟨q1_, q2_, q3_⟩ := q_
      subst v_; subst h_; subst n_
      show WW W0 G 8 _ _ _ 133 [some (.ref l0), some (.int l1), some (.int l2), some (.int l3), some (.int l4), some (.int l5), some (.int l6), some (.int l7)] [.long v38.1] v38.2 n _ _
      refine rr_aload_n (i := 0) C dX11_hole_133 rfl rfl ?_
      refine rr_iload_n (i := 1) C dX11_hole_134 rfl rfl ?_
      refine rr_iload_n (i := 2) C dX11_hole_135 rfl rfl ?_
      refine rr_iload_n (i := 3) C dX11_hole_136 rfl rfl ?_
      refine rr_iload C dX11_hole_137 rfl ?_
      refine rr_iload C dX11_hole_139 rfl ?_
      replace hr := Option.bind_eq_some_iff.mp hr
      obtain ⟨u40, e41, hr⟩ := hr
      replace hr := Option.bind_eq_some_iff.mp hr
      obtain ⟨v42, e43, hr⟩ := hr
      refine rr_callVq (as := [.int l1, .int l2, .int l3, .int l5, .int l6]) (st := [.long v38.1]) (mc' := 0) (ms' := 0) C dX11_hole_141 iv_X11_545 (by decide) e41 rfl (Nat.le_of_ble_eq_true rfl) (c_X11_keeps l0 l1 l2 l3 l5 l6 (by omega) e43) (fun v_ h_ n_ q_ => ?_)
      obtain ⟨q1_, q2_, q3_⟩ := q_
      subst v_; subst h_; subst n_
      show WW W0 G 8 _ _ _ 144 [some (.ref l0), some (.int l1), some (.int l2), some (.int l3), some (.int l4), some (.int l5), some (.int l6), some (.int l7)] [.long v42.1, .long v38.1] v42.2 n _ _
      refine rr_lcmp C dX11_hole_144 ?_
      refine rr_if_le (tgt := 152) C dX11_hole_145 (by decide) (fun c145_ => ?_) (fun c145_ => ?_)
      · replace hr := (if_pos c145_).symm.trans hr
        refine rr_iinc (v := l7 + 5) C dX11_hole_152 rfl rfl ?_
        show WW W0 G 8 _ _ _ 155 [some (.ref l0), some (.int l1), some (.int l2), some (.int l3), some (.int l4), some (.int l5), some (.int l6), some (.int (l7 + 5))] [] v42.2 n _ _
        refine rr_goto (tgt := 115) C dX11_hole_155 (by decide) ?_
        exact rr_keep [true, true, true, true, true, true, true, true] (ih_ _ _ _ hr hx0)
      · replace hr := (if_neg c145_).symm.trans hr
        refine rr_iload C dX11_hole_148 rfl ?_
        refine rr_istore C dX11_hole_150 (by decide) ?_
        show WW W0 G 8 _ _ _ 152 [some (.ref l0), some (.int l1), some (.int l2), some (.int l3), some (.int l4), some (.int l5), some (.int l7), some (.int l7)] [] v42.2 n _ _
        refine rr_iinc (v := l7 + 5) C dX11_hole_152 rfl rfl ?_
        show WW W0 G 8 _ _ _ 155 [some (.ref l0), some (.int l1), some (.int l2), some (.int l3), some (.int l4), some (.int l5), some (.int l7), some (.int (l7 + 5))] [] v42.2 n _ _
        refine rr_goto (tgt := 115) C dX11_hole_155 (by decide) ?_
        exact rr_keep [true, true, true, true, true, true, true, true] (ih_ _ _ _ hr hx0)
set_option maxRecDepth 100000 in
set_option maxHeartbeats 4000000 in
theorem c_X11_hole {K : Nat} {G : mm_G} {l : Launch} {h : mm_H} {n : Nat} (l0 : Nat) (l1 : Int32) (l2 : Int32) (l3 : Int32) (l4 : Int32) {r_ : Int64 × mm_H} (hn : 48 ≤ n) (hr : q_X11_hole K h n l0 l1 l2 l3 l4 = some r_) : Sp G l yX11_hole cX11_hole 8 (some .long) 52 0 0 [.ref l0, .int l1, .int l2, .int l3, .int l4] h n (fun v h' n' => v = some (.long r_.1) ∧ h' = r_.2 ∧ n' = n) := by
  refine Sp_of (by decide +kernel) (Nat.le_of_ble_eq_true rfl) hn ?_
  intro W0 hwl C
  subst hwl
  unfold q_X11_hole at hr
  show WW W0 G 8 0 0 _ 0 [some (.ref l0), some (.int l1), some (.int l2), some (.int l3), some (.int l4), none, none, none] [] h n 0 0
  refine rr_aload_n (i := 0) C dX11_hole_0 rfl rfl ?_
  refine rr_iload_n (i := 1) C dX11_hole_1 rfl rfl ?_
  replace hr := Option.bind_eq_some_iff.mp hr
  obtain ⟨u1, e2, hr⟩ := hr
  replace hr := Option.bind_eq_some_iff.mp hr
  obtain ⟨v3, e4, hr⟩ := hr
  refine rr_callVq (as := [.int l1]) (st := []) (mc' := 0) (ms' := 0) C dX11_hole_2 iv_X11_177 (by decide) e2 rfl (Nat.le_of_ble_eq_true rfl) (c_X11_isFirm l0 l1 (by omega) e4) (fun v_ h_ n_ q_ => ?_)
  obtain ⟨q1_, q2_, q3_⟩ := q_
  subst v_; subst h_; subst n_
  show WW W0 G 8 _ _ _ 5 [some (.ref l0), some (.int l1), some (.int l2), some (.int l3), some (.int l4), none, none, none] [.int v3] h n _ _
  refine rr_if_eq (tgt := 32) C dX11_hole_5 (by decide) (fun c5_ => ?_) (fun c5_ => ?_)
  · replace hr := (if_pos c5_).symm.trans hr
    refine rr_ldc2 C dX11_hole_32 ct_X11_441 ?_
    obtain rfl := Option.some.inj hr
    exact rr_lret C dX11_hole_35 rfl ⟨rfl, rfl, rfl⟩
  · replace hr := (if_neg c5_).symm.trans hr
    refine rr_iload_n (i := 2) C dX11_hole_8 rfl rfl ?_
    replace hr := Option.bind_eq_some_iff.mp hr
    obtain ⟨v5, e6, hr⟩ := hr
    refine rr_callS (as := [.int l2]) (st := []) (mc' := 0) (ms' := 0) C dX11_hole_9 it_X11_205 (by decide) (Nat.le_of_ble_eq_true rfl) (c_X11_isHead l2 (by omega) e6) (fun v_ h_ n_ q_ => ?_)
    obtain ⟨q1_, q2_, q3_⟩ := q_
    subst v_; subst h_; subst n_
    show WW W0 G 8 _ _ _ 12 [some (.ref l0), some (.int l1), some (.int l2), some (.int l3), some (.int l4), none, none, none] [.int v5] h n _ _
    refine rr_if_eq (tgt := 32) C dX11_hole_12 (by decide) (fun c12_ => ?_) (fun c12_ => ?_)
    · replace hr := (if_pos c12_).symm.trans hr
      refine rr_ldc2 C dX11_hole_32 ct_X11_441 ?_
      obtain rfl := Option.some.inj hr
      exact rr_lret C dX11_hole_35 rfl ⟨rfl, rfl, rfl⟩
    · replace hr := (if_neg c12_).symm.trans hr
      refine rr_iload_n (i := 3) C dX11_hole_15 rfl rfl ?_
      replace hr := Option.bind_eq_some_iff.mp hr
      obtain ⟨v7, e8, hr⟩ := hr
      refine rr_callS (as := [.int l3]) (st := []) (mc' := 0) (ms' := 0) C dX11_hole_16 it_X11_181 (by decide) (Nat.le_of_ble_eq_true rfl) (c_X11_isYear l3 (by omega) e8) (fun v_ h_ n_ q_ => ?_)
      obtain ⟨q1_, q2_, q3_⟩ := q_
      subst v_; subst h_; subst n_
      show WW W0 G 8 _ _ _ 19 [some (.ref l0), some (.int l1), some (.int l2), some (.int l3), some (.int l4), none, none, none] [.int v7] h n _ _
      refine rr_if_eq (tgt := 32) C dX11_hole_19 (by decide) (fun c19_ => ?_) (fun c19_ => ?_)
      · replace hr := (if_pos c19_).symm.trans hr
        refine rr_ldc2 C dX11_hole_32 ct_X11_441 ?_
        obtain rfl := Option.some.inj hr
        exact rr_lret C dX11_hole_35 rfl ⟨rfl, rfl, rfl⟩
      · replace hr := (if_neg c19_).symm.trans hr
        refine rr_iload C dX11_hole_22 rfl ?_
        refine rr_iconst (v := 0) C dX11_hole_24 (by decide) ?_
        refine rr_iconst (v := 2) C dX11_hole_25 (by decide) ?_
        replace hr := Option.bind_eq_some_iff.mp hr
        obtain ⟨v9, e10, hr⟩ := hr
        refine rr_callS (as := [.int l4, .int 0, .int 2]) (st := []) (mc' := 0) (ms' := 0) C dX11_hole_26 it_X11_165 (by decide) (Nat.le_of_ble_eq_true rfl) (c_X11_isIn l4 0 2 (by omega) e10) (fun v_ h_ n_ q_ => ?_)
        obtain ⟨q1_, q2_, q3_⟩ := q_
        subst v_; subst h_; subst n_
        show WW W0 G 8 _ _ _ 29 [some (.ref l0), some (.int l1), some (.int l2), some (.int l3), some (.int l4), none, none, none] [.int v9] h n _ _
        refine rr_if_ne (tgt := 36) C dX11_hole_29 (by decide) (fun c29_ => ?_) (fun c29_ => ?_)
        · replace hr := (if_neg c29_).symm.trans hr
          refine rr_aload_n (i := 0) C dX11_hole_36 rfl rfl ?_
          refine rr_iload_n (i := 1) C dX11_hole_37 rfl rfl ?_
          replace hr := Option.bind_eq_some_iff.mp hr
          obtain ⟨u11, e12, hr⟩ := hr
          replace hr := Option.bind_eq_some_iff.mp hr
          obtain ⟨v13, e14, hr⟩ := hr
          refine rr_callVq (as := [.int l1]) (st := []) (mc' := 0) (ms' := 0) C dX11_hole_38 iv_X11_438 (by decide) e12 rfl (Nat.le_of_ble_eq_true rfl) (c_X11_prepares l0 l1 (by omega) e14) (fun v_ h_ n_ q_ => ?_)
          obtain ⟨q1_, q2_, q3_⟩ := q_
          subst v_; subst h_; subst n_
          show WW W0 G 8 _ _ _ 41 [some (.ref l0), some (.int l1), some (.int l2), some (.int l3), some (.int l4), none, none, none] [] v13 n _ _
          refine rr_aload_n (i := 0) C dX11_hole_41 rfl rfl ?_
          refine rr_iload_n (i := 1) C dX11_hole_42 rfl rfl ?_
          refine rr_iload_n (i := 3) C dX11_hole_43 rfl rfl ?_
          refine rr_iconst (v := 0) C dX11_hole_44 (by decide) ?_
          refine rr_iload_n (i := 2) C dX11_hole_45 rfl rfl ?_
          replace hr := Option.bind_eq_some_iff.mp hr
          obtain ⟨u15, e16, hr⟩ := hr
          replace hr := Option.bind_eq_some_iff.mp hr
          obtain ⟨v17, e18, hr⟩ := hr
          refine rr_callVq (as := [.int l1, .int l3, .int 0, .int l2]) (st := []) (mc' := 0) (ms' := 0) C dX11_hole_46 iv_X11_417 (by decide) e16 rfl (Nat.le_of_ble_eq_true rfl) (c_X11_statement l0 l1 l3 0 l2 (by omega) e18) (fun v_ h_ n_ q_ => ?_)
          obtain ⟨q1_, q2_, q3_⟩ := q_
          subst v_; subst h_; subst n_
          show WW W0 G 8 _ _ _ 49 [some (.ref l0), some (.int l1), some (.int l2), some (.int l3), some (.int l4), none, none, none] [.int v17.1] v17.2 n _ _
          refine rr_istore C dX11_hole_49 (by decide) ?_
          show WW W0 G 8 _ _ _ 51 [some (.ref l0), some (.int l1), some (.int l2), some (.int l3), some (.int l4), some (.int v17.1), none, none] [] v17.2 n _ _
          refine rr_iload C dX11_hole_51 rfl ?_
          refine rr_iconst (v := (-1)) C dX11_hole_53 (by decide) ?_
          refine rr_icmp_eq (tgt := 85) C dX11_hole_54 (by decide) (fun c54_ => ?_) (fun c54_ => ?_)
          · replace hr := (if_pos c54_).symm.trans hr
            refine rr_ldc2 C dX11_hole_85 ct_X11_441 ?_
            obtain rfl := Option.some.inj hr
            exact rr_lret C dX11_hole_88 rfl ⟨rfl, rfl, rfl⟩
          · replace hr := (if_neg c54_).symm.trans hr
            refine rr_aload_n (i := 0) C dX11_hole_57 rfl rfl ?_
            replace hr := Option.bind_eq_some_iff.mp hr
            obtain ⟨v20, e21, hr⟩ := hr
            refine rr_rdR C dX11_hole_58 fl_X11_87 e21 ?_
            refine rr_iload C dX11_hole_61 rfl ?_
            replace hr := Option.bind_eq_some_iff.mp hr
            obtain ⟨a22, e23, hr⟩ := hr
            subst e23
            replace hr := Option.bind_eq_some_iff.mp hr
            obtain ⟨v24, e25, hr⟩ := hr
            refine rr_ldI C dX11_hole_63 e25 ?_
            refine rr_iconst (v := 3) C dX11_hole_64 (by decide) ?_
            refine rr_icmp_ne (tgt := 85) C dX11_hole_65 (by decide) (fun c65_ => ?_) (fun c65_ => ?_)
            · replace hr := (if_neg c65_).symm.trans hr
              refine rr_ldc2 C dX11_hole_85 ct_X11_441 ?_
              obtain rfl := Option.some.inj hr
              exact rr_lret C dX11_hole_88 rfl ⟨rfl, rfl, rfl⟩
            · replace hr := (if_pos c65_).symm.trans hr
              refine rr_aload_n (i := 0) C dX11_hole_68 rfl rfl ?_
              refine rr_iload_n (i := 1) C dX11_hole_69 rfl rfl ?_
              refine rr_iload_n (i := 3) C dX11_hole_70 rfl rfl ?_
              refine rr_iconst (v := 3) C dX11_hole_71 (by decide) ?_
              refine rr_iload_n (i := 2) C dX11_hole_72 rfl rfl ?_
              refine rr_iadd C dX11_hole_73 ?_
              refine rr_aload_n (i := 0) C dX11_hole_74 rfl rfl ?_
              replace hr := Option.bind_eq_some_iff.mp hr
              obtain ⟨v26, e27, hr⟩ := hr
              refine rr_rdI C dX11_hole_75 fl_X11_172 e27 ?_
              replace hr := Option.bind_eq_some_iff.mp hr
              obtain ⟨u28, e29, hr⟩ := hr
              replace hr := Option.bind_eq_some_iff.mp hr
              obtain ⟨v30, e31, hr⟩ := hr
              refine rr_callVq (as := [.int l1, .int l3, .int (3 + l2), .int v26]) (st := []) (mc' := 0) (ms' := 0) C dX11_hole_78 iv_X11_198 (by decide) e29 rfl (Nat.le_of_ble_eq_true rfl) (c_X11_factBy l0 l1 l3 (3 + l2) v26 (by omega) e31) (fun v_ h_ n_ q_ => ?_)
              obtain ⟨q1_, q2_, q3_⟩ := q_
              subst v_; subst h_; subst n_
              show WW W0 G 8 _ _ _ 81 [some (.ref l0), some (.int l1), some (.int l2), some (.int l3), some (.int l4), some (.int v17.1), none, none] [.int v30] v17.2 n _ _
              refine rr_iconst (v := (-1)) C dX11_hole_81 (by decide) ?_
              refine rr_icmp_ne (tgt := 89) C dX11_hole_82 (by decide) (fun c82_ => ?_) (fun c82_ => ?_)
              · replace hr := (if_neg c82_).symm.trans hr
                refine rr_iload C dX11_hole_89 rfl ?_
                refine rr_iconst (v := 2) C dX11_hole_91 (by decide) ?_
                refine rr_icmp_ne (tgt := 107) C dX11_hole_92 (by decide) (fun c92_ => ?_) (fun c92_ => ?_)
                · replace hr := (if_neg c92_).symm.trans hr
                  refine rr_bipush (v := 80) C dX11_hole_107 (by decide) ?_
                  refine rr_istore C dX11_hole_109 (by decide) ?_
                  show WW W0 G 8 _ _ _ 111 [some (.ref l0), some (.int l1), some (.int l2), some (.int l3), some (.int l4), some (.int v17.1), some (.int 80), none] [] v17.2 n _ _
                  refine rr_bipush (v := 85) C dX11_hole_111 (by decide) ?_
                  refine rr_istore C dX11_hole_113 (by decide) ?_
                  show WW W0 G 8 _ _ _ 115 [some (.ref l0), some (.int l1), some (.int l2), some (.int l3), some (.int l4), some (.int v17.1), some (.int 80), some (.int 85)] [] v17.2 n _ _
                  replace hr := Option.bind_eq_some_iff.mp hr
                  obtain ⟨v44, e45, hr⟩ := hr
                  refine rr_keep [true, true, true, true, true, true, true, true] (w_X11_hole_115 C (by omega) l0 l1 l2 l3 l4 v17.1 K 80 85 v17.2 e45 ?_)
                  show WW W0 G 8 _ _ _ 158 [some (.ref l0), some (.int l1), some (.int l2), some (.int l3), some (.int l4), some (.int v17.1), some (.int v44.1), none] [] v44.2 n _ _
                  refine rr_iload C dX11_hole_158 rfl ?_
                  refine rr_if_ne (tgt := 177) C dX11_hole_160 (by decide) (fun c160_ => ?_) (fun c160_ => ?_)
                  · replace hr := (if_neg c160_).symm.trans hr
                    refine rr_iload C dX11_hole_177 rfl ?_
                    refine rr_i2l C dX11_hole_179 ?_
                    obtain rfl := Option.some.inj hr
                    exact rr_lret C dX11_hole_180 rfl ⟨rfl, rfl, rfl⟩
                  · replace hr := (if_pos c160_).symm.trans hr
                    refine rr_aload_n (i := 0) C dX11_hole_163 rfl rfl ?_
                    refine rr_iload_n (i := 1) C dX11_hole_164 rfl rfl ?_
                    refine rr_iload_n (i := 2) C dX11_hole_165 rfl rfl ?_
                    refine rr_iload_n (i := 3) C dX11_hole_166 rfl rfl ?_
                    refine rr_iload C dX11_hole_167 rfl ?_
                    refine rr_iload C dX11_hole_169 rfl ?_
                    replace hr := Option.bind_eq_some_iff.mp hr
                    obtain ⟨u46, e47, hr⟩ := hr
                    replace hr := Option.bind_eq_some_iff.mp hr
                    obtain ⟨v48, e49, hr⟩ := hr
                    refine rr_callVq (as := [.int l1, .int l2, .int l3, .int v17.1, .int v44.1]) (st := []) (mc' := 0) (ms' := 0) C dX11_hole_171 iv_X11_545 (by decide) e47 rfl (Nat.le_of_ble_eq_true rfl) (c_X11_keeps l0 l1 l2 l3 v17.1 v44.1 (by omega) e49) (fun v_ h_ n_ q_ => ?_)
                    obtain ⟨q1_, q2_, q3_⟩ := q_
                    subst v_; subst h_; subst n_
                    show WW W0 G 8 _ _ _ 174 [some (.ref l0), some (.int l1), some (.int l2), some (.int l3), some (.int l4), some (.int v17.1), some (.int v44.1), none] [.long v48.1] v48.2 n _ _
                    refine rr_goto (tgt := 180) C dX11_hole_174 (by decide) ?_
                    obtain rfl := Option.some.inj hr
                    exact rr_lret C dX11_hole_180 rfl ⟨rfl, rfl, rfl⟩
                · replace hr := (if_pos c92_).symm.trans hr
                  refine rr_aload_n (i := 0) C dX11_hole_95 rfl rfl ?_
                  refine rr_iload_n (i := 1) C dX11_hole_96 rfl rfl ?_
                  refine rr_iload_n (i := 2) C dX11_hole_97 rfl rfl ?_
                  refine rr_iload_n (i := 3) C dX11_hole_98 rfl rfl ?_
                  refine rr_iload C dX11_hole_99 rfl ?_
                  refine rr_bipush (v := 100) C dX11_hole_101 (by decide) ?_
                  replace hr := Option.bind_eq_some_iff.mp hr
                  obtain ⟨u32, e33, hr⟩ := hr
                  replace hr := Option.bind_eq_some_iff.mp hr
                  obtain ⟨v34, e35, hr⟩ := hr
                  refine rr_callVq (as := [.int l1, .int l2, .int l3, .int v17.1, .int 100]) (st := []) (mc' := 0) (ms' := 0) C dX11_hole_103 iv_X11_545 (by decide) e33 rfl (Nat.le_of_ble_eq_true rfl) (c_X11_keeps l0 l1 l2 l3 v17.1 100 (by omega) e35) (fun v_ h_ n_ q_ => ?_)
                  obtain ⟨q1_, q2_, q3_⟩ := q_
                  subst v_; subst h_; subst n_
                  show WW W0 G 8 _ _ _ 106 [some (.ref l0), some (.int l1), some (.int l2), some (.int l3), some (.int l4), some (.int v17.1), none, none] [.long v34.1] v34.2 n _ _
                  obtain rfl := Option.some.inj hr
                  exact rr_lret C dX11_hole_106 rfl ⟨rfl, rfl, rfl⟩
              · replace hr := (if_pos c82_).symm.trans hr
                refine rr_ldc2 C dX11_hole_85 ct_X11_441 ?_
                obtain rfl := Option.some.inj hr
                exact rr_lret C dX11_hole_88 rfl ⟨rfl, rfl, rfl⟩
        · replace hr := (if_pos c29_).symm.trans hr
          refine rr_ldc2 C dX11_hole_32 ct_X11_441 ?_
          obtain rfl := Option.some.inj hr
          exact rr_lret C dX11_hole_35 rfl ⟨rfl, rfl, rfl⟩
def q_X11_putBy (K : Nat) (h : mm_H) (n : Nat) (l0 : Nat) : Option (Int32 × mm_H) :=
  (rdI h n l0 10 31).bind fun v1 =>
  if v1 = 0 then
    some ((-1), h)
  else
  (rdI h n l0 10 25).bind fun v3 =>
  if v3 = 4 then
    some ((-1), h)
  else
  (rdI h n l0 10 25).bind fun v5 =>
  (ckq h n l0 10).bind fun u7 =>
  (q_X11_copies K h n l0 8 (9 + v5)).bind fun v9 =>
  (rdI v9 n l0 10 25).bind fun v11 =>
  (wrF v9 n l0 10 25 (.int (v11 + 1))).bind fun h13 =>
  (rdI h13 n l0 10 25).bind fun v15 =>
  some (v15 - 1, h13)
set_option maxRecDepth 100000 in
set_option maxHeartbeats 4000000 in
theorem c_X11_putBy {K : Nat} {G : mm_G} {l : Launch} {h : mm_H} {n : Nat} (l0 : Nat) {r_ : Int32 × mm_H} (hn : 48 ≤ n) (hr : q_X11_putBy K h n l0 = some r_) : Sp G l yX11_putBy cX11_putBy 1 (some .int) 2 0 0 [.ref l0] h n (fun v h' n' => v = some (.int r_.1) ∧ h' = r_.2 ∧ n' = n) := by
  refine Sp_of (by decide +kernel) (Nat.le_of_ble_eq_true rfl) hn ?_
  intro W0 hwl C
  subst hwl
  unfold q_X11_putBy at hr
  show WW W0 G 1 0 0 _ 0 [some (.ref l0)] [] h n 0 0
  refine rr_aload_n (i := 0) C dX11_putBy_0 rfl rfl ?_
  replace hr := Option.bind_eq_some_iff.mp hr
  obtain ⟨v1, e2, hr⟩ := hr
  refine rr_rdI C dX11_putBy_1 fl_X11_393 e2 ?_
  refine rr_if_eq (tgt := 15) C dX11_putBy_4 (by decide) (fun c4_ => ?_) (fun c4_ => ?_)
  · replace hr := (if_pos c4_).symm.trans hr
    refine rr_iconst (v := (-1)) C dX11_putBy_15 (by decide) ?_
    obtain rfl := Option.some.inj hr
    exact rr_iret (ty := .int) C dX11_putBy_16 rfl rfl ⟨rfl, rfl, rfl⟩
  · replace hr := (if_neg c4_).symm.trans hr
    refine rr_aload_n (i := 0) C dX11_putBy_7 rfl rfl ?_
    replace hr := Option.bind_eq_some_iff.mp hr
    obtain ⟨v3, e4, hr⟩ := hr
    refine rr_rdI C dX11_putBy_8 fl_X11_549 e4 ?_
    refine rr_iconst (v := 4) C dX11_putBy_11 (by decide) ?_
    refine rr_icmp_ne (tgt := 17) C dX11_putBy_12 (by decide) (fun c12_ => ?_) (fun c12_ => ?_)
    · replace hr := (if_neg c12_).symm.trans hr
      refine rr_aload_n (i := 0) C dX11_putBy_17 rfl rfl ?_
      refine rr_bipush (v := 8) C dX11_putBy_18 (by decide) ?_
      refine rr_bipush (v := 9) C dX11_putBy_20 (by decide) ?_
      refine rr_aload_n (i := 0) C dX11_putBy_22 rfl rfl ?_
      replace hr := Option.bind_eq_some_iff.mp hr
      obtain ⟨v5, e6, hr⟩ := hr
      refine rr_rdI C dX11_putBy_23 fl_X11_549 e6 ?_
      refine rr_iadd C dX11_putBy_26 ?_
      replace hr := Option.bind_eq_some_iff.mp hr
      obtain ⟨u7, e8, hr⟩ := hr
      replace hr := Option.bind_eq_some_iff.mp hr
      obtain ⟨v9, e10, hr⟩ := hr
      refine rr_callVq (as := [.int 8, .int (9 + v5)]) (st := []) (mc' := 0) (ms' := 0) C dX11_putBy_27 iv_X11_361 (by decide) e8 rfl (Nat.le_of_ble_eq_true rfl) (c_X11_copies l0 8 (9 + v5) (by omega) e10) (fun v_ h_ n_ q_ => ?_)
      obtain ⟨q1_, q2_, q3_⟩ := q_
      subst v_; subst h_; subst n_
      show WW W0 G 1 _ _ _ 30 [some (.ref l0)] [] v9 n _ _
      refine rr_aload_n (i := 0) C dX11_putBy_30 rfl rfl ?_
      refine rr_dup C dX11_putBy_31 rfl ?_
      replace hr := Option.bind_eq_some_iff.mp hr
      obtain ⟨v11, e12, hr⟩ := hr
      refine rr_rdI C dX11_putBy_32 fl_X11_549 e12 ?_
      refine rr_iconst (v := 1) C dX11_putBy_35 (by decide) ?_
      refine rr_iadd C dX11_putBy_36 ?_
      replace hr := Option.bind_eq_some_iff.mp hr
      obtain ⟨h13, e14, hr⟩ := hr
      refine rr_wrF C dX11_putBy_37 fp_X11_549 rfl rfl e14 ?_
      refine rr_aload_n (i := 0) C dX11_putBy_40 rfl rfl ?_
      replace hr := Option.bind_eq_some_iff.mp hr
      obtain ⟨v15, e16, hr⟩ := hr
      refine rr_rdI C dX11_putBy_41 fl_X11_549 e16 ?_
      refine rr_iconst (v := 1) C dX11_putBy_44 (by decide) ?_
      refine rr_isub C dX11_putBy_45 ?_
      obtain rfl := Option.some.inj hr
      exact rr_iret (ty := .int) C dX11_putBy_46 rfl rfl ⟨rfl, rfl, rfl⟩
    · replace hr := (if_pos c12_).symm.trans hr
      refine rr_iconst (v := (-1)) C dX11_putBy_15 (by decide) ?_
      obtain rfl := Option.some.inj hr
      exact rr_iret (ty := .int) C dX11_putBy_16 rfl rfl ⟨rfl, rfl, rfl⟩
def lp_X11_borneOf_20 (K : Nat) (n : Nat) (l0 : Nat) (l1 : Int32) (l2 : Int32) (l5 : Int32) : Nat → Int64 → Int32 → mm_H → Option (Int64 × mm_H)
  | 0, _, _, _ => none
  | k_ + 1, l3, l6, h =>
    if 4 ≤ l6 then
      some (l3, h)
    else
    (rdI h n l0 10 0).bind fun v2 =>
    (ckq h n l0 10).bind fun u4 =>
    (q_X11_factBy K h n l0 l1 l5 (3 + l6) v2).bind fun v6 =>
    if v6 = (-1) then
      lp_X11_borneOf_20 K n l0 l1 l2 l5 k_ l3 (l6 + 1) h
    else
    (rdI h n l0 10 0).bind fun v8 =>
    (ckq h n l0 10).bind fun u10 =>
    (q_X11_overOf K h n l0 l1 l6 l5 v8).bind fun v12 =>
    (ckq v12.2 n l0 10).bind fun u14 =>
    (q_X11_bearsBy K v12.2 n l0 l1 l6 l5 v12.1).bind fun v16 =>
    lp_X11_borneOf_20 K n l0 l1 l2 l5 k_ (l3 + v16.1) (l6 + 1) v16.2
def lp_X11_borneOf_7 (K : Nat) (n : Nat) (l0 : Nat) (l1 : Int32) (l2 : Int32) : Nat → Int64 → Int32 → mm_H → Option (Int64 × mm_H)
  | 0, _, _, _ => none
  | k_ + 1, l3, l5, h =>
    if ((5 * l2) + 5) ≤ l5 then
      some (l3, h)
    else
    (lp_X11_borneOf_20 K n l0 l1 l2 l5 K l3 0 h).bind fun v19 =>
    lp_X11_borneOf_7 K n l0 l1 l2 k_ v19.1 (l5 + 1) v19.2
def q_X11_borneOf (K : Nat) (h : mm_H) (n : Nat) (l0 : Nat) (l1 : Int32) (l2 : Int32) : Option (Int64 × mm_H) :=
  (lp_X11_borneOf_7 K n l0 l1 l2 K 0 (5 * l2) h).bind fun v21 =>
  some (v21.1, v21.2)
set_option maxRecDepth 100000 in
set_option maxHeartbeats 4000000 in
theorem w_X11_borneOf_20 {K : Nat} {W0 : mm_X} {G : mm_G} {mc ms kc ks : Nat} {Q_ : State → Prop} {n : Nat} (C : mm_C W0 G cX11_borneOf yX11_borneOf.cls 7 mc ms (some .long) 52 yX11_borneOf.name) (hn : 48 ≤ n) (l0 : Nat) (l1 : Int32) (l2 : Int32) (l5 : Int32) : ∀ (k_ : Nat) (l3 : Int64) (l6 : Int32) (h : mm_H) {r_ : Int64 × mm_H} (hr : lp_X11_borneOf_20 K n l0 l1 l2 l5 k_ l3 l6 h = some r_) (hx0 : WW W0 G 7 mc ms Q_ 76 [some (.ref l0), some (.int l1), some (.int l2), some (.long r_.1), none, some (.int l5), none] [] r_.2 n kc ks), WW W0 G 7 mc ms Q_ 20 [some (.ref l0), some (.int l1), some (.int l2), some (.long l3), none, some (.int l5), some (.int l6)] [] h n kc ks := by
  intro k_
  induction k_ with
  | zero =>
    intro l3 l6 h r_ hr
    cases hr
  | succ k_ ih_ =>
    intro l3 l6 h r_ hr hx0
    unfold lp_X11_borneOf_20 at hr
    refine rr_iload C dX11_borneOf_20 rfl ?_
    refine rr_iconst (v := 4) C dX11_borneOf_22 (by decide) ?_
    refine rr_icmp_ge (tgt := 76) C dX11_borneOf_23 (by decide) (fun c23_ => ?_) (fun c23_ => ?_)
    · replace hr := (if_pos c23_).symm.trans hr
      obtain rfl := Option.some.inj hr
      exact rr_keep [true, true, true, true, false, true, false] (hx0)
    · replace hr := (if_neg c23_).symm.trans hr
      refine rr_aload_n (i := 0) C dX11_borneOf_26 rfl rfl ?_
      refine rr_iload_n (i := 1) C dX11_borneOf_27 rfl rfl ?_
      refine rr_iload C dX11_borneOf_28 rfl ?_
      refine rr_iconst (v := 3) C dX11_borneOf_30 (by decide) ?_
      refine rr_iload C dX11_borneOf_31 rfl ?_
      refine rr_iadd C dX11_borneOf_33 ?_
      refine rr_aload_n (i := 0) C dX11_borneOf_34 rfl rfl ?_
      replace hr := Option.bind_eq_some_iff.mp hr
      obtain ⟨v2, e3, hr⟩ := hr
      refine rr_rdI C dX11_borneOf_35 fl_X11_172 e3 ?_
      replace hr := Option.bind_eq_some_iff.mp hr
      obtain ⟨u4, e5, hr⟩ := hr
      replace hr := Option.bind_eq_some_iff.mp hr
      obtain ⟨v6, e7, hr⟩ := hr
      refine rr_callVq (as := [.int l1, .int l5, .int (3 + l6), .int v2]) (st := []) (mc' := 0) (ms' := 0) C dX11_borneOf_38 iv_X11_198 (by decide) e5 rfl (Nat.le_of_ble_eq_true rfl) (c_X11_factBy l0 l1 l5 (3 + l6) v2 (by omega) e7) (fun v_ h_ n_ q_ => ?_)
      obtain ⟨q1_, q2_, q3_⟩ := q_
      subst v_; subst h_; subst n_
      show WW W0 G 7 _ _ _ 41 [some (.ref l0), some (.int l1), some (.int l2), some (.long l3), none, some (.int l5), some (.int l6)] [.int v6] h n _ _
      refine rr_iconst (v := (-1)) C dX11_borneOf_41 (by decide) ?_
      refine rr_icmp_eq (tgt := 70) C dX11_borneOf_42 (by decide) (fun c42_ => ?_) (fun c42_ => ?_)
      · replace hr := (if_pos c42_).symm.trans hr
        refine rr_iinc (v := l6 + 1) C dX11_borneOf_70 rfl rfl ?_
        show WW W0 G 7 _ _ _ 73 [some (.ref l0), some (.int l1), some (.int l2), some (.long l3), none, some (.int l5), some (.int (l6 + 1))] [] h n _ _
        refine rr_goto (tgt := 20) C dX11_borneOf_73 (by decide) ?_
        exact rr_keep [true, true, true, true, false, true, true] (ih_ _ _ _ hr hx0)
      · replace hr := (if_neg c42_).symm.trans hr
        refine rr_lload_n (i := 3) C dX11_borneOf_45 rfl rfl ?_
        refine rr_aload_n (i := 0) C dX11_borneOf_46 rfl rfl ?_
        refine rr_iload_n (i := 1) C dX11_borneOf_47 rfl rfl ?_
        refine rr_iload C dX11_borneOf_48 rfl ?_
        refine rr_iload C dX11_borneOf_50 rfl ?_
        refine rr_aload_n (i := 0) C dX11_borneOf_52 rfl rfl ?_
        refine rr_iload_n (i := 1) C dX11_borneOf_53 rfl rfl ?_
        refine rr_iload C dX11_borneOf_54 rfl ?_
        refine rr_iload C dX11_borneOf_56 rfl ?_
        refine rr_aload_n (i := 0) C dX11_borneOf_58 rfl rfl ?_
        replace hr := Option.bind_eq_some_iff.mp hr
        obtain ⟨v8, e9, hr⟩ := hr
        refine rr_rdI C dX11_borneOf_59 fl_X11_172 e9 ?_
        replace hr := Option.bind_eq_some_iff.mp hr
        obtain ⟨u10, e11, hr⟩ := hr
        replace hr := Option.bind_eq_some_iff.mp hr
        obtain ⟨v12, e13, hr⟩ := hr
        refine rr_callVq (as := [.int l1, .int l6, .int l5, .int v8]) (st := [.int l5, .int l6, .int l1, .ref l0, .long l3]) (mc' := 0) (ms' := 0) C dX11_borneOf_62 iv_X11_492 (by decide) e11 rfl (Nat.le_of_ble_eq_true rfl) (c_X11_overOf l0 l1 l6 l5 v8 (by omega) e13) (fun v_ h_ n_ q_ => ?_)
        obtain ⟨q1_, q2_, q3_⟩ := q_
        subst v_; subst h_; subst n_
        show WW W0 G 7 _ _ _ 65 [some (.ref l0), some (.int l1), some (.int l2), some (.long l3), none, some (.int l5), some (.int l6)] [.long v12.1, .int l5, .int l6, .int l1, .ref l0, .long l3] v12.2 n _ _
        replace hr := Option.bind_eq_some_iff.mp hr
        obtain ⟨u14, e15, hr⟩ := hr
        replace hr := Option.bind_eq_some_iff.mp hr
        obtain ⟨v16, e17, hr⟩ := hr
        refine rr_callVq (as := [.int l1, .int l6, .int l5, .long v12.1]) (st := [.long l3]) (mc' := 0) (ms' := 0) C dX11_borneOf_65 iv_X11_496 (by decide) e15 rfl (Nat.le_of_ble_eq_true rfl) (c_X11_bearsBy l0 l1 l6 l5 v12.1 (by omega) e17) (fun v_ h_ n_ q_ => ?_)
        obtain ⟨q1_, q2_, q3_⟩ := q_
        subst v_; subst h_; subst n_
        show WW W0 G 7 _ _ _ 68 [some (.ref l0), some (.int l1), some (.int l2), some (.long l3), none, some (.int l5), some (.int l6)] [.long v16.1, .long l3] v16.2 n _ _
        refine rr_ladd C dX11_borneOf_68 ?_
        refine rr_lstore_n (i := 3) C dX11_borneOf_69 rfl (by decide) ?_
        show WW W0 G 7 _ _ _ 70 [some (.ref l0), some (.int l1), some (.int l2), some (.long (l3 + v16.1)), none, some (.int l5), some (.int l6)] [] v16.2 n _ _
        refine rr_iinc (v := l6 + 1) C dX11_borneOf_70 rfl rfl ?_
        show WW W0 G 7 _ _ _ 73 [some (.ref l0), some (.int l1), some (.int l2), some (.long (l3 + v16.1)), none, some (.int l5), some (.int (l6 + 1))] [] v16.2 n _ _
        refine rr_goto (tgt := 20) C dX11_borneOf_73 (by decide) ?_
        exact rr_keep [true, true, true, true, false, true, true] (ih_ _ _ _ hr hx0)
set_option maxRecDepth 100000 in
set_option maxHeartbeats 4000000 in
theorem w_X11_borneOf_7 {K : Nat} {W0 : mm_X} {G : mm_G} {mc ms kc ks : Nat} {Q_ : State → Prop} {n : Nat} (C : mm_C W0 G cX11_borneOf yX11_borneOf.cls 7 mc ms (some .long) 52 yX11_borneOf.name) (hn : 48 ≤ n) (l0 : Nat) (l1 : Int32) (l2 : Int32) : ∀ (k_ : Nat) (l3 : Int64) (l5 : Int32) (h : mm_H) {r_ : Int64 × mm_H} (hr : lp_X11_borneOf_7 K n l0 l1 l2 k_ l3 l5 h = some r_) (hx0 : WW W0 G 7 mc ms Q_ 82 [none, none, none, some (.long r_.1), none, none, none] [] r_.2 n kc ks), WW W0 G 7 mc ms Q_ 7 [some (.ref l0), some (.int l1), some (.int l2), some (.long l3), none, some (.int l5), none] [] h n kc ks := by
  intro k_
  induction k_ with
  | zero =>
    intro l3 l5 h r_ hr
    cases hr
  | succ k_ ih_ =>
    intro l3 l5 h r_ hr hx0
    unfold lp_X11_borneOf_7 at hr
    refine rr_iload C dX11_borneOf_7 rfl ?_
    refine rr_iconst (v := 5) C dX11_borneOf_9 (by decide) ?_
    refine rr_iload_n (i := 2) C dX11_borneOf_10 rfl rfl ?_
    refine rr_imul C dX11_borneOf_11 ?_
    refine rr_iconst (v := 5) C dX11_borneOf_12 (by decide) ?_
    refine rr_iadd C dX11_borneOf_13 ?_
    refine rr_icmp_ge (tgt := 82) C dX11_borneOf_14 (by decide) (fun c14_ => ?_) (fun c14_ => ?_)
    · replace hr := (if_pos c14_).symm.trans hr
      obtain rfl := Option.some.inj hr
      exact rr_keep [false, false, false, true, false, false, false] (hx0)
    · replace hr := (if_neg c14_).symm.trans hr
      refine rr_iconst (v := 0) C dX11_borneOf_17 (by decide) ?_
      refine rr_istore C dX11_borneOf_18 (by decide) ?_
      show WW W0 G 7 _ _ _ 20 [some (.ref l0), some (.int l1), some (.int l2), some (.long l3), none, some (.int l5), some (.int 0)] [] h n _ _
      replace hr := Option.bind_eq_some_iff.mp hr
      obtain ⟨v19, e20, hr⟩ := hr
      refine rr_keep [true, true, true, true, false, true, true] (w_X11_borneOf_20 C (by omega) l0 l1 l2 l5 K l3 0 h e20 ?_)
      show WW W0 G 7 _ _ _ 76 [some (.ref l0), some (.int l1), some (.int l2), some (.long v19.1), none, some (.int l5), none] [] v19.2 n _ _
      refine rr_iinc (v := l5 + 1) C dX11_borneOf_76 rfl rfl ?_
      show WW W0 G 7 _ _ _ 79 [some (.ref l0), some (.int l1), some (.int l2), some (.long v19.1), none, some (.int (l5 + 1)), none] [] v19.2 n _ _
      refine rr_goto (tgt := 7) C dX11_borneOf_79 (by decide) ?_
      exact rr_keep [true, true, true, true, false, true, false] (ih_ _ _ _ hr hx0)
set_option maxRecDepth 100000 in
set_option maxHeartbeats 4000000 in
theorem c_X11_borneOf {K : Nat} {G : mm_G} {l : Launch} {h : mm_H} {n : Nat} (l0 : Nat) (l1 : Int32) (l2 : Int32) {r_ : Int64 × mm_H} (hn : 48 ≤ n) (hr : q_X11_borneOf K h n l0 l1 l2 = some r_) : Sp G l yX11_borneOf cX11_borneOf 7 (some .long) 52 0 0 [.ref l0, .int l1, .int l2] h n (fun v h' n' => v = some (.long r_.1) ∧ h' = r_.2 ∧ n' = n) := by
  refine Sp_of (by decide +kernel) (Nat.le_of_ble_eq_true rfl) hn ?_
  intro W0 hwl C
  subst hwl
  unfold q_X11_borneOf at hr
  show WW W0 G 7 0 0 _ 0 [some (.ref l0), some (.int l1), some (.int l2), none, none, none, none] [] h n 0 0
  refine rr_lconst (v := 0) C dX11_borneOf_0 (by decide) ?_
  refine rr_lstore_n (i := 3) C dX11_borneOf_1 rfl (by decide) ?_
  show WW W0 G 7 _ _ _ 2 [some (.ref l0), some (.int l1), some (.int l2), some (.long 0), none, none, none] [] h n _ _
  refine rr_iconst (v := 5) C dX11_borneOf_2 (by decide) ?_
  refine rr_iload_n (i := 2) C dX11_borneOf_3 rfl rfl ?_
  refine rr_imul C dX11_borneOf_4 ?_
  refine rr_istore C dX11_borneOf_5 (by decide) ?_
  show WW W0 G 7 _ _ _ 7 [some (.ref l0), some (.int l1), some (.int l2), some (.long 0), none, some (.int (5 * l2)), none] [] h n _ _
  replace hr := Option.bind_eq_some_iff.mp hr
  obtain ⟨v21, e22, hr⟩ := hr
  refine rr_keep [true, true, true, true, false, true, false] (w_X11_borneOf_7 C (by omega) l0 l1 l2 K 0 (5 * l2) h e22 ?_)
  show WW W0 G 7 _ _ _ 82 [none, none, none, some (.long v21.1), none, none, none] [] v21.2 n _ _
  refine rr_lload_n (i := 3) C dX11_borneOf_82 rfl rfl ?_
  obtain rfl := Option.some.inj hr
  exact rr_lret C dX11_borneOf_83 rfl ⟨rfl, rfl, rfl⟩
def q_X11_borne (K : Nat) (h : mm_H) (n : Nat) (l0 : Nat) (l1 : Int32) (l2 : Int32) : Option (Int64 × mm_H) :=
  (ckq h n l0 10).bind fun u1 =>
  (q_X11_isFirm K h n l0 l1).bind fun v3 =>
  if v3 = 0 then
    some ((-2000000000000), h)
  else
  (q_X11_isReview K h n l2).bind fun v5 =>
  if v5 = 0 then
    some ((-2000000000000), h)
  else
  (ckq h n l0 10).bind fun u7 =>
  (q_X11_prepares K h n l0 l1).bind fun v9 =>
  (ckq v9 n l0 10).bind fun u11 =>
  (q_X11_borneOf K v9 n l0 l1 l2).bind fun v13 =>
  some (v13.1, v13.2)
set_option maxRecDepth 100000 in
set_option maxHeartbeats 4000000 in
theorem c_X11_borne {K : Nat} {G : mm_G} {l : Launch} {h : mm_H} {n : Nat} (l0 : Nat) (l1 : Int32) (l2 : Int32) {r_ : Int64 × mm_H} (hn : 48 ≤ n) (hr : q_X11_borne K h n l0 l1 l2 = some r_) : Sp G l yX11_borne cX11_borne 3 (some .long) 53 0 0 [.ref l0, .int l1, .int l2] h n (fun v h' n' => v = some (.long r_.1) ∧ h' = r_.2 ∧ n' = n) := by
  refine Sp_of (by decide +kernel) (Nat.le_of_ble_eq_true rfl) hn ?_
  intro W0 hwl C
  subst hwl
  unfold q_X11_borne at hr
  show WW W0 G 3 0 0 _ 0 [some (.ref l0), some (.int l1), some (.int l2)] [] h n 0 0
  refine rr_aload_n (i := 0) C dX11_borne_0 rfl rfl ?_
  refine rr_iload_n (i := 1) C dX11_borne_1 rfl rfl ?_
  replace hr := Option.bind_eq_some_iff.mp hr
  obtain ⟨u1, e2, hr⟩ := hr
  replace hr := Option.bind_eq_some_iff.mp hr
  obtain ⟨v3, e4, hr⟩ := hr
  refine rr_callVq (as := [.int l1]) (st := []) (mc' := 0) (ms' := 0) C dX11_borne_2 iv_X11_177 (by decide) e2 rfl (Nat.le_of_ble_eq_true rfl) (c_X11_isFirm l0 l1 (by omega) e4) (fun v_ h_ n_ q_ => ?_)
  obtain ⟨q1_, q2_, q3_⟩ := q_
  subst v_; subst h_; subst n_
  show WW W0 G 3 _ _ _ 5 [some (.ref l0), some (.int l1), some (.int l2)] [.int v3] h n _ _
  refine rr_if_eq (tgt := 15) C dX11_borne_5 (by decide) (fun c5_ => ?_) (fun c5_ => ?_)
  · replace hr := (if_pos c5_).symm.trans hr
    refine rr_ldc2 C dX11_borne_15 ct_X11_441 ?_
    obtain rfl := Option.some.inj hr
    exact rr_lret C dX11_borne_18 rfl ⟨rfl, rfl, rfl⟩
  · replace hr := (if_neg c5_).symm.trans hr
    refine rr_iload_n (i := 2) C dX11_borne_8 rfl rfl ?_
    replace hr := Option.bind_eq_some_iff.mp hr
    obtain ⟨v5, e6, hr⟩ := hr
    refine rr_callS (as := [.int l2]) (st := []) (mc' := 0) (ms' := 0) C dX11_borne_9 it_X11_383 (by decide) (Nat.le_of_ble_eq_true rfl) (c_X11_isReview l2 (by omega) e6) (fun v_ h_ n_ q_ => ?_)
    obtain ⟨q1_, q2_, q3_⟩ := q_
    subst v_; subst h_; subst n_
    show WW W0 G 3 _ _ _ 12 [some (.ref l0), some (.int l1), some (.int l2)] [.int v5] h n _ _
    refine rr_if_ne (tgt := 19) C dX11_borne_12 (by decide) (fun c12_ => ?_) (fun c12_ => ?_)
    · replace hr := (if_neg c12_).symm.trans hr
      refine rr_aload_n (i := 0) C dX11_borne_19 rfl rfl ?_
      refine rr_iload_n (i := 1) C dX11_borne_20 rfl rfl ?_
      replace hr := Option.bind_eq_some_iff.mp hr
      obtain ⟨u7, e8, hr⟩ := hr
      replace hr := Option.bind_eq_some_iff.mp hr
      obtain ⟨v9, e10, hr⟩ := hr
      refine rr_callVq (as := [.int l1]) (st := []) (mc' := 0) (ms' := 0) C dX11_borne_21 iv_X11_438 (by decide) e8 rfl (Nat.le_of_ble_eq_true rfl) (c_X11_prepares l0 l1 (by omega) e10) (fun v_ h_ n_ q_ => ?_)
      obtain ⟨q1_, q2_, q3_⟩ := q_
      subst v_; subst h_; subst n_
      show WW W0 G 3 _ _ _ 24 [some (.ref l0), some (.int l1), some (.int l2)] [] v9 n _ _
      refine rr_aload_n (i := 0) C dX11_borne_24 rfl rfl ?_
      refine rr_iload_n (i := 1) C dX11_borne_25 rfl rfl ?_
      refine rr_iload_n (i := 2) C dX11_borne_26 rfl rfl ?_
      replace hr := Option.bind_eq_some_iff.mp hr
      obtain ⟨u11, e12, hr⟩ := hr
      replace hr := Option.bind_eq_some_iff.mp hr
      obtain ⟨v13, e14, hr⟩ := hr
      refine rr_callVq (as := [.int l1, .int l2]) (st := []) (mc' := 0) (ms' := 0) C dX11_borne_27 iv_X11_552 (by decide) e12 rfl (Nat.le_of_ble_eq_true rfl) (c_X11_borneOf l0 l1 l2 (by omega) e14) (fun v_ h_ n_ q_ => ?_)
      obtain ⟨q1_, q2_, q3_⟩ := q_
      subst v_; subst h_; subst n_
      show WW W0 G 3 _ _ _ 30 [some (.ref l0), some (.int l1), some (.int l2)] [.long v13.1] v13.2 n _ _
      obtain rfl := Option.some.inj hr
      exact rr_lret C dX11_borne_30 rfl ⟨rfl, rfl, rfl⟩
    · replace hr := (if_pos c12_).symm.trans hr
      refine rr_ldc2 C dX11_borne_15 ct_X11_441 ?_
      obtain rfl := Option.some.inj hr
      exact rr_lret C dX11_borne_18 rfl ⟨rfl, rfl, rfl⟩
def lp_X11_best_104 (K : Nat) (n : Nat) (l0 : Nat) (l1 : Int32) (l2 : Int32) (l3 : Int32) (l4 : Int64) (l6 : Int32) (l7 : Int32) (l10 : Int32) : Nat → Int64 → Int32 → mm_H → Option (Int64 × mm_H)
  | 0, _, _, _ => none
  | k_ + 1, l8, l11, h =>
    if ((5 * l1) + 5) ≤ l11 then
      some (l8, h)
    else
    (rdI h n l0 10 0).bind fun v18 =>
    (ckq h n l0 10).bind fun u20 =>
    (q_X11_revenueOf K h n l0 l10 l11 v18).bind fun v22 =>
    lp_X11_best_104 K n l0 l1 l2 l3 l4 l6 l7 l10 k_ (l8 + v22.1) (l11 + 1) v22.2
def lp_X11_best_59 (K : Nat) (n : Nat) (l0 : Nat) (l1 : Int32) (l2 : Int32) (l3 : Int32) (l4 : Int64) (l6 : Int32) : Nat → Int32 → Int64 → Int32 → mm_H → Option (Int32 × Int64 × mm_H)
  | 0, _, _, _, _ => none
  | k_ + 1, l7, l8, l10, h =>
    (rdI h n l0 10 1).bind fun v11 =>
    if v11 ≤ l10 then
      some (l7, l8, h)
    else
    (ckq h n l0 10).bind fun u13 =>
    (q_X11_prepares K h n l0 l10).bind fun v15 =>
    if l7 = 0 then
      (lp_X11_best_104 K n l0 l1 l2 l3 l4 l6 0 l10 K l8 (5 * l1) v15).bind fun v25 =>
      lp_X11_best_59 K n l0 l1 l2 l3 l4 l6 k_ 0 v25.1 (l10 + 1) v25.2
    else
    (ckq v15 n l0 10).bind fun u27 =>
    (q_X11_borneOf K v15 n l0 l10 l1).bind fun v29 =>
    if 0 < (lg_cmp v29.1 (Int32.toInt64 l2)) then
      (lp_X11_best_104 K n l0 l1 l2 l3 l4 l6 0 l10 K l8 (5 * l1) v29.2).bind fun v32 =>
      lp_X11_best_59 K n l0 l1 l2 l3 l4 l6 k_ 0 v32.1 (l10 + 1) v32.2
    else
    (lp_X11_best_104 K n l0 l1 l2 l3 l4 l6 1 l10 K l8 (5 * l1) v29.2).bind fun v35 =>
    lp_X11_best_59 K n l0 l1 l2 l3 l4 l6 k_ 1 v35.1 (l10 + 1) v35.2
def lp_X11_best_27 (K : Nat) (n : Nat) (l0 : Nat) (l1 : Int32) (l2 : Int32) : Nat → Int32 → Int64 → Int32 → mm_H → Option (Int32 × mm_H)
  | 0, _, _, _, _ => none
  | k_ + 1, l3, l4, l6, h =>
    (rdI h n l0 10 25).bind fun v5 =>
    if v5 ≤ l6 then
      some (l3, h)
    else
    (wrF h n l0 10 56 (.int l1)).bind fun h7 =>
    (wrF h7 n l0 10 57 (.int (9 + l6))).bind fun h9 =>
    (lp_X11_best_59 K n l0 l1 l2 l3 l4 l6 K 1 0 0 h9).bind fun v37 =>
    (wrF v37.2.2 n l0 10 56 (.int (-1))).bind fun h39 =>
    if v37.1 = 0 then
      lp_X11_best_27 K n l0 l1 l2 k_ l3 l4 (l6 + 1) h39
    else
    if l3 = (-1) then
      lp_X11_best_27 K n l0 l1 l2 k_ l6 v37.2.1 (l6 + 1) h39
    else
    if (lg_cmp v37.2.1 l4) < 0 then
      lp_X11_best_27 K n l0 l1 l2 k_ l6 v37.2.1 (l6 + 1) h39
    else
    lp_X11_best_27 K n l0 l1 l2 k_ l3 l4 (l6 + 1) h39
def q_X11_best (K : Nat) (h : mm_H) (n : Nat) (l0 : Nat) (l1 : Int32) (l2 : Int32) : Option (Int32 × mm_H) :=
  (q_X11_isReview K h n l1).bind fun v1 =>
  if v1 = 0 then
    some ((-1), h)
  else
  (q_X11_isIn K h n l2 0 99999).bind fun v3 =>
  if v3 = 0 then
    some ((-1), h)
  else
  (lp_X11_best_27 K n l0 l1 l2 K (-1) 0 0 h).bind fun v43 =>
  some (v43.1, v43.2)
set_option maxRecDepth 100000 in
set_option maxHeartbeats 4000000 in
theorem w_X11_best_104 {K : Nat} {W0 : mm_X} {G : mm_G} {mc ms kc ks : Nat} {Q_ : State → Prop} {n : Nat} (C : mm_C W0 G cX11_best yX11_best.cls 12 mc ms (some .int) 55 yX11_best.name) (hn : 48 ≤ n) (l0 : Nat) (l1 : Int32) (l2 : Int32) (l3 : Int32) (l4 : Int64) (l6 : Int32) (l7 : Int32) (l10 : Int32) : ∀ (k_ : Nat) (l8 : Int64) (l11 : Int32) (h : mm_H) {r_ : Int64 × mm_H} (hr : lp_X11_best_104 K n l0 l1 l2 l3 l4 l6 l7 l10 k_ l8 l11 h = some r_) (hx0 : WW W0 G 12 mc ms Q_ 137 [some (.ref l0), some (.int l1), some (.int l2), some (.int l3), some (.long l4), none, some (.int l6), some (.int l7), some (.long r_.1), none, some (.int l10), none] [] r_.2 n kc ks), WW W0 G 12 mc ms Q_ 104 [some (.ref l0), some (.int l1), some (.int l2), some (.int l3), some (.long l4), none, some (.int l6), some (.int l7), some (.long l8), none, some (.int l10), some (.int l11)] [] h n kc ks := by
  intro k_
  induction k_ with
  | zero =>
    intro l8 l11 h r_ hr
    cases hr
  | succ k_ ih_ =>
    intro l8 l11 h r_ hr hx0
    unfold lp_X11_best_104 at hr
    refine rr_iload C dX11_best_104 rfl ?_
    refine rr_iconst (v := 5) C dX11_best_106 (by decide) ?_
    refine rr_iload_n (i := 1) C dX11_best_107 rfl rfl ?_
    refine rr_imul C dX11_best_108 ?_
    refine rr_iconst (v := 5) C dX11_best_109 (by decide) ?_
    refine rr_iadd C dX11_best_110 ?_
    refine rr_icmp_ge (tgt := 137) C dX11_best_111 (by decide) (fun c111_ => ?_) (fun c111_ => ?_)
    · replace hr := (if_pos c111_).symm.trans hr
      obtain rfl := Option.some.inj hr
      exact rr_keep [true, true, true, true, true, false, true, true, true, false, true, false] (hx0)
    · replace hr := (if_neg c111_).symm.trans hr
      refine rr_lload C dX11_best_114 rfl ?_
      refine rr_aload_n (i := 0) C dX11_best_116 rfl rfl ?_
      refine rr_iload C dX11_best_117 rfl ?_
      refine rr_iload C dX11_best_119 rfl ?_
      refine rr_aload_n (i := 0) C dX11_best_121 rfl rfl ?_
      replace hr := Option.bind_eq_some_iff.mp hr
      obtain ⟨v18, e19, hr⟩ := hr
      refine rr_rdI C dX11_best_122 fl_X11_172 e19 ?_
      replace hr := Option.bind_eq_some_iff.mp hr
      obtain ⟨u20, e21, hr⟩ := hr
      replace hr := Option.bind_eq_some_iff.mp hr
      obtain ⟨v22, e23, hr⟩ := hr
      refine rr_callVq (as := [.int l10, .int l11, .int v18]) (st := [.long l8]) (mc' := 0) (ms' := 0) C dX11_best_125 iv_X11_525 (by decide) e21 rfl (Nat.le_of_ble_eq_true rfl) (c_X11_revenueOf l0 l10 l11 v18 (by omega) e23) (fun v_ h_ n_ q_ => ?_)
      obtain ⟨q1_, q2_, q3_⟩ := q_
      subst v_; subst h_; subst n_
      show WW W0 G 12 _ _ _ 128 [some (.ref l0), some (.int l1), some (.int l2), some (.int l3), some (.long l4), none, some (.int l6), some (.int l7), some (.long l8), none, some (.int l10), some (.int l11)] [.long v22.1, .long l8] v22.2 n _ _
      refine rr_ladd C dX11_best_128 ?_
      refine rr_lstore C dX11_best_129 (by decide) ?_
      show WW W0 G 12 _ _ _ 131 [some (.ref l0), some (.int l1), some (.int l2), some (.int l3), some (.long l4), none, some (.int l6), some (.int l7), some (.long (l8 + v22.1)), none, some (.int l10), some (.int l11)] [] v22.2 n _ _
      refine rr_iinc (v := l11 + 1) C dX11_best_131 rfl rfl ?_
      show WW W0 G 12 _ _ _ 134 [some (.ref l0), some (.int l1), some (.int l2), some (.int l3), some (.long l4), none, some (.int l6), some (.int l7), some (.long (l8 + v22.1)), none, some (.int l10), some (.int (l11 + 1))] [] v22.2 n _ _
      refine rr_goto (tgt := 104) C dX11_best_134 (by decide) ?_
      exact rr_keep [true, true, true, true, true, false, true, true, true, false, true, true] (ih_ _ _ _ hr hx0)
set_option maxRecDepth 100000 in
set_option maxHeartbeats 4000000 in
theorem w_X11_best_59 {K : Nat} {W0 : mm_X} {G : mm_G} {mc ms kc ks : Nat} {Q_ : State → Prop} {n : Nat} (C : mm_C W0 G cX11_best yX11_best.cls 12 mc ms (some .int) 55 yX11_best.name) (hn : 48 ≤ n) (l0 : Nat) (l1 : Int32) (l2 : Int32) (l3 : Int32) (l4 : Int64) (l6 : Int32) : ∀ (k_ : Nat) (l7 : Int32) (l8 : Int64) (l10 : Int32) (h : mm_H) {r_ : Int32 × Int64 × mm_H} (hr : lp_X11_best_59 K n l0 l1 l2 l3 l4 l6 k_ l7 l8 l10 h = some r_) (hx0 : WW W0 G 12 mc ms Q_ 143 [some (.ref l0), some (.int l1), some (.int l2), some (.int l3), some (.long l4), none, some (.int l6), some (.int r_.1), some (.long r_.2.1), none, none, none] [] r_.2.2 n kc ks), WW W0 G 12 mc ms Q_ 59 [some (.ref l0), some (.int l1), some (.int l2), some (.int l3), some (.long l4), none, some (.int l6), some (.int l7), some (.long l8), none, some (.int l10), none] [] h n kc ks := by
  intro k_
  induction k_ with
  | zero =>
    intro l7 l8 l10 h r_ hr
    cases hr
  | succ k_ ih_ =>
    intro l7 l8 l10 h r_ hr hx0
    unfold lp_X11_best_59 at hr
    refine rr_iload C dX11_best_59 rfl ?_
    refine rr_aload_n (i := 0) C dX11_best_61 rfl rfl ?_
    replace hr := Option.bind_eq_some_iff.mp hr
    obtain ⟨v11, e12, hr⟩ := hr
    refine rr_rdI C dX11_best_62 fl_X11_169 e12 ?_
    refine rr_icmp_ge (tgt := 143) C dX11_best_65 (by decide) (fun c65_ => ?_) (fun c65_ => ?_)
    · replace hr := (if_pos c65_).symm.trans hr
      obtain rfl := Option.some.inj hr
      exact rr_keep [true, true, true, true, true, false, true, true, true, false, false, false] (hx0)
    · replace hr := (if_neg c65_).symm.trans hr
      refine rr_aload_n (i := 0) C dX11_best_68 rfl rfl ?_
      refine rr_iload C dX11_best_69 rfl ?_
      replace hr := Option.bind_eq_some_iff.mp hr
      obtain ⟨u13, e14, hr⟩ := hr
      replace hr := Option.bind_eq_some_iff.mp hr
      obtain ⟨v15, e16, hr⟩ := hr
      refine rr_callVq (as := [.int l10]) (st := []) (mc' := 0) (ms' := 0) C dX11_best_71 iv_X11_438 (by decide) e14 rfl (Nat.le_of_ble_eq_true rfl) (c_X11_prepares l0 l10 (by omega) e16) (fun v_ h_ n_ q_ => ?_)
      obtain ⟨q1_, q2_, q3_⟩ := q_
      subst v_; subst h_; subst n_
      show WW W0 G 12 _ _ _ 74 [some (.ref l0), some (.int l1), some (.int l2), some (.int l3), some (.long l4), none, some (.int l6), some (.int l7), some (.long l8), none, some (.int l10), none] [] v15 n _ _
      refine rr_iload C dX11_best_74 rfl ?_
      refine rr_if_eq (tgt := 96) C dX11_best_76 (by decide) (fun c76_ => ?_) (fun c76_ => ?_)
      · replace hr := (if_pos c76_).symm.trans hr
        refine rr_iconst (v := 0) C dX11_best_96 (by decide) ?_
        refine rr_istore C dX11_best_97 (by decide) ?_
        show WW W0 G 12 _ _ _ 99 [some (.ref l0), some (.int l1), some (.int l2), some (.int l3), some (.long l4), none, some (.int l6), some (.int 0), some (.long l8), none, some (.int l10), none] [] v15 n _ _
        refine rr_iconst (v := 5) C dX11_best_99 (by decide) ?_
        refine rr_iload_n (i := 1) C dX11_best_100 rfl rfl ?_
        refine rr_imul C dX11_best_101 ?_
        refine rr_istore C dX11_best_102 (by decide) ?_
        show WW W0 G 12 _ _ _ 104 [some (.ref l0), some (.int l1), some (.int l2), some (.int l3), some (.long l4), none, some (.int l6), some (.int 0), some (.long l8), none, some (.int l10), some (.int (5 * l1))] [] v15 n _ _
        replace hr := Option.bind_eq_some_iff.mp hr
        obtain ⟨v25, e26, hr⟩ := hr
        refine rr_keep [true, true, true, true, true, false, true, true, true, false, true, true] (w_X11_best_104 C (by omega) l0 l1 l2 l3 l4 l6 0 l10 K l8 (5 * l1) v15 e26 ?_)
        show WW W0 G 12 _ _ _ 137 [some (.ref l0), some (.int l1), some (.int l2), some (.int l3), some (.long l4), none, some (.int l6), some (.int 0), some (.long v25.1), none, some (.int l10), none] [] v25.2 n _ _
        refine rr_iinc (v := l10 + 1) C dX11_best_137 rfl rfl ?_
        show WW W0 G 12 _ _ _ 140 [some (.ref l0), some (.int l1), some (.int l2), some (.int l3), some (.long l4), none, some (.int l6), some (.int 0), some (.long v25.1), none, some (.int (l10 + 1)), none] [] v25.2 n _ _
        refine rr_goto (tgt := 59) C dX11_best_140 (by decide) ?_
        exact rr_keep [true, true, true, true, true, false, true, true, true, false, true, false] (ih_ _ _ _ _ hr hx0)
      · replace hr := (if_neg c76_).symm.trans hr
        refine rr_aload_n (i := 0) C dX11_best_79 rfl rfl ?_
        refine rr_iload C dX11_best_80 rfl ?_
        refine rr_iload_n (i := 1) C dX11_best_82 rfl rfl ?_
        replace hr := Option.bind_eq_some_iff.mp hr
        obtain ⟨u27, e28, hr⟩ := hr
        replace hr := Option.bind_eq_some_iff.mp hr
        obtain ⟨v29, e30, hr⟩ := hr
        refine rr_callVq (as := [.int l10, .int l1]) (st := []) (mc' := 0) (ms' := 0) C dX11_best_83 iv_X11_552 (by decide) e28 rfl (Nat.le_of_ble_eq_true rfl) (c_X11_borneOf l0 l10 l1 (by omega) e30) (fun v_ h_ n_ q_ => ?_)
        obtain ⟨q1_, q2_, q3_⟩ := q_
        subst v_; subst h_; subst n_
        show WW W0 G 12 _ _ _ 86 [some (.ref l0), some (.int l1), some (.int l2), some (.int l3), some (.long l4), none, some (.int l6), some (.int l7), some (.long l8), none, some (.int l10), none] [.long v29.1] v29.2 n _ _
        refine rr_iload_n (i := 2) C dX11_best_86 rfl rfl ?_
        refine rr_i2l C dX11_best_87 ?_
        refine rr_lcmp C dX11_best_88 ?_
        refine rr_if_gt (tgt := 96) C dX11_best_89 (by decide) (fun c89_ => ?_) (fun c89_ => ?_)
        · replace hr := (if_pos c89_).symm.trans hr
          refine rr_iconst (v := 0) C dX11_best_96 (by decide) ?_
          refine rr_istore C dX11_best_97 (by decide) ?_
          show WW W0 G 12 _ _ _ 99 [some (.ref l0), some (.int l1), some (.int l2), some (.int l3), some (.long l4), none, some (.int l6), some (.int 0), some (.long l8), none, some (.int l10), none] [] v29.2 n _ _
          refine rr_iconst (v := 5) C dX11_best_99 (by decide) ?_
          refine rr_iload_n (i := 1) C dX11_best_100 rfl rfl ?_
          refine rr_imul C dX11_best_101 ?_
          refine rr_istore C dX11_best_102 (by decide) ?_
          show WW W0 G 12 _ _ _ 104 [some (.ref l0), some (.int l1), some (.int l2), some (.int l3), some (.long l4), none, some (.int l6), some (.int 0), some (.long l8), none, some (.int l10), some (.int (5 * l1))] [] v29.2 n _ _
          replace hr := Option.bind_eq_some_iff.mp hr
          obtain ⟨v32, e33, hr⟩ := hr
          refine rr_keep [true, true, true, true, true, false, true, true, true, false, true, true] (w_X11_best_104 C (by omega) l0 l1 l2 l3 l4 l6 0 l10 K l8 (5 * l1) v29.2 e33 ?_)
          show WW W0 G 12 _ _ _ 137 [some (.ref l0), some (.int l1), some (.int l2), some (.int l3), some (.long l4), none, some (.int l6), some (.int 0), some (.long v32.1), none, some (.int l10), none] [] v32.2 n _ _
          refine rr_iinc (v := l10 + 1) C dX11_best_137 rfl rfl ?_
          show WW W0 G 12 _ _ _ 140 [some (.ref l0), some (.int l1), some (.int l2), some (.int l3), some (.long l4), none, some (.int l6), some (.int 0), some (.long v32.1), none, some (.int (l10 + 1)), none] [] v32.2 n _ _
          refine rr_goto (tgt := 59) C dX11_best_140 (by decide) ?_
          exact rr_keep [true, true, true, true, true, false, true, true, true, false, true, false] (ih_ _ _ _ _ hr hx0)
        · replace hr := (if_neg c89_).symm.trans hr
          refine rr_iconst (v := 1) C dX11_best_92 (by decide) ?_
          refine rr_goto (tgt := 97) C dX11_best_93 (by decide) ?_
          refine rr_istore C dX11_best_97 (by decide) ?_
          show WW W0 G 12 _ _ _ 99 [some (.ref l0), some (.int l1), some (.int l2), some (.int l3), some (.long l4), none, some (.int l6), some (.int 1), some (.long l8), none, some (.int l10), none] [] v29.2 n _ _
          refine rr_iconst (v := 5) C dX11_best_99 (by decide) ?_
          refine rr_iload_n (i := 1) C dX11_best_100 rfl rfl ?_
          refine rr_imul C dX11_best_101 ?_
          refine rr_istore C dX11_best_102 (by decide) ?_
          show WW W0 G 12 _ _ _ 104 [some (.ref l0), some (.int l1), some (.int l2), some (.int l3), some (.long l4), none, some (.int l6), some (.int 1), some (.long l8), none, some (.int l10), some (.int (5 * l1))] [] v29.2 n _ _
          replace hr := Option.bind_eq_some_iff.mp hr
          obtain ⟨v35, e36, hr⟩ := hr
          refine rr_keep [true, true, true, true, true, false, true, true, true, false, true, true] (w_X11_best_104 C (by omega) l0 l1 l2 l3 l4 l6 1 l10 K l8 (5 * l1) v29.2 e36 ?_)
          show WW W0 G 12 _ _ _ 137 [some (.ref l0), some (.int l1), some (.int l2), some (.int l3), some (.long l4), none, some (.int l6), some (.int 1), some (.long v35.1), none, some (.int l10), none] [] v35.2 n _ _
          refine rr_iinc (v := l10 + 1) C dX11_best_137 rfl rfl ?_
          show WW W0 G 12 _ _ _ 140 [some (.ref l0), some (.int l1), some (.int l2), some (.int l3), some (.long l4), none, some (.int l6), some (.int 1), some (.long v35.1), none, some (.int (l10 + 1)), none] [] v35.2 n _ _
          refine rr_goto (tgt := 59) C dX11_best_140 (by decide) ?_
          exact rr_keep [true, true, true, true, true, false, true, true, true, false, true, false] (ih_ _ _ _ _ hr hx0)
set_option maxRecDepth 100000 in
set_option maxHeartbeats 4000000 in
theorem w_X11_best_27 {K : Nat} {W0 : mm_X} {G : mm_G} {mc ms kc ks : Nat} {Q_ : State → Prop} {n : Nat} (C : mm_C W0 G cX11_best yX11_best.cls 12 mc ms (some .int) 55 yX11_best.name) (hn : 48 ≤ n) (l0 : Nat) (l1 : Int32) (l2 : Int32) : ∀ (k_ : Nat) (l3 : Int32) (l4 : Int64) (l6 : Int32) (h : mm_H) {r_ : Int32 × mm_H} (hr : lp_X11_best_27 K n l0 l1 l2 k_ l3 l4 l6 h = some r_) (hx0 : WW W0 G 12 mc ms Q_ 182 [none, none, none, some (.int r_.1), none, none, none, none, none, none, none, none] [] r_.2 n kc ks), WW W0 G 12 mc ms Q_ 27 [some (.ref l0), some (.int l1), some (.int l2), some (.int l3), some (.long l4), none, some (.int l6), none, none, none, none, none] [] h n kc ks := by
  intro k_
  induction k_ with
  | zero =>
    intro l3 l4 l6 h r_ hr
    cases hr
  | succ k_ ih_ =>
    intro l3 l4 l6 h r_ hr hx0
    unfold lp_X11_best_27 at hr
    refine rr_iload C dX11_best_27 rfl ?_
    refine rr_aload_n (i := 0) C dX11_best_29 rfl rfl ?_
    replace hr := Option.bind_eq_some_iff.mp hr
    obtain ⟨v5, e6, hr⟩ := hr
    refine rr_rdI C dX11_best_30 fl_X11_549 e6 ?_
    refine rr_icmp_ge (tgt := 182) C dX11_best_33 (by decide) (fun c33_ => ?_) (fun c33_ => ?_)
    · replace hr := (if_pos c33_).symm.trans hr
      obtain rfl := Option.some.inj hr
      exact rr_keep [false, false, false, true, false, false, false, false, false, false, false, false] (hx0)
    · replace hr := (if_neg c33_).symm.trans hr
      refine rr_aload_n (i := 0) C dX11_best_36 rfl rfl ?_
      refine rr_iload_n (i := 1) C dX11_best_37 rfl rfl ?_
      replace hr := Option.bind_eq_some_iff.mp hr
      obtain ⟨h7, e8, hr⟩ := hr
      refine rr_wrF C dX11_best_38 fp_X11_138 rfl rfl e8 ?_
      refine rr_aload_n (i := 0) C dX11_best_41 rfl rfl ?_
      refine rr_bipush (v := 9) C dX11_best_42 (by decide) ?_
      refine rr_iload C dX11_best_44 rfl ?_
      refine rr_iadd C dX11_best_46 ?_
      replace hr := Option.bind_eq_some_iff.mp hr
      obtain ⟨h9, e10, hr⟩ := hr
      refine rr_wrF C dX11_best_47 fp_X11_397 rfl rfl e10 ?_
      refine rr_iconst (v := 1) C dX11_best_50 (by decide) ?_
      refine rr_istore C dX11_best_51 (by decide) ?_
      show WW W0 G 12 _ _ _ 53 [some (.ref l0), some (.int l1), some (.int l2), some (.int l3), some (.long l4), none, some (.int l6), some (.int 1), none, none, none, none] [] h9 n _ _
      refine rr_lconst (v := 0) C dX11_best_53 (by decide) ?_
      refine rr_lstore C dX11_best_54 (by decide) ?_
      show WW W0 G 12 _ _ _ 56 [some (.ref l0), some (.int l1), some (.int l2), some (.int l3), some (.long l4), none, some (.int l6), some (.int 1), some (.long 0), none, none, none] [] h9 n _ _
      refine rr_iconst (v := 0) C dX11_best_56 (by decide) ?_
      refine rr_istore C dX11_best_57 (by decide) ?_
      show WW W0 G 12 _ _ _ 59 [some (.ref l0), some (.int l1), some (.int l2), some (.int l3), some (.long l4), none, some (.int l6), some (.int 1), some (.long 0), none, some (.int 0), none] [] h9 n _ _
      replace hr := Option.bind_eq_some_iff.mp hr
      obtain ⟨v37, e38, hr⟩ := hr
      refine rr_keep [true, true, true, true, true, false, true, true, true, false, true, false] (w_X11_best_59 C (by omega) l0 l1 l2 l3 l4 l6 K 1 0 0 h9 e38 ?_)
      show WW W0 G 12 _ _ _ 143 [some (.ref l0), some (.int l1), some (.int l2), some (.int l3), some (.long l4), none, some (.int l6), some (.int v37.1), some (.long v37.2.1), none, none, none] [] v37.2.2 n _ _
      refine rr_aload_n (i := 0) C dX11_best_143 rfl rfl ?_
      refine rr_iconst (v := (-1)) C dX11_best_144 (by decide) ?_
      replace hr := Option.bind_eq_some_iff.mp hr
      obtain ⟨h39, e40, hr⟩ := hr
      refine rr_wrF C dX11_best_145 fp_X11_138 rfl rfl e40 ?_
      refine rr_iload C dX11_best_148 rfl ?_
      refine rr_if_eq (tgt := 176) C dX11_best_150 (by decide) (fun c150_ => ?_) (fun c150_ => ?_)
      · replace hr := (if_pos c150_).symm.trans hr
        refine rr_iinc (v := l6 + 1) C dX11_best_176 rfl rfl ?_
        show WW W0 G 12 _ _ _ 179 [some (.ref l0), some (.int l1), some (.int l2), some (.int l3), some (.long l4), none, some (.int (l6 + 1)), some (.int v37.1), some (.long v37.2.1), none, none, none] [] h39 n _ _
        refine rr_goto (tgt := 27) C dX11_best_179 (by decide) ?_
        exact rr_keep [true, true, true, true, true, false, true, false, false, false, false, false] (ih_ _ _ _ _ hr hx0)
      · replace hr := (if_neg c150_).symm.trans hr
        refine rr_iload_n (i := 3) C dX11_best_153 rfl rfl ?_
        refine rr_iconst (v := (-1)) C dX11_best_154 (by decide) ?_
        refine rr_icmp_eq (tgt := 169) C dX11_best_155 (by decide) (fun c155_ => ?_) (fun c155_ => ?_)
        · replace hr := (if_pos c155_).symm.trans hr
          refine rr_iload C dX11_best_169 rfl ?_
          refine rr_istore_n (i := 3) C dX11_best_171 rfl (by decide) ?_
          show WW W0 G 12 _ _ _ 172 [some (.ref l0), some (.int l1), some (.int l2), some (.int l6), some (.long l4), none, some (.int l6), some (.int v37.1), some (.long v37.2.1), none, none, none] [] h39 n _ _
          refine rr_lload C dX11_best_172 rfl ?_
          refine rr_lstore C dX11_best_174 (by decide) ?_
          show WW W0 G 12 _ _ _ 176 [some (.ref l0), some (.int l1), some (.int l2), some (.int l6), some (.long v37.2.1), none, some (.int l6), some (.int v37.1), some (.long v37.2.1), none, none, none] [] h39 n _ _
          refine rr_iinc (v := l6 + 1) C dX11_best_176 rfl rfl ?_
          show WW W0 G 12 _ _ _ 179 [some (.ref l0), some (.int l1), some (.int l2), some (.int l6), some (.long v37.2.1), none, some (.int (l6 + 1)), some (.int v37.1), some (.long v37.2.1), none, none, none] [] h39 n _ _
          refine rr_goto (tgt := 27) C dX11_best_179 (by decide) ?_
          exact rr_keep [true, true, true, true, true, false, true, false, false, false, false, false] (ih_ _ _ _ _ hr hx0)
        · replace hr := (if_neg c155_).symm.trans hr
          refine rr_lload C dX11_best_158 rfl ?_
          refine rr_lload C dX11_best_160 rfl ?_
          refine rr_lcmp C dX11_best_162 ?_
          refine rr_if_lt (tgt := 169) C dX11_best_163 (by decide) (fun c163_ => ?_) (fun c163_ => ?_)
          · replace hr := (if_pos c163_).symm.trans hr
            refine rr_iload C dX11_best_169 rfl ?_
            refine rr_istore_n (i := 3) C dX11_best_171 rfl (by decide) ?_
            show WW W0 G 12 _ _ _ 172 [some (.ref l0), some (.int l1), some (.int l2), some (.int l6), some (.long l4), none, some (.int l6), some (.int v37.1), some (.long v37.2.1), none, none, none] [] h39 n _ _
            refine rr_lload C dX11_best_172 rfl ?_
            refine rr_lstore C dX11_best_174 (by decide) ?_
            show WW W0 G 12 _ _ _ 176 [some (.ref l0), some (.int l1), some (.int l2), some (.int l6), some (.long v37.2.1), none, some (.int l6), some (.int v37.1), some (.long v37.2.1), none, none, none] [] h39 n _ _
            refine rr_iinc (v := l6 + 1) C dX11_best_176 rfl rfl ?_
            show WW W0 G 12 _ _ _ 179 [some (.ref l0), some (.int l1), some (.int l2), some (.int l6), some (.long v37.2.1), none, some (.int (l6 + 1)), some (.int v37.1), some (.long v37.2.1), none, none, none] [] h39 n _ _
            refine rr_goto (tgt := 27) C dX11_best_179 (by decide) ?_
            exact rr_keep [true, true, true, true, true, false, true, false, false, false, false, false] (ih_ _ _ _ _ hr hx0)
          · replace hr := (if_neg c163_).symm.trans hr
            refine rr_goto (tgt := 176) C dX11_best_166 (by decide) ?_
            refine rr_iinc (v := l6 + 1) C dX11_best_176 rfl rfl ?_
            show WW W0 G 12 _ _ _ 179 [some (.ref l0), some (.int l1), some (.int l2), some (.int l3), some (.long l4), none, some (.int (l6 + 1)), some (.int v37.1), some (.long v37.2.1), none, none, none] [] h39 n _ _
            refine rr_goto (tgt := 27) C dX11_best_179 (by decide) ?_
            exact rr_keep [true, true, true, true, true, false, true, false, false, false, false, false] (ih_ _ _ _ _ hr hx0)
set_option maxRecDepth 100000 in
set_option maxHeartbeats 4000000 in
theorem c_X11_best {K : Nat} {G : mm_G} {l : Launch} {h : mm_H} {n : Nat} (l0 : Nat) (l1 : Int32) (l2 : Int32) {r_ : Int32 × mm_H} (hn : 48 ≤ n) (hr : q_X11_best K h n l0 l1 l2 = some r_) : Sp G l yX11_best cX11_best 12 (some .int) 55 0 0 [.ref l0, .int l1, .int l2] h n (fun v h' n' => v = some (.int r_.1) ∧ h' = r_.2 ∧ n' = n) := by
  refine Sp_of (by decide +kernel) (Nat.le_of_ble_eq_true rfl) hn ?_
  intro W0 hwl C
  subst hwl
  unfold q_X11_best at hr
  show WW W0 G 12 0 0 _ 0 [some (.ref l0), some (.int l1), some (.int l2), none, none, none, none, none, none, none, none, none] [] h n 0 0
  refine rr_iload_n (i := 1) C dX11_best_0 rfl rfl ?_
  replace hr := Option.bind_eq_some_iff.mp hr
  obtain ⟨v1, e2, hr⟩ := hr
  refine rr_callS (as := [.int l1]) (st := []) (mc' := 0) (ms' := 0) C dX11_best_1 it_X11_383 (by decide) (Nat.le_of_ble_eq_true rfl) (c_X11_isReview l1 (by omega) e2) (fun v_ h_ n_ q_ => ?_)
  obtain ⟨q1_, q2_, q3_⟩ := q_
  subst v_; subst h_; subst n_
  show WW W0 G 12 _ _ _ 4 [some (.ref l0), some (.int l1), some (.int l2), none, none, none, none, none, none, none, none, none] [.int v1] h n _ _
  refine rr_if_eq (tgt := 17) C dX11_best_4 (by decide) (fun c4_ => ?_) (fun c4_ => ?_)
  · replace hr := (if_pos c4_).symm.trans hr
    refine rr_iconst (v := (-1)) C dX11_best_17 (by decide) ?_
    obtain rfl := Option.some.inj hr
    exact rr_iret (ty := .int) C dX11_best_18 rfl rfl ⟨rfl, rfl, rfl⟩
  · replace hr := (if_neg c4_).symm.trans hr
    refine rr_iload_n (i := 2) C dX11_best_7 rfl rfl ?_
    refine rr_iconst (v := 0) C dX11_best_8 (by decide) ?_
    refine rr_ldc C dX11_best_9 ct_X11_176 ?_
    replace hr := Option.bind_eq_some_iff.mp hr
    obtain ⟨v3, e4, hr⟩ := hr
    refine rr_callS (as := [.int l2, .int 0, .int 99999]) (st := []) (mc' := 0) (ms' := 0) C dX11_best_11 it_X11_165 (by decide) (Nat.le_of_ble_eq_true rfl) (c_X11_isIn l2 0 99999 (by omega) e4) (fun v_ h_ n_ q_ => ?_)
    obtain ⟨q1_, q2_, q3_⟩ := q_
    subst v_; subst h_; subst n_
    show WW W0 G 12 _ _ _ 14 [some (.ref l0), some (.int l1), some (.int l2), none, none, none, none, none, none, none, none, none] [.int v3] h n _ _
    refine rr_if_ne (tgt := 19) C dX11_best_14 (by decide) (fun c14_ => ?_) (fun c14_ => ?_)
    · replace hr := (if_neg c14_).symm.trans hr
      refine rr_iconst (v := (-1)) C dX11_best_19 (by decide) ?_
      refine rr_istore_n (i := 3) C dX11_best_20 rfl (by decide) ?_
      show WW W0 G 12 _ _ _ 21 [some (.ref l0), some (.int l1), some (.int l2), some (.int (-1)), none, none, none, none, none, none, none, none] [] h n _ _
      refine rr_lconst (v := 0) C dX11_best_21 (by decide) ?_
      refine rr_lstore C dX11_best_22 (by decide) ?_
      show WW W0 G 12 _ _ _ 24 [some (.ref l0), some (.int l1), some (.int l2), some (.int (-1)), some (.long 0), none, none, none, none, none, none, none] [] h n _ _
      refine rr_iconst (v := 0) C dX11_best_24 (by decide) ?_
      refine rr_istore C dX11_best_25 (by decide) ?_
      show WW W0 G 12 _ _ _ 27 [some (.ref l0), some (.int l1), some (.int l2), some (.int (-1)), some (.long 0), none, some (.int 0), none, none, none, none, none] [] h n _ _
      replace hr := Option.bind_eq_some_iff.mp hr
      obtain ⟨v43, e44, hr⟩ := hr
      refine rr_keep [true, true, true, true, true, false, true, false, false, false, false, false] (w_X11_best_27 C (by omega) l0 l1 l2 K (-1) 0 0 h e44 ?_)
      show WW W0 G 12 _ _ _ 182 [none, none, none, some (.int v43.1), none, none, none, none, none, none, none, none] [] v43.2 n _ _
      refine rr_iload_n (i := 3) C dX11_best_182 rfl rfl ?_
      obtain rfl := Option.some.inj hr
      exact rr_iret (ty := .int) C dX11_best_183 rfl rfl ⟨rfl, rfl, rfl⟩
    · replace hr := (if_pos c14_).symm.trans hr
      refine rr_iconst (v := (-1)) C dX11_best_17 (by decide) ?_
      obtain rfl := Option.some.inj hr
      exact rr_iret (ty := .int) C dX11_best_18 rfl rfl ⟨rfl, rfl, rfl⟩
def q_X11_tell (K : Nat) (h : mm_H) (n : Nat) (l0 : Nat) (l1 : Int32) (l2 : Int32) : Option (Int32 × mm_H) :=
  (q_X11_isIn K h n l1 0 14).bind fun v1 =>
  if v1 = 0 then
    some (0, h)
  else
  (rdR h n l0 10 67).bind fun v3 =>
  v3.bind fun a5 =>
  (stI h n a5 l1 l2).bind fun h7 =>
  some (1, h7)
set_option maxRecDepth 100000 in
set_option maxHeartbeats 4000000 in
theorem c_X11_tell {K : Nat} {G : mm_G} {l : Launch} {h : mm_H} {n : Nat} (l0 : Nat) (l1 : Int32) (l2 : Int32) {r_ : Int32 × mm_H} (hn : 48 ≤ n) (hr : q_X11_tell K h n l0 l1 l2 = some r_) : Sp G l yX11_tell cX11_tell 3 (some .boolean) 1 0 0 [.ref l0, .int l1, .int l2] h n (fun v h' n' => v = some (.int r_.1) ∧ h' = r_.2 ∧ n' = n) := by
  refine Sp_of (by decide +kernel) (Nat.le_of_ble_eq_true rfl) hn ?_
  intro W0 hwl C
  subst hwl
  unfold q_X11_tell at hr
  show WW W0 G 3 0 0 _ 0 [some (.ref l0), some (.int l1), some (.int l2)] [] h n 0 0
  refine rr_iload_n (i := 1) C dX11_tell_0 rfl rfl ?_
  refine rr_iconst (v := 0) C dX11_tell_1 (by decide) ?_
  refine rr_bipush (v := 14) C dX11_tell_2 (by decide) ?_
  replace hr := Option.bind_eq_some_iff.mp hr
  obtain ⟨v1, e2, hr⟩ := hr
  refine rr_callS (as := [.int l1, .int 0, .int 14]) (st := []) (mc' := 0) (ms' := 0) C dX11_tell_4 it_X11_165 (by decide) (Nat.le_of_ble_eq_true rfl) (c_X11_isIn l1 0 14 (by omega) e2) (fun v_ h_ n_ q_ => ?_)
  obtain ⟨q1_, q2_, q3_⟩ := q_
  subst v_; subst h_; subst n_
  show WW W0 G 3 _ _ _ 7 [some (.ref l0), some (.int l1), some (.int l2)] [.int v1] h n _ _
  refine rr_if_ne (tgt := 12) C dX11_tell_7 (by decide) (fun c7_ => ?_) (fun c7_ => ?_)
  · replace hr := (if_neg c7_).symm.trans hr
    refine rr_aload_n (i := 0) C dX11_tell_12 rfl rfl ?_
    replace hr := Option.bind_eq_some_iff.mp hr
    obtain ⟨v3, e4, hr⟩ := hr
    refine rr_rdR C dX11_tell_13 fl_X11_162 e4 ?_
    refine rr_iload_n (i := 1) C dX11_tell_16 rfl rfl ?_
    refine rr_iload_n (i := 2) C dX11_tell_17 rfl rfl ?_
    replace hr := Option.bind_eq_some_iff.mp hr
    obtain ⟨a5, e6, hr⟩ := hr
    subst e6
    replace hr := Option.bind_eq_some_iff.mp hr
    obtain ⟨h7, e8, hr⟩ := hr
    refine rr_stI C dX11_tell_18 e8 ?_
    refine rr_iconst (v := 1) C dX11_tell_19 (by decide) ?_
    obtain rfl := Option.some.inj hr
    exact rr_iret (ty := .boolean) C dX11_tell_20 rfl rfl ⟨rfl, rfl, rfl⟩
  · replace hr := (if_pos c7_).symm.trans hr
    refine rr_iconst (v := 0) C dX11_tell_10 (by decide) ?_
    obtain rfl := Option.some.inj hr
    exact rr_iret (ty := .boolean) C dX11_tell_11 rfl rfl ⟨rfl, rfl, rfl⟩
def lp_X11_check_21 (K : Nat) (n : Nat) (l0 : Nat) (l1 : Int32) (l2 : Int32) (l3 : Int32) : Nat → Int32 → mm_H → Option (Nat × Int32 × mm_H)
  | 0, _, _ => none
  | k_ + 1, l4, h =>
    if 15 ≤ l4 then
      some (1, l4, h)
    else
    (ckq h n l0 10).bind fun u9 =>
    (q_X11_lineOf K h n l0 l1 l2 l3 l4).bind fun v11 =>
    (rdR v11.2 n l0 10 67).bind fun v13 =>
    v13.bind fun a15 =>
    (ldI v11.2 n a15 l4).bind fun v17 =>
    if (lg_cmp v11.1 (Int32.toInt64 v17)) = 0 then
      lp_X11_check_21 K n l0 l1 l2 l3 k_ (l4 + 1) v11.2
    else
    some (0, l4, v11.2)
def q_X11_check (K : Nat) (h : mm_H) (n : Nat) (l0 : Nat) (l1 : Int32) (l2 : Int32) (l3 : Int32) : Option (Int32 × mm_H) :=
  (ckq h n l0 10).bind fun u1 =>
  (q_X11_isYearOf K h n l0 l1 l2 l3).bind fun v3 =>
  if v3 = 0 then
    some ((-2), h)
  else
  (ckq h n l0 10).bind fun u5 =>
  (q_X11_prepares K h n l0 l1).bind fun v7 =>
  (lp_X11_check_21 K n l0 l1 l2 l3 K 0 v7).bind fun v19 =>
  if v19.1 = 0 then
    some (v19.2.1, v19.2.2)
  else
  if v19.1 = 1 then
    some ((-1), v19.2.2)
  else
    none
set_option maxRecDepth 100000 in
set_option maxHeartbeats 4000000 in
theorem w_X11_check_21 {K : Nat} {W0 : mm_X} {G : mm_G} {mc ms kc ks : Nat} {Q_ : State → Prop} {n : Nat} (C : mm_C W0 G cX11_check yX11_check.cls 5 mc ms (some .int) 54 yX11_check.name) (hn : 48 ≤ n) (l0 : Nat) (l1 : Int32) (l2 : Int32) (l3 : Int32) : ∀ (k_ : Nat) (l4 : Int32) (h : mm_H) {r_ : Nat × Int32 × mm_H} (hr : lp_X11_check_21 K n l0 l1 l2 l3 k_ l4 h = some r_) (hx0 : r_.1 = 0 → WW W0 G 5 mc ms Q_ 49 [none, none, none, none, some (.int r_.2.1)] [] r_.2.2 n kc ks) (hx1 : r_.1 = 1 → WW W0 G 5 mc ms Q_ 58 [none, none, none, none, none] [] r_.2.2 n kc ks), WW W0 G 5 mc ms Q_ 21 [some (.ref l0), some (.int l1), some (.int l2), some (.int l3), some (.int l4)] [] h n kc ks := by
  intro k_
  induction k_ with
  | zero =>
    intro l4 h r_ hr
    cases hr
  | succ k_ ih_ =>
    intro l4 h r_ hr hx0 hx1
    unfold lp_X11_check_21 at hr
    refine rr_iload C dX11_check_21 rfl ?_
    refine rr_bipush (v := 15) C dX11_check_23 (by decide) ?_
    refine rr_icmp_ge (tgt := 58) C dX11_check_25 (by decide) (fun c25_ => ?_) (fun c25_ => ?_)
    · replace hr := (if_pos c25_).symm.trans hr
      obtain rfl := Option.some.inj hr
      exact rr_keep [false, false, false, false, false] (hx1 rfl)
    · replace hr := (if_neg c25_).symm.trans hr
      refine rr_aload_n (i := 0) C dX11_check_28 rfl rfl ?_
      refine rr_iload_n (i := 1) C dX11_check_29 rfl rfl ?_
      refine rr_iload_n (i := 2) C dX11_check_30 rfl rfl ?_
      refine rr_iload_n (i := 3) C dX11_check_31 rfl rfl ?_
      refine rr_iload C dX11_check_32 rfl ?_
      replace hr := Option.bind_eq_some_iff.mp hr
      obtain ⟨u9, e10, hr⟩ := hr
      replace hr := Option.bind_eq_some_iff.mp hr
      obtain ⟨v11, e12, hr⟩ := hr
      refine rr_callVq (as := [.int l1, .int l2, .int l3, .int l4]) (st := []) (mc' := 0) (ms' := 0) C dX11_check_34 iv_X11_522 (by decide) e10 rfl (Nat.le_of_ble_eq_true rfl) (c_X11_lineOf l0 l1 l2 l3 l4 (by omega) e12) (fun v_ h_ n_ q_ => ?_)
      obtain ⟨q1_, q2_, q3_⟩ := q_
      subst v_; subst h_; subst n_
      show WW W0 G 5 _ _ _ 37 [some (.ref l0), some (.int l1), some (.int l2), some (.int l3), some (.int l4)] [.long v11.1] v11.2 n _ _
      refine rr_aload_n (i := 0) C dX11_check_37 rfl rfl ?_
      replace hr := Option.bind_eq_some_iff.mp hr
      obtain ⟨v13, e14, hr⟩ := hr
      refine rr_rdR C dX11_check_38 fl_X11_162 e14 ?_
      refine rr_iload C dX11_check_41 rfl ?_
      replace hr := Option.bind_eq_some_iff.mp hr
      obtain ⟨a15, e16, hr⟩ := hr
      subst e16
      replace hr := Option.bind_eq_some_iff.mp hr
      obtain ⟨v17, e18, hr⟩ := hr
      refine rr_ldI C dX11_check_43 e18 ?_
      refine rr_i2l C dX11_check_44 ?_
      refine rr_lcmp C dX11_check_45 ?_
      refine rr_if_eq (tgt := 52) C dX11_check_46 (by decide) (fun c46_ => ?_) (fun c46_ => ?_)
      · replace hr := (if_pos c46_).symm.trans hr
        refine rr_iinc (v := l4 + 1) C dX11_check_52 rfl rfl ?_
        show WW W0 G 5 _ _ _ 55 [some (.ref l0), some (.int l1), some (.int l2), some (.int l3), some (.int (l4 + 1))] [] v11.2 n _ _
        refine rr_goto (tgt := 21) C dX11_check_55 (by decide) ?_
        exact rr_keep [true, true, true, true, true] (ih_ _ _ hr hx0 hx1)
      · replace hr := (if_neg c46_).symm.trans hr
        obtain rfl := Option.some.inj hr
        exact rr_keep [false, false, false, false, true] (hx0 rfl)
set_option maxRecDepth 100000 in
set_option maxHeartbeats 4000000 in
theorem c_X11_check {K : Nat} {G : mm_G} {l : Launch} {h : mm_H} {n : Nat} (l0 : Nat) (l1 : Int32) (l2 : Int32) (l3 : Int32) {r_ : Int32 × mm_H} (hn : 48 ≤ n) (hr : q_X11_check K h n l0 l1 l2 l3 = some r_) : Sp G l yX11_check cX11_check 5 (some .int) 54 0 0 [.ref l0, .int l1, .int l2, .int l3] h n (fun v h' n' => v = some (.int r_.1) ∧ h' = r_.2 ∧ n' = n) := by
  refine Sp_of (by decide +kernel) (Nat.le_of_ble_eq_true rfl) hn ?_
  intro W0 hwl C
  subst hwl
  unfold q_X11_check at hr
  show WW W0 G 5 0 0 _ 0 [some (.ref l0), some (.int l1), some (.int l2), some (.int l3), none] [] h n 0 0
  refine rr_aload_n (i := 0) C dX11_check_0 rfl rfl ?_
  refine rr_iload_n (i := 1) C dX11_check_1 rfl rfl ?_
  refine rr_iload_n (i := 2) C dX11_check_2 rfl rfl ?_
  refine rr_iload_n (i := 3) C dX11_check_3 rfl rfl ?_
  replace hr := Option.bind_eq_some_iff.mp hr
  obtain ⟨u1, e2, hr⟩ := hr
  replace hr := Option.bind_eq_some_iff.mp hr
  obtain ⟨v3, e4, hr⟩ := hr
  refine rr_callVq (as := [.int l1, .int l2, .int l3]) (st := []) (mc' := 0) (ms' := 0) C dX11_check_4 iv_X11_519 (by decide) e2 rfl (Nat.le_of_ble_eq_true rfl) (c_X11_isYearOf l0 l1 l2 l3 (by omega) e4) (fun v_ h_ n_ q_ => ?_)
  obtain ⟨q1_, q2_, q3_⟩ := q_
  subst v_; subst h_; subst n_
  show WW W0 G 5 _ _ _ 7 [some (.ref l0), some (.int l1), some (.int l2), some (.int l3), none] [.int v3] h n _ _
  refine rr_if_ne (tgt := 13) C dX11_check_7 (by decide) (fun c7_ => ?_) (fun c7_ => ?_)
  · replace hr := (if_neg c7_).symm.trans hr
    refine rr_aload_n (i := 0) C dX11_check_13 rfl rfl ?_
    refine rr_iload_n (i := 1) C dX11_check_14 rfl rfl ?_
    replace hr := Option.bind_eq_some_iff.mp hr
    obtain ⟨u5, e6, hr⟩ := hr
    replace hr := Option.bind_eq_some_iff.mp hr
    obtain ⟨v7, e8, hr⟩ := hr
    refine rr_callVq (as := [.int l1]) (st := []) (mc' := 0) (ms' := 0) C dX11_check_15 iv_X11_438 (by decide) e6 rfl (Nat.le_of_ble_eq_true rfl) (c_X11_prepares l0 l1 (by omega) e8) (fun v_ h_ n_ q_ => ?_)
    obtain ⟨q1_, q2_, q3_⟩ := q_
    subst v_; subst h_; subst n_
    show WW W0 G 5 _ _ _ 18 [some (.ref l0), some (.int l1), some (.int l2), some (.int l3), none] [] v7 n _ _
    refine rr_iconst (v := 0) C dX11_check_18 (by decide) ?_
    refine rr_istore C dX11_check_19 (by decide) ?_
    show WW W0 G 5 _ _ _ 21 [some (.ref l0), some (.int l1), some (.int l2), some (.int l3), some (.int 0)] [] v7 n _ _
    replace hr := Option.bind_eq_some_iff.mp hr
    obtain ⟨v19, e20, hr⟩ := hr
    refine rr_keep [true, true, true, true, true] (w_X11_check_21 C (by omega) l0 l1 l2 l3 K 0 v7 e20 ?_ ?_)
    · intro cx_
      replace hr := (if_pos cx_).symm.trans hr
      show WW W0 G 5 _ _ _ 49 [none, none, none, none, some (.int v19.2.1)] [] v19.2.2 n _ _
      refine rr_iload C dX11_check_49 rfl ?_
      obtain rfl := Option.some.inj hr
      exact rr_iret (ty := .int) C dX11_check_51 rfl rfl ⟨rfl, rfl, rfl⟩
    · intro cx_
      replace hr := (if_neg (fun z_ => absurd (z_.symm.trans cx_) (by decide))).symm.trans hr
      replace hr := (if_pos cx_).symm.trans hr
      show WW W0 G 5 _ _ _ 58 [none, none, none, none, none] [] v19.2.2 n _ _
      refine rr_iconst (v := (-1)) C dX11_check_58 (by decide) ?_
      obtain rfl := Option.some.inj hr
      exact rr_iret (ty := .int) C dX11_check_59 rfl rfl ⟨rfl, rfl, rfl⟩
  · replace hr := (if_pos c7_).symm.trans hr
    refine rr_bipush (v := (-2)) C dX11_check_10 (by decide) ?_
    obtain rfl := Option.some.inj hr
    exact rr_iret (ty := .int) C dX11_check_12 rfl rfl ⟨rfl, rfl, rfl⟩
def lp_X11_twice_33 (K : Nat) (h : mm_H) (n : Nat) (l0 : Nat) (l1 : Int32) (l2 : Int32) (l4 : Int32) : Nat → Int32 → Int32 → Option (Nat × Int32 × Int32)
  | 0, _, _ => none
  | k_ + 1, l3, l5 =>
    (rdI h n l0 10 8).bind fun v6 =>
    if v6 ≤ l5 then
      some (1, l3, l5)
    else
    (rdR h n l0 10 11).bind fun v8 =>
    v8.bind fun a10 =>
    (ldI h n a10 l4).bind fun v12 =>
    (rdR h n l0 10 11).bind fun v14 =>
    v14.bind fun a16 =>
    (ldI h n a16 l5).bind fun v18 =>
    if v12 = v18 then
      (rdR h n l0 10 12).bind fun v20 =>
      v20.bind fun a22 =>
      (ldI h n a22 l4).bind fun v24 =>
      (rdR h n l0 10 12).bind fun v26 =>
      v26.bind fun a28 =>
      (ldI h n a28 l5).bind fun v30 =>
      if v24 = v30 then
        (rdR h n l0 10 13).bind fun v32 =>
        v32.bind fun a34 =>
        (ldI h n a34 l4).bind fun v36 =>
        (rdR h n l0 10 13).bind fun v38 =>
        v38.bind fun a40 =>
        (ldI h n a40 l5).bind fun v42 =>
        if (i_abs (v36 - v42)) ≤ 1 then
          if l3 = 0 then
            some (0, l3, l5)
          else
          lp_X11_twice_33 K h n l0 l1 l2 l4 k_ (l3 + (-1)) (l5 + 1)
        else
        lp_X11_twice_33 K h n l0 l1 l2 l4 k_ l3 (l5 + 1)
      else
      lp_X11_twice_33 K h n l0 l1 l2 l4 k_ l3 (l5 + 1)
    else
    lp_X11_twice_33 K h n l0 l1 l2 l4 k_ l3 (l5 + 1)
def lp_X11_twice_5 (K : Nat) (h : mm_H) (n : Nat) (l0 : Nat) (l1 : Int32) (l2 : Int32) : Nat → Int32 → Int32 → Option (Nat × Int32 × Int32)
  | 0, _, _ => none
  | k_ + 1, l3, l4 =>
    (rdI h n l0 10 8).bind fun v1 =>
    if v1 ≤ l4 then
      some (1, l4, 0)
    else
    if l1 < 0 then
      some (1, l4, 0)
    else
    (q_X11_isIn K h n l2 0 1).bind fun v3 =>
    if v3 = 0 then
      some (1, l4, 0)
    else
    (lp_X11_twice_33 K h n l0 l1 l2 l4 K l3 (l4 + 1)).bind fun v44 =>
    if v44.1 = 0 then
      some (0, l4, v44.2.2)
    else
    if v44.1 = 1 then
      lp_X11_twice_5 K h n l0 l1 l2 k_ v44.2.1 (l4 + 1)
    else
      none
def q_X11_twice (K : Nat) (h : mm_H) (n : Nat) (l0 : Nat) (l1 : Int32) (l2 : Int32) : Option (Int32) :=
  (lp_X11_twice_5 K h n l0 l1 l2 K l1 0).bind fun v46 =>
  if v46.1 = 0 then
    if l2 = 0 then
      some v46.2.1
    else
    some v46.2.2
  else
  if v46.1 = 1 then
    some (-1)
  else
    none
set_option maxRecDepth 100000 in
set_option maxHeartbeats 4000000 in
theorem w_X11_twice_33 {K : Nat} {W0 : mm_X} {G : mm_G} {mc ms kc ks : Nat} {Q_ : State → Prop} {h : mm_H} {n : Nat} (C : mm_C W0 G cX11_twice yX11_twice.cls 6 mc ms (some .int) 1 yX11_twice.name) (hn : 48 ≤ n) (l0 : Nat) (l1 : Int32) (l2 : Int32) (l4 : Int32) : ∀ (k_ : Nat) (l3 : Int32) (l5 : Int32) {r_ : Nat × Int32 × Int32} (hr : lp_X11_twice_33 K h n l0 l1 l2 l4 k_ l3 l5 = some r_) (hx0 : r_.1 = 0 → WW W0 G 6 mc ms Q_ 105 [none, none, some (.int l2), none, some (.int l4), some (.int r_.2.2)] [] h n kc ks) (hx1 : r_.1 = 1 → WW W0 G 6 mc ms Q_ 126 [some (.ref l0), some (.int l1), some (.int l2), some (.int r_.2.1), some (.int l4), none] [] h n kc ks), WW W0 G 6 mc ms Q_ 33 [some (.ref l0), some (.int l1), some (.int l2), some (.int l3), some (.int l4), some (.int l5)] [] h n kc ks := by
  intro k_
  induction k_ with
  | zero =>
    intro l3 l5 r_ hr
    cases hr
  | succ k_ ih_ =>
    intro l3 l5 r_ hr hx0 hx1
    unfold lp_X11_twice_33 at hr
    refine rr_iload C dX11_twice_33 rfl ?_
    refine rr_aload_n (i := 0) C dX11_twice_35 rfl rfl ?_
    replace hr := Option.bind_eq_some_iff.mp hr
    obtain ⟨v6, e7, hr⟩ := hr
    refine rr_rdI C dX11_twice_36 fl_X11_202 e7 ?_
    refine rr_icmp_ge (tgt := 126) C dX11_twice_39 (by decide) (fun c39_ => ?_) (fun c39_ => ?_)
    · replace hr := (if_pos c39_).symm.trans hr
      obtain rfl := Option.some.inj hr
      exact rr_keep [true, true, true, true, true, false] (hx1 rfl)
    · replace hr := (if_neg c39_).symm.trans hr
      refine rr_aload_n (i := 0) C dX11_twice_42 rfl rfl ?_
      replace hr := Option.bind_eq_some_iff.mp hr
      obtain ⟨v8, e9, hr⟩ := hr
      refine rr_rdR C dX11_twice_43 fl_X11_26 e9 ?_
      refine rr_iload C dX11_twice_46 rfl ?_
      replace hr := Option.bind_eq_some_iff.mp hr
      obtain ⟨a10, e11, hr⟩ := hr
      subst e11
      replace hr := Option.bind_eq_some_iff.mp hr
      obtain ⟨v12, e13, hr⟩ := hr
      refine rr_ldI C dX11_twice_48 e13 ?_
      refine rr_aload_n (i := 0) C dX11_twice_49 rfl rfl ?_
      replace hr := Option.bind_eq_some_iff.mp hr
      obtain ⟨v14, e15, hr⟩ := hr
      refine rr_rdR C dX11_twice_50 fl_X11_26 e15 ?_
      refine rr_iload C dX11_twice_53 rfl ?_
      replace hr := Option.bind_eq_some_iff.mp hr
      obtain ⟨a16, e17, hr⟩ := hr
      subst e17
      replace hr := Option.bind_eq_some_iff.mp hr
      obtain ⟨v18, e19, hr⟩ := hr
      refine rr_ldI C dX11_twice_55 e19 ?_
      refine rr_icmp_ne (tgt := 120) C dX11_twice_56 (by decide) (fun c56_ => ?_) (fun c56_ => ?_)
      · replace hr := (if_neg c56_).symm.trans hr
        refine rr_iinc (v := l5 + 1) C dX11_twice_120 rfl rfl ?_
        show WW W0 G 6 _ _ _ 123 [some (.ref l0), some (.int l1), some (.int l2), some (.int l3), some (.int l4), some (.int (l5 + 1))] [] h n _ _
        refine rr_goto (tgt := 33) C dX11_twice_123 (by decide) ?_
        exact rr_keep [true, true, true, true, true, true] (ih_ _ _ hr hx0 hx1)
      · replace hr := (if_pos c56_).symm.trans hr
        refine rr_aload_n (i := 0) C dX11_twice_59 rfl rfl ?_
        replace hr := Option.bind_eq_some_iff.mp hr
        obtain ⟨v20, e21, hr⟩ := hr
        refine rr_rdR C dX11_twice_60 fl_X11_29 e21 ?_
        refine rr_iload C dX11_twice_63 rfl ?_
        replace hr := Option.bind_eq_some_iff.mp hr
        obtain ⟨a22, e23, hr⟩ := hr
        subst e23
        replace hr := Option.bind_eq_some_iff.mp hr
        obtain ⟨v24, e25, hr⟩ := hr
        refine rr_ldI C dX11_twice_65 e25 ?_
        refine rr_aload_n (i := 0) C dX11_twice_66 rfl rfl ?_
        replace hr := Option.bind_eq_some_iff.mp hr
        obtain ⟨v26, e27, hr⟩ := hr
        refine rr_rdR C dX11_twice_67 fl_X11_29 e27 ?_
        refine rr_iload C dX11_twice_70 rfl ?_
        replace hr := Option.bind_eq_some_iff.mp hr
        obtain ⟨a28, e29, hr⟩ := hr
        subst e29
        replace hr := Option.bind_eq_some_iff.mp hr
        obtain ⟨v30, e31, hr⟩ := hr
        refine rr_ldI C dX11_twice_72 e31 ?_
        refine rr_icmp_ne (tgt := 120) C dX11_twice_73 (by decide) (fun c73_ => ?_) (fun c73_ => ?_)
        · replace hr := (if_neg c73_).symm.trans hr
          refine rr_iinc (v := l5 + 1) C dX11_twice_120 rfl rfl ?_
          show WW W0 G 6 _ _ _ 123 [some (.ref l0), some (.int l1), some (.int l2), some (.int l3), some (.int l4), some (.int (l5 + 1))] [] h n _ _
          refine rr_goto (tgt := 33) C dX11_twice_123 (by decide) ?_
          exact rr_keep [true, true, true, true, true, true] (ih_ _ _ hr hx0 hx1)
        · replace hr := (if_pos c73_).symm.trans hr
          refine rr_aload_n (i := 0) C dX11_twice_76 rfl rfl ?_
          replace hr := Option.bind_eq_some_iff.mp hr
          obtain ⟨v32, e33, hr⟩ := hr
          refine rr_rdR C dX11_twice_77 fl_X11_32 e33 ?_
          refine rr_iload C dX11_twice_80 rfl ?_
          replace hr := Option.bind_eq_some_iff.mp hr
          obtain ⟨a34, e35, hr⟩ := hr
          subst e35
          replace hr := Option.bind_eq_some_iff.mp hr
          obtain ⟨v36, e37, hr⟩ := hr
          refine rr_ldI C dX11_twice_82 e37 ?_
          refine rr_aload_n (i := 0) C dX11_twice_83 rfl rfl ?_
          replace hr := Option.bind_eq_some_iff.mp hr
          obtain ⟨v38, e39, hr⟩ := hr
          refine rr_rdR C dX11_twice_84 fl_X11_32 e39 ?_
          refine rr_iload C dX11_twice_87 rfl ?_
          replace hr := Option.bind_eq_some_iff.mp hr
          obtain ⟨a40, e41, hr⟩ := hr
          subst e41
          replace hr := Option.bind_eq_some_iff.mp hr
          obtain ⟨v42, e43, hr⟩ := hr
          refine rr_ldI C dX11_twice_89 e43 ?_
          refine rr_isub C dX11_twice_90 ?_
          refine rr_mabs C dX11_twice_91 ma_X11_555 (by decide) (Nat.le_of_ble_eq_true rfl) ?_
          refine rr_iconst (v := 1) C dX11_twice_94 (by decide) ?_
          refine rr_icmp_le (tgt := 101) C dX11_twice_95 (by decide) (fun c95_ => ?_) (fun c95_ => ?_)
          · replace hr := (if_pos c95_).symm.trans hr
            refine rr_iload_n (i := 3) C dX11_twice_101 rfl rfl ?_
            refine rr_if_ne (tgt := 117) C dX11_twice_102 (by decide) (fun c102_ => ?_) (fun c102_ => ?_)
            · replace hr := (if_neg c102_).symm.trans hr
              refine rr_iinc (v := l3 + (-1)) C dX11_twice_117 rfl rfl ?_
              show WW W0 G 6 _ _ _ 120 [some (.ref l0), some (.int l1), some (.int l2), some (.int (l3 + (-1))), some (.int l4), some (.int l5)] [] h n _ _
              refine rr_iinc (v := l5 + 1) C dX11_twice_120 rfl rfl ?_
              show WW W0 G 6 _ _ _ 123 [some (.ref l0), some (.int l1), some (.int l2), some (.int (l3 + (-1))), some (.int l4), some (.int (l5 + 1))] [] h n _ _
              refine rr_goto (tgt := 33) C dX11_twice_123 (by decide) ?_
              exact rr_keep [true, true, true, true, true, true] (ih_ _ _ hr hx0 hx1)
            · replace hr := (if_pos c102_).symm.trans hr
              obtain rfl := Option.some.inj hr
              exact rr_keep [false, false, true, false, true, true] (hx0 rfl)
          · replace hr := (if_neg c95_).symm.trans hr
            refine rr_goto (tgt := 120) C dX11_twice_98 (by decide) ?_
            refine rr_iinc (v := l5 + 1) C dX11_twice_120 rfl rfl ?_
            show WW W0 G 6 _ _ _ 123 [some (.ref l0), some (.int l1), some (.int l2), some (.int l3), some (.int l4), some (.int (l5 + 1))] [] h n _ _
            refine rr_goto (tgt := 33) C dX11_twice_123 (by decide) ?_
            exact rr_keep [true, true, true, true, true, true] (ih_ _ _ hr hx0 hx1)
set_option maxRecDepth 100000 in
set_option maxHeartbeats 4000000 in
theorem w_X11_twice_5 {K : Nat} {W0 : mm_X} {G : mm_G} {mc ms kc ks : Nat} {Q_ : State → Prop} {h : mm_H} {n : Nat} (C : mm_C W0 G cX11_twice yX11_twice.cls 6 mc ms (some .int) 1 yX11_twice.name) (hn : 48 ≤ n) (l0 : Nat) (l1 : Int32) (l2 : Int32) : ∀ (k_ : Nat) (l3 : Int32) (l4 : Int32) {r_ : Nat × Int32 × Int32} (hr : lp_X11_twice_5 K h n l0 l1 l2 k_ l3 l4 = some r_) (hx0 : r_.1 = 0 → WW W0 G 6 mc ms Q_ 105 [none, none, some (.int l2), none, some (.int r_.2.1), some (.int r_.2.2)] [] h n kc ks) (hx1 : r_.1 = 1 → WW W0 G 6 mc ms Q_ 132 [none, none, none, none, none, none] [] h n kc ks), WW W0 G 6 mc ms Q_ 5 [some (.ref l0), some (.int l1), some (.int l2), some (.int l3), some (.int l4), none] [] h n kc ks := by
  intro k_
  induction k_ with
  | zero =>
    intro l3 l4 r_ hr
    cases hr
  | succ k_ ih_ =>
    intro l3 l4 r_ hr hx0 hx1
    unfold lp_X11_twice_5 at hr
    refine rr_iload C dX11_twice_5 rfl ?_
    refine rr_aload_n (i := 0) C dX11_twice_7 rfl rfl ?_
    replace hr := Option.bind_eq_some_iff.mp hr
    obtain ⟨v1, e2, hr⟩ := hr
    refine rr_rdI C dX11_twice_8 fl_X11_202 e2 ?_
    refine rr_icmp_ge (tgt := 132) C dX11_twice_11 (by decide) (fun c11_ => ?_) (fun c11_ => ?_)
    · replace hr := (if_pos c11_).symm.trans hr
      obtain rfl := Option.some.inj hr
      exact rr_keep [false, false, false, false, false, false] (hx1 rfl)
    · replace hr := (if_neg c11_).symm.trans hr
      refine rr_iload_n (i := 1) C dX11_twice_14 rfl rfl ?_
      refine rr_if_lt (tgt := 132) C dX11_twice_15 (by decide) (fun c15_ => ?_) (fun c15_ => ?_)
      · replace hr := (if_pos c15_).symm.trans hr
        obtain rfl := Option.some.inj hr
        exact rr_keep [false, false, false, false, false, false] (hx1 rfl)
      · replace hr := (if_neg c15_).symm.trans hr
        refine rr_iload_n (i := 2) C dX11_twice_18 rfl rfl ?_
        refine rr_iconst (v := 0) C dX11_twice_19 (by decide) ?_
        refine rr_iconst (v := 1) C dX11_twice_20 (by decide) ?_
        replace hr := Option.bind_eq_some_iff.mp hr
        obtain ⟨v3, e4, hr⟩ := hr
        refine rr_callS (as := [.int l2, .int 0, .int 1]) (st := []) (mc' := 0) (ms' := 0) C dX11_twice_21 it_X11_165 (by decide) (Nat.le_of_ble_eq_true rfl) (c_X11_isIn l2 0 1 (by omega) e4) (fun v_ h_ n_ q_ => ?_)
        obtain ⟨q1_, q2_, q3_⟩ := q_
        subst v_; subst h_; subst n_
        show WW W0 G 6 _ _ _ 24 [some (.ref l0), some (.int l1), some (.int l2), some (.int l3), some (.int l4), none] [.int v3] h n _ _
        refine rr_if_eq (tgt := 132) C dX11_twice_24 (by decide) (fun c24_ => ?_) (fun c24_ => ?_)
        · replace hr := (if_pos c24_).symm.trans hr
          obtain rfl := Option.some.inj hr
          exact rr_keep [false, false, false, false, false, false] (hx1 rfl)
        · replace hr := (if_neg c24_).symm.trans hr
          refine rr_iload C dX11_twice_27 rfl ?_
          refine rr_iconst (v := 1) C dX11_twice_29 (by decide) ?_
          refine rr_iadd C dX11_twice_30 ?_
          refine rr_istore C dX11_twice_31 (by decide) ?_
          show WW W0 G 6 _ _ _ 33 [some (.ref l0), some (.int l1), some (.int l2), some (.int l3), some (.int l4), some (.int (l4 + 1))] [] h n _ _
          replace hr := Option.bind_eq_some_iff.mp hr
          obtain ⟨v44, e45, hr⟩ := hr
          refine rr_keep [true, true, true, true, true, true] (w_X11_twice_33 C (by omega) l0 l1 l2 l4 K l3 (l4 + 1) e45 ?_ ?_)
          · intro cx_
            replace hr := (if_pos cx_).symm.trans hr
            show WW W0 G 6 _ _ _ 105 [none, none, some (.int l2), none, some (.int l4), some (.int v44.2.2)] [] h n _ _
            obtain rfl := Option.some.inj hr
            exact rr_keep [false, false, true, false, true, true] (hx0 rfl)
          · intro cx_
            replace hr := (if_neg (fun z_ => absurd (z_.symm.trans cx_) (by decide))).symm.trans hr
            replace hr := (if_pos cx_).symm.trans hr
            show WW W0 G 6 _ _ _ 126 [some (.ref l0), some (.int l1), some (.int l2), some (.int v44.2.1), some (.int l4), none] [] h n _ _
            refine rr_iinc (v := l4 + 1) C dX11_twice_126 rfl rfl ?_
            show WW W0 G 6 _ _ _ 129 [some (.ref l0), some (.int l1), some (.int l2), some (.int v44.2.1), some (.int (l4 + 1)), none] [] h n _ _
            refine rr_goto (tgt := 5) C dX11_twice_129 (by decide) ?_
            exact rr_keep [true, true, true, true, true, false] (ih_ _ _ hr hx0 hx1)
set_option maxRecDepth 100000 in
set_option maxHeartbeats 4000000 in
theorem c_X11_twice {K : Nat} {G : mm_G} {l : Launch} {h : mm_H} {n : Nat} (l0 : Nat) (l1 : Int32) (l2 : Int32) {r_ : Int32} (hn : 48 ≤ n) (hr : q_X11_twice K h n l0 l1 l2 = some r_) : Sp G l yX11_twice cX11_twice 6 (some .int) 1 0 0 [.ref l0, .int l1, .int l2] h n (fun v h' n' => v = some (.int r_) ∧ h' = h ∧ n' = n) := by
  refine Sp_of (by decide +kernel) (Nat.le_of_ble_eq_true rfl) hn ?_
  intro W0 hwl C
  subst hwl
  unfold q_X11_twice at hr
  show WW W0 G 6 0 0 _ 0 [some (.ref l0), some (.int l1), some (.int l2), none, none, none] [] h n 0 0
  refine rr_iload_n (i := 1) C dX11_twice_0 rfl rfl ?_
  refine rr_istore_n (i := 3) C dX11_twice_1 rfl (by decide) ?_
  show WW W0 G 6 _ _ _ 2 [some (.ref l0), some (.int l1), some (.int l2), some (.int l1), none, none] [] h n _ _
  refine rr_iconst (v := 0) C dX11_twice_2 (by decide) ?_
  refine rr_istore C dX11_twice_3 (by decide) ?_
  show WW W0 G 6 _ _ _ 5 [some (.ref l0), some (.int l1), some (.int l2), some (.int l1), some (.int 0), none] [] h n _ _
  replace hr := Option.bind_eq_some_iff.mp hr
  obtain ⟨v46, e47, hr⟩ := hr
  refine rr_keep [true, true, true, true, true, false] (w_X11_twice_5 C (by omega) l0 l1 l2 K l1 0 e47 ?_ ?_)
  · intro cx_
    replace hr := (if_pos cx_).symm.trans hr
    show WW W0 G 6 _ _ _ 105 [none, none, some (.int l2), none, some (.int v46.2.1), some (.int v46.2.2)] [] h n _ _
    refine rr_iload_n (i := 2) C dX11_twice_105 rfl rfl ?_
    refine rr_if_ne (tgt := 114) C dX11_twice_106 (by decide) (fun c106_ => ?_) (fun c106_ => ?_)
    · replace hr := (if_neg c106_).symm.trans hr
      refine rr_iload C dX11_twice_114 rfl ?_
      obtain rfl := Option.some.inj hr
      exact rr_iret (ty := .int) C dX11_twice_116 rfl rfl ⟨rfl, rfl, rfl⟩
    · replace hr := (if_pos c106_).symm.trans hr
      refine rr_iload C dX11_twice_109 rfl ?_
      refine rr_goto (tgt := 116) C dX11_twice_111 (by decide) ?_
      obtain rfl := Option.some.inj hr
      exact rr_iret (ty := .int) C dX11_twice_116 rfl rfl ⟨rfl, rfl, rfl⟩
  · intro cx_
    replace hr := (if_neg (fun z_ => absurd (z_.symm.trans cx_) (by decide))).symm.trans hr
    replace hr := (if_pos cx_).symm.trans hr
    show WW W0 G 6 _ _ _ 132 [none, none, none, none, none, none] [] h n _ _
    refine rr_iconst (v := (-1)) C dX11_twice_132 (by decide) ?_
    obtain rfl := Option.some.inj hr
    exact rr_iret (ty := .int) C dX11_twice_133 rfl rfl ⟨rfl, rfl, rfl⟩
def lp_X11_count_82 (K : Nat) (h : mm_H) (n : Nat) (l0 : Nat) : Nat → Int32 → Int32 → Option (Int32)
  | 0, _, _ => none
  | k_ + 1, l2, l3 =>
    (rdI h n l0 10 8).bind fun v9 =>
    if v9 ≤ l3 then
      some (l2)
    else
    (rdR h n l0 10 14).bind fun v11 =>
    v11.bind fun a13 =>
    (ldI h n a13 l3).bind fun v15 =>
    if v15 = 5000 then
      (q_X11_one K h n 0).bind fun v17 =>
      lp_X11_count_82 K h n l0 k_ (l2 + v17) (l3 + 1)
    else
    (q_X11_one K h n 1).bind fun v20 =>
    lp_X11_count_82 K h n l0 k_ (l2 + v20) (l3 + 1)
def q_X11_count (K : Nat) (h : mm_H) (n : Nat) (l0 : Nat) (l1 : Int32) : Option (Int32) :=
  if l1 = 0 then
    (rdI h n l0 10 0).bind fun v1 =>
    some v1
  else
  if l1 = 1 then
    (rdI h n l0 10 1).bind fun v3 =>
    some v3
  else
  if l1 = 2 then
    (rdI h n l0 10 2).bind fun v5 =>
    some v5
  else
  if l1 = 3 then
    (rdI h n l0 10 8).bind fun v7 =>
    some v7
  else
  if l1 = 4 then
    (lp_X11_count_82 K h n l0 K 0 0).bind fun v23 =>
    some v23
  else
  if l1 = 5 then
    (rdI h n l0 10 9).bind fun v25 =>
    some v25
  else
  if l1 = 6 then
    (rdI h n l0 10 10).bind fun v27 =>
    some v27
  else
  if l1 = 7 then
    (rdI h n l0 10 24).bind fun v29 =>
    some v29
  else
  if l1 = 8 then
    (rdI h n l0 10 31).bind fun v31 =>
    (q_X11_one K h n v31).bind fun v33 =>
    some v33
  else
  if l1 = 9 then
    (rdI h n l0 10 26).bind fun v35 =>
    some v35
  else
  if l1 = 10 then
    (rdI h n l0 10 25).bind fun v37 =>
    some v37
  else
  some (-1)
set_option maxRecDepth 100000 in
set_option maxHeartbeats 4000000 in
theorem w_X11_count_82 {K : Nat} {W0 : mm_X} {G : mm_G} {mc ms kc ks : Nat} {Q_ : State → Prop} {h : mm_H} {n : Nat} (C : mm_C W0 G cX11_count yX11_count.cls 4 mc ms (some .int) 1 yX11_count.name) (hn : 48 ≤ n) (l0 : Nat) : ∀ (k_ : Nat) (l2 : Int32) (l3 : Int32) {r_ : Int32} (hr : lp_X11_count_82 K h n l0 k_ l2 l3 = some r_) (hx0 : WW W0 G 4 mc ms Q_ 119 [none, none, some (.int r_), none] [] h n kc ks), WW W0 G 4 mc ms Q_ 82 [some (.ref l0), none, some (.int l2), some (.int l3)] [] h n kc ks := by
  intro k_
  induction k_ with
  | zero =>
    intro l2 l3 r_ hr
    cases hr
  | succ k_ ih_ =>
    intro l2 l3 r_ hr hx0
    unfold lp_X11_count_82 at hr
    refine rr_iload_n (i := 3) C dX11_count_82 rfl rfl ?_
    refine rr_aload_n (i := 0) C dX11_count_83 rfl rfl ?_
    replace hr := Option.bind_eq_some_iff.mp hr
    obtain ⟨v9, e10, hr⟩ := hr
    refine rr_rdI C dX11_count_84 fl_X11_202 e10 ?_
    refine rr_icmp_ge (tgt := 119) C dX11_count_87 (by decide) (fun c87_ => ?_) (fun c87_ => ?_)
    · replace hr := (if_pos c87_).symm.trans hr
      obtain rfl := Option.some.inj hr
      exact rr_keep [false, false, true, false] (hx0)
    · replace hr := (if_neg c87_).symm.trans hr
      refine rr_iload_n (i := 2) C dX11_count_90 rfl rfl ?_
      refine rr_aload_n (i := 0) C dX11_count_91 rfl rfl ?_
      replace hr := Option.bind_eq_some_iff.mp hr
      obtain ⟨v11, e12, hr⟩ := hr
      refine rr_rdR C dX11_count_92 fl_X11_35 e12 ?_
      refine rr_iload_n (i := 3) C dX11_count_95 rfl rfl ?_
      replace hr := Option.bind_eq_some_iff.mp hr
      obtain ⟨a13, e14, hr⟩ := hr
      subst e14
      replace hr := Option.bind_eq_some_iff.mp hr
      obtain ⟨v15, e16, hr⟩ := hr
      refine rr_ldI C dX11_count_96 e16 ?_
      refine rr_sipush (v := 5000) C dX11_count_97 (by decide) ?_
      refine rr_icmp_eq (tgt := 107) C dX11_count_100 (by decide) (fun c100_ => ?_) (fun c100_ => ?_)
      · replace hr := (if_pos c100_).symm.trans hr
        refine rr_iconst (v := 0) C dX11_count_107 (by decide) ?_
        replace hr := Option.bind_eq_some_iff.mp hr
        obtain ⟨v17, e18, hr⟩ := hr
        refine rr_callS (as := [.int 0]) (st := [.int l2]) (mc' := 0) (ms' := 0) C dX11_count_108 it_X11_426 (by decide) (Nat.le_of_ble_eq_true rfl) (c_X11_one 0 (by omega) e18) (fun v_ h_ n_ q_ => ?_)
        obtain ⟨q1_, q2_, q3_⟩ := q_
        subst v_; subst h_; subst n_
        show WW W0 G 4 _ _ _ 111 [some (.ref l0), none, some (.int l2), some (.int l3)] [.int v17, .int l2] h n _ _
        refine rr_iadd C dX11_count_111 ?_
        refine rr_istore_n (i := 2) C dX11_count_112 rfl (by decide) ?_
        show WW W0 G 4 _ _ _ 113 [some (.ref l0), none, some (.int (l2 + v17)), some (.int l3)] [] h n _ _
        refine rr_iinc (v := l3 + 1) C dX11_count_113 rfl rfl ?_
        show WW W0 G 4 _ _ _ 116 [some (.ref l0), none, some (.int (l2 + v17)), some (.int (l3 + 1))] [] h n _ _
        refine rr_goto (tgt := 82) C dX11_count_116 (by decide) ?_
        exact rr_keep [true, false, true, true] (ih_ _ _ hr hx0)
      · replace hr := (if_neg c100_).symm.trans hr
        refine rr_iconst (v := 1) C dX11_count_103 (by decide) ?_
        refine rr_goto (tgt := 108) C dX11_count_104 (by decide) ?_
        replace hr := Option.bind_eq_some_iff.mp hr
        obtain ⟨v20, e21, hr⟩ := hr
        refine rr_callS (as := [.int 1]) (st := [.int l2]) (mc' := 0) (ms' := 0) C dX11_count_108 it_X11_426 (by decide) (Nat.le_of_ble_eq_true rfl) (c_X11_one 1 (by omega) e21) (fun v_ h_ n_ q_ => ?_)
        obtain ⟨q1_, q2_, q3_⟩ := q_
        subst v_; subst h_; subst n_
        show WW W0 G 4 _ _ _ 111 [some (.ref l0), none, some (.int l2), some (.int l3)] [.int v20, .int l2] h n _ _
        refine rr_iadd C dX11_count_111 ?_
        refine rr_istore_n (i := 2) C dX11_count_112 rfl (by decide) ?_
        show WW W0 G 4 _ _ _ 113 [some (.ref l0), none, some (.int (l2 + v20)), some (.int l3)] [] h n _ _
        refine rr_iinc (v := l3 + 1) C dX11_count_113 rfl rfl ?_
        show WW W0 G 4 _ _ _ 116 [some (.ref l0), none, some (.int (l2 + v20)), some (.int (l3 + 1))] [] h n _ _
        refine rr_goto (tgt := 82) C dX11_count_116 (by decide) ?_
        exact rr_keep [true, false, true, true] (ih_ _ _ hr hx0)
set_option maxRecDepth 100000 in
set_option maxHeartbeats 4000000 in
theorem c_X11_count {K : Nat} {G : mm_G} {l : Launch} {h : mm_H} {n : Nat} (l0 : Nat) (l1 : Int32) {r_ : Int32} (hn : 48 ≤ n) (hr : q_X11_count K h n l0 l1 = some r_) : Sp G l yX11_count cX11_count 4 (some .int) 1 0 0 [.ref l0, .int l1] h n (fun v h' n' => v = some (.int r_) ∧ h' = h ∧ n' = n) := by
  refine Sp_of (by decide +kernel) (Nat.le_of_ble_eq_true rfl) hn ?_
  intro W0 hwl C
  subst hwl
  unfold q_X11_count at hr
  show WW W0 G 4 0 0 _ 0 [some (.ref l0), some (.int l1), none, none] [] h n 0 0
  refine rr_iconst (v := 0) C dX11_count_0 (by decide) ?_
  refine rr_istore_n (i := 2) C dX11_count_1 rfl (by decide) ?_
  show WW W0 G 4 _ _ _ 2 [some (.ref l0), some (.int l1), some (.int 0), none] [] h n _ _
  refine rr_iload_n (i := 1) C dX11_count_2 rfl rfl ?_
  by_cases s3_0 : l1 = 0
  · replace hr := (if_pos s3_0).symm.trans hr
    refine rr_tabIn (off := 57) (tgt := 60) C dX11_count_3 (by rw [s3_0]; decide) (by rw [s3_0]; decide) (by rw [s3_0]; rfl) (by decide) ?_
    refine rr_aload_n (i := 0) C dX11_count_60 rfl rfl ?_
    replace hr := Option.bind_eq_some_iff.mp hr
    obtain ⟨v1, e2, hr⟩ := hr
    refine rr_rdI C dX11_count_61 fl_X11_172 e2 ?_
    obtain rfl := Option.some.inj hr
    exact rr_iret (ty := .int) C dX11_count_64 rfl rfl ⟨rfl, rfl, rfl⟩
  replace hr := (if_neg s3_0).symm.trans hr
  by_cases s3_1 : l1 = 1
  · replace hr := (if_pos s3_1).symm.trans hr
    refine rr_tabIn (off := 62) (tgt := 65) C dX11_count_3 (by rw [s3_1]; decide) (by rw [s3_1]; decide) (by rw [s3_1]; rfl) (by decide) ?_
    refine rr_aload_n (i := 0) C dX11_count_65 rfl rfl ?_
    replace hr := Option.bind_eq_some_iff.mp hr
    obtain ⟨v3, e4, hr⟩ := hr
    refine rr_rdI C dX11_count_66 fl_X11_169 e4 ?_
    obtain rfl := Option.some.inj hr
    exact rr_iret (ty := .int) C dX11_count_69 rfl rfl ⟨rfl, rfl, rfl⟩
  replace hr := (if_neg s3_1).symm.trans hr
  by_cases s3_2 : l1 = 2
  · replace hr := (if_pos s3_2).symm.trans hr
    refine rr_tabIn (off := 67) (tgt := 70) C dX11_count_3 (by rw [s3_2]; decide) (by rw [s3_2]; decide) (by rw [s3_2]; rfl) (by decide) ?_
    refine rr_aload_n (i := 0) C dX11_count_70 rfl rfl ?_
    replace hr := Option.bind_eq_some_iff.mp hr
    obtain ⟨v5, e6, hr⟩ := hr
    refine rr_rdI C dX11_count_71 fl_X11_188 e6 ?_
    obtain rfl := Option.some.inj hr
    exact rr_iret (ty := .int) C dX11_count_74 rfl rfl ⟨rfl, rfl, rfl⟩
  replace hr := (if_neg s3_2).symm.trans hr
  by_cases s3_3 : l1 = 3
  · replace hr := (if_pos s3_3).symm.trans hr
    refine rr_tabIn (off := 72) (tgt := 75) C dX11_count_3 (by rw [s3_3]; decide) (by rw [s3_3]; decide) (by rw [s3_3]; rfl) (by decide) ?_
    refine rr_aload_n (i := 0) C dX11_count_75 rfl rfl ?_
    replace hr := Option.bind_eq_some_iff.mp hr
    obtain ⟨v7, e8, hr⟩ := hr
    refine rr_rdI C dX11_count_76 fl_X11_202 e8 ?_
    obtain rfl := Option.some.inj hr
    exact rr_iret (ty := .int) C dX11_count_79 rfl rfl ⟨rfl, rfl, rfl⟩
  replace hr := (if_neg s3_3).symm.trans hr
  by_cases s3_4 : l1 = 4
  · replace hr := (if_pos s3_4).symm.trans hr
    refine rr_tabIn (off := 77) (tgt := 80) C dX11_count_3 (by rw [s3_4]; decide) (by rw [s3_4]; decide) (by rw [s3_4]; rfl) (by decide) ?_
    refine rr_iconst (v := 0) C dX11_count_80 (by decide) ?_
    refine rr_istore_n (i := 3) C dX11_count_81 rfl (by decide) ?_
    show WW W0 G 4 _ _ _ 82 [some (.ref l0), some (.int l1), some (.int 0), some (.int 0)] [] h n _ _
    replace hr := Option.bind_eq_some_iff.mp hr
    obtain ⟨v23, e24, hr⟩ := hr
    refine rr_keep [true, false, true, true] (w_X11_count_82 C (by omega) l0 K 0 0 e24 ?_)
    show WW W0 G 4 _ _ _ 119 [none, none, some (.int v23), none] [] h n _ _
    refine rr_iload_n (i := 2) C dX11_count_119 rfl rfl ?_
    obtain rfl := Option.some.inj hr
    exact rr_iret (ty := .int) C dX11_count_120 rfl rfl ⟨rfl, rfl, rfl⟩
  replace hr := (if_neg s3_4).symm.trans hr
  by_cases s3_5 : l1 = 5
  · replace hr := (if_pos s3_5).symm.trans hr
    refine rr_tabIn (off := 118) (tgt := 121) C dX11_count_3 (by rw [s3_5]; decide) (by rw [s3_5]; decide) (by rw [s3_5]; rfl) (by decide) ?_
    refine rr_aload_n (i := 0) C dX11_count_121 rfl rfl ?_
    replace hr := Option.bind_eq_some_iff.mp hr
    obtain ⟨v25, e26, hr⟩ := hr
    refine rr_rdI C dX11_count_122 fl_X11_208 e26 ?_
    obtain rfl := Option.some.inj hr
    exact rr_iret (ty := .int) C dX11_count_125 rfl rfl ⟨rfl, rfl, rfl⟩
  replace hr := (if_neg s3_5).symm.trans hr
  by_cases s3_6 : l1 = 6
  · replace hr := (if_pos s3_6).symm.trans hr
    refine rr_tabIn (off := 123) (tgt := 126) C dX11_count_3 (by rw [s3_6]; decide) (by rw [s3_6]; decide) (by rw [s3_6]; rfl) (by decide) ?_
    refine rr_aload_n (i := 0) C dX11_count_126 rfl rfl ?_
    replace hr := Option.bind_eq_some_iff.mp hr
    obtain ⟨v27, e28, hr⟩ := hr
    refine rr_rdI C dX11_count_127 fl_X11_211 e28 ?_
    obtain rfl := Option.some.inj hr
    exact rr_iret (ty := .int) C dX11_count_130 rfl rfl ⟨rfl, rfl, rfl⟩
  replace hr := (if_neg s3_6).symm.trans hr
  by_cases s3_7 : l1 = 7
  · replace hr := (if_pos s3_7).symm.trans hr
    refine rr_tabIn (off := 128) (tgt := 131) C dX11_count_3 (by rw [s3_7]; decide) (by rw [s3_7]; decide) (by rw [s3_7]; rfl) (by decide) ?_
    refine rr_aload_n (i := 0) C dX11_count_131 rfl rfl ?_
    replace hr := Option.bind_eq_some_iff.mp hr
    obtain ⟨v29, e30, hr⟩ := hr
    refine rr_rdI C dX11_count_132 fl_X11_380 e30 ?_
    obtain rfl := Option.some.inj hr
    exact rr_iret (ty := .int) C dX11_count_135 rfl rfl ⟨rfl, rfl, rfl⟩
  replace hr := (if_neg s3_7).symm.trans hr
  by_cases s3_8 : l1 = 8
  · replace hr := (if_pos s3_8).symm.trans hr
    refine rr_tabIn (off := 133) (tgt := 136) C dX11_count_3 (by rw [s3_8]; decide) (by rw [s3_8]; decide) (by rw [s3_8]; rfl) (by decide) ?_
    refine rr_aload_n (i := 0) C dX11_count_136 rfl rfl ?_
    replace hr := Option.bind_eq_some_iff.mp hr
    obtain ⟨v31, e32, hr⟩ := hr
    refine rr_rdI C dX11_count_137 fl_X11_393 e32 ?_
    replace hr := Option.bind_eq_some_iff.mp hr
    obtain ⟨v33, e34, hr⟩ := hr
    refine rr_callS (as := [.int v31]) (st := []) (mc' := 0) (ms' := 0) C dX11_count_140 it_X11_426 (by decide) (Nat.le_of_ble_eq_true rfl) (c_X11_one v31 (by omega) e34) (fun v_ h_ n_ q_ => ?_)
    obtain ⟨q1_, q2_, q3_⟩ := q_
    subst v_; subst h_; subst n_
    show WW W0 G 4 _ _ _ 143 [some (.ref l0), some (.int l1), some (.int 0), none] [.int v33] h n _ _
    obtain rfl := Option.some.inj hr
    exact rr_iret (ty := .int) C dX11_count_143 rfl rfl ⟨rfl, rfl, rfl⟩
  replace hr := (if_neg s3_8).symm.trans hr
  by_cases s3_9 : l1 = 9
  · replace hr := (if_pos s3_9).symm.trans hr
    refine rr_tabIn (off := 141) (tgt := 144) C dX11_count_3 (by rw [s3_9]; decide) (by rw [s3_9]; decide) (by rw [s3_9]; rfl) (by decide) ?_
    refine rr_aload_n (i := 0) C dX11_count_144 rfl rfl ?_
    replace hr := Option.bind_eq_some_iff.mp hr
    obtain ⟨v35, e36, hr⟩ := hr
    refine rr_rdI C dX11_count_145 fl_X11_214 e36 ?_
    obtain rfl := Option.some.inj hr
    exact rr_iret (ty := .int) C dX11_count_148 rfl rfl ⟨rfl, rfl, rfl⟩
  replace hr := (if_neg s3_9).symm.trans hr
  by_cases s3_10 : l1 = 10
  · replace hr := (if_pos s3_10).symm.trans hr
    refine rr_tabIn (off := 146) (tgt := 149) C dX11_count_3 (by rw [s3_10]; decide) (by rw [s3_10]; decide) (by rw [s3_10]; rfl) (by decide) ?_
    refine rr_aload_n (i := 0) C dX11_count_149 rfl rfl ?_
    replace hr := Option.bind_eq_some_iff.mp hr
    obtain ⟨v37, e38, hr⟩ := hr
    refine rr_rdI C dX11_count_150 fl_X11_549 e38 ?_
    obtain rfl := Option.some.inj hr
    exact rr_iret (ty := .int) C dX11_count_153 rfl rfl ⟨rfl, rfl, rfl⟩
  replace hr := (if_neg s3_10).symm.trans hr
  refine rr_tabOut (tgt := 154) C dX11_count_3 (by have t0 : ¬ Int32.toInt l1 = 0 := (fun q => s3_0 (Int32.toInt_inj.mp (show Int32.toInt l1 = (0 : Int32).toInt from q))); have t1 : ¬ Int32.toInt l1 = 1 := (fun q => s3_1 (Int32.toInt_inj.mp (show Int32.toInt l1 = (1 : Int32).toInt from q))); have t2 : ¬ Int32.toInt l1 = 2 := (fun q => s3_2 (Int32.toInt_inj.mp (show Int32.toInt l1 = (2 : Int32).toInt from q))); have t3 : ¬ Int32.toInt l1 = 3 := (fun q => s3_3 (Int32.toInt_inj.mp (show Int32.toInt l1 = (3 : Int32).toInt from q))); have t4 : ¬ Int32.toInt l1 = 4 := (fun q => s3_4 (Int32.toInt_inj.mp (show Int32.toInt l1 = (4 : Int32).toInt from q))); have t5 : ¬ Int32.toInt l1 = 5 := (fun q => s3_5 (Int32.toInt_inj.mp (show Int32.toInt l1 = (5 : Int32).toInt from q))); have t6 : ¬ Int32.toInt l1 = 6 := (fun q => s3_6 (Int32.toInt_inj.mp (show Int32.toInt l1 = (6 : Int32).toInt from q))); have t7 : ¬ Int32.toInt l1 = 7 := (fun q => s3_7 (Int32.toInt_inj.mp (show Int32.toInt l1 = (7 : Int32).toInt from q))); have t8 : ¬ Int32.toInt l1 = 8 := (fun q => s3_8 (Int32.toInt_inj.mp (show Int32.toInt l1 = (8 : Int32).toInt from q))); have t9 : ¬ Int32.toInt l1 = 9 := (fun q => s3_9 (Int32.toInt_inj.mp (show Int32.toInt l1 = (9 : Int32).toInt from q))); have t10 : ¬ Int32.toInt l1 = 10 := (fun q => s3_10 (Int32.toInt_inj.mp (show Int32.toInt l1 = (10 : Int32).toInt from q))); omega) (by decide) ?_
  refine rr_iconst (v := (-1)) C dX11_count_154 (by decide) ?_
  obtain rfl := Option.some.inj hr
  exact rr_iret (ty := .int) C dX11_count_155 rfl rfl ⟨rfl, rfl, rfl⟩
def q_J2_length_9d52b (K : Nat) (h : mm_H) (n : Nat) (l0 : Option Nat) : Option (Int32) :=
  l0.bind fun a1 =>
  (lenA h n a1 2).bind fun v3 =>
  some (v3 >>> (1 &&& 31))
set_option maxRecDepth 100000 in
set_option maxHeartbeats 4000000 in
theorem c_J2_length_9d52b {K : Nat} {G : mm_G} {l : Launch} {h : mm_H} {n : Nat} (l0 : Option Nat) {r_ : Int32} (hn : 48 ≤ n) (hr : q_J2_length_9d52b K h n l0 = some r_) : Sp G l yJ2_length_9d52b cJ2_length_9d52b 1 (some .int) 0 0 0 [va_rf l0] h n (fun v h' n' => v = some (.int r_) ∧ h' = h ∧ n' = n) := by
  refine Sp_of (by decide +kernel) (by rcases l0 with _ | _ <;> exact Nat.le_of_ble_eq_true rfl) hn ?_
  intro W0 hwl C
  subst hwl
  unfold q_J2_length_9d52b at hr
  rw [show mm_en 1 [va_rf l0] = [some (va_rf l0)] from by rcases l0 with _ | _ <;> rfl]
  show WW W0 G 1 0 0 _ 0 [some (va_rf l0)] [] h n 0 0
  refine rr_aload_nO (i := 0) C dJ2_length_9d52b_0 rfl rfl ?_
  replace hr := Option.bind_eq_some_iff.mp hr
  obtain ⟨a1, e2, hr⟩ := hr
  subst e2
  replace hr := Option.bind_eq_some_iff.mp hr
  obtain ⟨v3, e4, hr⟩ := hr
  refine rr_lenA C dJ2_length_9d52b_1 e4 ?_
  refine rr_iconst (v := 1) C dJ2_length_9d52b_2 (by decide) ?_
  refine rr_ishr C dJ2_length_9d52b_3 ?_
  obtain rfl := Option.some.inj hr
  exact rr_iret (ty := .int) C dJ2_length_9d52b_4 rfl rfl ⟨rfl, rfl, rfl⟩
def q_J2_checkIndex_2214a (K : Nat) (h : mm_H) (n : Nat) (l0 : Int32) (l1 : Option Nat) : Option (Unit) :=
  (q_J2_length_9d52b K h n l1).bind fun v1 =>
  (q_J0_checkIndex_df160 K h n l0 v1).bind fun v3 =>
  some ()
set_option maxRecDepth 100000 in
set_option maxHeartbeats 4000000 in
theorem c_J2_checkIndex_2214a {K : Nat} {G : mm_G} {l : Launch} {h : mm_H} {n : Nat} (l0 : Int32) (l1 : Option Nat) {r_ : Unit} (hn : 48 ≤ n) (hr : q_J2_checkIndex_2214a K h n l0 l1 = some r_) : Sp G l yJ2_checkIndex_2214a cJ2_checkIndex_2214a 2 none 2 0 0 [.int l0, va_rf l1] h n (fun v h' n' => v = none ∧ h' = h ∧ n' = n) := by
  refine Sp_of (by decide +kernel) (by rcases l1 with _ | _ <;> exact Nat.le_of_ble_eq_true rfl) hn ?_
  intro W0 hwl C
  subst hwl
  unfold q_J2_checkIndex_2214a at hr
  rw [show mm_en 2 [.int l0, va_rf l1] = [some (.int l0), some (va_rf l1)] from by rcases l1 with _ | _ <;> rfl]
  show WW W0 G 2 0 0 _ 0 [some (.int l0), some (va_rf l1)] [] h n 0 0
  refine rr_iload_n (i := 0) C dJ2_checkIndex_2214a_0 rfl rfl ?_
  refine rr_aload_nO (i := 1) C dJ2_checkIndex_2214a_1 rfl rfl ?_
  replace hr := Option.bind_eq_some_iff.mp hr
  obtain ⟨v1, e2, hr⟩ := hr
  refine rr_callS (as := [va_rf l1]) (st := [.int l0]) (mc' := 0) (ms' := 0) C dJ2_checkIndex_2214a_2 it_J2_48 (by decide) (Nat.le_of_ble_eq_true rfl) (c_J2_length_9d52b l1 (by omega) e2) (fun v_ h_ n_ q_ => ?_)
  obtain ⟨q1_, q2_, q3_⟩ := q_
  subst v_; subst h_; subst n_
  show WW W0 G 2 _ _ _ 5 [some (.int l0), some (va_rf l1)] [.int v1, .int l0] h n _ _
  replace hr := Option.bind_eq_some_iff.mp hr
  obtain ⟨v3, e4, hr⟩ := hr
  refine rr_callS (as := [.int l0, .int v1]) (st := []) (mc' := 0) (ms' := 0) C dJ2_checkIndex_2214a_5 it_J2_414 (by decide) (Nat.le_of_ble_eq_true rfl) (c_J0_checkIndex_df160 l0 v1 (by omega) e4) (fun v_ h_ n_ q_ => ?_)
  obtain ⟨q1_, q2_, q3_⟩ := q_
  subst v_; subst h_; subst n_
  show WW W0 G 2 _ _ _ 8 [some (.int l0), some (va_rf l1)] [] h n _ _
  obtain rfl := Option.some.inj hr
  exact rr_vret C dJ2_checkIndex_2214a_8 rfl ⟨rfl, rfl, rfl⟩

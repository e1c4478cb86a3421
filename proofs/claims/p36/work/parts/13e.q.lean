def lp_X7_fillLinesOf_28 (K : Nat) (n : Nat) (l0 : Nat) (l1 : Int32) (l2 : Option Nat) : Nat → Int64 → Int32 → mm_H → Option (Int64 × mm_H)
  | 0, _, _, _ => none
  | k_ + 1, l3, l5, h =>
    if 4 ≤ l5 then
      some (l3, h)
    else
    (rdR h n l0 7 6).bind fun v9 =>
    v9.bind fun a11 =>
    (ldR h n a11 7 l1).bind fun v13 =>
    v13.bind fun a15 =>
    (ldJ h n a15 l5).bind fun v17 =>
    l2.bind fun a19 =>
    (stJ h n a19 l5 v17).bind fun h21 =>
    (ldJ h21 n a19 l5).bind fun v23 =>
    lp_X7_fillLinesOf_28 K n l0 l1 l2 k_ (l3 + v23) (l5 + 1) h21
def lp_X7_fillLinesOf_114 (K : Nat) (n : Nat) (l0 : Nat) (l1 : Int32) (l2 : Nat) (l3 : Int64) : Nat → Int32 → mm_H → Option (mm_H)
  | 0, _, _ => none
  | k_ + 1, l5, h =>
    if 3 ≤ l5 then
      some (h)
    else
    if l1 ≤ 0 then
      some (h)
    else
    (ckq h n l0 7).bind fun u66 =>
    (q_X7_earnedIn K h n l0 (l1 - 1) l5).bind fun v68 =>
    (stJ h n l2 (7 + l5) v68).bind fun h70 =>
    lp_X7_fillLinesOf_114 K n l0 l1 l2 l3 k_ (l5 + 1) h70
def lp_X7_fillLinesOf_149 (K : Nat) (n : Nat) (l0 : Nat) (l1 : Int32) (l2 : Nat) (l3 : Int64) : Nat → Int32 → mm_H → Option (mm_H)
  | 0, _, _ => none
  | k_ + 1, l5, h =>
    if 4 ≤ l5 then
      some (h)
    else
    if l1 ≤ 0 then
      some (h)
    else
    (ckq h n l0 7).bind fun u74 =>
    (q_X7_sharedIn K h n l0 (l1 - 1) l5).bind fun v76 =>
    (stJ h n l2 (10 + l5) v76).bind fun h78 =>
    lp_X7_fillLinesOf_149 K n l0 l1 l2 l3 k_ (l5 + 1) h78
def q_X7_fillLinesOf (K : Nat) (h : mm_H) (n : Nat) (l0 : Nat) (l1 : Int32) : Option (mm_H) :=
  if l1 < 0 then
    some h
  else
  if l1 < 15 then
    (rdR h n l0 7 7).bind fun v1 =>
    v1.bind fun a3 =>
    (ldR h n a3 7 l1).bind fun v5 =>
    (q_J7_fill_d0a16 K h n v5 0).bind fun v7 =>
    (lp_X7_fillLinesOf_28 K n l0 l1 v5 K 0 0 v7).bind fun v26 =>
    (rdR v26.2 n l0 7 5).bind fun v28 =>
    v28.bind fun a30 =>
    (ldJ v26.2 n a30 l1).bind fun v32 =>
    (ckq v26.2 n l0 7).bind fun u34 =>
    (q_X7_numberAt K v26.2 n l0 l1 3).bind fun v36 =>
    (q_X8_cut K v26.2 n (v32 * (Int32.toInt64 v36)) 1000).bind fun v38 =>
    v5.bind fun a40 =>
    (stJ v26.2 n a40 4 v38).bind fun h42 =>
    (rdR h42 n l0 7 0).bind fun v44 =>
    v44.bind fun a46 =>
    (rdR h42 n a46 4 2).bind fun v48 =>
    (rdI h42 n l0 7 11).bind fun v50 =>
    v48.bind fun a52 =>
    (ckq h42 n a52 8).bind fun u54 =>
    (q_X9_coinsDue K h42 n a52 v50 l1).bind fun v56 =>
    (stJ h42 n a40 5 v56).bind fun h58 =>
    (ckq h58 n l0 7).bind fun u60 =>
    (q_X7_takenBackIn K h58 n l0 l1).bind fun v62 =>
    (stJ h58 n a40 6 (-v62)).bind fun h64 =>
    (lp_X7_fillLinesOf_114 K n l0 l1 a40 v26.1 K 0 h64).bind fun v72 =>
    (lp_X7_fillLinesOf_149 K n l0 l1 a40 v26.1 K 0 v72).bind fun v80 =>
    (rdR v80 n l0 7 0).bind fun v82 =>
    v82.bind fun a84 =>
    (rdR v80 n a84 4 4).bind fun v86 =>
    (rdI v80 n l0 7 11).bind fun v88 =>
    (rdI v80 n l0 7 12).bind fun v90 =>
    v86.bind fun a92 =>
    (ckq v80 n a92 1).bind fun u94 =>
    (q_X1_allKnown K v80 n a92 v88 0 l1 v90).bind fun v96 =>
    (ckq v80 n l0 7).bind fun u98 =>
    (q_X7_numberAt K v80 n l0 l1 8).bind fun v100 =>
    (q_X8_hundredths K v80 n v26.1 (Int32.toInt64 v100)).bind fun v102 =>
    if (lg_cmp v96 v102) < 0 then
      (stJ v80 n a40 14 0).bind fun h104 =>
      some h104
    else
    (stJ v80 n a40 14 v96).bind fun h106 =>
    some h106
  else
  some h
set_option maxRecDepth 100000 in
set_option maxHeartbeats 4000000 in
theorem w_X7_fillLinesOf_28 {K : Nat} {W0 : mm_X} {G : mm_G} {mc ms kc ks : Nat} {Q_ : State → Prop} {n : Nat} (C : mm_C W0 G cX7_fillLinesOf yX7_fillLinesOf.cls 8 mc ms none 4 yX7_fillLinesOf.name) (hn : 48 ≤ n) (l0 : Nat) (l1 : Int32) (l2 : Option Nat) : ∀ (k_ : Nat) (l3 : Int64) (l5 : Int32) (h : mm_H) {r_ : Int64 × mm_H} (hr : lp_X7_fillLinesOf_28 K n l0 l1 l2 k_ l3 l5 h = some r_) (hx0 : WW W0 G 8 mc ms Q_ 60 [some (.ref l0), some (.int l1), some (va_rf l2), some (.long r_.1), none, none, none, none] [] r_.2 n kc ks), WW W0 G 8 mc ms Q_ 28 [some (.ref l0), some (.int l1), some (va_rf l2), some (.long l3), none, some (.int l5), none, none] [] h n kc ks := by
  intro k_
  induction k_ with
  | zero =>
    intro l3 l5 h r_ hr
    cases hr
  | succ k_ ih_ =>
    intro l3 l5 h r_ hr hx0
    unfold lp_X7_fillLinesOf_28 at hr
    refine rr_iload C dX7_fillLinesOf_28 rfl ?_
    refine rr_iconst (v := 4) C dX7_fillLinesOf_30 (by decide) ?_
    refine rr_icmp_ge (tgt := 60) C dX7_fillLinesOf_31 (by decide) (fun c31_ => ?_) (fun c31_ => ?_)
    · replace hr := (if_pos c31_).symm.trans hr
      obtain rfl := Option.some.inj hr
      exact rr_keep [true, true, true, true, false, false, false, false] (hx0)
    · replace hr := (if_neg c31_).symm.trans hr
      refine rr_aload_nO (i := 2) C dX7_fillLinesOf_34 rfl rfl ?_
      refine rr_iload C dX7_fillLinesOf_35 rfl ?_
      refine rr_aload_n (i := 0) C dX7_fillLinesOf_37 rfl rfl ?_
      replace hr := Option.bind_eq_some_iff.mp hr
      obtain ⟨v9, e10, hr⟩ := hr
      refine rr_rdR C dX7_fillLinesOf_38 fl_X7_31 e10 ?_
      refine rr_iload_n (i := 1) C dX7_fillLinesOf_41 rfl rfl ?_
      replace hr := Option.bind_eq_some_iff.mp hr
      obtain ⟨a11, e12, hr⟩ := hr
      subst e12
      replace hr := Option.bind_eq_some_iff.mp hr
      obtain ⟨v13, e14, hr⟩ := hr
      refine rr_ldR C dX7_fillLinesOf_42 e14 ?_
      refine rr_iload C dX7_fillLinesOf_43 rfl ?_
      replace hr := Option.bind_eq_some_iff.mp hr
      obtain ⟨a15, e16, hr⟩ := hr
      subst e16
      replace hr := Option.bind_eq_some_iff.mp hr
      obtain ⟨v17, e18, hr⟩ := hr
      refine rr_ldJ C dX7_fillLinesOf_45 e18 ?_
      replace hr := Option.bind_eq_some_iff.mp hr
      obtain ⟨a19, e20, hr⟩ := hr
      subst e20
      replace hr := Option.bind_eq_some_iff.mp hr
      obtain ⟨h21, e22, hr⟩ := hr
      refine rr_stJ C dX7_fillLinesOf_46 e22 ?_
      refine rr_lload_n (i := 3) C dX7_fillLinesOf_47 rfl rfl ?_
      refine rr_aload_n (i := 2) C dX7_fillLinesOf_48 rfl rfl ?_
      refine rr_iload C dX7_fillLinesOf_49 rfl ?_
      replace hr := Option.bind_eq_some_iff.mp hr
      obtain ⟨v23, e24, hr⟩ := hr
      refine rr_ldJ C dX7_fillLinesOf_51 e24 ?_
      refine rr_ladd C dX7_fillLinesOf_52 ?_
      refine rr_lstore_n (i := 3) C dX7_fillLinesOf_53 rfl (by decide) ?_
      show WW W0 G 8 _ _ _ 54 [some (.ref l0), some (.int l1), some (.ref a19), some (.long (l3 + v23)), none, some (.int l5), none, none] [] h21 n _ _
      refine rr_iinc (v := l5 + 1) C dX7_fillLinesOf_54 rfl rfl ?_
      show WW W0 G 8 _ _ _ 57 [some (.ref l0), some (.int l1), some (.ref a19), some (.long (l3 + v23)), none, some (.int (l5 + 1)), none, none] [] h21 n _ _
      refine rr_goto (tgt := 28) C dX7_fillLinesOf_57 (by decide) ?_
      exact rr_keep [true, true, true, true, false, true, false, false] (ih_ _ _ _ hr hx0)
set_option maxRecDepth 100000 in
set_option maxHeartbeats 4000000 in
theorem w_X7_fillLinesOf_114 {K : Nat} {W0 : mm_X} {G : mm_G} {mc ms kc ks : Nat} {Q_ : State → Prop} {n : Nat} (C : mm_C W0 G cX7_fillLinesOf yX7_fillLinesOf.cls 8 mc ms none 4 yX7_fillLinesOf.name) (hn : 48 ≤ n) (l0 : Nat) (l1 : Int32) (l2 : Nat) (l3 : Int64) : ∀ (k_ : Nat) (l5 : Int32) (h : mm_H) {r_ : mm_H} (hr : lp_X7_fillLinesOf_114 K n l0 l1 l2 l3 k_ l5 h = some r_) (hx0 : WW W0 G 8 mc ms Q_ 146 [some (.ref l0), some (.int l1), some (.ref l2), some (.long l3), none, none, none, none] [] r_ n kc ks), WW W0 G 8 mc ms Q_ 114 [some (.ref l0), some (.int l1), some (.ref l2), some (.long l3), none, some (.int l5), none, none] [] h n kc ks := by
  intro k_
  induction k_ with
  | zero =>
    intro l5 h r_ hr
    cases hr
  | succ k_ ih_ =>
    intro l5 h r_ hr hx0
    unfold lp_X7_fillLinesOf_114 at hr
    refine rr_iload C dX7_fillLinesOf_114 rfl ?_
    refine rr_iconst (v := 3) C dX7_fillLinesOf_116 (by decide) ?_
    refine rr_icmp_ge (tgt := 146) C dX7_fillLinesOf_117 (by decide) (fun c117_ => ?_) (fun c117_ => ?_)
    · replace hr := (if_pos c117_).symm.trans hr
      obtain rfl := Option.some.inj hr
      exact rr_keep [true, true, true, true, false, false, false, false] (hx0)
    · replace hr := (if_neg c117_).symm.trans hr
      refine rr_iload_n (i := 1) C dX7_fillLinesOf_120 rfl rfl ?_
      refine rr_if_le (tgt := 146) C dX7_fillLinesOf_121 (by decide) (fun c121_ => ?_) (fun c121_ => ?_)
      · replace hr := (if_pos c121_).symm.trans hr
        obtain rfl := Option.some.inj hr
        exact rr_keep [true, true, true, true, false, false, false, false] (hx0)
      · replace hr := (if_neg c121_).symm.trans hr
        refine rr_aload_n (i := 2) C dX7_fillLinesOf_124 rfl rfl ?_
        refine rr_bipush (v := 7) C dX7_fillLinesOf_125 (by decide) ?_
        refine rr_iload C dX7_fillLinesOf_127 rfl ?_
        refine rr_iadd C dX7_fillLinesOf_129 ?_
        refine rr_aload_n (i := 0) C dX7_fillLinesOf_130 rfl rfl ?_
        refine rr_iload_n (i := 1) C dX7_fillLinesOf_131 rfl rfl ?_
        refine rr_iconst (v := 1) C dX7_fillLinesOf_132 (by decide) ?_
        refine rr_isub C dX7_fillLinesOf_133 ?_
        refine rr_iload C dX7_fillLinesOf_134 rfl ?_
        replace hr := Option.bind_eq_some_iff.mp hr
        obtain ⟨u66, e67, hr⟩ := hr
        replace hr := Option.bind_eq_some_iff.mp hr
        obtain ⟨v68, e69, hr⟩ := hr
        refine rr_callVq (as := [.int (l1 - 1), .int l5]) (st := [.int (7 + l5), .ref l2]) (mc' := 0) (ms' := 0) C dX7_fillLinesOf_136 iv_X7_227 (by decide) e67 rfl (Nat.le_of_ble_eq_true rfl) (c_X7_earnedIn l0 (l1 - 1) l5 (by omega) e69) (fun v_ h_ n_ q_ => ?_)
        obtain ⟨q1_, q2_, q3_⟩ := q_
        subst v_; subst h_; subst n_
        show WW W0 G 8 _ _ _ 139 [some (.ref l0), some (.int l1), some (.ref l2), some (.long l3), none, some (.int l5), none, none] [.long v68, .int (7 + l5), .ref l2] h n _ _
        replace hr := Option.bind_eq_some_iff.mp hr
        obtain ⟨h70, e71, hr⟩ := hr
        refine rr_stJ C dX7_fillLinesOf_139 e71 ?_
        refine rr_iinc (v := l5 + 1) C dX7_fillLinesOf_140 rfl rfl ?_
        show WW W0 G 8 _ _ _ 143 [some (.ref l0), some (.int l1), some (.ref l2), some (.long l3), none, some (.int (l5 + 1)), none, none] [] h70 n _ _
        refine rr_goto (tgt := 114) C dX7_fillLinesOf_143 (by decide) ?_
        exact rr_keep [true, true, true, true, false, true, false, false] (ih_ _ _ hr hx0)
set_option maxRecDepth 100000 in
set_option maxHeartbeats 4000000 in
theorem w_X7_fillLinesOf_149 {K : Nat} {W0 : mm_X} {G : mm_G} {mc ms kc ks : Nat} {Q_ : State → Prop} {n : Nat} (C : mm_C W0 G cX7_fillLinesOf yX7_fillLinesOf.cls 8 mc ms none 4 yX7_fillLinesOf.name) (hn : 48 ≤ n) (l0 : Nat) (l1 : Int32) (l2 : Nat) (l3 : Int64) : ∀ (k_ : Nat) (l5 : Int32) (h : mm_H) {r_ : mm_H} (hr : lp_X7_fillLinesOf_149 K n l0 l1 l2 l3 k_ l5 h = some r_) (hx0 : WW W0 G 8 mc ms Q_ 181 [some (.ref l0), some (.int l1), some (.ref l2), some (.long l3), none, none, none, none] [] r_ n kc ks), WW W0 G 8 mc ms Q_ 149 [some (.ref l0), some (.int l1), some (.ref l2), some (.long l3), none, some (.int l5), none, none] [] h n kc ks := by
  intro k_
  induction k_ with
  | zero =>
    intro l5 h r_ hr
    cases hr
  | succ k_ ih_ =>
    intro l5 h r_ hr hx0
    unfold lp_X7_fillLinesOf_149 at hr
    refine rr_iload C dX7_fillLinesOf_149 rfl ?_
    refine rr_iconst (v := 4) C dX7_fillLinesOf_151 (by decide) ?_
    refine rr_icmp_ge (tgt := 181) C dX7_fillLinesOf_152 (by decide) (fun c152_ => ?_) (fun c152_ => ?_)
    · replace hr := (if_pos c152_).symm.trans hr
      obtain rfl := Option.some.inj hr
      exact rr_keep [true, true, true, true, false, false, false, false] (hx0)
    · replace hr := (if_neg c152_).symm.trans hr
      refine rr_iload_n (i := 1) C dX7_fillLinesOf_155 rfl rfl ?_
      refine rr_if_le (tgt := 181) C dX7_fillLinesOf_156 (by decide) (fun c156_ => ?_) (fun c156_ => ?_)
      · replace hr := (if_pos c156_).symm.trans hr
        obtain rfl := Option.some.inj hr
        exact rr_keep [true, true, true, true, false, false, false, false] (hx0)
      · replace hr := (if_neg c156_).symm.trans hr
        refine rr_aload_n (i := 2) C dX7_fillLinesOf_159 rfl rfl ?_
        refine rr_bipush (v := 10) C dX7_fillLinesOf_160 (by decide) ?_
        refine rr_iload C dX7_fillLinesOf_162 rfl ?_
        refine rr_iadd C dX7_fillLinesOf_164 ?_
        refine rr_aload_n (i := 0) C dX7_fillLinesOf_165 rfl rfl ?_
        refine rr_iload_n (i := 1) C dX7_fillLinesOf_166 rfl rfl ?_
        refine rr_iconst (v := 1) C dX7_fillLinesOf_167 (by decide) ?_
        refine rr_isub C dX7_fillLinesOf_168 ?_
        refine rr_iload C dX7_fillLinesOf_169 rfl ?_
        replace hr := Option.bind_eq_some_iff.mp hr
        obtain ⟨u74, e75, hr⟩ := hr
        replace hr := Option.bind_eq_some_iff.mp hr
        obtain ⟨v76, e77, hr⟩ := hr
        refine rr_callVq (as := [.int (l1 - 1), .int l5]) (st := [.int (10 + l5), .ref l2]) (mc' := 0) (ms' := 0) C dX7_fillLinesOf_171 iv_X7_230 (by decide) e75 rfl (Nat.le_of_ble_eq_true rfl) (c_X7_sharedIn l0 (l1 - 1) l5 (by omega) e77) (fun v_ h_ n_ q_ => ?_)
        obtain ⟨q1_, q2_, q3_⟩ := q_
        subst v_; subst h_; subst n_
        show WW W0 G 8 _ _ _ 174 [some (.ref l0), some (.int l1), some (.ref l2), some (.long l3), none, some (.int l5), none, none] [.long v76, .int (10 + l5), .ref l2] h n _ _
        replace hr := Option.bind_eq_some_iff.mp hr
        obtain ⟨h78, e79, hr⟩ := hr
        refine rr_stJ C dX7_fillLinesOf_174 e79 ?_
        refine rr_iinc (v := l5 + 1) C dX7_fillLinesOf_175 rfl rfl ?_
        show WW W0 G 8 _ _ _ 178 [some (.ref l0), some (.int l1), some (.ref l2), some (.long l3), none, some (.int (l5 + 1)), none, none] [] h78 n _ _
        refine rr_goto (tgt := 149) C dX7_fillLinesOf_178 (by decide) ?_
        exact rr_keep [true, true, true, true, false, true, false, false] (ih_ _ _ hr hx0)
set_option maxRecDepth 100000 in
set_option maxHeartbeats 4000000 in
theorem c_X7_fillLinesOf {K : Nat} {G : mm_G} {l : Launch} {h : mm_H} {n : Nat} (l0 : Nat) (l1 : Int32) {r_ : mm_H} (hn : 48 ≤ n) (hr : q_X7_fillLinesOf K h n l0 l1 = some r_) : Sp G l yX7_fillLinesOf cX7_fillLinesOf 8 none 4 0 0 [.ref l0, .int l1] h n (fun v h' n' => v = none ∧ h' = r_ ∧ n' = n) := by
  refine Sp_of (by decide +kernel) (Nat.le_of_ble_eq_true rfl) hn ?_
  intro W0 hwl C
  subst hwl
  unfold q_X7_fillLinesOf at hr
  show WW W0 G 8 0 0 _ 0 [some (.ref l0), some (.int l1), none, none, none, none, none, none] [] h n 0 0
  refine rr_iload_n (i := 1) C dX7_fillLinesOf_0 rfl rfl ?_
  refine rr_if_lt (tgt := 10) C dX7_fillLinesOf_1 (by decide) (fun c1_ => ?_) (fun c1_ => ?_)
  · replace hr := (if_pos c1_).symm.trans hr
    obtain rfl := Option.some.inj hr
    exact rr_vret C dX7_fillLinesOf_10 rfl ⟨rfl, rfl, rfl⟩
  · replace hr := (if_neg c1_).symm.trans hr
    refine rr_iload_n (i := 1) C dX7_fillLinesOf_4 rfl rfl ?_
    refine rr_bipush (v := 15) C dX7_fillLinesOf_5 (by decide) ?_
    refine rr_icmp_lt (tgt := 11) C dX7_fillLinesOf_7 (by decide) (fun c7_ => ?_) (fun c7_ => ?_)
    · replace hr := (if_pos c7_).symm.trans hr
      refine rr_aload_n (i := 0) C dX7_fillLinesOf_11 rfl rfl ?_
      replace hr := Option.bind_eq_some_iff.mp hr
      obtain ⟨v1, e2, hr⟩ := hr
      refine rr_rdR C dX7_fillLinesOf_12 fl_X7_34 e2 ?_
      refine rr_iload_n (i := 1) C dX7_fillLinesOf_15 rfl rfl ?_
      replace hr := Option.bind_eq_some_iff.mp hr
      obtain ⟨a3, e4, hr⟩ := hr
      subst e4
      replace hr := Option.bind_eq_some_iff.mp hr
      obtain ⟨v5, e6, hr⟩ := hr
      refine rr_ldR C dX7_fillLinesOf_16 e6 ?_
      refine rr_astore_nO (i := 2) C dX7_fillLinesOf_17 rfl (by decide) ?_
      show WW W0 G 8 _ _ _ 18 [some (.ref l0), some (.int l1), some (va_rf v5), none, none, none, none, none] [] h n _ _
      refine rr_aload_nO (i := 2) C dX7_fillLinesOf_18 rfl rfl ?_
      refine rr_lconst (v := 0) C dX7_fillLinesOf_19 (by decide) ?_
      replace hr := Option.bind_eq_some_iff.mp hr
      obtain ⟨v7, e8, hr⟩ := hr
      refine rr_callS (as := [va_rf v5, .long 0]) (st := []) (mc' := 0) (ms' := 0) C dX7_fillLinesOf_20 it_X7_212 (by decide) (Nat.le_of_ble_eq_true rfl) (c_J7_fill_d0a16 v5 0 (by omega) e8) (fun v_ h_ n_ q_ => ?_)
      obtain ⟨q1_, q2_, q3_⟩ := q_
      subst v_; subst h_; subst n_
      show WW W0 G 8 _ _ _ 23 [some (.ref l0), some (.int l1), some (va_rf v5), none, none, none, none, none] [] v7 n _ _
      refine rr_lconst (v := 0) C dX7_fillLinesOf_23 (by decide) ?_
      refine rr_lstore_n (i := 3) C dX7_fillLinesOf_24 rfl (by decide) ?_
      rw [mm_set2_rf (i := 2) (r := v5) rfl]
      show WW W0 G 8 _ _ _ 25 [some (.ref l0), some (.int l1), some (va_rf v5), some (.long 0), none, none, none, none] [] v7 n _ _
      refine rr_iconst (v := 0) C dX7_fillLinesOf_25 (by decide) ?_
      refine rr_istore C dX7_fillLinesOf_26 (by decide) ?_
      show WW W0 G 8 _ _ _ 28 [some (.ref l0), some (.int l1), some (va_rf v5), some (.long 0), none, some (.int 0), none, none] [] v7 n _ _
      replace hr := Option.bind_eq_some_iff.mp hr
      obtain ⟨v26, e27, hr⟩ := hr
      refine rr_keep [true, true, true, true, false, true, false, false] (w_X7_fillLinesOf_28 C (by omega) l0 l1 v5 K 0 0 v7 e27 ?_)
      show WW W0 G 8 _ _ _ 60 [some (.ref l0), some (.int l1), some (va_rf v5), some (.long v26.1), none, none, none, none] [] v26.2 n _ _
      refine rr_aload_nO (i := 2) C dX7_fillLinesOf_60 rfl rfl ?_
      refine rr_iconst (v := 4) C dX7_fillLinesOf_61 (by decide) ?_
      refine rr_aload_n (i := 0) C dX7_fillLinesOf_62 rfl rfl ?_
      replace hr := Option.bind_eq_some_iff.mp hr
      obtain ⟨v28, e29, hr⟩ := hr
      refine rr_rdR C dX7_fillLinesOf_63 fl_X7_25 e29 ?_
      refine rr_iload_n (i := 1) C dX7_fillLinesOf_66 rfl rfl ?_
      replace hr := Option.bind_eq_some_iff.mp hr
      obtain ⟨a30, e31, hr⟩ := hr
      subst e31
      replace hr := Option.bind_eq_some_iff.mp hr
      obtain ⟨v32, e33, hr⟩ := hr
      refine rr_ldJ C dX7_fillLinesOf_67 e33 ?_
      refine rr_aload_n (i := 0) C dX7_fillLinesOf_68 rfl rfl ?_
      refine rr_iload_n (i := 1) C dX7_fillLinesOf_69 rfl rfl ?_
      refine rr_iconst (v := 3) C dX7_fillLinesOf_70 (by decide) ?_
      replace hr := Option.bind_eq_some_iff.mp hr
      obtain ⟨u34, e35, hr⟩ := hr
      replace hr := Option.bind_eq_some_iff.mp hr
      obtain ⟨v36, e37, hr⟩ := hr
      refine rr_callVq (as := [.int l1, .int 3]) (st := [.long v32, .int 4, va_rf v5]) (mc' := 0) (ms' := 0) C dX7_fillLinesOf_71 iv_X7_76 (by decide) e35 rfl (by rcases v5 with _ | _ <;> exact Nat.le_of_ble_eq_true rfl) (c_X7_numberAt l0 l1 3 (by omega) e37) (fun v_ h_ n_ q_ => ?_)
      obtain ⟨q1_, q2_, q3_⟩ := q_
      subst v_; subst h_; subst n_
      show WW W0 G 8 _ _ _ 74 [some (.ref l0), some (.int l1), some (va_rf v5), some (.long v26.1), none, none, none, none] [.int v36, .long v32, .int 4, va_rf v5] v26.2 n _ _
      refine rr_i2l C dX7_fillLinesOf_74 ?_
      refine rr_lmul C dX7_fillLinesOf_75 ?_
      refine rr_ldc2 C dX7_fillLinesOf_76 ct_X7_215 ?_
      replace hr := Option.bind_eq_some_iff.mp hr
      obtain ⟨v38, e39, hr⟩ := hr
      refine rr_callS (as := [.long (v32 * (Int32.toInt64 v36)), .long 1000]) (st := [.int 4, va_rf v5]) (mc' := 0) (ms' := 0) C dX7_fillLinesOf_79 it_X7_217 (by decide) (by rcases v5 with _ | _ <;> exact Nat.le_of_ble_eq_true rfl) (c_X8_cut (v32 * (Int32.toInt64 v36)) 1000 (by omega) e39) (fun v_ h_ n_ q_ => ?_)
      obtain ⟨q1_, q2_, q3_⟩ := q_
      subst v_; subst h_; subst n_
      show WW W0 G 8 _ _ _ 82 [some (.ref l0), some (.int l1), some (va_rf v5), some (.long v26.1), none, none, none, none] [.long v38, .int 4, va_rf v5] v26.2 n _ _
      replace hr := Option.bind_eq_some_iff.mp hr
      obtain ⟨a40, e41, hr⟩ := hr
      subst e41
      replace hr := Option.bind_eq_some_iff.mp hr
      obtain ⟨h42, e43, hr⟩ := hr
      refine rr_stJ C dX7_fillLinesOf_82 e43 ?_
      refine rr_aload_n (i := 2) C dX7_fillLinesOf_83 rfl rfl ?_
      refine rr_iconst (v := 5) C dX7_fillLinesOf_84 (by decide) ?_
      refine rr_aload_n (i := 0) C dX7_fillLinesOf_85 rfl rfl ?_
      replace hr := Option.bind_eq_some_iff.mp hr
      obtain ⟨v44, e45, hr⟩ := hr
      refine rr_rdR C dX7_fillLinesOf_86 fl_X7_46 e45 ?_
      replace hr := Option.bind_eq_some_iff.mp hr
      obtain ⟨a46, e47, hr⟩ := hr
      subst e47
      replace hr := Option.bind_eq_some_iff.mp hr
      obtain ⟨v48, e49, hr⟩ := hr
      refine rr_rdR C dX7_fillLinesOf_89 fl_X7_86 e49 ?_
      refine rr_aload_n (i := 0) C dX7_fillLinesOf_92 rfl rfl ?_
      replace hr := Option.bind_eq_some_iff.mp hr
      obtain ⟨v50, e51, hr⟩ := hr
      refine rr_rdI C dX7_fillLinesOf_93 fl_X7_59 e51 ?_
      refine rr_iload_n (i := 1) C dX7_fillLinesOf_96 rfl rfl ?_
      replace hr := Option.bind_eq_some_iff.mp hr
      obtain ⟨a52, e53, hr⟩ := hr
      subst e53
      replace hr := Option.bind_eq_some_iff.mp hr
      obtain ⟨u54, e55, hr⟩ := hr
      replace hr := Option.bind_eq_some_iff.mp hr
      obtain ⟨v56, e57, hr⟩ := hr
      refine rr_callVq (as := [.int v50, .int l1]) (st := [.int 5, .ref a40]) (mc' := 0) (ms' := 0) C dX7_fillLinesOf_97 iv_X7_220 (by decide) e55 rfl (Nat.le_of_ble_eq_true rfl) (c_X9_coinsDue a52 v50 l1 (by omega) e57) (fun v_ h_ n_ q_ => ?_)
      obtain ⟨q1_, q2_, q3_⟩ := q_
      subst v_; subst h_; subst n_
      show WW W0 G 8 _ _ _ 100 [some (.ref l0), some (.int l1), some (.ref a40), some (.long v26.1), none, none, none, none] [.long v56, .int 5, .ref a40] h42 n _ _
      replace hr := Option.bind_eq_some_iff.mp hr
      obtain ⟨h58, e59, hr⟩ := hr
      refine rr_stJ C dX7_fillLinesOf_100 e59 ?_
      refine rr_aload_n (i := 2) C dX7_fillLinesOf_101 rfl rfl ?_
      refine rr_bipush (v := 6) C dX7_fillLinesOf_102 (by decide) ?_
      refine rr_aload_n (i := 0) C dX7_fillLinesOf_104 rfl rfl ?_
      refine rr_iload_n (i := 1) C dX7_fillLinesOf_105 rfl rfl ?_
      replace hr := Option.bind_eq_some_iff.mp hr
      obtain ⟨u60, e61, hr⟩ := hr
      replace hr := Option.bind_eq_some_iff.mp hr
      obtain ⟨v62, e63, hr⟩ := hr
      refine rr_callVq (as := [.int l1]) (st := [.int 6, .ref a40]) (mc' := 0) (ms' := 0) C dX7_fillLinesOf_106 iv_X7_223 (by decide) e61 rfl (Nat.le_of_ble_eq_true rfl) (c_X7_takenBackIn l0 l1 (by omega) e63) (fun v_ h_ n_ q_ => ?_)
      obtain ⟨q1_, q2_, q3_⟩ := q_
      subst v_; subst h_; subst n_
      show WW W0 G 8 _ _ _ 109 [some (.ref l0), some (.int l1), some (.ref a40), some (.long v26.1), none, none, none, none] [.long v62, .int 6, .ref a40] h58 n _ _
      refine rr_lneg C dX7_fillLinesOf_109 ?_
      replace hr := Option.bind_eq_some_iff.mp hr
      obtain ⟨h64, e65, hr⟩ := hr
      refine rr_stJ C dX7_fillLinesOf_110 e65 ?_
      refine rr_iconst (v := 0) C dX7_fillLinesOf_111 (by decide) ?_
      refine rr_istore C dX7_fillLinesOf_112 (by decide) ?_
      show WW W0 G 8 _ _ _ 114 [some (.ref l0), some (.int l1), some (.ref a40), some (.long v26.1), none, some (.int 0), none, none] [] h64 n _ _
      replace hr := Option.bind_eq_some_iff.mp hr
      obtain ⟨v72, e73, hr⟩ := hr
      refine rr_keep [true, true, true, true, false, true, false, false] (w_X7_fillLinesOf_114 C (by omega) l0 l1 a40 v26.1 K 0 h64 e73 ?_)
      show WW W0 G 8 _ _ _ 146 [some (.ref l0), some (.int l1), some (.ref a40), some (.long v26.1), none, none, none, none] [] v72 n _ _
      refine rr_iconst (v := 0) C dX7_fillLinesOf_146 (by decide) ?_
      refine rr_istore C dX7_fillLinesOf_147 (by decide) ?_
      show WW W0 G 8 _ _ _ 149 [some (.ref l0), some (.int l1), some (.ref a40), some (.long v26.1), none, some (.int 0), none, none] [] v72 n _ _
      replace hr := Option.bind_eq_some_iff.mp hr
      obtain ⟨v80, e81, hr⟩ := hr
      refine rr_keep [true, true, true, true, false, true, false, false] (w_X7_fillLinesOf_149 C (by omega) l0 l1 a40 v26.1 K 0 v72 e81 ?_)
      show WW W0 G 8 _ _ _ 181 [some (.ref l0), some (.int l1), some (.ref a40), some (.long v26.1), none, none, none, none] [] v80 n _ _
      refine rr_aload_n (i := 0) C dX7_fillLinesOf_181 rfl rfl ?_
      replace hr := Option.bind_eq_some_iff.mp hr
      obtain ⟨v82, e83, hr⟩ := hr
      refine rr_rdR C dX7_fillLinesOf_182 fl_X7_46 e83 ?_
      replace hr := Option.bind_eq_some_iff.mp hr
      obtain ⟨a84, e85, hr⟩ := hr
      subst e85
      replace hr := Option.bind_eq_some_iff.mp hr
      obtain ⟨v86, e87, hr⟩ := hr
      refine rr_rdR C dX7_fillLinesOf_185 fl_X7_233 e87 ?_
      refine rr_aload_n (i := 0) C dX7_fillLinesOf_188 rfl rfl ?_
      replace hr := Option.bind_eq_some_iff.mp hr
      obtain ⟨v88, e89, hr⟩ := hr
      refine rr_rdI C dX7_fillLinesOf_189 fl_X7_59 e89 ?_
      refine rr_iconst (v := 0) C dX7_fillLinesOf_192 (by decide) ?_
      refine rr_iload_n (i := 1) C dX7_fillLinesOf_193 rfl rfl ?_
      refine rr_aload_n (i := 0) C dX7_fillLinesOf_194 rfl rfl ?_
      replace hr := Option.bind_eq_some_iff.mp hr
      obtain ⟨v90, e91, hr⟩ := hr
      refine rr_rdI C dX7_fillLinesOf_195 fl_X7_63 e91 ?_
      replace hr := Option.bind_eq_some_iff.mp hr
      obtain ⟨a92, e93, hr⟩ := hr
      subst e93
      replace hr := Option.bind_eq_some_iff.mp hr
      obtain ⟨u94, e95, hr⟩ := hr
      replace hr := Option.bind_eq_some_iff.mp hr
      obtain ⟨v96, e97, hr⟩ := hr
      refine rr_callVq (as := [.int v88, .int 0, .int l1, .int v90]) (st := []) (mc' := 0) (ms' := 0) C dX7_fillLinesOf_198 iv_X7_236 (by decide) e95 rfl (Nat.le_of_ble_eq_true rfl) (c_X1_allKnown a92 v88 0 l1 v90 (by omega) e97) (fun v_ h_ n_ q_ => ?_)
      obtain ⟨q1_, q2_, q3_⟩ := q_
      subst v_; subst h_; subst n_
      show WW W0 G 8 _ _ _ 201 [some (.ref l0), some (.int l1), some (.ref a40), some (.long v26.1), none, none, none, none] [.long v96] v80 n _ _
      refine rr_lstore C dX7_fillLinesOf_201 (by decide) ?_
      show WW W0 G 8 _ _ _ 203 [some (.ref l0), some (.int l1), some (.ref a40), some (.long v26.1), none, some (.long v96), none, none] [] v80 n _ _
      refine rr_lload C dX7_fillLinesOf_203 rfl ?_
      refine rr_lload_n (i := 3) C dX7_fillLinesOf_205 rfl rfl ?_
      refine rr_aload_n (i := 0) C dX7_fillLinesOf_206 rfl rfl ?_
      refine rr_iload_n (i := 1) C dX7_fillLinesOf_207 rfl rfl ?_
      refine rr_bipush (v := 8) C dX7_fillLinesOf_208 (by decide) ?_
      replace hr := Option.bind_eq_some_iff.mp hr
      obtain ⟨u98, e99, hr⟩ := hr
      replace hr := Option.bind_eq_some_iff.mp hr
      obtain ⟨v100, e101, hr⟩ := hr
      refine rr_callVq (as := [.int l1, .int 8]) (st := [.long v26.1, .long v96]) (mc' := 0) (ms' := 0) C dX7_fillLinesOf_210 iv_X7_76 (by decide) e99 rfl (Nat.le_of_ble_eq_true rfl) (c_X7_numberAt l0 l1 8 (by omega) e101) (fun v_ h_ n_ q_ => ?_)
      obtain ⟨q1_, q2_, q3_⟩ := q_
      subst v_; subst h_; subst n_
      show WW W0 G 8 _ _ _ 213 [some (.ref l0), some (.int l1), some (.ref a40), some (.long v26.1), none, some (.long v96), none, none] [.int v100, .long v26.1, .long v96] v80 n _ _
      refine rr_i2l C dX7_fillLinesOf_213 ?_
      replace hr := Option.bind_eq_some_iff.mp hr
      obtain ⟨v102, e103, hr⟩ := hr
      refine rr_callS (as := [.long v26.1, .long (Int32.toInt64 v100)]) (st := [.long v96]) (mc' := 0) (ms' := 0) C dX7_fillLinesOf_214 it_X7_80 (by decide) (Nat.le_of_ble_eq_true rfl) (c_X8_hundredths v26.1 (Int32.toInt64 v100) (by omega) e103) (fun v_ h_ n_ q_ => ?_)
      obtain ⟨q1_, q2_, q3_⟩ := q_
      subst v_; subst h_; subst n_
      show WW W0 G 8 _ _ _ 217 [some (.ref l0), some (.int l1), some (.ref a40), some (.long v26.1), none, some (.long v96), none, none] [.long v102, .long v96] v80 n _ _
      refine rr_lcmp C dX7_fillLinesOf_217 ?_
      refine rr_if_lt (tgt := 225) C dX7_fillLinesOf_218 (by decide) (fun c218_ => ?_) (fun c218_ => ?_)
      · replace hr := (if_pos c218_).symm.trans hr
        refine rr_iconst (v := 0) C dX7_fillLinesOf_225 (by decide) ?_
        refine rr_istore C dX7_fillLinesOf_226 (by decide) ?_
        show WW W0 G 8 _ _ _ 228 [some (.ref l0), some (.int l1), some (.ref a40), some (.long v26.1), none, some (.long v96), none, some (.int 0)] [] v80 n _ _
        refine rr_aload_n (i := 2) C dX7_fillLinesOf_228 rfl rfl ?_
        refine rr_bipush (v := 14) C dX7_fillLinesOf_229 (by decide) ?_
        refine rr_iload C dX7_fillLinesOf_231 rfl ?_
        refine rr_if_eq (tgt := 241) C dX7_fillLinesOf_233 (by decide) (fun _ => ?_) (fun q_ => absurd rfl q_)
        refine rr_lconst (v := 0) C dX7_fillLinesOf_241 (by decide) ?_
        replace hr := Option.bind_eq_some_iff.mp hr
        obtain ⟨h104, e105, hr⟩ := hr
        refine rr_stJ C dX7_fillLinesOf_242 e105 ?_
        obtain rfl := Option.some.inj hr
        exact rr_vret C dX7_fillLinesOf_243 rfl ⟨rfl, rfl, rfl⟩
      · replace hr := (if_neg c218_).symm.trans hr
        refine rr_iconst (v := 1) C dX7_fillLinesOf_221 (by decide) ?_
        refine rr_goto (tgt := 226) C dX7_fillLinesOf_222 (by decide) ?_
        refine rr_istore C dX7_fillLinesOf_226 (by decide) ?_
        show WW W0 G 8 _ _ _ 228 [some (.ref l0), some (.int l1), some (.ref a40), some (.long v26.1), none, some (.long v96), none, some (.int 1)] [] v80 n _ _
        refine rr_aload_n (i := 2) C dX7_fillLinesOf_228 rfl rfl ?_
        refine rr_bipush (v := 14) C dX7_fillLinesOf_229 (by decide) ?_
        refine rr_iload C dX7_fillLinesOf_231 rfl ?_
        refine rr_if_eq (tgt := 241) C dX7_fillLinesOf_233 (by decide) (fun q_ => absurd q_ (by decide)) (fun _ => ?_)
        refine rr_lload C dX7_fillLinesOf_236 rfl ?_
        refine rr_goto (tgt := 242) C dX7_fillLinesOf_238 (by decide) ?_
        replace hr := Option.bind_eq_some_iff.mp hr
        obtain ⟨h106, e107, hr⟩ := hr
        refine rr_stJ C dX7_fillLinesOf_242 e107 ?_
        obtain rfl := Option.some.inj hr
        exact rr_vret C dX7_fillLinesOf_243 rfl ⟨rfl, rfl, rfl⟩
    · replace hr := (if_neg c7_).symm.trans hr
      obtain rfl := Option.some.inj hr
      exact rr_vret C dX7_fillLinesOf_10 rfl ⟨rfl, rfl, rfl⟩
def lp_X7_fillLines_22 (K : Nat) (n : Nat) (l0 : Nat) (l1 : Int32) (l2 : Int32) (l3 : Int32) : Nat → Int32 → mm_H → Option (mm_H)
  | 0, _, _ => none
  | k_ + 1, l4, h =>
    if 4 ≤ l4 then
      some (h)
    else
    (rdR h n l0 7 6).bind fun v2 =>
    v2.bind fun a4 =>
    (ldR h n a4 7 l3).bind fun v6 =>
    (ckq h n l0 7).bind fun u8 =>
    (q_X7_allowedFor K h n l0 l3 l4).bind fun v10 =>
    v6.bind fun a12 =>
    (stJ v10.2 n a12 l4 v10.1).bind fun h14 =>
    lp_X7_fillLines_22 K n l0 l1 l2 l3 k_ (l4 + 1) h14
def lp_X7_fillLines_8 (K : Nat) (n : Nat) (l0 : Nat) (l1 : Int32) (l2 : Int32) : Nat → Int32 → mm_H → Option (mm_H)
  | 0, _, _ => none
  | k_ + 1, l3, h =>
    if l2 < l3 then
      some (h)
    else
    if 15 ≤ l3 then
      some (h)
    else
    (lp_X7_fillLines_22 K n l0 l1 l2 l3 K 0 h).bind fun v16 =>
    lp_X7_fillLines_8 K n l0 l1 l2 k_ (l3 + 1) v16
def lp_X7_fillLines_62 (K : Nat) (n : Nat) (l0 : Nat) (l2 : Int32) : Nat → Int32 → mm_H → Option (mm_H)
  | 0, _, _ => none
  | k_ + 1, l3, h =>
    if l2 < l3 then
      some (h)
    else
    if 15 ≤ l3 then
      some (h)
    else
    (ckq h n l0 7).bind fun u21 =>
    (q_X7_fillLinesOf K h n l0 l3).bind fun v23 =>
    lp_X7_fillLines_62 K n l0 l2 k_ (l3 + 1) v23
def q_X7_fillLines (K : Nat) (h : mm_H) (n : Nat) (l0 : Nat) (l1 : Int32) (l2 : Int32) : Option (mm_H) :=
  (lp_X7_fillLines_8 K n l0 l1 l2 K (i_max 0 (l1 - 1)) h).bind fun v18 =>
  (lp_X7_fillLines_62 K n l0 l2 K (i_max 0 l1) v18).bind fun v25 =>
  some v25
set_option maxRecDepth 100000 in
set_option maxHeartbeats 4000000 in
theorem w_X7_fillLines_22 {K : Nat} {W0 : mm_X} {G : mm_G} {mc ms kc ks : Nat} {Q_ : State → Prop} {n : Nat} (C : mm_C W0 G cX7_fillLines yX7_fillLines.cls 5 mc ms none 5 yX7_fillLines.name) (hn : 48 ≤ n) (l0 : Nat) (l1 : Int32) (l2 : Int32) (l3 : Int32) : ∀ (k_ : Nat) (l4 : Int32) (h : mm_H) {r_ : mm_H} (hr : lp_X7_fillLines_22 K n l0 l1 l2 l3 k_ l4 h = some r_) (hx0 : WW W0 G 5 mc ms Q_ 50 [some (.ref l0), some (.int l1), some (.int l2), some (.int l3), none] [] r_ n kc ks), WW W0 G 5 mc ms Q_ 22 [some (.ref l0), some (.int l1), some (.int l2), some (.int l3), some (.int l4)] [] h n kc ks := by
  intro k_
  induction k_ with
  | zero =>
    intro l4 h r_ hr
    cases hr
  | succ k_ ih_ =>
    intro l4 h r_ hr hx0
    unfold lp_X7_fillLines_22 at hr
    refine rr_iload C dX7_fillLines_22 rfl ?_
    refine rr_iconst (v := 4) C dX7_fillLines_24 (by decide) ?_
    refine rr_icmp_ge (tgt := 50) C dX7_fillLines_25 (by decide) (fun c25_ => ?_) (fun c25_ => ?_)
    · replace hr := (if_pos c25_).symm.trans hr
      obtain rfl := Option.some.inj hr
      exact rr_keep [true, true, true, true, false] (hx0)
    · replace hr := (if_neg c25_).symm.trans hr
      refine rr_aload_n (i := 0) C dX7_fillLines_28 rfl rfl ?_
      replace hr := Option.bind_eq_some_iff.mp hr
      obtain ⟨v2, e3, hr⟩ := hr
      refine rr_rdR C dX7_fillLines_29 fl_X7_31 e3 ?_
      refine rr_iload_n (i := 3) C dX7_fillLines_32 rfl rfl ?_
      replace hr := Option.bind_eq_some_iff.mp hr
      obtain ⟨a4, e5, hr⟩ := hr
      subst e5
      replace hr := Option.bind_eq_some_iff.mp hr
      obtain ⟨v6, e7, hr⟩ := hr
      refine rr_ldR C dX7_fillLines_33 e7 ?_
      refine rr_iload C dX7_fillLines_34 rfl ?_
      refine rr_aload_n (i := 0) C dX7_fillLines_36 rfl rfl ?_
      refine rr_iload_n (i := 3) C dX7_fillLines_37 rfl rfl ?_
      refine rr_iload C dX7_fillLines_38 rfl ?_
      replace hr := Option.bind_eq_some_iff.mp hr
      obtain ⟨u8, e9, hr⟩ := hr
      replace hr := Option.bind_eq_some_iff.mp hr
      obtain ⟨v10, e11, hr⟩ := hr
      refine rr_callVq (as := [.int l3, .int l4]) (st := [.int l4, va_rf v6]) (mc' := 0) (ms' := 0) C dX7_fillLines_40 iv_X7_206 (by decide) e9 rfl (by rcases v6 with _ | _ <;> exact Nat.le_of_ble_eq_true rfl) (c_X7_allowedFor l0 l3 l4 (by omega) e11) (fun v_ h_ n_ q_ => ?_)
      obtain ⟨q1_, q2_, q3_⟩ := q_
      subst v_; subst h_; subst n_
      show WW W0 G 5 _ _ _ 43 [some (.ref l0), some (.int l1), some (.int l2), some (.int l3), some (.int l4)] [.long v10.1, .int l4, va_rf v6] v10.2 n _ _
      replace hr := Option.bind_eq_some_iff.mp hr
      obtain ⟨a12, e13, hr⟩ := hr
      subst e13
      replace hr := Option.bind_eq_some_iff.mp hr
      obtain ⟨h14, e15, hr⟩ := hr
      refine rr_stJ C dX7_fillLines_43 e15 ?_
      refine rr_iinc (v := l4 + 1) C dX7_fillLines_44 rfl rfl ?_
      show WW W0 G 5 _ _ _ 47 [some (.ref l0), some (.int l1), some (.int l2), some (.int l3), some (.int (l4 + 1))] [] h14 n _ _
      refine rr_goto (tgt := 22) C dX7_fillLines_47 (by decide) ?_
      exact rr_keep [true, true, true, true, true] (ih_ _ _ hr hx0)
set_option maxRecDepth 100000 in
set_option maxHeartbeats 4000000 in
theorem w_X7_fillLines_8 {K : Nat} {W0 : mm_X} {G : mm_G} {mc ms kc ks : Nat} {Q_ : State → Prop} {n : Nat} (C : mm_C W0 G cX7_fillLines yX7_fillLines.cls 5 mc ms none 5 yX7_fillLines.name) (hn : 48 ≤ n) (l0 : Nat) (l1 : Int32) (l2 : Int32) : ∀ (k_ : Nat) (l3 : Int32) (h : mm_H) {r_ : mm_H} (hr : lp_X7_fillLines_8 K n l0 l1 l2 k_ l3 h = some r_) (hx0 : WW W0 G 5 mc ms Q_ 56 [some (.ref l0), some (.int l1), some (.int l2), none, none] [] r_ n kc ks), WW W0 G 5 mc ms Q_ 8 [some (.ref l0), some (.int l1), some (.int l2), some (.int l3), none] [] h n kc ks := by
  intro k_
  induction k_ with
  | zero =>
    intro l3 h r_ hr
    cases hr
  | succ k_ ih_ =>
    intro l3 h r_ hr hx0
    unfold lp_X7_fillLines_8 at hr
    refine rr_iload_n (i := 3) C dX7_fillLines_8 rfl rfl ?_
    refine rr_iload_n (i := 2) C dX7_fillLines_9 rfl rfl ?_
    refine rr_icmp_gt (tgt := 56) C dX7_fillLines_10 (by decide) (fun c10_ => ?_) (fun c10_ => ?_)
    · replace hr := (if_pos c10_).symm.trans hr
      obtain rfl := Option.some.inj hr
      exact rr_keep [true, true, true, false, false] (hx0)
    · replace hr := (if_neg c10_).symm.trans hr
      refine rr_iload_n (i := 3) C dX7_fillLines_13 rfl rfl ?_
      refine rr_bipush (v := 15) C dX7_fillLines_14 (by decide) ?_
      refine rr_icmp_ge (tgt := 56) C dX7_fillLines_16 (by decide) (fun c16_ => ?_) (fun c16_ => ?_)
      · replace hr := (if_pos c16_).symm.trans hr
        obtain rfl := Option.some.inj hr
        exact rr_keep [true, true, true, false, false] (hx0)
      · replace hr := (if_neg c16_).symm.trans hr
        refine rr_iconst (v := 0) C dX7_fillLines_19 (by decide) ?_
        refine rr_istore C dX7_fillLines_20 (by decide) ?_
        show WW W0 G 5 _ _ _ 22 [some (.ref l0), some (.int l1), some (.int l2), some (.int l3), some (.int 0)] [] h n _ _
        replace hr := Option.bind_eq_some_iff.mp hr
        obtain ⟨v16, e17, hr⟩ := hr
        refine rr_keep [true, true, true, true, true] (w_X7_fillLines_22 C (by omega) l0 l1 l2 l3 K 0 h e17 ?_)
        show WW W0 G 5 _ _ _ 50 [some (.ref l0), some (.int l1), some (.int l2), some (.int l3), none] [] v16 n _ _
        refine rr_iinc (v := l3 + 1) C dX7_fillLines_50 rfl rfl ?_
        show WW W0 G 5 _ _ _ 53 [some (.ref l0), some (.int l1), some (.int l2), some (.int (l3 + 1)), none] [] v16 n _ _
        refine rr_goto (tgt := 8) C dX7_fillLines_53 (by decide) ?_
        exact rr_keep [true, true, true, true, false] (ih_ _ _ hr hx0)
set_option maxRecDepth 100000 in
set_option maxHeartbeats 4000000 in
theorem w_X7_fillLines_62 {K : Nat} {W0 : mm_X} {G : mm_G} {mc ms kc ks : Nat} {Q_ : State → Prop} {n : Nat} (C : mm_C W0 G cX7_fillLines yX7_fillLines.cls 5 mc ms none 5 yX7_fillLines.name) (hn : 48 ≤ n) (l0 : Nat) (l2 : Int32) : ∀ (k_ : Nat) (l3 : Int32) (h : mm_H) {r_ : mm_H} (hr : lp_X7_fillLines_62 K n l0 l2 k_ l3 h = some r_) (hx0 : WW W0 G 5 mc ms Q_ 84 [none, none, none, none, none] [] r_ n kc ks), WW W0 G 5 mc ms Q_ 62 [some (.ref l0), none, some (.int l2), some (.int l3), none] [] h n kc ks := by
  intro k_
  induction k_ with
  | zero =>
    intro l3 h r_ hr
    cases hr
  | succ k_ ih_ =>
    intro l3 h r_ hr hx0
    unfold lp_X7_fillLines_62 at hr
    refine rr_iload_n (i := 3) C dX7_fillLines_62 rfl rfl ?_
    refine rr_iload_n (i := 2) C dX7_fillLines_63 rfl rfl ?_
    refine rr_icmp_gt (tgt := 84) C dX7_fillLines_64 (by decide) (fun c64_ => ?_) (fun c64_ => ?_)
    · replace hr := (if_pos c64_).symm.trans hr
      obtain rfl := Option.some.inj hr
      exact rr_keep [false, false, false, false, false] (hx0)
    · replace hr := (if_neg c64_).symm.trans hr
      refine rr_iload_n (i := 3) C dX7_fillLines_67 rfl rfl ?_
      refine rr_bipush (v := 15) C dX7_fillLines_68 (by decide) ?_
      refine rr_icmp_ge (tgt := 84) C dX7_fillLines_70 (by decide) (fun c70_ => ?_) (fun c70_ => ?_)
      · replace hr := (if_pos c70_).symm.trans hr
        obtain rfl := Option.some.inj hr
        exact rr_keep [false, false, false, false, false] (hx0)
      · replace hr := (if_neg c70_).symm.trans hr
        refine rr_aload_n (i := 0) C dX7_fillLines_73 rfl rfl ?_
        refine rr_iload_n (i := 3) C dX7_fillLines_74 rfl rfl ?_
        replace hr := Option.bind_eq_some_iff.mp hr
        obtain ⟨u21, e22, hr⟩ := hr
        replace hr := Option.bind_eq_some_iff.mp hr
        obtain ⟨v23, e24, hr⟩ := hr
        refine rr_callVq (as := [.int l3]) (st := []) (mc' := 0) (ms' := 0) C dX7_fillLines_75 iv_X7_209 (by decide) e22 rfl (Nat.le_of_ble_eq_true rfl) (c_X7_fillLinesOf l0 l3 (by omega) e24) (fun v_ h_ n_ q_ => ?_)
        obtain ⟨q1_, q2_, q3_⟩ := q_
        subst v_; subst h_; subst n_
        show WW W0 G 5 _ _ _ 78 [some (.ref l0), none, some (.int l2), some (.int l3), none] [] v23 n _ _
        refine rr_iinc (v := l3 + 1) C dX7_fillLines_78 rfl rfl ?_
        show WW W0 G 5 _ _ _ 81 [some (.ref l0), none, some (.int l2), some (.int (l3 + 1)), none] [] v23 n _ _
        refine rr_goto (tgt := 62) C dX7_fillLines_81 (by decide) ?_
        exact rr_keep [true, false, true, true, false] (ih_ _ _ hr hx0)
set_option maxRecDepth 100000 in
set_option maxHeartbeats 4000000 in
theorem c_X7_fillLines {K : Nat} {G : mm_G} {l : Launch} {h : mm_H} {n : Nat} (l0 : Nat) (l1 : Int32) (l2 : Int32) {r_ : mm_H} (hn : 48 ≤ n) (hr : q_X7_fillLines K h n l0 l1 l2 = some r_) : Sp G l yX7_fillLines cX7_fillLines 5 none 5 0 0 [.ref l0, .int l1, .int l2] h n (fun v h' n' => v = none ∧ h' = r_ ∧ n' = n) := by
  refine Sp_of (by decide +kernel) (Nat.le_of_ble_eq_true rfl) hn ?_
  intro W0 hwl C
  subst hwl
  unfold q_X7_fillLines at hr
  show WW W0 G 5 0 0 _ 0 [some (.ref l0), some (.int l1), some (.int l2), none, none] [] h n 0 0
  refine rr_iconst (v := 0) C dX7_fillLines_0 (by decide) ?_
  refine rr_iload_n (i := 1) C dX7_fillLines_1 rfl rfl ?_
  refine rr_iconst (v := 1) C dX7_fillLines_2 (by decide) ?_
  refine rr_isub C dX7_fillLines_3 ?_
  refine rr_mmax C dX7_fillLines_4 ma_X7_201 (by decide) (Nat.le_of_ble_eq_true rfl) ?_
  refine rr_istore_n (i := 3) C dX7_fillLines_7 rfl (by decide) ?_
  show WW W0 G 5 _ _ _ 8 [some (.ref l0), some (.int l1), some (.int l2), some (.int (i_max 0 (l1 - 1))), none] [] h n _ _
  replace hr := Option.bind_eq_some_iff.mp hr
  obtain ⟨v18, e19, hr⟩ := hr
  refine rr_keep [true, true, true, true, false] (w_X7_fillLines_8 C (by omega) l0 l1 l2 K (i_max 0 (l1 - 1)) h e19 ?_)
  show WW W0 G 5 _ _ _ 56 [some (.ref l0), some (.int l1), some (.int l2), none, none] [] v18 n _ _
  refine rr_iconst (v := 0) C dX7_fillLines_56 (by decide) ?_
  refine rr_iload_n (i := 1) C dX7_fillLines_57 rfl rfl ?_
  refine rr_mmax C dX7_fillLines_58 ma_X7_201 (by decide) (Nat.le_of_ble_eq_true rfl) ?_
  refine rr_istore_n (i := 3) C dX7_fillLines_61 rfl (by decide) ?_
  show WW W0 G 5 _ _ _ 62 [some (.ref l0), some (.int l1), some (.int l2), some (.int (i_max 0 l1)), none] [] v18 n _ _
  replace hr := Option.bind_eq_some_iff.mp hr
  obtain ⟨v25, e26, hr⟩ := hr
  refine rr_keep [true, false, true, true, false] (w_X7_fillLines_62 C (by omega) l0 l2 K (i_max 0 l1) v18 e26 ?_)
  show WW W0 G 5 _ _ _ 84 [none, none, none, none, none] [] v25 n _ _
  obtain rfl := Option.some.inj hr
  exact rr_vret C dX7_fillLines_84 rfl ⟨rfl, rfl, rfl⟩
def q_X7_lineAt (K : Nat) (h : mm_H) (n : Nat) (l0 : Nat) (l1 : Int32) (l2 : Int32) : Option (Int64) :=
  if l1 < 0 then
    some 0
  else
  if 15 ≤ l1 then
    some 0
  else
  if l2 < 0 then
    some 0
  else
  if 15 ≤ l2 then
    some 0
  else
  (rdR h n l0 7 7).bind fun v1 =>
  v1.bind fun a3 =>
  (ldR h n a3 7 l1).bind fun v5 =>
  v5.bind fun a7 =>
  (ldJ h n a7 l2).bind fun v9 =>
  some v9
set_option maxRecDepth 100000 in
set_option maxHeartbeats 4000000 in
theorem c_X7_lineAt {K : Nat} {G : mm_G} {l : Launch} {h : mm_H} {n : Nat} (l0 : Nat) (l1 : Int32) (l2 : Int32) {r_ : Int64} (hn : 48 ≤ n) (hr : q_X7_lineAt K h n l0 l1 l2 = some r_) : Sp G l yX7_lineAt cX7_lineAt 3 (some .long) 0 0 0 [.ref l0, .int l1, .int l2] h n (fun v h' n' => v = some (.long r_) ∧ h' = h ∧ n' = n) := by
  refine Sp_of (by decide +kernel) (Nat.le_of_ble_eq_true rfl) hn ?_
  intro W0 hwl C
  subst hwl
  unfold q_X7_lineAt at hr
  show WW W0 G 3 0 0 _ 0 [some (.ref l0), some (.int l1), some (.int l2)] [] h n 0 0
  refine rr_iload_n (i := 1) C dX7_lineAt_0 rfl rfl ?_
  refine rr_if_lt (tgt := 31) C dX7_lineAt_1 (by decide) (fun c1_ => ?_) (fun c1_ => ?_)
  · replace hr := (if_pos c1_).symm.trans hr
    refine rr_lconst (v := 0) C dX7_lineAt_31 (by decide) ?_
    obtain rfl := Option.some.inj hr
    exact rr_lret C dX7_lineAt_32 rfl ⟨rfl, rfl, rfl⟩
  · replace hr := (if_neg c1_).symm.trans hr
    refine rr_iload_n (i := 1) C dX7_lineAt_4 rfl rfl ?_
    refine rr_bipush (v := 15) C dX7_lineAt_5 (by decide) ?_
    refine rr_icmp_ge (tgt := 31) C dX7_lineAt_7 (by decide) (fun c7_ => ?_) (fun c7_ => ?_)
    · replace hr := (if_pos c7_).symm.trans hr
      refine rr_lconst (v := 0) C dX7_lineAt_31 (by decide) ?_
      obtain rfl := Option.some.inj hr
      exact rr_lret C dX7_lineAt_32 rfl ⟨rfl, rfl, rfl⟩
    · replace hr := (if_neg c7_).symm.trans hr
      refine rr_iload_n (i := 2) C dX7_lineAt_10 rfl rfl ?_
      refine rr_if_lt (tgt := 31) C dX7_lineAt_11 (by decide) (fun c11_ => ?_) (fun c11_ => ?_)
      · replace hr := (if_pos c11_).symm.trans hr
        refine rr_lconst (v := 0) C dX7_lineAt_31 (by decide) ?_
        obtain rfl := Option.some.inj hr
        exact rr_lret C dX7_lineAt_32 rfl ⟨rfl, rfl, rfl⟩
      · replace hr := (if_neg c11_).symm.trans hr
        refine rr_iload_n (i := 2) C dX7_lineAt_14 rfl rfl ?_
        refine rr_bipush (v := 15) C dX7_lineAt_15 (by decide) ?_
        refine rr_icmp_ge (tgt := 31) C dX7_lineAt_17 (by decide) (fun c17_ => ?_) (fun c17_ => ?_)
        · replace hr := (if_pos c17_).symm.trans hr
          refine rr_lconst (v := 0) C dX7_lineAt_31 (by decide) ?_
          obtain rfl := Option.some.inj hr
          exact rr_lret C dX7_lineAt_32 rfl ⟨rfl, rfl, rfl⟩
        · replace hr := (if_neg c17_).symm.trans hr
          refine rr_aload_n (i := 0) C dX7_lineAt_20 rfl rfl ?_
          replace hr := Option.bind_eq_some_iff.mp hr
          obtain ⟨v1, e2, hr⟩ := hr
          refine rr_rdR C dX7_lineAt_21 fl_X7_34 e2 ?_
          refine rr_iload_n (i := 1) C dX7_lineAt_24 rfl rfl ?_
          replace hr := Option.bind_eq_some_iff.mp hr
          obtain ⟨a3, e4, hr⟩ := hr
          subst e4
          replace hr := Option.bind_eq_some_iff.mp hr
          obtain ⟨v5, e6, hr⟩ := hr
          refine rr_ldR C dX7_lineAt_25 e6 ?_
          refine rr_iload_n (i := 2) C dX7_lineAt_26 rfl rfl ?_
          replace hr := Option.bind_eq_some_iff.mp hr
          obtain ⟨a7, e8, hr⟩ := hr
          subst e8
          replace hr := Option.bind_eq_some_iff.mp hr
          obtain ⟨v9, e10, hr⟩ := hr
          refine rr_ldJ C dX7_lineAt_27 e10 ?_
          refine rr_goto (tgt := 32) C dX7_lineAt_28 (by decide) ?_
          obtain rfl := Option.some.inj hr
          exact rr_lret C dX7_lineAt_32 rfl ⟨rfl, rfl, rfl⟩
def lp_X7_allLines_5 (K : Nat) (h : mm_H) (n : Nat) (l0 : Nat) (l1 : Int32) : Nat → Int64 → Int32 → Option (Int64)
  | 0, _, _ => none
  | k_ + 1, l2, l4 =>
    if 15 ≤ l4 then
      some (l2)
    else
    (ckq h n l0 7).bind fun u1 =>
    (q_X7_lineAt K h n l0 l1 l4).bind fun v3 =>
    lp_X7_allLines_5 K h n l0 l1 k_ (l2 + v3) (l4 + 1)
def q_X7_allLines (K : Nat) (h : mm_H) (n : Nat) (l0 : Nat) (l1 : Int32) : Option (Int64) :=
  (lp_X7_allLines_5 K h n l0 l1 K 0 0).bind fun v6 =>
  some v6
set_option maxRecDepth 100000 in
set_option maxHeartbeats 4000000 in
theorem w_X7_allLines_5 {K : Nat} {W0 : mm_X} {G : mm_G} {mc ms kc ks : Nat} {Q_ : State → Prop} {h : mm_H} {n : Nat} (C : mm_C W0 G cX7_allLines yX7_allLines.cls 5 mc ms (some .long) 1 yX7_allLines.name) (hn : 48 ≤ n) (l0 : Nat) (l1 : Int32) : ∀ (k_ : Nat) (l2 : Int64) (l4 : Int32) {r_ : Int64} (hr : lp_X7_allLines_5 K h n l0 l1 k_ l2 l4 = some r_) (hx0 : WW W0 G 5 mc ms Q_ 28 [none, none, some (.long r_), none, none] [] h n kc ks), WW W0 G 5 mc ms Q_ 5 [some (.ref l0), some (.int l1), some (.long l2), none, some (.int l4)] [] h n kc ks := by
  intro k_
  induction k_ with
  | zero =>
    intro l2 l4 r_ hr
    cases hr
  | succ k_ ih_ =>
    intro l2 l4 r_ hr hx0
    unfold lp_X7_allLines_5 at hr
    refine rr_iload C dX7_allLines_5 rfl ?_
    refine rr_bipush (v := 15) C dX7_allLines_7 (by decide) ?_
    refine rr_icmp_ge (tgt := 28) C dX7_allLines_9 (by decide) (fun c9_ => ?_) (fun c9_ => ?_)
    · replace hr := (if_pos c9_).symm.trans hr
      obtain rfl := Option.some.inj hr
      exact rr_keep [false, false, true, false, false] (hx0)
    · replace hr := (if_neg c9_).symm.trans hr
      refine rr_lload_n (i := 2) C dX7_allLines_12 rfl rfl ?_
      refine rr_aload_n (i := 0) C dX7_allLines_13 rfl rfl ?_
      refine rr_iload_n (i := 1) C dX7_allLines_14 rfl rfl ?_
      refine rr_iload C dX7_allLines_15 rfl ?_
      replace hr := Option.bind_eq_some_iff.mp hr
      obtain ⟨u1, e2, hr⟩ := hr
      replace hr := Option.bind_eq_some_iff.mp hr
      obtain ⟨v3, e4, hr⟩ := hr
      refine rr_callVq (as := [.int l1, .int l4]) (st := [.long l2]) (mc' := 0) (ms' := 0) C dX7_allLines_17 iv_X7_269 (by decide) e2 rfl (Nat.le_of_ble_eq_true rfl) (c_X7_lineAt l0 l1 l4 (by omega) e4) (fun v_ h_ n_ q_ => ?_)
      obtain ⟨q1_, q2_, q3_⟩ := q_
      subst v_; subst h_; subst n_
      show WW W0 G 5 _ _ _ 20 [some (.ref l0), some (.int l1), some (.long l2), none, some (.int l4)] [.long v3, .long l2] h n _ _
      refine rr_ladd C dX7_allLines_20 ?_
      refine rr_lstore_n (i := 2) C dX7_allLines_21 rfl (by decide) ?_
      show WW W0 G 5 _ _ _ 22 [some (.ref l0), some (.int l1), some (.long (l2 + v3)), none, some (.int l4)] [] h n _ _
      refine rr_iinc (v := l4 + 1) C dX7_allLines_22 rfl rfl ?_
      show WW W0 G 5 _ _ _ 25 [some (.ref l0), some (.int l1), some (.long (l2 + v3)), none, some (.int (l4 + 1))] [] h n _ _
      refine rr_goto (tgt := 5) C dX7_allLines_25 (by decide) ?_
      exact rr_keep [true, true, true, false, true] (ih_ _ _ hr hx0)
set_option maxRecDepth 100000 in
set_option maxHeartbeats 4000000 in
theorem c_X7_allLines {K : Nat} {G : mm_G} {l : Launch} {h : mm_H} {n : Nat} (l0 : Nat) (l1 : Int32) {r_ : Int64} (hn : 48 ≤ n) (hr : q_X7_allLines K h n l0 l1 = some r_) : Sp G l yX7_allLines cX7_allLines 5 (some .long) 1 0 0 [.ref l0, .int l1] h n (fun v h' n' => v = some (.long r_) ∧ h' = h ∧ n' = n) := by
  refine Sp_of (by decide +kernel) (Nat.le_of_ble_eq_true rfl) hn ?_
  intro W0 hwl C
  subst hwl
  unfold q_X7_allLines at hr
  show WW W0 G 5 0 0 _ 0 [some (.ref l0), some (.int l1), none, none, none] [] h n 0 0
  refine rr_lconst (v := 0) C dX7_allLines_0 (by decide) ?_
  refine rr_lstore_n (i := 2) C dX7_allLines_1 rfl (by decide) ?_
  show WW W0 G 5 _ _ _ 2 [some (.ref l0), some (.int l1), some (.long 0), none, none] [] h n _ _
  refine rr_iconst (v := 0) C dX7_allLines_2 (by decide) ?_
  refine rr_istore C dX7_allLines_3 (by decide) ?_
  show WW W0 G 5 _ _ _ 5 [some (.ref l0), some (.int l1), some (.long 0), none, some (.int 0)] [] h n _ _
  replace hr := Option.bind_eq_some_iff.mp hr
  obtain ⟨v6, e7, hr⟩ := hr
  refine rr_keep [true, true, true, false, true] (w_X7_allLines_5 C (by omega) l0 l1 K 0 0 e7 ?_)
  show WW W0 G 5 _ _ _ 28 [none, none, some (.long v6), none, none] [] h n _ _
  refine rr_lload_n (i := 2) C dX7_allLines_28 rfl rfl ?_
  obtain rfl := Option.some.inj hr
  exact rr_lret C dX7_allLines_29 rfl ⟨rfl, rfl, rfl⟩
def q_X7_carriedAt (K : Nat) (h : mm_H) (n : Nat) (l0 : Nat) (l1 : Int32) : Option (Int64) :=
  if l1 < 0 then
    some 0
  else
  if 15 ≤ l1 then
    some 0
  else
  (rdR h n l0 7 9).bind fun v1 =>
  v1.bind fun a3 =>
  (ldJ h n a3 l1).bind fun v5 =>
  some v5
set_option maxRecDepth 100000 in
set_option maxHeartbeats 4000000 in
theorem c_X7_carriedAt {K : Nat} {G : mm_G} {l : Launch} {h : mm_H} {n : Nat} (l0 : Nat) (l1 : Int32) {r_ : Int64} (hn : 48 ≤ n) (hr : q_X7_carriedAt K h n l0 l1 = some r_) : Sp G l yX7_carriedAt cX7_carriedAt 2 (some .long) 0 0 0 [.ref l0, .int l1] h n (fun v h' n' => v = some (.long r_) ∧ h' = h ∧ n' = n) := by
  refine Sp_of (by decide +kernel) (Nat.le_of_ble_eq_true rfl) hn ?_
  intro W0 hwl C
  subst hwl
  unfold q_X7_carriedAt at hr
  show WW W0 G 2 0 0 _ 0 [some (.ref l0), some (.int l1)] [] h n 0 0
  refine rr_iload_n (i := 1) C dX7_carriedAt_0 rfl rfl ?_
  refine rr_if_lt (tgt := 19) C dX7_carriedAt_1 (by decide) (fun c1_ => ?_) (fun c1_ => ?_)
  · replace hr := (if_pos c1_).symm.trans hr
    refine rr_lconst (v := 0) C dX7_carriedAt_19 (by decide) ?_
    obtain rfl := Option.some.inj hr
    exact rr_lret C dX7_carriedAt_20 rfl ⟨rfl, rfl, rfl⟩
  · replace hr := (if_neg c1_).symm.trans hr
    refine rr_iload_n (i := 1) C dX7_carriedAt_4 rfl rfl ?_
    refine rr_bipush (v := 15) C dX7_carriedAt_5 (by decide) ?_
    refine rr_icmp_ge (tgt := 19) C dX7_carriedAt_7 (by decide) (fun c7_ => ?_) (fun c7_ => ?_)
    · replace hr := (if_pos c7_).symm.trans hr
      refine rr_lconst (v := 0) C dX7_carriedAt_19 (by decide) ?_
      obtain rfl := Option.some.inj hr
      exact rr_lret C dX7_carriedAt_20 rfl ⟨rfl, rfl, rfl⟩
    · replace hr := (if_neg c7_).symm.trans hr
      refine rr_aload_n (i := 0) C dX7_carriedAt_10 rfl rfl ?_
      replace hr := Option.bind_eq_some_iff.mp hr
      obtain ⟨v1, e2, hr⟩ := hr
      refine rr_rdR C dX7_carriedAt_11 fl_X7_40 e2 ?_
      refine rr_iload_n (i := 1) C dX7_carriedAt_14 rfl rfl ?_
      replace hr := Option.bind_eq_some_iff.mp hr
      obtain ⟨a3, e4, hr⟩ := hr
      subst e4
      replace hr := Option.bind_eq_some_iff.mp hr
      obtain ⟨v5, e6, hr⟩ := hr
      refine rr_ldJ C dX7_carriedAt_15 e6 ?_
      refine rr_goto (tgt := 20) C dX7_carriedAt_16 (by decide) ?_
      obtain rfl := Option.some.inj hr
      exact rr_lret C dX7_carriedAt_20 rfl ⟨rfl, rfl, rfl⟩
def q_X7_billsAt (K : Nat) (h : mm_H) (n : Nat) (l0 : Nat) (l1 : Int32) : Option (Int64) :=
  if l1 < 0 then
    some 0
  else
  if 15 ≤ l1 then
    some 0
  else
  (rdR h n l0 7 8).bind fun v1 =>
  v1.bind fun a3 =>
  (ldJ h n a3 l1).bind fun v5 =>
  some v5
set_option maxRecDepth 100000 in
set_option maxHeartbeats 4000000 in
theorem c_X7_billsAt {K : Nat} {G : mm_G} {l : Launch} {h : mm_H} {n : Nat} (l0 : Nat) (l1 : Int32) {r_ : Int64} (hn : 48 ≤ n) (hr : q_X7_billsAt K h n l0 l1 = some r_) : Sp G l yX7_billsAt cX7_billsAt 2 (some .long) 0 0 0 [.ref l0, .int l1] h n (fun v h' n' => v = some (.long r_) ∧ h' = h ∧ n' = n) := by
  refine Sp_of (by decide +kernel) (Nat.le_of_ble_eq_true rfl) hn ?_
  intro W0 hwl C
  subst hwl
  unfold q_X7_billsAt at hr
  show WW W0 G 2 0 0 _ 0 [some (.ref l0), some (.int l1)] [] h n 0 0
  refine rr_iload_n (i := 1) C dX7_billsAt_0 rfl rfl ?_
  refine rr_if_lt (tgt := 19) C dX7_billsAt_1 (by decide) (fun c1_ => ?_) (fun c1_ => ?_)
  · replace hr := (if_pos c1_).symm.trans hr
    refine rr_lconst (v := 0) C dX7_billsAt_19 (by decide) ?_
    obtain rfl := Option.some.inj hr
    exact rr_lret C dX7_billsAt_20 rfl ⟨rfl, rfl, rfl⟩
  · replace hr := (if_neg c1_).symm.trans hr
    refine rr_iload_n (i := 1) C dX7_billsAt_4 rfl rfl ?_
    refine rr_bipush (v := 15) C dX7_billsAt_5 (by decide) ?_
    refine rr_icmp_ge (tgt := 19) C dX7_billsAt_7 (by decide) (fun c7_ => ?_) (fun c7_ => ?_)
    · replace hr := (if_pos c7_).symm.trans hr
      refine rr_lconst (v := 0) C dX7_billsAt_19 (by decide) ?_
      obtain rfl := Option.some.inj hr
      exact rr_lret C dX7_billsAt_20 rfl ⟨rfl, rfl, rfl⟩
    · replace hr := (if_neg c7_).symm.trans hr
      refine rr_aload_n (i := 0) C dX7_billsAt_10 rfl rfl ?_
      replace hr := Option.bind_eq_some_iff.mp hr
      obtain ⟨v1, e2, hr⟩ := hr
      refine rr_rdR C dX7_billsAt_11 fl_X7_37 e2 ?_
      refine rr_iload_n (i := 1) C dX7_billsAt_14 rfl rfl ?_
      replace hr := Option.bind_eq_some_iff.mp hr
      obtain ⟨a3, e4, hr⟩ := hr
      subst e4
      replace hr := Option.bind_eq_some_iff.mp hr
      obtain ⟨v5, e6, hr⟩ := hr
      refine rr_ldJ C dX7_billsAt_15 e6 ?_
      refine rr_goto (tgt := 20) C dX7_billsAt_16 (by decide) ?_
      obtain rfl := Option.some.inj hr
      exact rr_lret C dX7_billsAt_20 rfl ⟨rfl, rfl, rfl⟩
def q_X7_tilted (K : Nat) (h : mm_H) (n : Nat) (l0 : Nat) (l1 : Int32) (l2 : Int64) : Option (Int64) :=
  (ckq h n l0 7).bind fun u1 =>
  (q_X7_numberAt K h n l0 l1 7).bind fun v3 =>
  if v3 = (-1) then
    some l2
  else
  (ckq h n l0 7).bind fun u5 =>
  (q_X7_billsAt K h n l0 (l1 - 1)).bind fun v7 =>
  (q_X8_hundredths K h n v7 (Int32.toInt64 (100 + v3))).bind fun v9 =>
  (q_X8_hundredths K h n v7 (Int32.toInt64 (100 - v3))).bind fun v11 =>
  some (j_max v11 (j_min v9 l2))
set_option maxRecDepth 100000 in
set_option maxHeartbeats 4000000 in
theorem c_X7_tilted {K : Nat} {G : mm_G} {l : Launch} {h : mm_H} {n : Nat} (l0 : Nat) (l1 : Int32) (l2 : Int64) {r_ : Int64} (hn : 48 ≤ n) (hr : q_X7_tilted K h n l0 l1 l2 = some r_) : Sp G l yX7_tilted cX7_tilted 11 (some .long) 1 0 0 [.ref l0, .int l1, .long l2] h n (fun v h' n' => v = some (.long r_) ∧ h' = h ∧ n' = n) := by
  refine Sp_of (by decide +kernel) (Nat.le_of_ble_eq_true rfl) hn ?_
  intro W0 hwl C
  subst hwl
  unfold q_X7_tilted at hr
  show WW W0 G 11 0 0 _ 0 [some (.ref l0), some (.int l1), some (.long l2), none, none, none, none, none, none, none, none] [] h n 0 0
  refine rr_aload_n (i := 0) C dX7_tilted_0 rfl rfl ?_
  refine rr_iload_n (i := 1) C dX7_tilted_1 rfl rfl ?_
  refine rr_bipush (v := 7) C dX7_tilted_2 (by decide) ?_
  replace hr := Option.bind_eq_some_iff.mp hr
  obtain ⟨u1, e2, hr⟩ := hr
  replace hr := Option.bind_eq_some_iff.mp hr
  obtain ⟨v3, e4, hr⟩ := hr
  refine rr_callVq (as := [.int l1, .int 7]) (st := []) (mc' := 0) (ms' := 0) C dX7_tilted_4 iv_X7_76 (by decide) e2 rfl (Nat.le_of_ble_eq_true rfl) (c_X7_numberAt l0 l1 7 (by omega) e4) (fun v_ h_ n_ q_ => ?_)
  obtain ⟨q1_, q2_, q3_⟩ := q_
  subst v_; subst h_; subst n_
  show WW W0 G 11 _ _ _ 7 [some (.ref l0), some (.int l1), some (.long l2), none, none, none, none, none, none, none, none] [.int v3] h n _ _
  refine rr_istore C dX7_tilted_7 (by decide) ?_
  show WW W0 G 11 _ _ _ 9 [some (.ref l0), some (.int l1), some (.long l2), none, some (.int v3), none, none, none, none, none, none] [] h n _ _
  refine rr_iload C dX7_tilted_9 rfl ?_
  refine rr_iconst (v := (-1)) C dX7_tilted_11 (by decide) ?_
  refine rr_icmp_ne (tgt := 17) C dX7_tilted_12 (by decide) (fun c12_ => ?_) (fun c12_ => ?_)
  · replace hr := (if_neg c12_).symm.trans hr
    refine rr_aload_n (i := 0) C dX7_tilted_17 rfl rfl ?_
    refine rr_iload_n (i := 1) C dX7_tilted_18 rfl rfl ?_
    refine rr_iconst (v := 1) C dX7_tilted_19 (by decide) ?_
    refine rr_isub C dX7_tilted_20 ?_
    replace hr := Option.bind_eq_some_iff.mp hr
    obtain ⟨u5, e6, hr⟩ := hr
    replace hr := Option.bind_eq_some_iff.mp hr
    obtain ⟨v7, e8, hr⟩ := hr
    refine rr_callVq (as := [.int (l1 - 1)]) (st := []) (mc' := 0) (ms' := 0) C dX7_tilted_21 iv_X7_286 (by decide) e6 rfl (Nat.le_of_ble_eq_true rfl) (c_X7_billsAt l0 (l1 - 1) (by omega) e8) (fun v_ h_ n_ q_ => ?_)
    obtain ⟨q1_, q2_, q3_⟩ := q_
    subst v_; subst h_; subst n_
    show WW W0 G 11 _ _ _ 24 [some (.ref l0), some (.int l1), some (.long l2), none, some (.int v3), none, none, none, none, none, none] [.long v7] h n _ _
    refine rr_lstore C dX7_tilted_24 (by decide) ?_
    show WW W0 G 11 _ _ _ 26 [some (.ref l0), some (.int l1), some (.long l2), none, some (.int v3), some (.long v7), none, none, none, none, none] [] h n _ _
    refine rr_lload C dX7_tilted_26 rfl ?_
    refine rr_bipush (v := 100) C dX7_tilted_28 (by decide) ?_
    refine rr_iload C dX7_tilted_30 rfl ?_
    refine rr_iadd C dX7_tilted_32 ?_
    refine rr_i2l C dX7_tilted_33 ?_
    replace hr := Option.bind_eq_some_iff.mp hr
    obtain ⟨v9, e10, hr⟩ := hr
    refine rr_callS (as := [.long v7, .long (Int32.toInt64 (100 + v3))]) (st := []) (mc' := 0) (ms' := 0) C dX7_tilted_34 it_X7_80 (by decide) (Nat.le_of_ble_eq_true rfl) (c_X8_hundredths v7 (Int32.toInt64 (100 + v3)) (by omega) e10) (fun v_ h_ n_ q_ => ?_)
    obtain ⟨q1_, q2_, q3_⟩ := q_
    subst v_; subst h_; subst n_
    show WW W0 G 11 _ _ _ 37 [some (.ref l0), some (.int l1), some (.long l2), none, some (.int v3), some (.long v7), none, none, none, none, none] [.long v9] h n _ _
    refine rr_lstore C dX7_tilted_37 (by decide) ?_
    show WW W0 G 11 _ _ _ 39 [some (.ref l0), some (.int l1), some (.long l2), none, some (.int v3), some (.long v7), none, some (.long v9), none, none, none] [] h n _ _
    refine rr_lload C dX7_tilted_39 rfl ?_
    refine rr_bipush (v := 100) C dX7_tilted_41 (by decide) ?_
    refine rr_iload C dX7_tilted_43 rfl ?_
    refine rr_isub C dX7_tilted_45 ?_
    refine rr_i2l C dX7_tilted_46 ?_
    replace hr := Option.bind_eq_some_iff.mp hr
    obtain ⟨v11, e12, hr⟩ := hr
    refine rr_callS (as := [.long v7, .long (Int32.toInt64 (100 - v3))]) (st := []) (mc' := 0) (ms' := 0) C dX7_tilted_47 it_X7_80 (by decide) (Nat.le_of_ble_eq_true rfl) (c_X8_hundredths v7 (Int32.toInt64 (100 - v3)) (by omega) e12) (fun v_ h_ n_ q_ => ?_)
    obtain ⟨q1_, q2_, q3_⟩ := q_
    subst v_; subst h_; subst n_
    show WW W0 G 11 _ _ _ 50 [some (.ref l0), some (.int l1), some (.long l2), none, some (.int v3), some (.long v7), none, some (.long v9), none, none, none] [.long v11] h n _ _
    refine rr_lstore C dX7_tilted_50 (by decide) ?_
    show WW W0 G 11 _ _ _ 52 [some (.ref l0), some (.int l1), some (.long l2), none, some (.int v3), some (.long v7), none, some (.long v9), none, some (.long v11), none] [] h n _ _
    refine rr_lload C dX7_tilted_52 rfl ?_
    refine rr_lload C dX7_tilted_54 rfl ?_
    refine rr_lload_n (i := 2) C dX7_tilted_56 rfl rfl ?_
    refine rr_mmin_long C dX7_tilted_57 ma_X7_256 (by decide) (Nat.le_of_ble_eq_true rfl) ?_
    refine rr_mmax_long C dX7_tilted_60 ma_X7_289 (by decide) (Nat.le_of_ble_eq_true rfl) ?_
    obtain rfl := Option.some.inj hr
    exact rr_lret C dX7_tilted_63 rfl ⟨rfl, rfl, rfl⟩
  · replace hr := (if_pos c12_).symm.trans hr
    refine rr_lload_n (i := 2) C dX7_tilted_15 rfl rfl ?_
    obtain rfl := Option.some.inj hr
    exact rr_lret C dX7_tilted_16 rfl ⟨rfl, rfl, rfl⟩
def lp_X7_fillBills_18 (K : Nat) (n : Nat) (l0 : Nat) (l1 : Int32) (l2 : Int32) : Nat → Int32 → mm_H → Option (mm_H)
  | 0, _, _ => none
  | k_ + 1, l3, h =>
    if l1 < l3 then
      some (h)
    else
    if 15 ≤ l3 then
      some (h)
    else
    (ckq h n l0 7).bind fun u7 =>
    (q_X7_allLines K h n l0 l3).bind fun v9 =>
    if l3 ≤ l2 then
      if l3 ≤ l2 then
        (rdR h n l0 7 8).bind fun v11 =>
        v11.bind fun a13 =>
        (stJ h n a13 l3 v9).bind fun h15 =>
        (rdR h15 n l0 7 9).bind fun v17 =>
        (rdR h15 n l0 7 8).bind fun v19 =>
        v19.bind fun a21 =>
        (ldJ h15 n a21 l3).bind fun v23 =>
        v17.bind fun a25 =>
        (stJ h15 n a25 l3 (v9 - v23)).bind fun h27 =>
        lp_X7_fillBills_18 K n l0 l1 l2 k_ (l3 + 1) h27
      else
      if ((l2 + 5) - 1) ≤ l3 then
        (rdR h n l0 7 8).bind fun v29 =>
        v29.bind fun a31 =>
        (stJ h n a31 l3 v9).bind fun h33 =>
        (rdR h33 n l0 7 9).bind fun v35 =>
        (rdR h33 n l0 7 8).bind fun v37 =>
        v37.bind fun a39 =>
        (ldJ h33 n a39 l3).bind fun v41 =>
        v35.bind fun a43 =>
        (stJ h33 n a43 l3 (v9 - v41)).bind fun h45 =>
        lp_X7_fillBills_18 K n l0 l1 l2 k_ (l3 + 1) h45
      else
      (rdR h n l0 7 8).bind fun v47 =>
      (ckq h n l0 7).bind fun u49 =>
      (q_X7_tilted K h n l0 l3 v9).bind fun v51 =>
      v47.bind fun a53 =>
      (stJ h n a53 l3 v51).bind fun h55 =>
      (rdR h55 n l0 7 9).bind fun v57 =>
      (rdR h55 n l0 7 8).bind fun v59 =>
      v59.bind fun a61 =>
      (ldJ h55 n a61 l3).bind fun v63 =>
      v57.bind fun a65 =>
      (stJ h55 n a65 l3 (v9 - v63)).bind fun h67 =>
      lp_X7_fillBills_18 K n l0 l1 l2 k_ (l3 + 1) h67
    else
    (ckq h n l0 7).bind fun u69 =>
    (q_X7_carriedAt K h n l0 (l3 - 1)).bind fun v71 =>
    if l3 ≤ l2 then
      (rdR h n l0 7 8).bind fun v74 =>
      v74.bind fun a76 =>
      (stJ h n a76 l3 (v9 + v71)).bind fun h78 =>
      (rdR h78 n l0 7 9).bind fun v80 =>
      (rdR h78 n l0 7 8).bind fun v82 =>
      v82.bind fun a84 =>
      (ldJ h78 n a84 l3).bind fun v86 =>
      v80.bind fun a88 =>
      (stJ h78 n a88 l3 ((v9 + v71) - v86)).bind fun h90 =>
      lp_X7_fillBills_18 K n l0 l1 l2 k_ (l3 + 1) h90
    else
    if ((l2 + 5) - 1) ≤ l3 then
      (rdR h n l0 7 8).bind fun v92 =>
      v92.bind fun a94 =>
      (stJ h n a94 l3 (v9 + v71)).bind fun h96 =>
      (rdR h96 n l0 7 9).bind fun v98 =>
      (rdR h96 n l0 7 8).bind fun v100 =>
      v100.bind fun a102 =>
      (ldJ h96 n a102 l3).bind fun v104 =>
      v98.bind fun a106 =>
      (stJ h96 n a106 l3 ((v9 + v71) - v104)).bind fun h108 =>
      lp_X7_fillBills_18 K n l0 l1 l2 k_ (l3 + 1) h108
    else
    (rdR h n l0 7 8).bind fun v110 =>
    (ckq h n l0 7).bind fun u112 =>
    (q_X7_tilted K h n l0 l3 (v9 + v71)).bind fun v114 =>
    v110.bind fun a116 =>
    (stJ h n a116 l3 v114).bind fun h118 =>
    (rdR h118 n l0 7 9).bind fun v120 =>
    (rdR h118 n l0 7 8).bind fun v122 =>
    v122.bind fun a124 =>
    (ldJ h118 n a124 l3).bind fun v126 =>
    v120.bind fun a128 =>
    (stJ h118 n a128 l3 ((v9 + v71) - v126)).bind fun h130 =>
    lp_X7_fillBills_18 K n l0 l1 l2 k_ (l3 + 1) h130
def q_X7_fillBills (K : Nat) (h : mm_H) (n : Nat) (l0 : Nat) (l1 : Int32) : Option (mm_H) :=
  (ckq h n l0 7).bind fun u2 =>
  (q_X7_fillLines K h n l0 (l1 - (l1 - l1 / 5 * 5)) l1).bind fun v4 =>
  (lp_X7_fillBills_18 K n l0 l1 (l1 - (l1 - l1 / 5 * 5)) K (i_max 0 (l1 - (l1 - l1 / 5 * 5))) v4).bind fun v132 =>
  some v132
set_option maxRecDepth 100000 in
set_option maxHeartbeats 4000000 in
theorem w_X7_fillBills_18 {K : Nat} {W0 : mm_X} {G : mm_G} {mc ms kc ks : Nat} {Q_ : State → Prop} {n : Nat} (C : mm_C W0 G cX7_fillBills yX7_fillBills.cls 7 mc ms none 6 yX7_fillBills.name) (hn : 48 ≤ n) (l0 : Nat) (l1 : Int32) (l2 : Int32) : ∀ (k_ : Nat) (l3 : Int32) (h : mm_H) {r_ : mm_H} (hr : lp_X7_fillBills_18 K n l0 l1 l2 k_ l3 h = some r_) (hx0 : WW W0 G 7 mc ms Q_ 118 [none, none, none, none, none, none, none] [] r_ n kc ks), WW W0 G 7 mc ms Q_ 18 [some (.ref l0), some (.int l1), some (.int l2), some (.int l3), none, none, none] [] h n kc ks := by
  intro k_
  induction k_ with
  | zero =>
    intro l3 h r_ hr
    cases hr
  | succ k_ ih_ =>
    intro l3 h r_ hr hx0
    unfold lp_X7_fillBills_18 at hr
    refine rr_iload_n (i := 3) C dX7_fillBills_18 rfl rfl ?_
    refine rr_iload_n (i := 1) C dX7_fillBills_19 rfl rfl ?_
    refine rr_icmp_gt (tgt := 118) C dX7_fillBills_20 (by decide) (fun c20_ => ?_) (fun c20_ => ?_)
    · replace hr := (if_pos c20_).symm.trans hr
      obtain rfl := Option.some.inj hr
      exact rr_keep [false, false, false, false, false, false, false] (hx0)
    · replace hr := (if_neg c20_).symm.trans hr
      refine rr_iload_n (i := 3) C dX7_fillBills_23 rfl rfl ?_
      refine rr_bipush (v := 15) C dX7_fillBills_24 (by decide) ?_
      refine rr_icmp_ge (tgt := 118) C dX7_fillBills_26 (by decide) (fun c26_ => ?_) (fun c26_ => ?_)
      · replace hr := (if_pos c26_).symm.trans hr
        obtain rfl := Option.some.inj hr
        exact rr_keep [false, false, false, false, false, false, false] (hx0)
      · replace hr := (if_neg c26_).symm.trans hr
        refine rr_aload_n (i := 0) C dX7_fillBills_29 rfl rfl ?_
        refine rr_iload_n (i := 3) C dX7_fillBills_30 rfl rfl ?_
        replace hr := Option.bind_eq_some_iff.mp hr
        obtain ⟨u7, e8, hr⟩ := hr
        replace hr := Option.bind_eq_some_iff.mp hr
        obtain ⟨v9, e10, hr⟩ := hr
        refine rr_callVq (as := [.int l3]) (st := []) (mc' := 0) (ms' := 0) C dX7_fillBills_31 iv_X7_276 (by decide) e8 rfl (Nat.le_of_ble_eq_true rfl) (c_X7_allLines l0 l3 (by omega) e10) (fun v_ h_ n_ q_ => ?_)
        obtain ⟨q1_, q2_, q3_⟩ := q_
        subst v_; subst h_; subst n_
        show WW W0 G 7 _ _ _ 34 [some (.ref l0), some (.int l1), some (.int l2), some (.int l3), none, none, none] [.long v9] h n _ _
        refine rr_lstore C dX7_fillBills_34 (by decide) ?_
        show WW W0 G 7 _ _ _ 36 [some (.ref l0), some (.int l1), some (.int l2), some (.int l3), some (.long v9), none, none] [] h n _ _
        refine rr_iload_n (i := 3) C dX7_fillBills_36 rfl rfl ?_
        refine rr_iload_n (i := 2) C dX7_fillBills_37 rfl rfl ?_
        refine rr_icmp_le (tgt := 53) C dX7_fillBills_38 (by decide) (fun c38_ => ?_) (fun c38_ => ?_)
        · replace hr := (if_pos c38_).symm.trans hr
          refine rr_iload_n (i := 3) C dX7_fillBills_53 rfl rfl ?_
          refine rr_iload_n (i := 2) C dX7_fillBills_54 rfl rfl ?_
          refine rr_icmp_le (tgt := 71) C dX7_fillBills_55 (by decide) (fun c55_ => ?_) (fun c55_ => ?_)
          · replace hr := (if_pos c55_).symm.trans hr
            refine rr_iconst (v := 0) C dX7_fillBills_71 (by decide) ?_
            refine rr_istore C dX7_fillBills_72 (by decide) ?_
            show WW W0 G 7 _ _ _ 74 [some (.ref l0), some (.int l1), some (.int l2), some (.int l3), some (.long v9), none, some (.int 0)] [] h n _ _
            refine rr_aload_n (i := 0) C dX7_fillBills_74 rfl rfl ?_
            replace hr := Option.bind_eq_some_iff.mp hr
            obtain ⟨v11, e12, hr⟩ := hr
            refine rr_rdR C dX7_fillBills_75 fl_X7_37 e12 ?_
            refine rr_iload_n (i := 3) C dX7_fillBills_78 rfl rfl ?_
            refine rr_iload C dX7_fillBills_79 rfl ?_
            refine rr_if_eq (tgt := 94) C dX7_fillBills_81 (by decide) (fun _ => ?_) (fun q_ => absurd rfl q_)
            refine rr_lload C dX7_fillBills_94 rfl ?_
            replace hr := Option.bind_eq_some_iff.mp hr
            obtain ⟨a13, e14, hr⟩ := hr
            subst e14
            replace hr := Option.bind_eq_some_iff.mp hr
            obtain ⟨h15, e16, hr⟩ := hr
            refine rr_stJ C dX7_fillBills_96 e16 ?_
            refine rr_aload_n (i := 0) C dX7_fillBills_97 rfl rfl ?_
            replace hr := Option.bind_eq_some_iff.mp hr
            obtain ⟨v17, e18, hr⟩ := hr
            refine rr_rdR C dX7_fillBills_98 fl_X7_40 e18 ?_
            refine rr_iload_n (i := 3) C dX7_fillBills_101 rfl rfl ?_
            refine rr_lload C dX7_fillBills_102 rfl ?_
            refine rr_aload_n (i := 0) C dX7_fillBills_104 rfl rfl ?_
            replace hr := Option.bind_eq_some_iff.mp hr
            obtain ⟨v19, e20, hr⟩ := hr
            refine rr_rdR C dX7_fillBills_105 fl_X7_37 e20 ?_
            refine rr_iload_n (i := 3) C dX7_fillBills_108 rfl rfl ?_
            replace hr := Option.bind_eq_some_iff.mp hr
            obtain ⟨a21, e22, hr⟩ := hr
            subst e22
            replace hr := Option.bind_eq_some_iff.mp hr
            obtain ⟨v23, e24, hr⟩ := hr
            refine rr_ldJ C dX7_fillBills_109 e24 ?_
            refine rr_lsub C dX7_fillBills_110 ?_
            replace hr := Option.bind_eq_some_iff.mp hr
            obtain ⟨a25, e26, hr⟩ := hr
            subst e26
            replace hr := Option.bind_eq_some_iff.mp hr
            obtain ⟨h27, e28, hr⟩ := hr
            refine rr_stJ C dX7_fillBills_111 e28 ?_
            refine rr_iinc (v := l3 + 1) C dX7_fillBills_112 rfl rfl ?_
            show WW W0 G 7 _ _ _ 115 [some (.ref l0), some (.int l1), some (.int l2), some (.int (l3 + 1)), some (.long v9), none, some (.int 0)] [] h27 n _ _
            refine rr_goto (tgt := 18) C dX7_fillBills_115 (by decide) ?_
            exact rr_keep [true, true, true, true, false, false, false] (ih_ _ _ hr hx0)
          · replace hr := (if_neg c55_).symm.trans hr
            refine rr_iload_n (i := 3) C dX7_fillBills_58 rfl rfl ?_
            refine rr_iload_n (i := 2) C dX7_fillBills_59 rfl rfl ?_
            refine rr_iconst (v := 5) C dX7_fillBills_60 (by decide) ?_
            refine rr_iadd C dX7_fillBills_61 ?_
            refine rr_iconst (v := 1) C dX7_fillBills_62 (by decide) ?_
            refine rr_isub C dX7_fillBills_63 ?_
            refine rr_icmp_ge (tgt := 71) C dX7_fillBills_64 (by decide) (fun c64_ => ?_) (fun c64_ => ?_)
            · replace hr := (if_pos c64_).symm.trans hr
              refine rr_iconst (v := 0) C dX7_fillBills_71 (by decide) ?_
              refine rr_istore C dX7_fillBills_72 (by decide) ?_
              show WW W0 G 7 _ _ _ 74 [some (.ref l0), some (.int l1), some (.int l2), some (.int l3), some (.long v9), none, some (.int 0)] [] h n _ _
              refine rr_aload_n (i := 0) C dX7_fillBills_74 rfl rfl ?_
              replace hr := Option.bind_eq_some_iff.mp hr
              obtain ⟨v29, e30, hr⟩ := hr
              refine rr_rdR C dX7_fillBills_75 fl_X7_37 e30 ?_
              refine rr_iload_n (i := 3) C dX7_fillBills_78 rfl rfl ?_
              refine rr_iload C dX7_fillBills_79 rfl ?_
              refine rr_if_eq (tgt := 94) C dX7_fillBills_81 (by decide) (fun _ => ?_) (fun q_ => absurd rfl q_)
              refine rr_lload C dX7_fillBills_94 rfl ?_
              replace hr := Option.bind_eq_some_iff.mp hr
              obtain ⟨a31, e32, hr⟩ := hr
              subst e32
              replace hr := Option.bind_eq_some_iff.mp hr
              obtain ⟨h33, e34, hr⟩ := hr
              refine rr_stJ C dX7_fillBills_96 e34 ?_
              refine rr_aload_n (i := 0) C dX7_fillBills_97 rfl rfl ?_
              replace hr := Option.bind_eq_some_iff.mp hr
              obtain ⟨v35, e36, hr⟩ := hr
              refine rr_rdR C dX7_fillBills_98 fl_X7_40 e36 ?_
              refine rr_iload_n (i := 3) C dX7_fillBills_101 rfl rfl ?_
              refine rr_lload C dX7_fillBills_102 rfl ?_
              refine rr_aload_n (i := 0) C dX7_fillBills_104 rfl rfl ?_
              replace hr := Option.bind_eq_some_iff.mp hr
              obtain ⟨v37, e38, hr⟩ := hr
              refine rr_rdR C dX7_fillBills_105 fl_X7_37 e38 ?_
              refine rr_iload_n (i := 3) C dX7_fillBills_108 rfl rfl ?_
              replace hr := Option.bind_eq_some_iff.mp hr
              obtain ⟨a39, e40, hr⟩ := hr
              subst e40
              replace hr := Option.bind_eq_some_iff.mp hr
              obtain ⟨v41, e42, hr⟩ := hr
              refine rr_ldJ C dX7_fillBills_109 e42 ?_
              refine rr_lsub C dX7_fillBills_110 ?_
              replace hr := Option.bind_eq_some_iff.mp hr
              obtain ⟨a43, e44, hr⟩ := hr
              subst e44
              replace hr := Option.bind_eq_some_iff.mp hr
              obtain ⟨h45, e46, hr⟩ := hr
              refine rr_stJ C dX7_fillBills_111 e46 ?_
              refine rr_iinc (v := l3 + 1) C dX7_fillBills_112 rfl rfl ?_
              show WW W0 G 7 _ _ _ 115 [some (.ref l0), some (.int l1), some (.int l2), some (.int (l3 + 1)), some (.long v9), none, some (.int 0)] [] h45 n _ _
              refine rr_goto (tgt := 18) C dX7_fillBills_115 (by decide) ?_
              exact rr_keep [true, true, true, true, false, false, false] (ih_ _ _ hr hx0)
            · replace hr := (if_neg c64_).symm.trans hr
              refine rr_iconst (v := 1) C dX7_fillBills_67 (by decide) ?_
              refine rr_goto (tgt := 72) C dX7_fillBills_68 (by decide) ?_
              refine rr_istore C dX7_fillBills_72 (by decide) ?_
              show WW W0 G 7 _ _ _ 74 [some (.ref l0), some (.int l1), some (.int l2), some (.int l3), some (.long v9), none, some (.int 1)] [] h n _ _
              refine rr_aload_n (i := 0) C dX7_fillBills_74 rfl rfl ?_
              replace hr := Option.bind_eq_some_iff.mp hr
              obtain ⟨v47, e48, hr⟩ := hr
              refine rr_rdR C dX7_fillBills_75 fl_X7_37 e48 ?_
              refine rr_iload_n (i := 3) C dX7_fillBills_78 rfl rfl ?_
              refine rr_iload C dX7_fillBills_79 rfl ?_
              refine rr_if_eq (tgt := 94) C dX7_fillBills_81 (by decide) (fun q_ => absurd q_ (by decide)) (fun _ => ?_)
              refine rr_aload_n (i := 0) C dX7_fillBills_84 rfl rfl ?_
              refine rr_iload_n (i := 3) C dX7_fillBills_85 rfl rfl ?_
              refine rr_lload C dX7_fillBills_86 rfl ?_
              replace hr := Option.bind_eq_some_iff.mp hr
              obtain ⟨u49, e50, hr⟩ := hr
              replace hr := Option.bind_eq_some_iff.mp hr
              obtain ⟨v51, e52, hr⟩ := hr
              refine rr_callVq (as := [.int l3, .long v9]) (st := [.int l3, va_rf v47]) (mc' := 0) (ms' := 0) C dX7_fillBills_88 iv_X7_282 (by decide) e50 rfl (by rcases v47 with _ | _ <;> exact Nat.le_of_ble_eq_true rfl) (c_X7_tilted l0 l3 v9 (by omega) e52) (fun v_ h_ n_ q_ => ?_)
              obtain ⟨q1_, q2_, q3_⟩ := q_
              subst v_; subst h_; subst n_
              show WW W0 G 7 _ _ _ 91 [some (.ref l0), some (.int l1), some (.int l2), some (.int l3), some (.long v9), none, some (.int 1)] [.long v51, .int l3, va_rf v47] h n _ _
              refine rr_goto (tgt := 96) C dX7_fillBills_91 (by decide) ?_
              replace hr := Option.bind_eq_some_iff.mp hr
              obtain ⟨a53, e54, hr⟩ := hr
              subst e54
              replace hr := Option.bind_eq_some_iff.mp hr
              obtain ⟨h55, e56, hr⟩ := hr
              refine rr_stJ C dX7_fillBills_96 e56 ?_
              refine rr_aload_n (i := 0) C dX7_fillBills_97 rfl rfl ?_
              replace hr := Option.bind_eq_some_iff.mp hr
              obtain ⟨v57, e58, hr⟩ := hr
              refine rr_rdR C dX7_fillBills_98 fl_X7_40 e58 ?_
              refine rr_iload_n (i := 3) C dX7_fillBills_101 rfl rfl ?_
              refine rr_lload C dX7_fillBills_102 rfl ?_
              refine rr_aload_n (i := 0) C dX7_fillBills_104 rfl rfl ?_
              replace hr := Option.bind_eq_some_iff.mp hr
              obtain ⟨v59, e60, hr⟩ := hr
              refine rr_rdR C dX7_fillBills_105 fl_X7_37 e60 ?_
              refine rr_iload_n (i := 3) C dX7_fillBills_108 rfl rfl ?_
              replace hr := Option.bind_eq_some_iff.mp hr
              obtain ⟨a61, e62, hr⟩ := hr
              subst e62
              replace hr := Option.bind_eq_some_iff.mp hr
              obtain ⟨v63, e64, hr⟩ := hr
              refine rr_ldJ C dX7_fillBills_109 e64 ?_
              refine rr_lsub C dX7_fillBills_110 ?_
              replace hr := Option.bind_eq_some_iff.mp hr
              obtain ⟨a65, e66, hr⟩ := hr
              subst e66
              replace hr := Option.bind_eq_some_iff.mp hr
              obtain ⟨h67, e68, hr⟩ := hr
              refine rr_stJ C dX7_fillBills_111 e68 ?_
              refine rr_iinc (v := l3 + 1) C dX7_fillBills_112 rfl rfl ?_
              show WW W0 G 7 _ _ _ 115 [some (.ref l0), some (.int l1), some (.int l2), some (.int (l3 + 1)), some (.long v9), none, some (.int 1)] [] h67 n _ _
              refine rr_goto (tgt := 18) C dX7_fillBills_115 (by decide) ?_
              exact rr_keep [true, true, true, true, false, false, false] (ih_ _ _ hr hx0)
        · replace hr := (if_neg c38_).symm.trans hr
          refine rr_lload C dX7_fillBills_41 rfl ?_
          refine rr_aload_n (i := 0) C dX7_fillBills_43 rfl rfl ?_
          refine rr_iload_n (i := 3) C dX7_fillBills_44 rfl rfl ?_
          refine rr_iconst (v := 1) C dX7_fillBills_45 (by decide) ?_
          refine rr_isub C dX7_fillBills_46 ?_
          replace hr := Option.bind_eq_some_iff.mp hr
          obtain ⟨u69, e70, hr⟩ := hr
          replace hr := Option.bind_eq_some_iff.mp hr
          obtain ⟨v71, e72, hr⟩ := hr
          refine rr_callVq (as := [.int (l3 - 1)]) (st := [.long v9]) (mc' := 0) (ms' := 0) C dX7_fillBills_47 iv_X7_279 (by decide) e70 rfl (Nat.le_of_ble_eq_true rfl) (c_X7_carriedAt l0 (l3 - 1) (by omega) e72) (fun v_ h_ n_ q_ => ?_)
          obtain ⟨q1_, q2_, q3_⟩ := q_
          subst v_; subst h_; subst n_
          show WW W0 G 7 _ _ _ 50 [some (.ref l0), some (.int l1), some (.int l2), some (.int l3), some (.long v9), none, none] [.long v71, .long v9] h n _ _
          refine rr_ladd C dX7_fillBills_50 ?_
          refine rr_lstore C dX7_fillBills_51 (by decide) ?_
          show WW W0 G 7 _ _ _ 53 [some (.ref l0), some (.int l1), some (.int l2), some (.int l3), some (.long (v9 + v71)), none, none] [] h n _ _
          refine rr_iload_n (i := 3) C dX7_fillBills_53 rfl rfl ?_
          refine rr_iload_n (i := 2) C dX7_fillBills_54 rfl rfl ?_
          refine rr_icmp_le (tgt := 71) C dX7_fillBills_55 (by decide) (fun c55_ => ?_) (fun c55_ => ?_)
          · replace hr := (if_pos c55_).symm.trans hr
            refine rr_iconst (v := 0) C dX7_fillBills_71 (by decide) ?_
            refine rr_istore C dX7_fillBills_72 (by decide) ?_
            show WW W0 G 7 _ _ _ 74 [some (.ref l0), some (.int l1), some (.int l2), some (.int l3), some (.long (v9 + v71)), none, some (.int 0)] [] h n _ _
            refine rr_aload_n (i := 0) C dX7_fillBills_74 rfl rfl ?_
            replace hr := Option.bind_eq_some_iff.mp hr
            obtain ⟨v74, e75, hr⟩ := hr
            refine rr_rdR C dX7_fillBills_75 fl_X7_37 e75 ?_
            refine rr_iload_n (i := 3) C dX7_fillBills_78 rfl rfl ?_
            refine rr_iload C dX7_fillBills_79 rfl ?_
            refine rr_if_eq (tgt := 94) C dX7_fillBills_81 (by decide) (fun _ => ?_) (fun q_ => absurd rfl q_)
            refine rr_lload C dX7_fillBills_94 rfl ?_
            replace hr := Option.bind_eq_some_iff.mp hr
            obtain ⟨a76, e77, hr⟩ := hr
            subst e77
            replace hr := Option.bind_eq_some_iff.mp hr
            obtain ⟨h78, e79, hr⟩ := hr
            refine rr_stJ C dX7_fillBills_96 e79 ?_
            refine rr_aload_n (i := 0) C dX7_fillBills_97 rfl rfl ?_
            replace hr := Option.bind_eq_some_iff.mp hr
            obtain ⟨v80, e81, hr⟩ := hr
            refine rr_rdR C dX7_fillBills_98 fl_X7_40 e81 ?_
            refine rr_iload_n (i := 3) C dX7_fillBills_101 rfl rfl ?_
            refine rr_lload C dX7_fillBills_102 rfl ?_
            refine rr_aload_n (i := 0) C dX7_fillBills_104 rfl rfl ?_
            replace hr := Option.bind_eq_some_iff.mp hr
            obtain ⟨v82, e83, hr⟩ := hr
            refine rr_rdR C dX7_fillBills_105 fl_X7_37 e83 ?_
            refine rr_iload_n (i := 3) C dX7_fillBills_108 rfl rfl ?_
            replace hr := Option.bind_eq_some_iff.mp hr
            obtain ⟨a84, e85, hr⟩ := hr
            subst e85
            replace hr := Option.bind_eq_some_iff.mp hr
            obtain ⟨v86, e87, hr⟩ := hr
            refine rr_ldJ C dX7_fillBills_109 e87 ?_
            refine rr_lsub C dX7_fillBills_110 ?_
            replace hr := Option.bind_eq_some_iff.mp hr
            obtain ⟨a88, e89, hr⟩ := hr
            subst e89
            replace hr := Option.bind_eq_some_iff.mp hr
            obtain ⟨h90, e91, hr⟩ := hr
            refine rr_stJ C dX7_fillBills_111 e91 ?_
            refine rr_iinc (v := l3 + 1) C dX7_fillBills_112 rfl rfl ?_
            show WW W0 G 7 _ _ _ 115 [some (.ref l0), some (.int l1), some (.int l2), some (.int (l3 + 1)), some (.long (v9 + v71)), none, some (.int 0)] [] h90 n _ _
            refine rr_goto (tgt := 18) C dX7_fillBills_115 (by decide) ?_
            exact rr_keep [true, true, true, true, false, false, false] (ih_ _ _ hr hx0)
          · replace hr := (if_neg c55_).symm.trans hr
            refine rr_iload_n (i := 3) C dX7_fillBills_58 rfl rfl ?_
            refine rr_iload_n (i := 2) C dX7_fillBills_59 rfl rfl ?_
            refine rr_iconst (v := 5) C dX7_fillBills_60 (by decide) ?_
            refine rr_iadd C dX7_fillBills_61 ?_
            refine rr_iconst (v := 1) C dX7_fillBills_62 (by decide) ?_
            refine rr_isub C dX7_fillBills_63 ?_
            refine rr_icmp_ge (tgt := 71) C dX7_fillBills_64 (by decide) (fun c64_ => ?_) (fun c64_ => ?_)
            · replace hr := (if_pos c64_).symm.trans hr
              refine rr_iconst (v := 0) C dX7_fillBills_71 (by decide) ?_
              refine rr_istore C dX7_fillBills_72 (by decide) ?_
              show WW W0 G 7 _ _ _ 74 [some (.ref l0), some (.int l1), some (.int l2), some (.int l3), some (.long (v9 + v71)), none, some (.int 0)] [] h n _ _
              refine rr_aload_n (i := 0) C dX7_fillBills_74 rfl rfl ?_
              replace hr := Option.bind_eq_some_iff.mp hr
              obtain ⟨v92, e93, hr⟩ := hr
              refine rr_rdR C dX7_fillBills_75 fl_X7_37 e93 ?_
              refine rr_iload_n (i := 3) C dX7_fillBills_78 rfl rfl ?_
              refine rr_iload C dX7_fillBills_79 rfl ?_
              refine rr_if_eq (tgt := 94) C dX7_fillBills_81 (by decide) (fun _ => ?_) (fun q_ => absurd rfl q_)
              refine rr_lload C dX7_fillBills_94 rfl ?_
              replace hr := Option.bind_eq_some_iff.mp hr
              obtain ⟨a94, e95, hr⟩ := hr
              subst e95
              replace hr := Option.bind_eq_some_iff.mp hr
              obtain ⟨h96, e97, hr⟩ := hr
              refine rr_stJ C dX7_fillBills_96 e97 ?_
              refine rr_aload_n (i := 0) C dX7_fillBills_97 rfl rfl ?_
              replace hr := Option.bind_eq_some_iff.mp hr
              obtain ⟨v98, e99, hr⟩ := hr
              refine rr_rdR C dX7_fillBills_98 fl_X7_40 e99 ?_
              refine rr_iload_n (i := 3) C dX7_fillBills_101 rfl rfl ?_
              refine rr_lload C dX7_fillBills_102 rfl ?_
              refine rr_aload_n (i := 0) C dX7_fillBills_104 rfl rfl ?_
              replace hr := Option.bind_eq_some_iff.mp hr
              obtain ⟨v100, e101, hr⟩ := hr
              refine rr_rdR C dX7_fillBills_105 fl_X7_37 e101 ?_
              refine rr_iload_n (i := 3) C dX7_fillBills_108 rfl rfl ?_
              replace hr := Option.bind_eq_some_iff.mp hr
              obtain ⟨a102, e103, hr⟩ := hr
              subst e103
              replace hr := Option.bind_eq_some_iff.mp hr
              obtain ⟨v104, e105, hr⟩ := hr
              refine rr_ldJ C dX7_fillBills_109 e105 ?_
              refine rr_lsub C dX7_fillBills_110 ?_
              replace hr := Option.bind_eq_some_iff.mp hr
              obtain ⟨a106, e107, hr⟩ := hr
              subst e107
              replace hr := Option.bind_eq_some_iff.mp hr
              obtain ⟨h108, e109, hr⟩ := hr
              refine rr_stJ C dX7_fillBills_111 e109 ?_
              refine rr_iinc (v := l3 + 1) C dX7_fillBills_112 rfl rfl ?_
              show WW W0 G 7 _ _ _ 115 [some (.ref l0), some (.int l1), some (.int l2), some (.int (l3 + 1)), some (.long (v9 + v71)), none, some (.int 0)] [] h108 n _ _
              refine rr_goto (tgt := 18) C dX7_fillBills_115 (by decide) ?_
              exact rr_keep [true, true, true, true, false, false, false] (ih_ _ _ hr hx0)
            · replace hr := (if_neg c64_).symm.trans hr
              refine rr_iconst (v := 1) C dX7_fillBills_67 (by decide) ?_
              refine rr_goto (tgt := 72) C dX7_fillBills_68 (by decide) ?_
              refine rr_istore C dX7_fillBills_72 (by decide) ?_
              show WW W0 G 7 _ _ _ 74 [some (.ref l0), some (.int l1), some (.int l2), some (.int l3), some (.long (v9 + v71)), none, some (.int 1)] [] h n _ _
              refine rr_aload_n (i := 0) C dX7_fillBills_74 rfl rfl ?_
              replace hr := Option.bind_eq_some_iff.mp hr
              obtain ⟨v110, e111, hr⟩ := hr
              refine rr_rdR C dX7_fillBills_75 fl_X7_37 e111 ?_
              refine rr_iload_n (i := 3) C dX7_fillBills_78 rfl rfl ?_
              refine rr_iload C dX7_fillBills_79 rfl ?_
              refine rr_if_eq (tgt := 94) C dX7_fillBills_81 (by decide) (fun q_ => absurd q_ (by decide)) (fun _ => ?_)
              refine rr_aload_n (i := 0) C dX7_fillBills_84 rfl rfl ?_
              refine rr_iload_n (i := 3) C dX7_fillBills_85 rfl rfl ?_
              refine rr_lload C dX7_fillBills_86 rfl ?_
              replace hr := Option.bind_eq_some_iff.mp hr
              obtain ⟨u112, e113, hr⟩ := hr
              replace hr := Option.bind_eq_some_iff.mp hr
              obtain ⟨v114, e115, hr⟩ := hr
              refine rr_callVq (as := [.int l3, .long (v9 + v71)]) (st := [.int l3, va_rf v110]) (mc' := 0) (ms' := 0) C dX7_fillBills_88 iv_X7_282 (by decide) e113 rfl (by rcases v110 with _ | _ <;> exact Nat.le_of_ble_eq_true rfl) (c_X7_tilted l0 l3 (v9 + v71) (by omega) e115) (fun v_ h_ n_ q_ => ?_)
              obtain ⟨q1_, q2_, q3_⟩ := q_
              subst v_; subst h_; subst n_
              show WW W0 G 7 _ _ _ 91 [some (.ref l0), some (.int l1), some (.int l2), some (.int l3), some (.long (v9 + v71)), none, some (.int 1)] [.long v114, .int l3, va_rf v110] h n _ _
              refine rr_goto (tgt := 96) C dX7_fillBills_91 (by decide) ?_
              replace hr := Option.bind_eq_some_iff.mp hr
              obtain ⟨a116, e117, hr⟩ := hr
              subst e117
              replace hr := Option.bind_eq_some_iff.mp hr
              obtain ⟨h118, e119, hr⟩ := hr
              refine rr_stJ C dX7_fillBills_96 e119 ?_
              refine rr_aload_n (i := 0) C dX7_fillBills_97 rfl rfl ?_
              replace hr := Option.bind_eq_some_iff.mp hr
              obtain ⟨v120, e121, hr⟩ := hr
              refine rr_rdR C dX7_fillBills_98 fl_X7_40 e121 ?_
              refine rr_iload_n (i := 3) C dX7_fillBills_101 rfl rfl ?_
              refine rr_lload C dX7_fillBills_102 rfl ?_
              refine rr_aload_n (i := 0) C dX7_fillBills_104 rfl rfl ?_
              replace hr := Option.bind_eq_some_iff.mp hr
              obtain ⟨v122, e123, hr⟩ := hr
              refine rr_rdR C dX7_fillBills_105 fl_X7_37 e123 ?_
              refine rr_iload_n (i := 3) C dX7_fillBills_108 rfl rfl ?_
              replace hr := Option.bind_eq_some_iff.mp hr
              obtain ⟨a124, e125, hr⟩ := hr
              subst e125
              replace hr := Option.bind_eq_some_iff.mp hr
              obtain ⟨v126, e127, hr⟩ := hr
              refine rr_ldJ C dX7_fillBills_109 e127 ?_
              refine rr_lsub C dX7_fillBills_110 ?_
              replace hr := Option.bind_eq_some_iff.mp hr
              obtain ⟨a128, e129, hr⟩ := hr
              subst e129
              replace hr := Option.bind_eq_some_iff.mp hr
              obtain ⟨h130, e131, hr⟩ := hr
              refine rr_stJ C dX7_fillBills_111 e131 ?_
              refine rr_iinc (v := l3 + 1) C dX7_fillBills_112 rfl rfl ?_
              show WW W0 G 7 _ _ _ 115 [some (.ref l0), some (.int l1), some (.int l2), some (.int (l3 + 1)), some (.long (v9 + v71)), none, some (.int 1)] [] h130 n _ _
              refine rr_goto (tgt := 18) C dX7_fillBills_115 (by decide) ?_
              exact rr_keep [true, true, true, true, false, false, false] (ih_ _ _ hr hx0)
set_option maxRecDepth 100000 in
set_option maxHeartbeats 4000000 in
theorem c_X7_fillBills {K : Nat} {G : mm_G} {l : Launch} {h : mm_H} {n : Nat} (l0 : Nat) (l1 : Int32) {r_ : mm_H} (hn : 48 ≤ n) (hr : q_X7_fillBills K h n l0 l1 = some r_) : Sp G l yX7_fillBills cX7_fillBills 7 none 6 0 0 [.ref l0, .int l1] h n (fun v h' n' => v = none ∧ h' = r_ ∧ n' = n) := by
  refine Sp_of (by decide +kernel) (Nat.le_of_ble_eq_true rfl) hn ?_
  intro W0 hwl C
  subst hwl
  unfold q_X7_fillBills at hr
  show WW W0 G 7 0 0 _ 0 [some (.ref l0), some (.int l1), none, none, none, none, none] [] h n 0 0
  refine rr_iload_n (i := 1) C dX7_fillBills_0 rfl rfl ?_
  refine rr_iload_n (i := 1) C dX7_fillBills_1 rfl rfl ?_
  refine rr_iconst (v := 5) C dX7_fillBills_2 (by decide) ?_
  refine rr_irem C dX7_fillBills_3 (by decide) ?_
  refine rr_isub C dX7_fillBills_4 ?_
  refine rr_istore_n (i := 2) C dX7_fillBills_5 rfl (by decide) ?_
  show WW W0 G 7 _ _ _ 6 [some (.ref l0), some (.int l1), some (.int (l1 - (l1 - l1 / 5 * 5))), none, none, none, none] [] h n _ _
  refine rr_aload_n (i := 0) C dX7_fillBills_6 rfl rfl ?_
  refine rr_iload_n (i := 2) C dX7_fillBills_7 rfl rfl ?_
  refine rr_iload_n (i := 1) C dX7_fillBills_8 rfl rfl ?_
  replace hr := Option.bind_eq_some_iff.mp hr
  obtain ⟨u2, e3, hr⟩ := hr
  replace hr := Option.bind_eq_some_iff.mp hr
  obtain ⟨v4, e5, hr⟩ := hr
  refine rr_callVq (as := [.int (l1 - (l1 - l1 / 5 * 5)), .int l1]) (st := []) (mc' := 0) (ms' := 0) C dX7_fillBills_9 iv_X7_272 (by decide) e3 rfl (Nat.le_of_ble_eq_true rfl) (c_X7_fillLines l0 (l1 - (l1 - l1 / 5 * 5)) l1 (by omega) e5) (fun v_ h_ n_ q_ => ?_)
  obtain ⟨q1_, q2_, q3_⟩ := q_
  subst v_; subst h_; subst n_
  show WW W0 G 7 _ _ _ 12 [some (.ref l0), some (.int l1), some (.int (l1 - (l1 - l1 / 5 * 5))), none, none, none, none] [] v4 n _ _
  refine rr_iconst (v := 0) C dX7_fillBills_12 (by decide) ?_
  refine rr_iload_n (i := 2) C dX7_fillBills_13 rfl rfl ?_
  refine rr_mmax C dX7_fillBills_14 ma_X7_201 (by decide) (Nat.le_of_ble_eq_true rfl) ?_
  refine rr_istore_n (i := 3) C dX7_fillBills_17 rfl (by decide) ?_
  show WW W0 G 7 _ _ _ 18 [some (.ref l0), some (.int l1), some (.int (l1 - (l1 - l1 / 5 * 5))), some (.int (i_max 0 (l1 - (l1 - l1 / 5 * 5)))), none, none, none] [] v4 n _ _
  replace hr := Option.bind_eq_some_iff.mp hr
  obtain ⟨v132, e133, hr⟩ := hr
  refine rr_keep [true, true, true, true, false, false, false] (w_X7_fillBills_18 C (by omega) l0 l1 (l1 - (l1 - l1 / 5 * 5)) K (i_max 0 (l1 - (l1 - l1 / 5 * 5))) v4 e133 ?_)
  show WW W0 G 7 _ _ _ 118 [none, none, none, none, none, none, none] [] v132 n _ _
  obtain rfl := Option.some.inj hr
  exact rr_vret C dX7_fillBills_118 rfl ⟨rfl, rfl, rfl⟩
def q_X9_take (K : Nat) (h : mm_H) (n : Nat) (l0 : Nat) (l1 : Int32) (l2 : Int32) (l3 : Int32) : Option (Int32 × mm_H) :=
  (rdI h n l0 8 4).bind fun v1 =>
  if v1 < 40 then
    (rdR h n l0 8 0).bind fun v3 =>
    (rdI h n l0 8 4).bind fun v5 =>
    v3.bind fun a7 =>
    (stI h n a7 v5 l1).bind fun h9 =>
    (rdR h9 n l0 8 1).bind fun v11 =>
    (rdI h9 n l0 8 4).bind fun v13 =>
    v11.bind fun a15 =>
    (stI h9 n a15 v13 l2).bind fun h17 =>
    (rdR h17 n l0 8 2).bind fun v19 =>
    (rdI h17 n l0 8 4).bind fun v21 =>
    v19.bind fun a23 =>
    (stI h17 n a23 v21 l3).bind fun h25 =>
    (rdR h25 n l0 8 3).bind fun v27 =>
    (rdI h25 n l0 8 4).bind fun v29 =>
    v27.bind fun a31 =>
    (stI h25 n a31 v29 (-1)).bind fun h33 =>
    (rdI h33 n l0 8 4).bind fun v35 =>
    (wrF h33 n l0 8 4 (.int (v35 + 1))).bind fun h37 =>
    (rdI h37 n l0 8 4).bind fun v39 =>
    some (v39 - 1, h37)
  else
  some ((-1), h)
set_option maxRecDepth 100000 in
set_option maxHeartbeats 4000000 in
theorem c_X9_take {K : Nat} {G : mm_G} {l : Launch} {h : mm_H} {n : Nat} (l0 : Nat) (l1 : Int32) (l2 : Int32) (l3 : Int32) {r_ : Int32 × mm_H} (hn : 48 ≤ n) (hr : q_X9_take K h n l0 l1 l2 l3 = some r_) : Sp G l yX9_take cX9_take 4 (some .int) 0 0 0 [.ref l0, .int l1, .int l2, .int l3] h n (fun v h' n' => v = some (.int r_.1) ∧ h' = r_.2 ∧ n' = n) := by
  refine Sp_of (by decide +kernel) (Nat.le_of_ble_eq_true rfl) hn ?_
  intro W0 hwl C
  subst hwl
  unfold q_X9_take at hr
  show WW W0 G 4 0 0 _ 0 [some (.ref l0), some (.int l1), some (.int l2), some (.int l3)] [] h n 0 0
  refine rr_aload_n (i := 0) C dX9_take_0 rfl rfl ?_
  replace hr := Option.bind_eq_some_iff.mp hr
  obtain ⟨v1, e2, hr⟩ := hr
  refine rr_rdI C dX9_take_1 fl_X9_24 e2 ?_
  refine rr_bipush (v := 40) C dX9_take_4 (by decide) ?_
  refine rr_icmp_lt (tgt := 11) C dX9_take_6 (by decide) (fun c6_ => ?_) (fun c6_ => ?_)
  · replace hr := (if_pos c6_).symm.trans hr
    refine rr_aload_n (i := 0) C dX9_take_11 rfl rfl ?_
    replace hr := Option.bind_eq_some_iff.mp hr
    obtain ⟨v3, e4, hr⟩ := hr
    refine rr_rdR C dX9_take_12 fl_X9_9 e4 ?_
    refine rr_aload_n (i := 0) C dX9_take_15 rfl rfl ?_
    replace hr := Option.bind_eq_some_iff.mp hr
    obtain ⟨v5, e6, hr⟩ := hr
    refine rr_rdI C dX9_take_16 fl_X9_24 e6 ?_
    refine rr_iload_n (i := 1) C dX9_take_19 rfl rfl ?_
    replace hr := Option.bind_eq_some_iff.mp hr
    obtain ⟨a7, e8, hr⟩ := hr
    subst e8
    replace hr := Option.bind_eq_some_iff.mp hr
    obtain ⟨h9, e10, hr⟩ := hr
    refine rr_stI C dX9_take_20 e10 ?_
    refine rr_aload_n (i := 0) C dX9_take_21 rfl rfl ?_
    replace hr := Option.bind_eq_some_iff.mp hr
    obtain ⟨v11, e12, hr⟩ := hr
    refine rr_rdR C dX9_take_22 fl_X9_15 e12 ?_
    refine rr_aload_n (i := 0) C dX9_take_25 rfl rfl ?_
    replace hr := Option.bind_eq_some_iff.mp hr
    obtain ⟨v13, e14, hr⟩ := hr
    refine rr_rdI C dX9_take_26 fl_X9_24 e14 ?_
    refine rr_iload_n (i := 2) C dX9_take_29 rfl rfl ?_
    replace hr := Option.bind_eq_some_iff.mp hr
    obtain ⟨a15, e16, hr⟩ := hr
    subst e16
    replace hr := Option.bind_eq_some_iff.mp hr
    obtain ⟨h17, e18, hr⟩ := hr
    refine rr_stI C dX9_take_30 e18 ?_
    refine rr_aload_n (i := 0) C dX9_take_31 rfl rfl ?_
    replace hr := Option.bind_eq_some_iff.mp hr
    obtain ⟨v19, e20, hr⟩ := hr
    refine rr_rdR C dX9_take_32 fl_X9_18 e20 ?_
    refine rr_aload_n (i := 0) C dX9_take_35 rfl rfl ?_
    replace hr := Option.bind_eq_some_iff.mp hr
    obtain ⟨v21, e22, hr⟩ := hr
    refine rr_rdI C dX9_take_36 fl_X9_24 e22 ?_
    refine rr_iload_n (i := 3) C dX9_take_39 rfl rfl ?_
    replace hr := Option.bind_eq_some_iff.mp hr
    obtain ⟨a23, e24, hr⟩ := hr
    subst e24
    replace hr := Option.bind_eq_some_iff.mp hr
    obtain ⟨h25, e26, hr⟩ := hr
    refine rr_stI C dX9_take_40 e26 ?_
    refine rr_aload_n (i := 0) C dX9_take_41 rfl rfl ?_
    replace hr := Option.bind_eq_some_iff.mp hr
    obtain ⟨v27, e28, hr⟩ := hr
    refine rr_rdR C dX9_take_42 fl_X9_21 e28 ?_
    refine rr_aload_n (i := 0) C dX9_take_45 rfl rfl ?_
    replace hr := Option.bind_eq_some_iff.mp hr
    obtain ⟨v29, e30, hr⟩ := hr
    refine rr_rdI C dX9_take_46 fl_X9_24 e30 ?_
    refine rr_iconst (v := (-1)) C dX9_take_49 (by decide) ?_
    replace hr := Option.bind_eq_some_iff.mp hr
    obtain ⟨a31, e32, hr⟩ := hr
    subst e32
    replace hr := Option.bind_eq_some_iff.mp hr
    obtain ⟨h33, e34, hr⟩ := hr
    refine rr_stI C dX9_take_50 e34 ?_
    refine rr_aload_n (i := 0) C dX9_take_51 rfl rfl ?_
    refine rr_dup C dX9_take_52 rfl ?_
    replace hr := Option.bind_eq_some_iff.mp hr
    obtain ⟨v35, e36, hr⟩ := hr
    refine rr_rdI C dX9_take_53 fl_X9_24 e36 ?_
    refine rr_iconst (v := 1) C dX9_take_56 (by decide) ?_
    refine rr_iadd C dX9_take_57 ?_
    replace hr := Option.bind_eq_some_iff.mp hr
    obtain ⟨h37, e38, hr⟩ := hr
    refine rr_wrF C dX9_take_58 fp_X9_24 rfl rfl e38 ?_
    refine rr_aload_n (i := 0) C dX9_take_61 rfl rfl ?_
    replace hr := Option.bind_eq_some_iff.mp hr
    obtain ⟨v39, e40, hr⟩ := hr
    refine rr_rdI C dX9_take_62 fl_X9_24 e40 ?_
    refine rr_iconst (v := 1) C dX9_take_65 (by decide) ?_
    refine rr_isub C dX9_take_66 ?_
    obtain rfl := Option.some.inj hr
    exact rr_iret (ty := .int) C dX9_take_67 rfl rfl ⟨rfl, rfl, rfl⟩
  · replace hr := (if_neg c6_).symm.trans hr
    refine rr_iconst (v := (-1)) C dX9_take_9 (by decide) ?_
    obtain rfl := Option.some.inj hr
    exact rr_iret (ty := .int) C dX9_take_10 rfl rfl ⟨rfl, rfl, rfl⟩
def q_X9_finish (K : Nat) (h : mm_H) (n : Nat) (l0 : Nat) (l1 : Int32) (l2 : Int32) : Option (Int32 × mm_H) :=
  (ckq h n l0 8).bind fun u1 =>
  (q_X9_isThere K h n l0 l1).bind fun v3 =>
  if v3 = 0 then
    some (0, h)
  else
  (rdR h n l0 8 3).bind fun v5 =>
  v5.bind fun a7 =>
  (ldI h n a7 l1).bind fun v9 =>
  if v9 = (-1) then
    (rdR h n l0 8 3).bind fun v11 =>
    v11.bind fun a13 =>
    (stI h n a13 l1 l2).bind fun h15 =>
    (rdI h15 n l0 8 5).bind fun v17 =>
    (wrF h15 n l0 8 5 (.int (v17 + 1))).bind fun h19 =>
    some (1, h19)
  else
  some (0, h)
set_option maxRecDepth 100000 in
set_option maxHeartbeats 4000000 in
theorem c_X9_finish {K : Nat} {G : mm_G} {l : Launch} {h : mm_H} {n : Nat} (l0 : Nat) (l1 : Int32) (l2 : Int32) {r_ : Int32 × mm_H} (hn : 48 ≤ n) (hr : q_X9_finish K h n l0 l1 l2 = some r_) : Sp G l yX9_finish cX9_finish 3 (some .boolean) 1 0 0 [.ref l0, .int l1, .int l2] h n (fun v h' n' => v = some (.int r_.1) ∧ h' = r_.2 ∧ n' = n) := by
  refine Sp_of (by decide +kernel) (Nat.le_of_ble_eq_true rfl) hn ?_
  intro W0 hwl C
  subst hwl
  unfold q_X9_finish at hr
  show WW W0 G 3 0 0 _ 0 [some (.ref l0), some (.int l1), some (.int l2)] [] h n 0 0
  refine rr_aload_n (i := 0) C dX9_finish_0 rfl rfl ?_
  refine rr_iload_n (i := 1) C dX9_finish_1 rfl rfl ?_
  replace hr := Option.bind_eq_some_iff.mp hr
  obtain ⟨u1, e2, hr⟩ := hr
  replace hr := Option.bind_eq_some_iff.mp hr
  obtain ⟨v3, e4, hr⟩ := hr
  refine rr_callVq (as := [.int l1]) (st := []) (mc' := 0) (ms' := 0) C dX9_finish_2 iv_X9_28 (by decide) e2 rfl (Nat.le_of_ble_eq_true rfl) (c_X9_isThere l0 l1 (by omega) e4) (fun v_ h_ n_ q_ => ?_)
  obtain ⟨q1_, q2_, q3_⟩ := q_
  subst v_; subst h_; subst n_
  show WW W0 G 3 _ _ _ 5 [some (.ref l0), some (.int l1), some (.int l2)] [.int v3] h n _ _
  refine rr_if_eq (tgt := 18) C dX9_finish_5 (by decide) (fun c5_ => ?_) (fun c5_ => ?_)
  · replace hr := (if_pos c5_).symm.trans hr
    refine rr_iconst (v := 0) C dX9_finish_18 (by decide) ?_
    obtain rfl := Option.some.inj hr
    exact rr_iret (ty := .boolean) C dX9_finish_19 rfl rfl ⟨rfl, rfl, rfl⟩
  · replace hr := (if_neg c5_).symm.trans hr
    refine rr_aload_n (i := 0) C dX9_finish_8 rfl rfl ?_
    replace hr := Option.bind_eq_some_iff.mp hr
    obtain ⟨v5, e6, hr⟩ := hr
    refine rr_rdR C dX9_finish_9 fl_X9_21 e6 ?_
    refine rr_iload_n (i := 1) C dX9_finish_12 rfl rfl ?_
    replace hr := Option.bind_eq_some_iff.mp hr
    obtain ⟨a7, e8, hr⟩ := hr
    subst e8
    replace hr := Option.bind_eq_some_iff.mp hr
    obtain ⟨v9, e10, hr⟩ := hr
    refine rr_ldI C dX9_finish_13 e10 ?_
    refine rr_iconst (v := (-1)) C dX9_finish_14 (by decide) ?_
    refine rr_icmp_eq (tgt := 20) C dX9_finish_15 (by decide) (fun c15_ => ?_) (fun c15_ => ?_)
    · replace hr := (if_pos c15_).symm.trans hr
      refine rr_aload_n (i := 0) C dX9_finish_20 rfl rfl ?_
      replace hr := Option.bind_eq_some_iff.mp hr
      obtain ⟨v11, e12, hr⟩ := hr
      refine rr_rdR C dX9_finish_21 fl_X9_21 e12 ?_
      refine rr_iload_n (i := 1) C dX9_finish_24 rfl rfl ?_
      refine rr_iload_n (i := 2) C dX9_finish_25 rfl rfl ?_
      replace hr := Option.bind_eq_some_iff.mp hr
      obtain ⟨a13, e14, hr⟩ := hr
      subst e14
      replace hr := Option.bind_eq_some_iff.mp hr
      obtain ⟨h15, e16, hr⟩ := hr
      refine rr_stI C dX9_finish_26 e16 ?_
      refine rr_aload_n (i := 0) C dX9_finish_27 rfl rfl ?_
      refine rr_dup C dX9_finish_28 rfl ?_
      replace hr := Option.bind_eq_some_iff.mp hr
      obtain ⟨v17, e18, hr⟩ := hr
      refine rr_rdI C dX9_finish_29 fl_X9_32 e18 ?_
      refine rr_iconst (v := 1) C dX9_finish_32 (by decide) ?_
      refine rr_iadd C dX9_finish_33 ?_
      replace hr := Option.bind_eq_some_iff.mp hr
      obtain ⟨h19, e20, hr⟩ := hr
      refine rr_wrF C dX9_finish_34 fp_X9_32 rfl rfl e20 ?_
      refine rr_iconst (v := 1) C dX9_finish_37 (by decide) ?_
      obtain rfl := Option.some.inj hr
      exact rr_iret (ty := .boolean) C dX9_finish_38 rfl rfl ⟨rfl, rfl, rfl⟩
    · replace hr := (if_neg c15_).symm.trans hr
      refine rr_iconst (v := 0) C dX9_finish_18 (by decide) ?_
      obtain rfl := Option.some.inj hr
      exact rr_iret (ty := .boolean) C dX9_finish_19 rfl rfl ⟨rfl, rfl, rfl⟩
def q_X10_day (K : Nat) (h : mm_H) (n : Nat) (l0 : Nat) (l1 : Int32) : Option (Int32 × mm_H) :=
  (rdR h n l0 9 0).bind fun v1 =>
  v1.bind fun a3 =>
  (rdI h n a3 4 6).bind fun v5 =>
  if l1 ≤ v5 then
    some (0, h)
  else
  if l1 < 1500 then
    (rdR h n l0 9 0).bind fun v7 =>
    v7.bind fun a9 =>
    (wrF h n a9 4 6 (.int l1)).bind fun h11 =>
    some (1, h11)
  else
  some (0, h)
set_option maxRecDepth 100000 in
set_option maxHeartbeats 4000000 in
theorem c_X10_day {K : Nat} {G : mm_G} {l : Launch} {h : mm_H} {n : Nat} (l0 : Nat) (l1 : Int32) {r_ : Int32 × mm_H} (hn : 48 ≤ n) (hr : q_X10_day K h n l0 l1 = some r_) : Sp G l yX10_day cX10_day 2 (some .boolean) 0 0 0 [.ref l0, .int l1] h n (fun v h' n' => v = some (.int r_.1) ∧ h' = r_.2 ∧ n' = n) := by
  refine Sp_of (by decide +kernel) (Nat.le_of_ble_eq_true rfl) hn ?_
  intro W0 hwl C
  subst hwl
  unfold q_X10_day at hr
  show WW W0 G 2 0 0 _ 0 [some (.ref l0), some (.int l1)] [] h n 0 0
  refine rr_iload_n (i := 1) C dX10_day_0 rfl rfl ?_
  refine rr_aload_n (i := 0) C dX10_day_1 rfl rfl ?_
  replace hr := Option.bind_eq_some_iff.mp hr
  obtain ⟨v1, e2, hr⟩ := hr
  refine rr_rdR C dX10_day_2 fl_X10_12 e2 ?_
  replace hr := Option.bind_eq_some_iff.mp hr
  obtain ⟨a3, e4, hr⟩ := hr
  subst e4
  replace hr := Option.bind_eq_some_iff.mp hr
  obtain ⟨v5, e6, hr⟩ := hr
  refine rr_rdI C dX10_day_5 fl_X10_55 e6 ?_
  refine rr_icmp_le (tgt := 18) C dX10_day_8 (by decide) (fun c8_ => ?_) (fun c8_ => ?_)
  · replace hr := (if_pos c8_).symm.trans hr
    refine rr_iconst (v := 0) C dX10_day_18 (by decide) ?_
    obtain rfl := Option.some.inj hr
    exact rr_iret (ty := .boolean) C dX10_day_19 rfl rfl ⟨rfl, rfl, rfl⟩
  · replace hr := (if_neg c8_).symm.trans hr
    refine rr_iload_n (i := 1) C dX10_day_11 rfl rfl ?_
    refine rr_sipush (v := 1500) C dX10_day_12 (by decide) ?_
    refine rr_icmp_lt (tgt := 20) C dX10_day_15 (by decide) (fun c15_ => ?_) (fun c15_ => ?_)
    · replace hr := (if_pos c15_).symm.trans hr
      refine rr_aload_n (i := 0) C dX10_day_20 rfl rfl ?_
      replace hr := Option.bind_eq_some_iff.mp hr
      obtain ⟨v7, e8, hr⟩ := hr
      refine rr_rdR C dX10_day_21 fl_X10_12 e8 ?_
      refine rr_iload_n (i := 1) C dX10_day_24 rfl rfl ?_
      replace hr := Option.bind_eq_some_iff.mp hr
      obtain ⟨a9, e10, hr⟩ := hr
      subst e10
      replace hr := Option.bind_eq_some_iff.mp hr
      obtain ⟨h11, e12, hr⟩ := hr
      refine rr_wrF C dX10_day_25 fp_X10_55 rfl rfl e12 ?_
      refine rr_iconst (v := 1) C dX10_day_28 (by decide) ?_
      obtain rfl := Option.some.inj hr
      exact rr_iret (ty := .boolean) C dX10_day_29 rfl rfl ⟨rfl, rfl, rfl⟩
    · replace hr := (if_neg c15_).symm.trans hr
      refine rr_iconst (v := 0) C dX10_day_18 (by decide) ?_
      obtain rfl := Option.some.inj hr
      exact rr_iret (ty := .boolean) C dX10_day_19 rfl rfl ⟨rfl, rfl, rfl⟩
def q_X10_isWithin (K : Nat) (h : mm_H) (n : Nat) (l0 : Int32) (l1 : Int32) (l2 : Int32) : Option (Int32) :=
  if l0 < l1 then
    some 0
  else
  if l2 < l0 then
    some 0
  else
  some 1
set_option maxRecDepth 100000 in
set_option maxHeartbeats 4000000 in
theorem c_X10_isWithin {K : Nat} {G : mm_G} {l : Launch} {h : mm_H} {n : Nat} (l0 : Int32) (l1 : Int32) (l2 : Int32) {r_ : Int32} (hn : 48 ≤ n) (hr : q_X10_isWithin K h n l0 l1 l2 = some r_) : Sp G l yX10_isWithin cX10_isWithin 3 (some .boolean) 0 0 0 [.int l0, .int l1, .int l2] h n (fun v h' n' => v = some (.int r_) ∧ h' = h ∧ n' = n) := by
  refine Sp_of (by decide +kernel) (Nat.le_of_ble_eq_true rfl) hn ?_
  intro W0 hwl C
  subst hwl
  unfold q_X10_isWithin at hr
  show WW W0 G 3 0 0 _ 0 [some (.int l0), some (.int l1), some (.int l2)] [] h n 0 0
  refine rr_iload_n (i := 0) C dX10_isWithin_0 rfl rfl ?_
  refine rr_iload_n (i := 1) C dX10_isWithin_1 rfl rfl ?_
  refine rr_icmp_lt (tgt := 14) C dX10_isWithin_2 (by decide) (fun c2_ => ?_) (fun c2_ => ?_)
  · replace hr := (if_pos c2_).symm.trans hr
    refine rr_iconst (v := 0) C dX10_isWithin_14 (by decide) ?_
    obtain rfl := Option.some.inj hr
    exact rr_iret (ty := .boolean) C dX10_isWithin_15 rfl rfl ⟨rfl, rfl, rfl⟩
  · replace hr := (if_neg c2_).symm.trans hr
    refine rr_iload_n (i := 0) C dX10_isWithin_5 rfl rfl ?_
    refine rr_iload_n (i := 2) C dX10_isWithin_6 rfl rfl ?_
    refine rr_icmp_gt (tgt := 14) C dX10_isWithin_7 (by decide) (fun c7_ => ?_) (fun c7_ => ?_)
    · replace hr := (if_pos c7_).symm.trans hr
      refine rr_iconst (v := 0) C dX10_isWithin_14 (by decide) ?_
      obtain rfl := Option.some.inj hr
      exact rr_iret (ty := .boolean) C dX10_isWithin_15 rfl rfl ⟨rfl, rfl, rfl⟩
    · replace hr := (if_neg c7_).symm.trans hr
      refine rr_iconst (v := 1) C dX10_isWithin_10 (by decide) ?_
      refine rr_goto (tgt := 15) C dX10_isWithin_11 (by decide) ?_
      obtain rfl := Option.some.inj hr
      exact rr_iret (ty := .boolean) C dX10_isWithin_15 rfl rfl ⟨rfl, rfl, rfl⟩
def q_X10_firm (K : Nat) (h : mm_H) (n : Nat) (l0 : Nat) (l1 : Int32) : Option (Int32 × mm_H) :=
  (q_X10_isWithin K h n l1 0 999999).bind fun v1 =>
  if v1 = 0 then
    some ((-1), h)
  else
  (rdR h n l0 9 0).bind fun v3 =>
  v3.bind fun a5 =>
  (ckq h n a5 4).bind fun u7 =>
  (q_X4_takeFirm K h n a5 l1).bind fun v9 =>
  some (v9.1, v9.2)
set_option maxRecDepth 100000 in
set_option maxHeartbeats 4000000 in
theorem c_X10_firm {K : Nat} {G : mm_G} {l : Launch} {h : mm_H} {n : Nat} (l0 : Nat) (l1 : Int32) {r_ : Int32 × mm_H} (hn : 48 ≤ n) (hr : q_X10_firm K h n l0 l1 = some r_) : Sp G l yX10_firm cX10_firm 2 (some .int) 1 0 0 [.ref l0, .int l1] h n (fun v h' n' => v = some (.int r_.1) ∧ h' = r_.2 ∧ n' = n) := by
  refine Sp_of (by decide +kernel) (Nat.le_of_ble_eq_true rfl) hn ?_
  intro W0 hwl C
  subst hwl
  unfold q_X10_firm at hr
  show WW W0 G 2 0 0 _ 0 [some (.ref l0), some (.int l1)] [] h n 0 0
  refine rr_iload_n (i := 1) C dX10_firm_0 rfl rfl ?_
  refine rr_iconst (v := 0) C dX10_firm_1 (by decide) ?_
  refine rr_ldc C dX10_firm_2 ct_X10_59 ?_
  replace hr := Option.bind_eq_some_iff.mp hr
  obtain ⟨v1, e2, hr⟩ := hr
  refine rr_callS (as := [.int l1, .int 0, .int 999999]) (st := []) (mc' := 0) (ms' := 0) C dX10_firm_4 it_X10_60 (by decide) (Nat.le_of_ble_eq_true rfl) (c_X10_isWithin l1 0 999999 (by omega) e2) (fun v_ h_ n_ q_ => ?_)
  obtain ⟨q1_, q2_, q3_⟩ := q_
  subst v_; subst h_; subst n_
  show WW W0 G 2 _ _ _ 7 [some (.ref l0), some (.int l1)] [.int v1] h n _ _
  refine rr_if_eq (tgt := 21) C dX10_firm_7 (by decide) (fun c7_ => ?_) (fun c7_ => ?_)
  · replace hr := (if_pos c7_).symm.trans hr
    refine rr_iconst (v := (-1)) C dX10_firm_21 (by decide) ?_
    obtain rfl := Option.some.inj hr
    exact rr_iret (ty := .int) C dX10_firm_22 rfl rfl ⟨rfl, rfl, rfl⟩
  · replace hr := (if_neg c7_).symm.trans hr
    refine rr_aload_n (i := 0) C dX10_firm_10 rfl rfl ?_
    replace hr := Option.bind_eq_some_iff.mp hr
    obtain ⟨v3, e4, hr⟩ := hr
    refine rr_rdR C dX10_firm_11 fl_X10_12 e4 ?_
    refine rr_iload_n (i := 1) C dX10_firm_14 rfl rfl ?_
    replace hr := Option.bind_eq_some_iff.mp hr
    obtain ⟨a5, e6, hr⟩ := hr
    subst e6
    replace hr := Option.bind_eq_some_iff.mp hr
    obtain ⟨u7, e8, hr⟩ := hr
    replace hr := Option.bind_eq_some_iff.mp hr
    obtain ⟨v9, e10, hr⟩ := hr
    refine rr_callVq (as := [.int l1]) (st := []) (mc' := 0) (ms' := 0) C dX10_firm_15 iv_X10_64 (by decide) e8 rfl (Nat.le_of_ble_eq_true rfl) (c_X4_takeFirm a5 l1 (by omega) e10) (fun v_ h_ n_ q_ => ?_)
    obtain ⟨q1_, q2_, q3_⟩ := q_
    subst v_; subst h_; subst n_
    show WW W0 G 2 _ _ _ 18 [some (.ref l0), some (.int l1)] [.int v9.1] v9.2 n _ _
    refine rr_goto (tgt := 22) C dX10_firm_18 (by decide) ?_
    obtain rfl := Option.some.inj hr
    exact rr_iret (ty := .int) C dX10_firm_22 rfl rfl ⟨rfl, rfl, rfl⟩
def q_X10_isFirm (K : Nat) (h : mm_H) (n : Nat) (l0 : Nat) (l1 : Int32) : Option (Int32) :=
  if l1 < 0 then
    some 0
  else
  (rdR h n l0 9 0).bind fun v1 =>
  v1.bind fun a3 =>
  (rdI h n a3 4 5).bind fun v5 =>
  if v5 ≤ l1 then
    some 0
  else
  some 1
set_option maxRecDepth 100000 in
set_option maxHeartbeats 4000000 in
theorem c_X10_isFirm {K : Nat} {G : mm_G} {l : Launch} {h : mm_H} {n : Nat} (l0 : Nat) (l1 : Int32) {r_ : Int32} (hn : 48 ≤ n) (hr : q_X10_isFirm K h n l0 l1 = some r_) : Sp G l yX10_isFirm cX10_isFirm 2 (some .boolean) 0 0 0 [.ref l0, .int l1] h n (fun v h' n' => v = some (.int r_) ∧ h' = h ∧ n' = n) := by
  refine Sp_of (by decide +kernel) (Nat.le_of_ble_eq_true rfl) hn ?_
  intro W0 hwl C
  subst hwl
  unfold q_X10_isFirm at hr
  show WW W0 G 2 0 0 _ 0 [some (.ref l0), some (.int l1)] [] h n 0 0
  refine rr_iload_n (i := 1) C dX10_isFirm_0 rfl rfl ?_
  refine rr_if_lt (tgt := 19) C dX10_isFirm_1 (by decide) (fun c1_ => ?_) (fun c1_ => ?_)
  · replace hr := (if_pos c1_).symm.trans hr
    refine rr_iconst (v := 0) C dX10_isFirm_19 (by decide) ?_
    obtain rfl := Option.some.inj hr
    exact rr_iret (ty := .boolean) C dX10_isFirm_20 rfl rfl ⟨rfl, rfl, rfl⟩
  · replace hr := (if_neg c1_).symm.trans hr
    refine rr_iload_n (i := 1) C dX10_isFirm_4 rfl rfl ?_
    refine rr_aload_n (i := 0) C dX10_isFirm_5 rfl rfl ?_
    replace hr := Option.bind_eq_some_iff.mp hr
    obtain ⟨v1, e2, hr⟩ := hr
    refine rr_rdR C dX10_isFirm_6 fl_X10_12 e2 ?_
    replace hr := Option.bind_eq_some_iff.mp hr
    obtain ⟨a3, e4, hr⟩ := hr
    subst e4
    replace hr := Option.bind_eq_some_iff.mp hr
    obtain ⟨v5, e6, hr⟩ := hr
    refine rr_rdI C dX10_isFirm_9 fl_X10_292 e6 ?_
    refine rr_icmp_ge (tgt := 19) C dX10_isFirm_12 (by decide) (fun c12_ => ?_) (fun c12_ => ?_)
    · replace hr := (if_pos c12_).symm.trans hr
      refine rr_iconst (v := 0) C dX10_isFirm_19 (by decide) ?_
      obtain rfl := Option.some.inj hr
      exact rr_iret (ty := .boolean) C dX10_isFirm_20 rfl rfl ⟨rfl, rfl, rfl⟩
    · replace hr := (if_neg c12_).symm.trans hr
      refine rr_iconst (v := 1) C dX10_isFirm_15 (by decide) ?_
      refine rr_goto (tgt := 20) C dX10_isFirm_16 (by decide) ?_
      obtain rfl := Option.some.inj hr
      exact rr_iret (ty := .boolean) C dX10_isFirm_20 rfl rfl ⟨rfl, rfl, rfl⟩
def q_X10_isFirmsYear (K : Nat) (h : mm_H) (n : Nat) (l0 : Nat) (l1 : Int32) (l2 : Int32) : Option (Int32) :=
  (ckq h n l0 9).bind fun u1 =>
  (q_X10_isFirm K h n l0 l1).bind fun v3 =>
  if v3 = 0 then
    some 0
  else
  (q_X10_isWithin K h n l2 0 14).bind fun v5 =>
  if v5 = 0 then
    some 0
  else
  some 1
set_option maxRecDepth 100000 in
set_option maxHeartbeats 4000000 in
theorem c_X10_isFirmsYear {K : Nat} {G : mm_G} {l : Launch} {h : mm_H} {n : Nat} (l0 : Nat) (l1 : Int32) (l2 : Int32) {r_ : Int32} (hn : 48 ≤ n) (hr : q_X10_isFirmsYear K h n l0 l1 l2 = some r_) : Sp G l yX10_isFirmsYear cX10_isFirmsYear 3 (some .boolean) 1 0 0 [.ref l0, .int l1, .int l2] h n (fun v h' n' => v = some (.int r_) ∧ h' = h ∧ n' = n) := by
  refine Sp_of (by decide +kernel) (Nat.le_of_ble_eq_true rfl) hn ?_
  intro W0 hwl C
  subst hwl
  unfold q_X10_isFirmsYear at hr
  show WW W0 G 3 0 0 _ 0 [some (.ref l0), some (.int l1), some (.int l2)] [] h n 0 0
  refine rr_aload_n (i := 0) C dX10_isFirmsYear_0 rfl rfl ?_
  refine rr_iload_n (i := 1) C dX10_isFirmsYear_1 rfl rfl ?_
  replace hr := Option.bind_eq_some_iff.mp hr
  obtain ⟨u1, e2, hr⟩ := hr
  replace hr := Option.bind_eq_some_iff.mp hr
  obtain ⟨v3, e4, hr⟩ := hr
  refine rr_callVq (as := [.int l1]) (st := []) (mc' := 0) (ms' := 0) C dX10_isFirmsYear_2 iv_X10_187 (by decide) e2 rfl (Nat.le_of_ble_eq_true rfl) (c_X10_isFirm l0 l1 (by omega) e4) (fun v_ h_ n_ q_ => ?_)
  obtain ⟨q1_, q2_, q3_⟩ := q_
  subst v_; subst h_; subst n_
  show WW W0 G 3 _ _ _ 5 [some (.ref l0), some (.int l1), some (.int l2)] [.int v3] h n _ _
  refine rr_if_eq (tgt := 22) C dX10_isFirmsYear_5 (by decide) (fun c5_ => ?_) (fun c5_ => ?_)
  · replace hr := (if_pos c5_).symm.trans hr
    refine rr_iconst (v := 0) C dX10_isFirmsYear_22 (by decide) ?_
    obtain rfl := Option.some.inj hr
    exact rr_iret (ty := .boolean) C dX10_isFirmsYear_23 rfl rfl ⟨rfl, rfl, rfl⟩
  · replace hr := (if_neg c5_).symm.trans hr
    refine rr_iload_n (i := 2) C dX10_isFirmsYear_8 rfl rfl ?_
    refine rr_iconst (v := 0) C dX10_isFirmsYear_9 (by decide) ?_
    refine rr_bipush (v := 14) C dX10_isFirmsYear_10 (by decide) ?_
    replace hr := Option.bind_eq_some_iff.mp hr
    obtain ⟨v5, e6, hr⟩ := hr
    refine rr_callS (as := [.int l2, .int 0, .int 14]) (st := []) (mc' := 0) (ms' := 0) C dX10_isFirmsYear_12 it_X10_60 (by decide) (Nat.le_of_ble_eq_true rfl) (c_X10_isWithin l2 0 14 (by omega) e6) (fun v_ h_ n_ q_ => ?_)
    obtain ⟨q1_, q2_, q3_⟩ := q_
    subst v_; subst h_; subst n_
    show WW W0 G 3 _ _ _ 15 [some (.ref l0), some (.int l1), some (.int l2)] [.int v5] h n _ _
    refine rr_if_eq (tgt := 22) C dX10_isFirmsYear_15 (by decide) (fun c15_ => ?_) (fun c15_ => ?_)
    · replace hr := (if_pos c15_).symm.trans hr
      refine rr_iconst (v := 0) C dX10_isFirmsYear_22 (by decide) ?_
      obtain rfl := Option.some.inj hr
      exact rr_iret (ty := .boolean) C dX10_isFirmsYear_23 rfl rfl ⟨rfl, rfl, rfl⟩
    · replace hr := (if_neg c15_).symm.trans hr
      refine rr_iconst (v := 1) C dX10_isFirmsYear_18 (by decide) ?_
      refine rr_goto (tgt := 23) C dX10_isFirmsYear_19 (by decide) ?_
      obtain rfl := Option.some.inj hr
      exact rr_iret (ty := .boolean) C dX10_isFirmsYear_23 rfl rfl ⟨rfl, rfl, rfl⟩
def q_X10_mostOfFact (K : Nat) (h : mm_H) (n : Nat) (l0 : Int32) : Option (Int32) :=
  if 3 ≤ l0 then
    if 11 ≤ l0 then
      some 9999
    else
    some 99999
  else
  some 999
set_option maxRecDepth 100000 in
set_option maxHeartbeats 4000000 in
theorem c_X10_mostOfFact {K : Nat} {G : mm_G} {l : Launch} {h : mm_H} {n : Nat} (l0 : Int32) {r_ : Int32} (hn : 48 ≤ n) (hr : q_X10_mostOfFact K h n l0 = some r_) : Sp G l yX10_mostOfFact cX10_mostOfFact 1 (some .int) 0 0 0 [.int l0] h n (fun v h' n' => v = some (.int r_) ∧ h' = h ∧ n' = n) := by
  refine Sp_of (by decide +kernel) (Nat.le_of_ble_eq_true rfl) hn ?_
  intro W0 hwl C
  subst hwl
  unfold q_X10_mostOfFact at hr
  show WW W0 G 1 0 0 _ 0 [some (.int l0)] [] h n 0 0
  refine rr_iload_n (i := 0) C dX10_mostOfFact_0 rfl rfl ?_
  refine rr_iconst (v := 3) C dX10_mostOfFact_1 (by decide) ?_
  refine rr_icmp_ge (tgt := 9) C dX10_mostOfFact_2 (by decide) (fun c2_ => ?_) (fun c2_ => ?_)
  · replace hr := (if_pos c2_).symm.trans hr
    refine rr_iload_n (i := 0) C dX10_mostOfFact_9 rfl rfl ?_
    refine rr_bipush (v := 11) C dX10_mostOfFact_10 (by decide) ?_
    refine rr_icmp_ge (tgt := 20) C dX10_mostOfFact_12 (by decide) (fun c12_ => ?_) (fun c12_ => ?_)
    · replace hr := (if_pos c12_).symm.trans hr
      refine rr_sipush (v := 9999) C dX10_mostOfFact_20 (by decide) ?_
      obtain rfl := Option.some.inj hr
      exact rr_iret (ty := .int) C dX10_mostOfFact_23 rfl rfl ⟨rfl, rfl, rfl⟩
    · replace hr := (if_neg c12_).symm.trans hr
      refine rr_ldc C dX10_mostOfFact_15 ct_X10_93 ?_
      refine rr_goto (tgt := 23) C dX10_mostOfFact_17 (by decide) ?_
      obtain rfl := Option.some.inj hr
      exact rr_iret (ty := .int) C dX10_mostOfFact_23 rfl rfl ⟨rfl, rfl, rfl⟩
  · replace hr := (if_neg c2_).symm.trans hr
    refine rr_sipush (v := 999) C dX10_mostOfFact_5 (by decide) ?_
    obtain rfl := Option.some.inj hr
    exact rr_iret (ty := .int) C dX10_mostOfFact_8 rfl rfl ⟨rfl, rfl, rfl⟩
def q_X10_fact (K : Nat) (h : mm_H) (n : Nat) (l0 : Nat) (l1 : Int32) (l2 : Int32) (l3 : Int32) (l4 : Int32) : Option (Int32 × mm_H) :=
  (ckq h n l0 9).bind fun u1 =>
  (q_X10_isFirmsYear K h n l0 l1 l2).bind fun v3 =>
  if v3 = 0 then
    some ((-1), h)
  else
  (q_X10_isWithin K h n l3 0 16).bind fun v5 =>
  if v5 = 0 then
    some ((-1), h)
  else
  (q_X10_mostOfFact K h n l3).bind fun v7 =>
  (q_X10_isWithin K h n l4 0 v7).bind fun v9 =>
  if v9 = 0 then
    some ((-1), h)
  else
  (rdR h n l0 9 0).bind fun v11 =>
  v11.bind fun a13 =>
  (rdR h n a13 4 1).bind fun v15 =>
  (rdR h n l0 9 0).bind fun v17 =>
  v17.bind fun a19 =>
  (rdI h n a19 4 6).bind fun v21 =>
  v15.bind fun a23 =>
  (ckq h n a23 0).bind fun u25 =>
  (q_X0_take K h n a23 l1 l2 l3 l4 v21).bind fun v27 =>
  some (v27.1, v27.2)
set_option maxRecDepth 100000 in
set_option maxHeartbeats 4000000 in
theorem c_X10_fact {K : Nat} {G : mm_G} {l : Launch} {h : mm_H} {n : Nat} (l0 : Nat) (l1 : Int32) (l2 : Int32) (l3 : Int32) (l4 : Int32) {r_ : Int32 × mm_H} (hn : 48 ≤ n) (hr : q_X10_fact K h n l0 l1 l2 l3 l4 = some r_) : Sp G l yX10_fact cX10_fact 5 (some .int) 2 0 0 [.ref l0, .int l1, .int l2, .int l3, .int l4] h n (fun v h' n' => v = some (.int r_.1) ∧ h' = r_.2 ∧ n' = n) := by
  refine Sp_of (by decide +kernel) (Nat.le_of_ble_eq_true rfl) hn ?_
  intro W0 hwl C
  subst hwl
  unfold q_X10_fact at hr
  show WW W0 G 5 0 0 _ 0 [some (.ref l0), some (.int l1), some (.int l2), some (.int l3), some (.int l4)] [] h n 0 0
  refine rr_aload_n (i := 0) C dX10_fact_0 rfl rfl ?_
  refine rr_iload_n (i := 1) C dX10_fact_1 rfl rfl ?_
  refine rr_iload_n (i := 2) C dX10_fact_2 rfl rfl ?_
  replace hr := Option.bind_eq_some_iff.mp hr
  obtain ⟨u1, e2, hr⟩ := hr
  replace hr := Option.bind_eq_some_iff.mp hr
  obtain ⟨v3, e4, hr⟩ := hr
  refine rr_callVq (as := [.int l1, .int l2]) (st := []) (mc' := 0) (ms' := 0) C dX10_fact_3 iv_X10_68 (by decide) e2 rfl (Nat.le_of_ble_eq_true rfl) (c_X10_isFirmsYear l0 l1 l2 (by omega) e4) (fun v_ h_ n_ q_ => ?_)
  obtain ⟨q1_, q2_, q3_⟩ := q_
  subst v_; subst h_; subst n_
  show WW W0 G 5 _ _ _ 6 [some (.ref l0), some (.int l1), some (.int l2), some (.int l3), some (.int l4)] [.int v3] h n _ _
  refine rr_if_eq (tgt := 32) C dX10_fact_6 (by decide) (fun c6_ => ?_) (fun c6_ => ?_)
  · replace hr := (if_pos c6_).symm.trans hr
    refine rr_iconst (v := (-1)) C dX10_fact_32 (by decide) ?_
    obtain rfl := Option.some.inj hr
    exact rr_iret (ty := .int) C dX10_fact_33 rfl rfl ⟨rfl, rfl, rfl⟩
  · replace hr := (if_neg c6_).symm.trans hr
    refine rr_iload_n (i := 3) C dX10_fact_9 rfl rfl ?_
    refine rr_iconst (v := 0) C dX10_fact_10 (by decide) ?_
    refine rr_bipush (v := 16) C dX10_fact_11 (by decide) ?_
    replace hr := Option.bind_eq_some_iff.mp hr
    obtain ⟨v5, e6, hr⟩ := hr
    refine rr_callS (as := [.int l3, .int 0, .int 16]) (st := []) (mc' := 0) (ms' := 0) C dX10_fact_13 it_X10_60 (by decide) (Nat.le_of_ble_eq_true rfl) (c_X10_isWithin l3 0 16 (by omega) e6) (fun v_ h_ n_ q_ => ?_)
    obtain ⟨q1_, q2_, q3_⟩ := q_
    subst v_; subst h_; subst n_
    show WW W0 G 5 _ _ _ 16 [some (.ref l0), some (.int l1), some (.int l2), some (.int l3), some (.int l4)] [.int v5] h n _ _
    refine rr_if_eq (tgt := 32) C dX10_fact_16 (by decide) (fun c16_ => ?_) (fun c16_ => ?_)
    · replace hr := (if_pos c16_).symm.trans hr
      refine rr_iconst (v := (-1)) C dX10_fact_32 (by decide) ?_
      obtain rfl := Option.some.inj hr
      exact rr_iret (ty := .int) C dX10_fact_33 rfl rfl ⟨rfl, rfl, rfl⟩
    · replace hr := (if_neg c16_).symm.trans hr
      refine rr_iload C dX10_fact_19 rfl ?_
      refine rr_iconst (v := 0) C dX10_fact_21 (by decide) ?_
      refine rr_iload_n (i := 3) C dX10_fact_22 rfl rfl ?_
      replace hr := Option.bind_eq_some_iff.mp hr
      obtain ⟨v7, e8, hr⟩ := hr
      refine rr_callS (as := [.int l3]) (st := [.int 0, .int l4]) (mc' := 0) (ms' := 0) C dX10_fact_23 it_X10_72 (by decide) (Nat.le_of_ble_eq_true rfl) (c_X10_mostOfFact l3 (by omega) e8) (fun v_ h_ n_ q_ => ?_)
      obtain ⟨q1_, q2_, q3_⟩ := q_
      subst v_; subst h_; subst n_
      show WW W0 G 5 _ _ _ 26 [some (.ref l0), some (.int l1), some (.int l2), some (.int l3), some (.int l4)] [.int v7, .int 0, .int l4] h n _ _
      replace hr := Option.bind_eq_some_iff.mp hr
      obtain ⟨v9, e10, hr⟩ := hr
      refine rr_callS (as := [.int l4, .int 0, .int v7]) (st := []) (mc' := 0) (ms' := 0) C dX10_fact_26 it_X10_60 (by decide) (Nat.le_of_ble_eq_true rfl) (c_X10_isWithin l4 0 v7 (by omega) e10) (fun v_ h_ n_ q_ => ?_)
      obtain ⟨q1_, q2_, q3_⟩ := q_
      subst v_; subst h_; subst n_
      show WW W0 G 5 _ _ _ 29 [some (.ref l0), some (.int l1), some (.int l2), some (.int l3), some (.int l4)] [.int v9] h n _ _
      refine rr_if_ne (tgt := 34) C dX10_fact_29 (by decide) (fun c29_ => ?_) (fun c29_ => ?_)
      · replace hr := (if_neg c29_).symm.trans hr
        refine rr_aload_n (i := 0) C dX10_fact_34 rfl rfl ?_
        replace hr := Option.bind_eq_some_iff.mp hr
        obtain ⟨v11, e12, hr⟩ := hr
        refine rr_rdR C dX10_fact_35 fl_X10_12 e12 ?_
        replace hr := Option.bind_eq_some_iff.mp hr
        obtain ⟨a13, e14, hr⟩ := hr
        subst e14
        replace hr := Option.bind_eq_some_iff.mp hr
        obtain ⟨v15, e16, hr⟩ := hr
        refine rr_rdR C dX10_fact_38 fl_X10_75 e16 ?_
        refine rr_iload_n (i := 1) C dX10_fact_41 rfl rfl ?_
        refine rr_iload_n (i := 2) C dX10_fact_42 rfl rfl ?_
        refine rr_iload_n (i := 3) C dX10_fact_43 rfl rfl ?_
        refine rr_iload C dX10_fact_44 rfl ?_
        refine rr_aload_n (i := 0) C dX10_fact_46 rfl rfl ?_
        replace hr := Option.bind_eq_some_iff.mp hr
        obtain ⟨v17, e18, hr⟩ := hr
        refine rr_rdR C dX10_fact_47 fl_X10_12 e18 ?_
        replace hr := Option.bind_eq_some_iff.mp hr
        obtain ⟨a19, e20, hr⟩ := hr
        subst e20
        replace hr := Option.bind_eq_some_iff.mp hr
        obtain ⟨v21, e22, hr⟩ := hr
        refine rr_rdI C dX10_fact_50 fl_X10_55 e22 ?_
        replace hr := Option.bind_eq_some_iff.mp hr
        obtain ⟨a23, e24, hr⟩ := hr
        subst e24
        replace hr := Option.bind_eq_some_iff.mp hr
        obtain ⟨u25, e26, hr⟩ := hr
        replace hr := Option.bind_eq_some_iff.mp hr
        obtain ⟨v27, e28, hr⟩ := hr
        refine rr_callVq (as := [.int l1, .int l2, .int l3, .int l4, .int v21]) (st := []) (mc' := 0) (ms' := 0) C dX10_fact_53 iv_X10_79 (by decide) e26 rfl (Nat.le_of_ble_eq_true rfl) (c_X0_take a23 l1 l2 l3 l4 v21 (by omega) e28) (fun v_ h_ n_ q_ => ?_)
        obtain ⟨q1_, q2_, q3_⟩ := q_
        subst v_; subst h_; subst n_
        show WW W0 G 5 _ _ _ 56 [some (.ref l0), some (.int l1), some (.int l2), some (.int l3), some (.int l4)] [.int v27.1] v27.2 n _ _
        obtain rfl := Option.some.inj hr
        exact rr_iret (ty := .int) C dX10_fact_56 rfl rfl ⟨rfl, rfl, rfl⟩
      · replace hr := (if_pos c29_).symm.trans hr
        refine rr_iconst (v := (-1)) C dX10_fact_32 (by decide) ?_
        obtain rfl := Option.some.inj hr
        exact rr_iret (ty := .int) C dX10_fact_33 rfl rfl ⟨rfl, rfl, rfl⟩
def q_X10_work (K : Nat) (h : mm_H) (n : Nat) (l0 : Nat) (l1 : Int32) (l2 : Int32) (l3 : Int32) : Option (Int32 × mm_H) :=
  (ckq h n l0 9).bind fun u1 =>
  (q_X10_isFirmsYear K h n l0 l1 l3).bind fun v3 =>
  if v3 = 0 then
    some ((-1), h)
  else
  (q_X10_isWithin K h n l2 1 99999).bind fun v5 =>
  if v5 = 0 then
    some ((-1), h)
  else
  (rdR h n l0 9 0).bind fun v7 =>
  v7.bind fun a9 =>
  (rdR h n a9 4 2).bind fun v11 =>
  v11.bind fun a13 =>
  (ckq h n a13 8).bind fun u15 =>
  (q_X9_take K h n a13 l1 l2 l3).bind fun v17 =>
  some (v17.1, v17.2)
set_option maxRecDepth 100000 in
set_option maxHeartbeats 4000000 in
theorem c_X10_work {K : Nat} {G : mm_G} {l : Launch} {h : mm_H} {n : Nat} (l0 : Nat) (l1 : Int32) (l2 : Int32) (l3 : Int32) {r_ : Int32 × mm_H} (hn : 48 ≤ n) (hr : q_X10_work K h n l0 l1 l2 l3 = some r_) : Sp G l yX10_work cX10_work 4 (some .int) 2 0 0 [.ref l0, .int l1, .int l2, .int l3] h n (fun v h' n' => v = some (.int r_.1) ∧ h' = r_.2 ∧ n' = n) := by
  refine Sp_of (by decide +kernel) (Nat.le_of_ble_eq_true rfl) hn ?_
  intro W0 hwl C
  subst hwl
  unfold q_X10_work at hr
  show WW W0 G 4 0 0 _ 0 [some (.ref l0), some (.int l1), some (.int l2), some (.int l3)] [] h n 0 0
  refine rr_aload_n (i := 0) C dX10_work_0 rfl rfl ?_
  refine rr_iload_n (i := 1) C dX10_work_1 rfl rfl ?_
  refine rr_iload_n (i := 3) C dX10_work_2 rfl rfl ?_
  replace hr := Option.bind_eq_some_iff.mp hr
  obtain ⟨u1, e2, hr⟩ := hr
  replace hr := Option.bind_eq_some_iff.mp hr
  obtain ⟨v3, e4, hr⟩ := hr
  refine rr_callVq (as := [.int l1, .int l3]) (st := []) (mc' := 0) (ms' := 0) C dX10_work_3 iv_X10_68 (by decide) e2 rfl (Nat.le_of_ble_eq_true rfl) (c_X10_isFirmsYear l0 l1 l3 (by omega) e4) (fun v_ h_ n_ q_ => ?_)
  obtain ⟨q1_, q2_, q3_⟩ := q_
  subst v_; subst h_; subst n_
  show WW W0 G 4 _ _ _ 6 [some (.ref l0), some (.int l1), some (.int l2), some (.int l3)] [.int v3] h n _ _
  refine rr_if_eq (tgt := 19) C dX10_work_6 (by decide) (fun c6_ => ?_) (fun c6_ => ?_)
  · replace hr := (if_pos c6_).symm.trans hr
    refine rr_iconst (v := (-1)) C dX10_work_19 (by decide) ?_
    obtain rfl := Option.some.inj hr
    exact rr_iret (ty := .int) C dX10_work_20 rfl rfl ⟨rfl, rfl, rfl⟩
  · replace hr := (if_neg c6_).symm.trans hr
    refine rr_iload_n (i := 2) C dX10_work_9 rfl rfl ?_
    refine rr_iconst (v := 1) C dX10_work_10 (by decide) ?_
    refine rr_ldc C dX10_work_11 ct_X10_93 ?_
    replace hr := Option.bind_eq_some_iff.mp hr
    obtain ⟨v5, e6, hr⟩ := hr
    refine rr_callS (as := [.int l2, .int 1, .int 99999]) (st := []) (mc' := 0) (ms' := 0) C dX10_work_13 it_X10_60 (by decide) (Nat.le_of_ble_eq_true rfl) (c_X10_isWithin l2 1 99999 (by omega) e6) (fun v_ h_ n_ q_ => ?_)
    obtain ⟨q1_, q2_, q3_⟩ := q_
    subst v_; subst h_; subst n_
    show WW W0 G 4 _ _ _ 16 [some (.ref l0), some (.int l1), some (.int l2), some (.int l3)] [.int v5] h n _ _
    refine rr_if_ne (tgt := 21) C dX10_work_16 (by decide) (fun c16_ => ?_) (fun c16_ => ?_)
    · replace hr := (if_neg c16_).symm.trans hr
      refine rr_aload_n (i := 0) C dX10_work_21 rfl rfl ?_
      replace hr := Option.bind_eq_some_iff.mp hr
      obtain ⟨v7, e8, hr⟩ := hr
      refine rr_rdR C dX10_work_22 fl_X10_12 e8 ?_
      replace hr := Option.bind_eq_some_iff.mp hr
      obtain ⟨a9, e10, hr⟩ := hr
      subst e10
      replace hr := Option.bind_eq_some_iff.mp hr
      obtain ⟨v11, e12, hr⟩ := hr
      refine rr_rdR C dX10_work_25 fl_X10_94 e12 ?_
      refine rr_iload_n (i := 1) C dX10_work_28 rfl rfl ?_
      refine rr_iload_n (i := 2) C dX10_work_29 rfl rfl ?_
      refine rr_iload_n (i := 3) C dX10_work_30 rfl rfl ?_
      replace hr := Option.bind_eq_some_iff.mp hr
      obtain ⟨a13, e14, hr⟩ := hr
      subst e14
      replace hr := Option.bind_eq_some_iff.mp hr
      obtain ⟨u15, e16, hr⟩ := hr
      replace hr := Option.bind_eq_some_iff.mp hr
      obtain ⟨v17, e18, hr⟩ := hr
      refine rr_callVq (as := [.int l1, .int l2, .int l3]) (st := []) (mc' := 0) (ms' := 0) C dX10_work_31 iv_X10_98 (by decide) e16 rfl (Nat.le_of_ble_eq_true rfl) (c_X9_take a13 l1 l2 l3 (by omega) e18) (fun v_ h_ n_ q_ => ?_)
      obtain ⟨q1_, q2_, q3_⟩ := q_
      subst v_; subst h_; subst n_
      show WW W0 G 4 _ _ _ 34 [some (.ref l0), some (.int l1), some (.int l2), some (.int l3)] [.int v17.1] v17.2 n _ _
      obtain rfl := Option.some.inj hr
      exact rr_iret (ty := .int) C dX10_work_34 rfl rfl ⟨rfl, rfl, rfl⟩
    · replace hr := (if_pos c16_).symm.trans hr
      refine rr_iconst (v := (-1)) C dX10_work_19 (by decide) ?_
      obtain rfl := Option.some.inj hr
      exact rr_iret (ty := .int) C dX10_work_20 rfl rfl ⟨rfl, rfl, rfl⟩
def q_X10_done (K : Nat) (h : mm_H) (n : Nat) (l0 : Nat) (l1 : Int32) : Option (Int32 × mm_H) :=
  (rdR h n l0 9 0).bind fun v1 =>
  v1.bind fun a3 =>
  (rdR h n a3 4 2).bind fun v5 =>
  (rdR h n l0 9 0).bind fun v7 =>
  v7.bind fun a9 =>
  (rdI h n a9 4 6).bind fun v11 =>
  v5.bind fun a13 =>
  (ckq h n a13 8).bind fun u15 =>
  (q_X9_finish K h n a13 l1 v11).bind fun v17 =>
  (ckz v17.1).bind fun u19 =>
  some (v17.1, v17.2)
set_option maxRecDepth 100000 in
set_option maxHeartbeats 4000000 in
theorem c_X10_done {K : Nat} {G : mm_G} {l : Launch} {h : mm_H} {n : Nat} (l0 : Nat) (l1 : Int32) {r_ : Int32 × mm_H} (hn : 48 ≤ n) (hr : q_X10_done K h n l0 l1 = some r_) : Sp G l yX10_done cX10_done 2 (some .boolean) 2 0 0 [.ref l0, .int l1] h n (fun v h' n' => v = some (.int r_.1) ∧ h' = r_.2 ∧ n' = n) := by
  refine Sp_of (by decide +kernel) (Nat.le_of_ble_eq_true rfl) hn ?_
  intro W0 hwl C
  subst hwl
  unfold q_X10_done at hr
  show WW W0 G 2 0 0 _ 0 [some (.ref l0), some (.int l1)] [] h n 0 0
  refine rr_aload_n (i := 0) C dX10_done_0 rfl rfl ?_
  replace hr := Option.bind_eq_some_iff.mp hr
  obtain ⟨v1, e2, hr⟩ := hr
  refine rr_rdR C dX10_done_1 fl_X10_12 e2 ?_
  replace hr := Option.bind_eq_some_iff.mp hr
  obtain ⟨a3, e4, hr⟩ := hr
  subst e4
  replace hr := Option.bind_eq_some_iff.mp hr
  obtain ⟨v5, e6, hr⟩ := hr
  refine rr_rdR C dX10_done_4 fl_X10_94 e6 ?_
  refine rr_iload_n (i := 1) C dX10_done_7 rfl rfl ?_
  refine rr_aload_n (i := 0) C dX10_done_8 rfl rfl ?_
  replace hr := Option.bind_eq_some_iff.mp hr
  obtain ⟨v7, e8, hr⟩ := hr
  refine rr_rdR C dX10_done_9 fl_X10_12 e8 ?_
  replace hr := Option.bind_eq_some_iff.mp hr
  obtain ⟨a9, e10, hr⟩ := hr
  subst e10
  replace hr := Option.bind_eq_some_iff.mp hr
  obtain ⟨v11, e12, hr⟩ := hr
  refine rr_rdI C dX10_done_12 fl_X10_55 e12 ?_
  replace hr := Option.bind_eq_some_iff.mp hr
  obtain ⟨a13, e14, hr⟩ := hr
  subst e14
  replace hr := Option.bind_eq_some_iff.mp hr
  obtain ⟨u15, e16, hr⟩ := hr
  replace hr := Option.bind_eq_some_iff.mp hr
  obtain ⟨v17, e18, hr⟩ := hr
  refine rr_callVq (as := [.int l1, .int v11]) (st := []) (mc' := 0) (ms' := 0) C dX10_done_15 iv_X10_103 (by decide) e16 rfl (Nat.le_of_ble_eq_true rfl) (c_X9_finish a13 l1 v11 (by omega) e18) (fun v_ h_ n_ q_ => ?_)
  obtain ⟨q1_, q2_, q3_⟩ := q_
  subst v_; subst h_; subst n_
  show WW W0 G 2 _ _ _ 18 [some (.ref l0), some (.int l1)] [.int v17.1] v17.2 n _ _
  replace hr := Option.bind_eq_some_iff.mp hr
  obtain ⟨u19, e20, hr⟩ := hr
  obtain rfl := Option.some.inj hr
  exact rr_iret (ty := .boolean) C dX10_done_18 rfl (ckz_s e20) ⟨rfl, rfl, rfl⟩
def q_X10_log (K : Nat) (h : mm_H) (n : Nat) (l0 : Nat) (l1 : Int32) (l2 : Int32) (l3 : Int32) : Option (Int32 × mm_H) :=
  (ckq h n l0 9).bind fun u1 =>
  (q_X10_isFirmsYear K h n l0 l1 l2).bind fun v3 =>
  if v3 = 0 then
    some ((-1), h)
  else
  (rdR h n l0 9 0).bind fun v5 =>
  v5.bind fun a7 =>
  (rdI h n a7 4 6).bind fun v9 =>
  if l2 ≤ (v9 / 100) then
    some ((-1), h)
  else
  (q_X10_isWithin K h n l3 1 99999).bind fun v11 =>
  if v11 = 0 then
    some ((-1), h)
  else
  (rdR h n l0 9 0).bind fun v13 =>
  v13.bind fun a15 =>
  (rdR h n a15 4 4).bind fun v17 =>
  (rdR h n l0 9 0).bind fun v19 =>
  v19.bind fun a21 =>
  (rdI h n a21 4 6).bind fun v23 =>
  v17.bind fun a25 =>
  (ckq h n a25 1).bind fun u27 =>
  (q_X1_take K h n a25 l1 0 l2 l3 v23).bind fun v29 =>
  some (v29.1, v29.2)
set_option maxRecDepth 100000 in
set_option maxHeartbeats 4000000 in
theorem c_X10_log {K : Nat} {G : mm_G} {l : Launch} {h : mm_H} {n : Nat} (l0 : Nat) (l1 : Int32) (l2 : Int32) (l3 : Int32) {r_ : Int32 × mm_H} (hn : 48 ≤ n) (hr : q_X10_log K h n l0 l1 l2 l3 = some r_) : Sp G l yX10_log cX10_log 4 (some .int) 2 0 0 [.ref l0, .int l1, .int l2, .int l3] h n (fun v h' n' => v = some (.int r_.1) ∧ h' = r_.2 ∧ n' = n) := by
  refine Sp_of (by decide +kernel) (Nat.le_of_ble_eq_true rfl) hn ?_
  intro W0 hwl C
  subst hwl
  unfold q_X10_log at hr
  show WW W0 G 4 0 0 _ 0 [some (.ref l0), some (.int l1), some (.int l2), some (.int l3)] [] h n 0 0
  refine rr_aload_n (i := 0) C dX10_log_0 rfl rfl ?_
  refine rr_iload_n (i := 1) C dX10_log_1 rfl rfl ?_
  refine rr_iload_n (i := 2) C dX10_log_2 rfl rfl ?_
  replace hr := Option.bind_eq_some_iff.mp hr
  obtain ⟨u1, e2, hr⟩ := hr
  replace hr := Option.bind_eq_some_iff.mp hr
  obtain ⟨v3, e4, hr⟩ := hr
  refine rr_callVq (as := [.int l1, .int l2]) (st := []) (mc' := 0) (ms' := 0) C dX10_log_3 iv_X10_68 (by decide) e2 rfl (Nat.le_of_ble_eq_true rfl) (c_X10_isFirmsYear l0 l1 l2 (by omega) e4) (fun v_ h_ n_ q_ => ?_)
  obtain ⟨q1_, q2_, q3_⟩ := q_
  subst v_; subst h_; subst n_
  show WW W0 G 4 _ _ _ 6 [some (.ref l0), some (.int l1), some (.int l2), some (.int l3)] [.int v3] h n _ _
  refine rr_if_eq (tgt := 33) C dX10_log_6 (by decide) (fun c6_ => ?_) (fun c6_ => ?_)
  · replace hr := (if_pos c6_).symm.trans hr
    refine rr_iconst (v := (-1)) C dX10_log_33 (by decide) ?_
    obtain rfl := Option.some.inj hr
    exact rr_iret (ty := .int) C dX10_log_34 rfl rfl ⟨rfl, rfl, rfl⟩
  · replace hr := (if_neg c6_).symm.trans hr
    refine rr_iload_n (i := 2) C dX10_log_9 rfl rfl ?_
    refine rr_aload_n (i := 0) C dX10_log_10 rfl rfl ?_
    replace hr := Option.bind_eq_some_iff.mp hr
    obtain ⟨v5, e6, hr⟩ := hr
    refine rr_rdR C dX10_log_11 fl_X10_12 e6 ?_
    replace hr := Option.bind_eq_some_iff.mp hr
    obtain ⟨a7, e8, hr⟩ := hr
    subst e8
    replace hr := Option.bind_eq_some_iff.mp hr
    obtain ⟨v9, e10, hr⟩ := hr
    refine rr_rdI C dX10_log_14 fl_X10_55 e10 ?_
    refine rr_bipush (v := 100) C dX10_log_17 (by decide) ?_
    refine rr_idiv C dX10_log_19 (by decide) ?_
    refine rr_icmp_le (tgt := 33) C dX10_log_20 (by decide) (fun c20_ => ?_) (fun c20_ => ?_)
    · replace hr := (if_pos c20_).symm.trans hr
      refine rr_iconst (v := (-1)) C dX10_log_33 (by decide) ?_
      obtain rfl := Option.some.inj hr
      exact rr_iret (ty := .int) C dX10_log_34 rfl rfl ⟨rfl, rfl, rfl⟩
    · replace hr := (if_neg c20_).symm.trans hr
      refine rr_iload_n (i := 3) C dX10_log_23 rfl rfl ?_
      refine rr_iconst (v := 1) C dX10_log_24 (by decide) ?_
      refine rr_ldc C dX10_log_25 ct_X10_93 ?_
      replace hr := Option.bind_eq_some_iff.mp hr
      obtain ⟨v11, e12, hr⟩ := hr
      refine rr_callS (as := [.int l3, .int 1, .int 99999]) (st := []) (mc' := 0) (ms' := 0) C dX10_log_27 it_X10_60 (by decide) (Nat.le_of_ble_eq_true rfl) (c_X10_isWithin l3 1 99999 (by omega) e12) (fun v_ h_ n_ q_ => ?_)
      obtain ⟨q1_, q2_, q3_⟩ := q_
      subst v_; subst h_; subst n_
      show WW W0 G 4 _ _ _ 30 [some (.ref l0), some (.int l1), some (.int l2), some (.int l3)] [.int v11] h n _ _
      refine rr_if_ne (tgt := 35) C dX10_log_30 (by decide) (fun c30_ => ?_) (fun c30_ => ?_)
      · replace hr := (if_neg c30_).symm.trans hr
        refine rr_aload_n (i := 0) C dX10_log_35 rfl rfl ?_
        replace hr := Option.bind_eq_some_iff.mp hr
        obtain ⟨v13, e14, hr⟩ := hr
        refine rr_rdR C dX10_log_36 fl_X10_12 e14 ?_
        replace hr := Option.bind_eq_some_iff.mp hr
        obtain ⟨a15, e16, hr⟩ := hr
        subst e16
        replace hr := Option.bind_eq_some_iff.mp hr
        obtain ⟨v17, e18, hr⟩ := hr
        refine rr_rdR C dX10_log_39 fl_X10_116 e18 ?_
        refine rr_iload_n (i := 1) C dX10_log_42 rfl rfl ?_
        refine rr_iconst (v := 0) C dX10_log_43 (by decide) ?_
        refine rr_iload_n (i := 2) C dX10_log_44 rfl rfl ?_
        refine rr_iload_n (i := 3) C dX10_log_45 rfl rfl ?_
        refine rr_aload_n (i := 0) C dX10_log_46 rfl rfl ?_
        replace hr := Option.bind_eq_some_iff.mp hr
        obtain ⟨v19, e20, hr⟩ := hr
        refine rr_rdR C dX10_log_47 fl_X10_12 e20 ?_
        replace hr := Option.bind_eq_some_iff.mp hr
        obtain ⟨a21, e22, hr⟩ := hr
        subst e22
        replace hr := Option.bind_eq_some_iff.mp hr
        obtain ⟨v23, e24, hr⟩ := hr
        refine rr_rdI C dX10_log_50 fl_X10_55 e24 ?_
        replace hr := Option.bind_eq_some_iff.mp hr
        obtain ⟨a25, e26, hr⟩ := hr
        subst e26
        replace hr := Option.bind_eq_some_iff.mp hr
        obtain ⟨u27, e28, hr⟩ := hr
        replace hr := Option.bind_eq_some_iff.mp hr
        obtain ⟨v29, e30, hr⟩ := hr
        refine rr_callVq (as := [.int l1, .int 0, .int l2, .int l3, .int v23]) (st := []) (mc' := 0) (ms' := 0) C dX10_log_53 iv_X10_113 (by decide) e28 rfl (Nat.le_of_ble_eq_true rfl) (c_X1_take a25 l1 0 l2 l3 v23 (by omega) e30) (fun v_ h_ n_ q_ => ?_)
        obtain ⟨q1_, q2_, q3_⟩ := q_
        subst v_; subst h_; subst n_
        show WW W0 G 4 _ _ _ 56 [some (.ref l0), some (.int l1), some (.int l2), some (.int l3)] [.int v29.1] v29.2 n _ _
        obtain rfl := Option.some.inj hr
        exact rr_iret (ty := .int) C dX10_log_56 rfl rfl ⟨rfl, rfl, rfl⟩
      · replace hr := (if_pos c30_).symm.trans hr
        refine rr_iconst (v := (-1)) C dX10_log_33 (by decide) ?_
        obtain rfl := Option.some.inj hr
        exact rr_iret (ty := .int) C dX10_log_34 rfl rfl ⟨rfl, rfl, rfl⟩
def lp_X10_tapeNumber_3 (K : Nat) (n : Nat) (l0 : Nat) (l1 : Int32) : Nat → Int32 → mm_H → Option (mm_H)
  | 0, _, _ => none
  | k_ + 1, l2, h =>
    if l2 < 0 then
      some (h)
    else
    (rdI h n l0 9 5).bind fun v1 =>
    if 900 ≤ v1 then
      lp_X10_tapeNumber_3 K n l0 l1 k_ (l2 + (-8)) h
    else
    (rdR h n l0 9 4).bind fun v3 =>
    (rdI h n l0 9 5).bind fun v5 =>
    v3.bind fun a7 =>
    (stI h n a7 v5 ((((Int32.toUInt32 l1) >>> ((Int32.toUInt32 l2) &&& Int32.toUInt32 31)).toInt32) &&& 255)).bind fun h9 =>
    (rdI h9 n l0 9 5).bind fun v11 =>
    (wrF h9 n l0 9 5 (.int (v11 + 1))).bind fun h13 =>
    lp_X10_tapeNumber_3 K n l0 l1 k_ (l2 + (-8)) h13
def q_X10_tapeNumber (K : Nat) (h : mm_H) (n : Nat) (l0 : Nat) (l1 : Int32) : Option (mm_H) :=
  (lp_X10_tapeNumber_3 K n l0 l1 K 24 h).bind fun v15 =>
  some v15
set_option maxRecDepth 100000 in
set_option maxHeartbeats 4000000 in
theorem w_X10_tapeNumber_3 {K : Nat} {W0 : mm_X} {G : mm_G} {mc ms kc ks : Nat} {Q_ : State → Prop} {n : Nat} (C : mm_C W0 G cX10_tapeNumber yX10_tapeNumber.cls 3 mc ms none 0 yX10_tapeNumber.name) (hn : 48 ≤ n) (l0 : Nat) (l1 : Int32) : ∀ (k_ : Nat) (l2 : Int32) (h : mm_H) {r_ : mm_H} (hr : lp_X10_tapeNumber_3 K n l0 l1 k_ l2 h = some r_) (hx0 : WW W0 G 3 mc ms Q_ 49 [none, none, none] [] r_ n kc ks), WW W0 G 3 mc ms Q_ 3 [some (.ref l0), some (.int l1), some (.int l2)] [] h n kc ks := by
  intro k_
  induction k_ with
  | zero =>
    intro l2 h r_ hr
    cases hr
  | succ k_ ih_ =>
    intro l2 h r_ hr hx0
    unfold lp_X10_tapeNumber_3 at hr
    refine rr_iload_n (i := 2) C dX10_tapeNumber_3 rfl rfl ?_
    refine rr_if_lt (tgt := 49) C dX10_tapeNumber_4 (by decide) (fun c4_ => ?_) (fun c4_ => ?_)
    · replace hr := (if_pos c4_).symm.trans hr
      obtain rfl := Option.some.inj hr
      exact rr_keep [false, false, false] (hx0)
    · replace hr := (if_neg c4_).symm.trans hr
      refine rr_aload_n (i := 0) C dX10_tapeNumber_7 rfl rfl ?_
      replace hr := Option.bind_eq_some_iff.mp hr
      obtain ⟨v1, e2, hr⟩ := hr
      refine rr_rdI C dX10_tapeNumber_8 fl_X10_119 e2 ?_
      refine rr_sipush (v := 900) C dX10_tapeNumber_11 (by decide) ?_
      refine rr_icmp_ge (tgt := 43) C dX10_tapeNumber_14 (by decide) (fun c14_ => ?_) (fun c14_ => ?_)
      · replace hr := (if_pos c14_).symm.trans hr
        refine rr_iinc (v := l2 + (-8)) C dX10_tapeNumber_43 rfl rfl ?_
        show WW W0 G 3 _ _ _ 46 [some (.ref l0), some (.int l1), some (.int (l2 + (-8)))] [] h n _ _
        refine rr_goto (tgt := 3) C dX10_tapeNumber_46 (by decide) ?_
        exact rr_keep [true, true, true] (ih_ _ _ hr hx0)
      · replace hr := (if_neg c14_).symm.trans hr
        refine rr_aload_n (i := 0) C dX10_tapeNumber_17 rfl rfl ?_
        replace hr := Option.bind_eq_some_iff.mp hr
        obtain ⟨v3, e4, hr⟩ := hr
        refine rr_rdR C dX10_tapeNumber_18 fl_X10_39 e4 ?_
        refine rr_aload_n (i := 0) C dX10_tapeNumber_21 rfl rfl ?_
        replace hr := Option.bind_eq_some_iff.mp hr
        obtain ⟨v5, e6, hr⟩ := hr
        refine rr_rdI C dX10_tapeNumber_22 fl_X10_119 e6 ?_
        refine rr_iload_n (i := 1) C dX10_tapeNumber_25 rfl rfl ?_
        refine rr_iload_n (i := 2) C dX10_tapeNumber_26 rfl rfl ?_
        refine rr_iushr C dX10_tapeNumber_27 ?_
        refine rr_sipush (v := 255) C dX10_tapeNumber_28 (by decide) ?_
        refine rr_iand C dX10_tapeNumber_31 ?_
        replace hr := Option.bind_eq_some_iff.mp hr
        obtain ⟨a7, e8, hr⟩ := hr
        subst e8
        replace hr := Option.bind_eq_some_iff.mp hr
        obtain ⟨h9, e10, hr⟩ := hr
        refine rr_stI C dX10_tapeNumber_32 e10 ?_
        refine rr_aload_n (i := 0) C dX10_tapeNumber_33 rfl rfl ?_
        refine rr_dup C dX10_tapeNumber_34 rfl ?_
        replace hr := Option.bind_eq_some_iff.mp hr
        obtain ⟨v11, e12, hr⟩ := hr
        refine rr_rdI C dX10_tapeNumber_35 fl_X10_119 e12 ?_
        refine rr_iconst (v := 1) C dX10_tapeNumber_38 (by decide) ?_
        refine rr_iadd C dX10_tapeNumber_39 ?_
        replace hr := Option.bind_eq_some_iff.mp hr
        obtain ⟨h13, e14, hr⟩ := hr
        refine rr_wrF C dX10_tapeNumber_40 fp_X10_119 rfl rfl e14 ?_
        refine rr_iinc (v := l2 + (-8)) C dX10_tapeNumber_43 rfl rfl ?_
        show WW W0 G 3 _ _ _ 46 [some (.ref l0), some (.int l1), some (.int (l2 + (-8)))] [] h13 n _ _
        refine rr_goto (tgt := 3) C dX10_tapeNumber_46 (by decide) ?_
        exact rr_keep [true, true, true] (ih_ _ _ hr hx0)
set_option maxRecDepth 100000 in
set_option maxHeartbeats 4000000 in
theorem c_X10_tapeNumber {K : Nat} {G : mm_G} {l : Launch} {h : mm_H} {n : Nat} (l0 : Nat) (l1 : Int32) {r_ : mm_H} (hn : 48 ≤ n) (hr : q_X10_tapeNumber K h n l0 l1 = some r_) : Sp G l yX10_tapeNumber cX10_tapeNumber 3 none 0 0 0 [.ref l0, .int l1] h n (fun v h' n' => v = none ∧ h' = r_ ∧ n' = n) := by
  refine Sp_of (by decide +kernel) (Nat.le_of_ble_eq_true rfl) hn ?_
  intro W0 hwl C
  subst hwl
  unfold q_X10_tapeNumber at hr
  show WW W0 G 3 0 0 _ 0 [some (.ref l0), some (.int l1), none] [] h n 0 0
  refine rr_bipush (v := 24) C dX10_tapeNumber_0 (by decide) ?_
  refine rr_istore_n (i := 2) C dX10_tapeNumber_2 rfl (by decide) ?_
  show WW W0 G 3 _ _ _ 3 [some (.ref l0), some (.int l1), some (.int 24)] [] h n _ _
  replace hr := Option.bind_eq_some_iff.mp hr
  obtain ⟨v15, e16, hr⟩ := hr
  refine rr_keep [true, true, true] (w_X10_tapeNumber_3 C (by omega) l0 l1 K 24 h e16 ?_)
  show WW W0 G 3 _ _ _ 49 [none, none, none] [] v15 n _ _
  obtain rfl := Option.some.inj hr
  exact rr_vret C dX10_tapeNumber_49 rfl ⟨rfl, rfl, rfl⟩
def q_X10_feed (K : Nat) (h : mm_H) (n : Nat) (l0 : Nat) (l1 : Int32) (l2 : Int32) (l3 : Int32) (l4 : Int32) (l5 : Int32) : Option (Int32 × mm_H) :=
  (rdI h n l0 9 5).bind fun v1 =>
  if (v1 + 20) ≤ 900 then
    (ckq h n l0 9).bind fun u3 =>
    (q_X10_tapeNumber K h n l0 l1).bind fun v5 =>
    (ckq v5 n l0 9).bind fun u7 =>
    (q_X10_tapeNumber K v5 n l0 l2).bind fun v9 =>
    (ckq v9 n l0 9).bind fun u11 =>
    (q_X10_tapeNumber K v9 n l0 l3).bind fun v13 =>
    (ckq v13 n l0 9).bind fun u15 =>
    (q_X10_tapeNumber K v13 n l0 l4).bind fun v17 =>
    (ckq v17 n l0 9).bind fun u19 =>
    (q_X10_tapeNumber K v17 n l0 l5).bind fun v21 =>
    (rdI v21 n l0 9 5).bind fun v23 =>
    some (v23, v21)
  else
  some ((-1), h)
set_option maxRecDepth 100000 in
set_option maxHeartbeats 4000000 in
theorem c_X10_feed {K : Nat} {G : mm_G} {l : Launch} {h : mm_H} {n : Nat} (l0 : Nat) (l1 : Int32) (l2 : Int32) (l3 : Int32) (l4 : Int32) (l5 : Int32) {r_ : Int32 × mm_H} (hn : 48 ≤ n) (hr : q_X10_feed K h n l0 l1 l2 l3 l4 l5 = some r_) : Sp G l yX10_feed cX10_feed 6 (some .int) 1 0 0 [.ref l0, .int l1, .int l2, .int l3, .int l4, .int l5] h n (fun v h' n' => v = some (.int r_.1) ∧ h' = r_.2 ∧ n' = n) := by
  refine Sp_of (by decide +kernel) (Nat.le_of_ble_eq_true rfl) hn ?_
  intro W0 hwl C
  subst hwl
  unfold q_X10_feed at hr
  show WW W0 G 6 0 0 _ 0 [some (.ref l0), some (.int l1), some (.int l2), some (.int l3), some (.int l4), some (.int l5)] [] h n 0 0
  refine rr_aload_n (i := 0) C dX10_feed_0 rfl rfl ?_
  replace hr := Option.bind_eq_some_iff.mp hr
  obtain ⟨v1, e2, hr⟩ := hr
  refine rr_rdI C dX10_feed_1 fl_X10_119 e2 ?_
  refine rr_bipush (v := 20) C dX10_feed_4 (by decide) ?_
  refine rr_iadd C dX10_feed_6 ?_
  refine rr_sipush (v := 900) C dX10_feed_7 (by decide) ?_
  refine rr_icmp_le (tgt := 15) C dX10_feed_10 (by decide) (fun c10_ => ?_) (fun c10_ => ?_)
  · replace hr := (if_pos c10_).symm.trans hr
    refine rr_aload_n (i := 0) C dX10_feed_15 rfl rfl ?_
    refine rr_iload_n (i := 1) C dX10_feed_16 rfl rfl ?_
    replace hr := Option.bind_eq_some_iff.mp hr
    obtain ⟨u3, e4, hr⟩ := hr
    replace hr := Option.bind_eq_some_iff.mp hr
    obtain ⟨v5, e6, hr⟩ := hr
    refine rr_callVq (as := [.int l1]) (st := []) (mc' := 0) (ms' := 0) C dX10_feed_17 iv_X10_122 (by decide) e4 rfl (Nat.le_of_ble_eq_true rfl) (c_X10_tapeNumber l0 l1 (by omega) e6) (fun v_ h_ n_ q_ => ?_)
    obtain ⟨q1_, q2_, q3_⟩ := q_
    subst v_; subst h_; subst n_
    show WW W0 G 6 _ _ _ 20 [some (.ref l0), some (.int l1), some (.int l2), some (.int l3), some (.int l4), some (.int l5)] [] v5 n _ _
    refine rr_aload_n (i := 0) C dX10_feed_20 rfl rfl ?_
    refine rr_iload_n (i := 2) C dX10_feed_21 rfl rfl ?_
    replace hr := Option.bind_eq_some_iff.mp hr
    obtain ⟨u7, e8, hr⟩ := hr
    replace hr := Option.bind_eq_some_iff.mp hr
    obtain ⟨v9, e10, hr⟩ := hr
    refine rr_callVq (as := [.int l2]) (st := []) (mc' := 0) (ms' := 0) C dX10_feed_22 iv_X10_122 (by decide) e8 rfl (Nat.le_of_ble_eq_true rfl) (c_X10_tapeNumber l0 l2 (by omega) e10) (fun v_ h_ n_ q_ => ?_)
    obtain ⟨q1_, q2_, q3_⟩ := q_
    subst v_; subst h_; subst n_
    show WW W0 G 6 _ _ _ 25 [some (.ref l0), some (.int l1), some (.int l2), some (.int l3), some (.int l4), some (.int l5)] [] v9 n _ _
    refine rr_aload_n (i := 0) C dX10_feed_25 rfl rfl ?_
    refine rr_iload_n (i := 3) C dX10_feed_26 rfl rfl ?_
    replace hr := Option.bind_eq_some_iff.mp hr
    obtain ⟨u11, e12, hr⟩ := hr
    replace hr := Option.bind_eq_some_iff.mp hr
    obtain ⟨v13, e14, hr⟩ := hr
    refine rr_callVq (as := [.int l3]) (st := []) (mc' := 0) (ms' := 0) C dX10_feed_27 iv_X10_122 (by decide) e12 rfl (Nat.le_of_ble_eq_true rfl) (c_X10_tapeNumber l0 l3 (by omega) e14) (fun v_ h_ n_ q_ => ?_)
    obtain ⟨q1_, q2_, q3_⟩ := q_
    subst v_; subst h_; subst n_
    show WW W0 G 6 _ _ _ 30 [some (.ref l0), some (.int l1), some (.int l2), some (.int l3), some (.int l4), some (.int l5)] [] v13 n _ _
    refine rr_aload_n (i := 0) C dX10_feed_30 rfl rfl ?_
    refine rr_iload C dX10_feed_31 rfl ?_
    replace hr := Option.bind_eq_some_iff.mp hr
    obtain ⟨u15, e16, hr⟩ := hr
    replace hr := Option.bind_eq_some_iff.mp hr
    obtain ⟨v17, e18, hr⟩ := hr
    refine rr_callVq (as := [.int l4]) (st := []) (mc' := 0) (ms' := 0) C dX10_feed_33 iv_X10_122 (by decide) e16 rfl (Nat.le_of_ble_eq_true rfl) (c_X10_tapeNumber l0 l4 (by omega) e18) (fun v_ h_ n_ q_ => ?_)
    obtain ⟨q1_, q2_, q3_⟩ := q_
    subst v_; subst h_; subst n_
    show WW W0 G 6 _ _ _ 36 [some (.ref l0), some (.int l1), some (.int l2), some (.int l3), some (.int l4), some (.int l5)] [] v17 n _ _
    refine rr_aload_n (i := 0) C dX10_feed_36 rfl rfl ?_
    refine rr_iload C dX10_feed_37 rfl ?_
    replace hr := Option.bind_eq_some_iff.mp hr
    obtain ⟨u19, e20, hr⟩ := hr
    replace hr := Option.bind_eq_some_iff.mp hr
    obtain ⟨v21, e22, hr⟩ := hr
    refine rr_callVq (as := [.int l5]) (st := []) (mc' := 0) (ms' := 0) C dX10_feed_39 iv_X10_122 (by decide) e20 rfl (Nat.le_of_ble_eq_true rfl) (c_X10_tapeNumber l0 l5 (by omega) e22) (fun v_ h_ n_ q_ => ?_)
    obtain ⟨q1_, q2_, q3_⟩ := q_
    subst v_; subst h_; subst n_
    show WW W0 G 6 _ _ _ 42 [some (.ref l0), some (.int l1), some (.int l2), some (.int l3), some (.int l4), some (.int l5)] [] v21 n _ _
    refine rr_aload_n (i := 0) C dX10_feed_42 rfl rfl ?_
    replace hr := Option.bind_eq_some_iff.mp hr
    obtain ⟨v23, e24, hr⟩ := hr
    refine rr_rdI C dX10_feed_43 fl_X10_119 e24 ?_
    obtain rfl := Option.some.inj hr
    exact rr_iret (ty := .int) C dX10_feed_46 rfl rfl ⟨rfl, rfl, rfl⟩
  · replace hr := (if_neg c10_).symm.trans hr
    refine rr_iconst (v := (-1)) C dX10_feed_13 (by decide) ?_
    obtain rfl := Option.some.inj hr
    exact rr_iret (ty := .int) C dX10_feed_14 rfl rfl ⟨rfl, rfl, rfl⟩

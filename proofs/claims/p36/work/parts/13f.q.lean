def q_X10_isReview (K : Nat) (h : mm_H) (n : Nat) (l0 : Int32) : Option (Int32) :=
  (q_X10_isWithin K h n l0 0 2).bind fun v1 =>
  (ckz v1).bind fun u3 =>
  some v1
set_option maxRecDepth 100000 in
set_option maxHeartbeats 4000000 in
theorem c_X10_isReview {K : Nat} {G : mm_G} {l : Launch} {h : mm_H} {n : Nat} (l0 : Int32) {r_ : Int32} (hn : 48 ≤ n) (hr : q_X10_isReview K h n l0 = some r_) : Sp G l yX10_isReview cX10_isReview 1 (some .boolean) 1 0 0 [.int l0] h n (fun v h' n' => v = some (.int r_) ∧ h' = h ∧ n' = n) := by
  refine Sp_of (by decide +kernel) (Nat.le_of_ble_eq_true rfl) hn ?_
  intro W0 hwl C
  subst hwl
  unfold q_X10_isReview at hr
  show WW W0 G 1 0 0 _ 0 [some (.int l0)] [] h n 0 0
  refine rr_iload_n (i := 0) C dX10_isReview_0 rfl rfl ?_
  refine rr_iconst (v := 0) C dX10_isReview_1 (by decide) ?_
  refine rr_iconst (v := 2) C dX10_isReview_2 (by decide) ?_
  replace hr := Option.bind_eq_some_iff.mp hr
  obtain ⟨v1, e2, hr⟩ := hr
  refine rr_callS (as := [.int l0, .int 0, .int 2]) (st := []) (mc' := 0) (ms' := 0) C dX10_isReview_3 it_X10_60 (by decide) (Nat.le_of_ble_eq_true rfl) (c_X10_isWithin l0 0 2 (by omega) e2) (fun v_ h_ n_ q_ => ?_)
  obtain ⟨q1_, q2_, q3_⟩ := q_
  subst v_; subst h_; subst n_
  show WW W0 G 1 _ _ _ 6 [some (.int l0)] [.int v1] h n _ _
  replace hr := Option.bind_eq_some_iff.mp hr
  obtain ⟨u3, e4, hr⟩ := hr
  obtain rfl := Option.some.inj hr
  exact rr_iret (ty := .boolean) C dX10_isReview_6 rfl (ckz_s e4) ⟨rfl, rfl, rfl⟩
def q_X10_takenAt (K : Nat) (h : mm_H) (n : Nat) (l0 : Nat) (l1 : Int32) : Option (Option Nat) :=
  if l1 < 0 then
    some none
  else
  (rdI h n l0 9 7).bind fun v1 =>
  if v1 ≤ l1 then
    some none
  else
  if 8 ≤ l1 then
    some none
  else
  (rdR h n l0 9 6).bind fun v3 =>
  v3.bind fun a5 =>
  (ldR h n a5 5 l1).bind fun v7 =>
  some v7
set_option maxRecDepth 100000 in
set_option maxHeartbeats 4000000 in
theorem c_X10_takenAt {K : Nat} {G : mm_G} {l : Launch} {h : mm_H} {n : Nat} (l0 : Nat) (l1 : Int32) {r_ : Option Nat} (hn : 48 ≤ n) (hr : q_X10_takenAt K h n l0 l1 = some r_) : Sp G l yX10_takenAt cX10_takenAt 2 (some (.object "WaterReview$RuleBook")) 0 0 0 [.ref l0, .int l1] h n (fun v h' n' => v = some (va_rf r_) ∧ h' = h ∧ n' = n) := by
  refine Sp_of (by decide +kernel) (Nat.le_of_ble_eq_true rfl) hn ?_
  intro W0 hwl C
  subst hwl
  unfold q_X10_takenAt at hr
  show WW W0 G 2 0 0 _ 0 [some (.ref l0), some (.int l1)] [] h n 0 0
  refine rr_iload_n (i := 1) C dX10_takenAt_0 rfl rfl ?_
  refine rr_if_lt (tgt := 27) C dX10_takenAt_1 (by decide) (fun c1_ => ?_) (fun c1_ => ?_)
  · replace hr := (if_pos c1_).symm.trans hr
    refine rr_null C dX10_takenAt_27 ?_
    obtain rfl := Option.some.inj hr
    exact rr_aret (r := none) C dX10_takenAt_28 rfl (Or.inl ⟨_, rfl⟩) ⟨rfl, rfl, rfl⟩
  · replace hr := (if_neg c1_).symm.trans hr
    refine rr_iload_n (i := 1) C dX10_takenAt_4 rfl rfl ?_
    refine rr_aload_n (i := 0) C dX10_takenAt_5 rfl rfl ?_
    replace hr := Option.bind_eq_some_iff.mp hr
    obtain ⟨v1, e2, hr⟩ := hr
    refine rr_rdI C dX10_takenAt_6 fl_X10_129 e2 ?_
    refine rr_icmp_ge (tgt := 27) C dX10_takenAt_9 (by decide) (fun c9_ => ?_) (fun c9_ => ?_)
    · replace hr := (if_pos c9_).symm.trans hr
      refine rr_null C dX10_takenAt_27 ?_
      obtain rfl := Option.some.inj hr
      exact rr_aret (r := none) C dX10_takenAt_28 rfl (Or.inl ⟨_, rfl⟩) ⟨rfl, rfl, rfl⟩
    · replace hr := (if_neg c9_).symm.trans hr
      refine rr_iload_n (i := 1) C dX10_takenAt_12 rfl rfl ?_
      refine rr_bipush (v := 8) C dX10_takenAt_13 (by decide) ?_
      refine rr_icmp_ge (tgt := 27) C dX10_takenAt_15 (by decide) (fun c15_ => ?_) (fun c15_ => ?_)
      · replace hr := (if_pos c15_).symm.trans hr
        refine rr_null C dX10_takenAt_27 ?_
        obtain rfl := Option.some.inj hr
        exact rr_aret (r := none) C dX10_takenAt_28 rfl (Or.inl ⟨_, rfl⟩) ⟨rfl, rfl, rfl⟩
      · replace hr := (if_neg c15_).symm.trans hr
        refine rr_aload_n (i := 0) C dX10_takenAt_18 rfl rfl ?_
        replace hr := Option.bind_eq_some_iff.mp hr
        obtain ⟨v3, e4, hr⟩ := hr
        refine rr_rdR C dX10_takenAt_19 fl_X10_45 e4 ?_
        refine rr_iload_n (i := 1) C dX10_takenAt_22 rfl rfl ?_
        replace hr := Option.bind_eq_some_iff.mp hr
        obtain ⟨a5, e6, hr⟩ := hr
        subst e6
        replace hr := Option.bind_eq_some_iff.mp hr
        obtain ⟨v7, e8, hr⟩ := hr
        refine rr_ldR C dX10_takenAt_23 e8 ?_
        refine rr_goto (tgt := 28) C dX10_takenAt_24 (by decide) ?_
        obtain rfl := Option.some.inj hr
        exact rr_aret (r := v7) C dX10_takenAt_28 rfl (Or.inl ⟨_, rfl⟩) ⟨rfl, rfl, rfl⟩
def lp_X10_takenOf_8 (K : Nat) (h : mm_H) (n : Nat) (l0 : Nat) (l1 : Int32) (l2 : Int32) : Nat → Int32 → Int32 → Int32 → Option (Int32)
  | 0, _, _, _ => none
  | k_ + 1, l3, l4, l5 =>
    (rdI h n l0 9 7).bind fun v1 =>
    if v1 ≤ l5 then
      some (l3)
    else
    (ckq h n l0 9).bind fun u3 =>
    (q_X10_takenAt K h n l0 l5).bind fun v5 =>
    match v5 with
    | none =>
      lp_X10_takenOf_8 K h n l0 l1 l2 k_ l3 l4 (l5 + 1)
    | some a7 =>
      (rdI h n a7 6 3).bind fun v8 =>
      if l2 < v8 then
        lp_X10_takenOf_8 K h n l0 l1 l2 k_ l3 l4 (l5 + 1)
      else
      (rdI h n a7 6 2).bind fun v10 =>
      if l1 < v10 then
        lp_X10_takenOf_8 K h n l0 l1 l2 k_ l3 l4 (l5 + 1)
      else
      (rdI h n a7 6 2).bind fun v12 =>
      if v12 < l4 then
        lp_X10_takenOf_8 K h n l0 l1 l2 k_ l3 l4 (l5 + 1)
      else
      (rdI h n a7 6 2).bind fun v14 =>
      lp_X10_takenOf_8 K h n l0 l1 l2 k_ l5 v14 (l5 + 1)
def q_X10_takenOf (K : Nat) (h : mm_H) (n : Nat) (l0 : Nat) (l1 : Int32) (l2 : Int32) : Option (Int32) :=
  (lp_X10_takenOf_8 K h n l0 l1 l2 K (-1) (-1) 0).bind fun v16 =>
  some v16
set_option maxRecDepth 100000 in
set_option maxHeartbeats 4000000 in
theorem w_X10_takenOf_8 {K : Nat} {W0 : mm_X} {G : mm_G} {mc ms kc ks : Nat} {Q_ : State → Prop} {h : mm_H} {n : Nat} (C : mm_C W0 G cX10_takenOf yX10_takenOf.cls 7 mc ms (some .int) 1 yX10_takenOf.name) (hn : 48 ≤ n) (l0 : Nat) (l1 : Int32) (l2 : Int32) : ∀ (k_ : Nat) (l3 : Int32) (l4 : Int32) (l5 : Int32) {r_ : Int32} (hr : lp_X10_takenOf_8 K h n l0 l1 l2 k_ l3 l4 l5 = some r_) (hx0 : WW W0 G 7 mc ms Q_ 74 [none, none, none, some (.int r_), none, none, none] [] h n kc ks), WW W0 G 7 mc ms Q_ 8 [some (.ref l0), some (.int l1), some (.int l2), some (.int l3), some (.int l4), some (.int l5), none] [] h n kc ks := by
  intro k_
  induction k_ with
  | zero =>
    intro l3 l4 l5 r_ hr
    cases hr
  | succ k_ ih_ =>
    intro l3 l4 l5 r_ hr hx0
    unfold lp_X10_takenOf_8 at hr
    refine rr_iload C dX10_takenOf_8 rfl ?_
    refine rr_aload_n (i := 0) C dX10_takenOf_10 rfl rfl ?_
    replace hr := Option.bind_eq_some_iff.mp hr
    obtain ⟨v1, e2, hr⟩ := hr
    refine rr_rdI C dX10_takenOf_11 fl_X10_129 e2 ?_
    refine rr_icmp_ge (tgt := 74) C dX10_takenOf_14 (by decide) (fun c14_ => ?_) (fun c14_ => ?_)
    · replace hr := (if_pos c14_).symm.trans hr
      obtain rfl := Option.some.inj hr
      exact rr_keep [false, false, false, true, false, false, false] (hx0)
    · replace hr := (if_neg c14_).symm.trans hr
      refine rr_aload_n (i := 0) C dX10_takenOf_17 rfl rfl ?_
      refine rr_iload C dX10_takenOf_18 rfl ?_
      replace hr := Option.bind_eq_some_iff.mp hr
      obtain ⟨u3, e4, hr⟩ := hr
      replace hr := Option.bind_eq_some_iff.mp hr
      obtain ⟨v5, e6, hr⟩ := hr
      refine rr_callVq (as := [.int l5]) (st := []) (mc' := 0) (ms' := 0) C dX10_takenOf_20 iv_X10_136 (by decide) e4 rfl (Nat.le_of_ble_eq_true rfl) (c_X10_takenAt l0 l5 (by omega) e6) (fun v_ h_ n_ q_ => ?_)
      obtain ⟨q1_, q2_, q3_⟩ := q_
      subst v_; subst h_; subst n_
      show WW W0 G 7 _ _ _ 23 [some (.ref l0), some (.int l1), some (.int l2), some (.int l3), some (.int l4), some (.int l5), none] [va_rf v5] h n _ _
      refine rr_astoreO C dX10_takenOf_23 (by decide) ?_
      show WW W0 G 7 _ _ _ 25 [some (.ref l0), some (.int l1), some (.int l2), some (.int l3), some (.int l4), some (.int l5), some (va_rf v5)] [] h n _ _
      refine rr_aloadO C dX10_takenOf_25 rfl ?_
      rcases v5 with _ | a7
      · dsimp only at hr
        refine rr_ifnullN (tgt := 68) C dX10_takenOf_27 (by decide) ?_
        refine rr_iinc (v := l5 + 1) C dX10_takenOf_68 rfl rfl ?_
        show WW W0 G 7 _ _ _ 71 [some (.ref l0), some (.int l1), some (.int l2), some (.int l3), some (.int l4), some (.int (l5 + 1)), some (.null)] [] h n _ _
        refine rr_goto (tgt := 8) C dX10_takenOf_71 (by decide) ?_
        exact rr_keep [true, true, true, true, true, true, false] (ih_ _ _ _ hr hx0)
      · dsimp only at hr
        refine rr_ifnull C dX10_takenOf_27 ?_
        refine rr_aload C dX10_takenOf_30 rfl ?_
        replace hr := Option.bind_eq_some_iff.mp hr
        obtain ⟨v8, e9, hr⟩ := hr
        refine rr_rdI C dX10_takenOf_32 fl_X10_147 e9 ?_
        refine rr_iload_n (i := 2) C dX10_takenOf_35 rfl rfl ?_
        refine rr_icmp_gt (tgt := 68) C dX10_takenOf_36 (by decide) (fun c36_ => ?_) (fun c36_ => ?_)
        · replace hr := (if_pos c36_).symm.trans hr
          refine rr_iinc (v := l5 + 1) C dX10_takenOf_68 rfl rfl ?_
          show WW W0 G 7 _ _ _ 71 [some (.ref l0), some (.int l1), some (.int l2), some (.int l3), some (.int l4), some (.int (l5 + 1)), some (.ref a7)] [] h n _ _
          refine rr_goto (tgt := 8) C dX10_takenOf_71 (by decide) ?_
          exact rr_keep [true, true, true, true, true, true, false] (ih_ _ _ _ hr hx0)
        · replace hr := (if_neg c36_).symm.trans hr
          refine rr_aload C dX10_takenOf_39 rfl ?_
          replace hr := Option.bind_eq_some_iff.mp hr
          obtain ⟨v10, e11, hr⟩ := hr
          refine rr_rdI C dX10_takenOf_41 fl_X10_144 e11 ?_
          refine rr_iload_n (i := 1) C dX10_takenOf_44 rfl rfl ?_
          refine rr_icmp_gt (tgt := 68) C dX10_takenOf_45 (by decide) (fun c45_ => ?_) (fun c45_ => ?_)
          · replace hr := (if_pos c45_).symm.trans hr
            refine rr_iinc (v := l5 + 1) C dX10_takenOf_68 rfl rfl ?_
            show WW W0 G 7 _ _ _ 71 [some (.ref l0), some (.int l1), some (.int l2), some (.int l3), some (.int l4), some (.int (l5 + 1)), some (.ref a7)] [] h n _ _
            refine rr_goto (tgt := 8) C dX10_takenOf_71 (by decide) ?_
            exact rr_keep [true, true, true, true, true, true, false] (ih_ _ _ _ hr hx0)
          · replace hr := (if_neg c45_).symm.trans hr
            refine rr_aload C dX10_takenOf_48 rfl ?_
            replace hr := Option.bind_eq_some_iff.mp hr
            obtain ⟨v12, e13, hr⟩ := hr
            refine rr_rdI C dX10_takenOf_50 fl_X10_144 e13 ?_
            refine rr_iload C dX10_takenOf_53 rfl ?_
            refine rr_icmp_lt (tgt := 68) C dX10_takenOf_55 (by decide) (fun c55_ => ?_) (fun c55_ => ?_)
            · replace hr := (if_pos c55_).symm.trans hr
              refine rr_iinc (v := l5 + 1) C dX10_takenOf_68 rfl rfl ?_
              show WW W0 G 7 _ _ _ 71 [some (.ref l0), some (.int l1), some (.int l2), some (.int l3), some (.int l4), some (.int (l5 + 1)), some (.ref a7)] [] h n _ _
              refine rr_goto (tgt := 8) C dX10_takenOf_71 (by decide) ?_
              exact rr_keep [true, true, true, true, true, true, false] (ih_ _ _ _ hr hx0)
            · replace hr := (if_neg c55_).symm.trans hr
              refine rr_iload C dX10_takenOf_58 rfl ?_
              refine rr_istore_n (i := 3) C dX10_takenOf_60 rfl (by decide) ?_
              show WW W0 G 7 _ _ _ 61 [some (.ref l0), some (.int l1), some (.int l2), some (.int l5), some (.int l4), some (.int l5), some (.ref a7)] [] h n _ _
              refine rr_aload C dX10_takenOf_61 rfl ?_
              replace hr := Option.bind_eq_some_iff.mp hr
              obtain ⟨v14, e15, hr⟩ := hr
              refine rr_rdI C dX10_takenOf_63 fl_X10_144 e15 ?_
              refine rr_istore C dX10_takenOf_66 (by decide) ?_
              show WW W0 G 7 _ _ _ 68 [some (.ref l0), some (.int l1), some (.int l2), some (.int l5), some (.int v14), some (.int l5), some (.ref a7)] [] h n _ _
              refine rr_iinc (v := l5 + 1) C dX10_takenOf_68 rfl rfl ?_
              show WW W0 G 7 _ _ _ 71 [some (.ref l0), some (.int l1), some (.int l2), some (.int l5), some (.int v14), some (.int (l5 + 1)), some (.ref a7)] [] h n _ _
              refine rr_goto (tgt := 8) C dX10_takenOf_71 (by decide) ?_
              exact rr_keep [true, true, true, true, true, true, false] (ih_ _ _ _ hr hx0)
set_option maxRecDepth 100000 in
set_option maxHeartbeats 4000000 in
theorem c_X10_takenOf {K : Nat} {G : mm_G} {l : Launch} {h : mm_H} {n : Nat} (l0 : Nat) (l1 : Int32) (l2 : Int32) {r_ : Int32} (hn : 48 ≤ n) (hr : q_X10_takenOf K h n l0 l1 l2 = some r_) : Sp G l yX10_takenOf cX10_takenOf 7 (some .int) 1 0 0 [.ref l0, .int l1, .int l2] h n (fun v h' n' => v = some (.int r_) ∧ h' = h ∧ n' = n) := by
  refine Sp_of (by decide +kernel) (Nat.le_of_ble_eq_true rfl) hn ?_
  intro W0 hwl C
  subst hwl
  unfold q_X10_takenOf at hr
  show WW W0 G 7 0 0 _ 0 [some (.ref l0), some (.int l1), some (.int l2), none, none, none, none] [] h n 0 0
  refine rr_iconst (v := (-1)) C dX10_takenOf_0 (by decide) ?_
  refine rr_istore_n (i := 3) C dX10_takenOf_1 rfl (by decide) ?_
  show WW W0 G 7 _ _ _ 2 [some (.ref l0), some (.int l1), some (.int l2), some (.int (-1)), none, none, none] [] h n _ _
  refine rr_iconst (v := (-1)) C dX10_takenOf_2 (by decide) ?_
  refine rr_istore C dX10_takenOf_3 (by decide) ?_
  show WW W0 G 7 _ _ _ 5 [some (.ref l0), some (.int l1), some (.int l2), some (.int (-1)), some (.int (-1)), none, none] [] h n _ _
  refine rr_iconst (v := 0) C dX10_takenOf_5 (by decide) ?_
  refine rr_istore C dX10_takenOf_6 (by decide) ?_
  show WW W0 G 7 _ _ _ 8 [some (.ref l0), some (.int l1), some (.int l2), some (.int (-1)), some (.int (-1)), some (.int 0), none] [] h n _ _
  replace hr := Option.bind_eq_some_iff.mp hr
  obtain ⟨v16, e17, hr⟩ := hr
  refine rr_keep [true, true, true, true, true, true, false] (w_X10_takenOf_8 C (by omega) l0 l1 l2 K (-1) (-1) 0 e17 ?_)
  show WW W0 G 7 _ _ _ 74 [none, none, none, some (.int v16), none, none, none] [] h n _ _
  refine rr_iload_n (i := 3) C dX10_takenOf_74 rfl rfl ?_
  obtain rfl := Option.some.inj hr
  exact rr_iret (ty := .int) C dX10_takenOf_75 rfl rfl ⟨rfl, rfl, rfl⟩
def lp_X10_useOwnRules_2 (K : Nat) (n : Nat) (l0 : Nat) : Nat → Int32 → mm_H → Option (mm_H)
  | 0, _, _ => none
  | k_ + 1, l1, h =>
    if 3 ≤ l1 then
      some (h)
    else
    (rdR h n l0 9 1).bind fun v1 =>
    (ckq h n l0 9).bind fun u3 =>
    (q_X10_takenOf K h n l0 l1 (l1 * 500)).bind fun v5 =>
    (ckq h n l0 9).bind fun u7 =>
    (q_X10_takenAt K h n l0 v5).bind fun v9 =>
    v1.bind fun a11 =>
    (ckq h n a11 7).bind fun u13 =>
    (q_X7_useRules K h n a11 l1 v9).bind fun v15 =>
    lp_X10_useOwnRules_2 K n l0 k_ (l1 + 1) v15
def q_X10_useOwnRules (K : Nat) (h : mm_H) (n : Nat) (l0 : Nat) : Option (mm_H) :=
  (lp_X10_useOwnRules_2 K n l0 K 0 h).bind fun v17 =>
  some v17
set_option maxRecDepth 100000 in
set_option maxHeartbeats 4000000 in
theorem w_X10_useOwnRules_2 {K : Nat} {W0 : mm_X} {G : mm_G} {mc ms kc ks : Nat} {Q_ : State → Prop} {n : Nat} (C : mm_C W0 G cX10_useOwnRules yX10_useOwnRules.cls 2 mc ms none 2 yX10_useOwnRules.name) (hn : 48 ≤ n) (l0 : Nat) : ∀ (k_ : Nat) (l1 : Int32) (h : mm_H) {r_ : mm_H} (hr : lp_X10_useOwnRules_2 K n l0 k_ l1 h = some r_) (hx0 : WW W0 G 2 mc ms Q_ 35 [none, none] [] r_ n kc ks), WW W0 G 2 mc ms Q_ 2 [some (.ref l0), some (.int l1)] [] h n kc ks := by
  intro k_
  induction k_ with
  | zero =>
    intro l1 h r_ hr
    cases hr
  | succ k_ ih_ =>
    intro l1 h r_ hr hx0
    unfold lp_X10_useOwnRules_2 at hr
    refine rr_iload_n (i := 1) C dX10_useOwnRules_2 rfl rfl ?_
    refine rr_iconst (v := 3) C dX10_useOwnRules_3 (by decide) ?_
    refine rr_icmp_ge (tgt := 35) C dX10_useOwnRules_4 (by decide) (fun c4_ => ?_) (fun c4_ => ?_)
    · replace hr := (if_pos c4_).symm.trans hr
      obtain rfl := Option.some.inj hr
      exact rr_keep [false, false] (hx0)
    · replace hr := (if_neg c4_).symm.trans hr
      refine rr_aload_n (i := 0) C dX10_useOwnRules_7 rfl rfl ?_
      replace hr := Option.bind_eq_some_iff.mp hr
      obtain ⟨v1, e2, hr⟩ := hr
      refine rr_rdR C dX10_useOwnRules_8 fl_X10_21 e2 ?_
      refine rr_iload_n (i := 1) C dX10_useOwnRules_11 rfl rfl ?_
      refine rr_aload_n (i := 0) C dX10_useOwnRules_12 rfl rfl ?_
      refine rr_aload_n (i := 0) C dX10_useOwnRules_13 rfl rfl ?_
      refine rr_iload_n (i := 1) C dX10_useOwnRules_14 rfl rfl ?_
      refine rr_iload_n (i := 1) C dX10_useOwnRules_15 rfl rfl ?_
      refine rr_sipush (v := 500) C dX10_useOwnRules_16 (by decide) ?_
      refine rr_imul C dX10_useOwnRules_19 ?_
      replace hr := Option.bind_eq_some_iff.mp hr
      obtain ⟨u3, e4, hr⟩ := hr
      replace hr := Option.bind_eq_some_iff.mp hr
      obtain ⟨v5, e6, hr⟩ := hr
      refine rr_callVq (as := [.int l1, .int (l1 * 500)]) (st := [.ref l0, .int l1, va_rf v1]) (mc' := 0) (ms' := 0) C dX10_useOwnRules_20 iv_X10_132 (by decide) e4 rfl (by rcases v1 with _ | _ <;> exact Nat.le_of_ble_eq_true rfl) (c_X10_takenOf l0 l1 (l1 * 500) (by omega) e6) (fun v_ h_ n_ q_ => ?_)
      obtain ⟨q1_, q2_, q3_⟩ := q_
      subst v_; subst h_; subst n_
      show WW W0 G 2 _ _ _ 23 [some (.ref l0), some (.int l1)] [.int v5, .ref l0, .int l1, va_rf v1] h n _ _
      replace hr := Option.bind_eq_some_iff.mp hr
      obtain ⟨u7, e8, hr⟩ := hr
      replace hr := Option.bind_eq_some_iff.mp hr
      obtain ⟨v9, e10, hr⟩ := hr
      refine rr_callVq (as := [.int v5]) (st := [.int l1, va_rf v1]) (mc' := 0) (ms' := 0) C dX10_useOwnRules_23 iv_X10_136 (by decide) e8 rfl (by rcases v1 with _ | _ <;> exact Nat.le_of_ble_eq_true rfl) (c_X10_takenAt l0 v5 (by omega) e10) (fun v_ h_ n_ q_ => ?_)
      obtain ⟨q1_, q2_, q3_⟩ := q_
      subst v_; subst h_; subst n_
      show WW W0 G 2 _ _ _ 26 [some (.ref l0), some (.int l1)] [va_rf v9, .int l1, va_rf v1] h n _ _
      replace hr := Option.bind_eq_some_iff.mp hr
      obtain ⟨a11, e12, hr⟩ := hr
      subst e12
      replace hr := Option.bind_eq_some_iff.mp hr
      obtain ⟨u13, e14, hr⟩ := hr
      replace hr := Option.bind_eq_some_iff.mp hr
      obtain ⟨v15, e16, hr⟩ := hr
      refine rr_callVq (as := [.int l1, va_rf v9]) (st := []) (mc' := 0) (ms' := 0) C dX10_useOwnRules_26 iv_X10_240 (by decide) e14 rfl (Nat.le_of_ble_eq_true rfl) (c_X7_useRules a11 l1 v9 (by omega) e16) (fun v_ h_ n_ q_ => ?_)
      obtain ⟨q1_, q2_, q3_⟩ := q_
      subst v_; subst h_; subst n_
      show WW W0 G 2 _ _ _ 29 [some (.ref l0), some (.int l1)] [] v15 n _ _
      refine rr_iinc (v := l1 + 1) C dX10_useOwnRules_29 rfl rfl ?_
      show WW W0 G 2 _ _ _ 32 [some (.ref l0), some (.int (l1 + 1))] [] v15 n _ _
      refine rr_goto (tgt := 2) C dX10_useOwnRules_32 (by decide) ?_
      exact rr_keep [true, true] (ih_ _ _ hr hx0)
set_option maxRecDepth 100000 in
set_option maxHeartbeats 4000000 in
theorem c_X10_useOwnRules {K : Nat} {G : mm_G} {l : Launch} {h : mm_H} {n : Nat} (l0 : Nat) {r_ : mm_H} (hn : 48 ≤ n) (hr : q_X10_useOwnRules K h n l0 = some r_) : Sp G l yX10_useOwnRules cX10_useOwnRules 2 none 2 0 0 [.ref l0] h n (fun v h' n' => v = none ∧ h' = r_ ∧ n' = n) := by
  refine Sp_of (by decide +kernel) (Nat.le_of_ble_eq_true rfl) hn ?_
  intro W0 hwl C
  subst hwl
  unfold q_X10_useOwnRules at hr
  show WW W0 G 2 0 0 _ 0 [some (.ref l0), none] [] h n 0 0
  refine rr_iconst (v := 0) C dX10_useOwnRules_0 (by decide) ?_
  refine rr_istore_n (i := 1) C dX10_useOwnRules_1 rfl (by decide) ?_
  show WW W0 G 2 _ _ _ 2 [some (.ref l0), some (.int 0)] [] h n _ _
  replace hr := Option.bind_eq_some_iff.mp hr
  obtain ⟨v17, e18, hr⟩ := hr
  refine rr_keep [true, true] (w_X10_useOwnRules_2 C (by omega) l0 K 0 h e18 ?_)
  show WW W0 G 2 _ _ _ 35 [none, none] [] v17 n _ _
  obtain rfl := Option.some.inj hr
  exact rr_vret C dX10_useOwnRules_35 rfl ⟨rfl, rfl, rfl⟩
def q_X10_openOwn (K : Nat) (h : mm_H) (n : Nat) (l0 : Nat) (l1 : Int32) (l2 : Int32) (l3 : Int32) : Option (mm_H) :=
  (ckq h n l0 9).bind fun u1 =>
  (q_X10_useOwnRules K h n l0).bind fun v3 =>
  (rdR v3 n l0 9 1).bind fun v5 =>
  v5.bind fun a7 =>
  (ckq v3 n a7 7).bind fun u9 =>
  (q_X7_open K v3 n a7 l1 l2 l3).bind fun v11 =>
  some v11
set_option maxRecDepth 100000 in
set_option maxHeartbeats 4000000 in
theorem c_X10_openOwn {K : Nat} {G : mm_G} {l : Launch} {h : mm_H} {n : Nat} (l0 : Nat) (l1 : Int32) (l2 : Int32) (l3 : Int32) {r_ : mm_H} (hn : 48 ≤ n) (hr : q_X10_openOwn K h n l0 l1 l2 l3 = some r_) : Sp G l yX10_openOwn cX10_openOwn 4 none 6 0 0 [.ref l0, .int l1, .int l2, .int l3] h n (fun v h' n' => v = none ∧ h' = r_ ∧ n' = n) := by
  refine Sp_of (by decide +kernel) (Nat.le_of_ble_eq_true rfl) hn ?_
  intro W0 hwl C
  subst hwl
  unfold q_X10_openOwn at hr
  show WW W0 G 4 0 0 _ 0 [some (.ref l0), some (.int l1), some (.int l2), some (.int l3)] [] h n 0 0
  refine rr_aload_n (i := 0) C dX10_openOwn_0 rfl rfl ?_
  replace hr := Option.bind_eq_some_iff.mp hr
  obtain ⟨u1, e2, hr⟩ := hr
  replace hr := Option.bind_eq_some_iff.mp hr
  obtain ⟨v3, e4, hr⟩ := hr
  refine rr_callVq (as := []) (st := []) (mc' := 0) (ms' := 0) C dX10_openOwn_1 iv_X10_237 (by decide) e2 rfl (Nat.le_of_ble_eq_true rfl) (c_X10_useOwnRules l0 (by omega) e4) (fun v_ h_ n_ q_ => ?_)
  obtain ⟨q1_, q2_, q3_⟩ := q_
  subst v_; subst h_; subst n_
  show WW W0 G 4 _ _ _ 4 [some (.ref l0), some (.int l1), some (.int l2), some (.int l3)] [] v3 n _ _
  refine rr_aload_n (i := 0) C dX10_openOwn_4 rfl rfl ?_
  replace hr := Option.bind_eq_some_iff.mp hr
  obtain ⟨v5, e6, hr⟩ := hr
  refine rr_rdR C dX10_openOwn_5 fl_X10_21 e6 ?_
  refine rr_iload_n (i := 1) C dX10_openOwn_8 rfl rfl ?_
  refine rr_iload_n (i := 2) C dX10_openOwn_9 rfl rfl ?_
  refine rr_iload_n (i := 3) C dX10_openOwn_10 rfl rfl ?_
  replace hr := Option.bind_eq_some_iff.mp hr
  obtain ⟨a7, e8, hr⟩ := hr
  subst e8
  replace hr := Option.bind_eq_some_iff.mp hr
  obtain ⟨u9, e10, hr⟩ := hr
  replace hr := Option.bind_eq_some_iff.mp hr
  obtain ⟨v11, e12, hr⟩ := hr
  refine rr_callVq (as := [.int l1, .int l2, .int l3]) (st := []) (mc' := 0) (ms' := 0) C dX10_openOwn_11 iv_X10_244 (by decide) e10 rfl (Nat.le_of_ble_eq_true rfl) (c_X7_open a7 l1 l2 l3 (by omega) e12) (fun v_ h_ n_ q_ => ?_)
  obtain ⟨q1_, q2_, q3_⟩ := q_
  subst v_; subst h_; subst n_
  show WW W0 G 4 _ _ _ 14 [some (.ref l0), some (.int l1), some (.int l2), some (.int l3)] [] v11 n _ _
  obtain rfl := Option.some.inj hr
  exact rr_vret C dX10_openOwn_14 rfl ⟨rfl, rfl, rfl⟩
def q_X10_worth (K : Nat) (h : mm_H) (n : Nat) (l0 : Nat) (l1 : Int32) (l2 : Int32) : Option (Int64 × mm_H) :=
  (ckq h n l0 9).bind fun u1 =>
  (q_X10_isFirmsYear K h n l0 l1 l2).bind fun v3 =>
  if v3 = 0 then
    some ((-2000000000000), h)
  else
  (rdR h n l0 9 0).bind fun v5 =>
  v5.bind fun a7 =>
  (rdI h n a7 4 6).bind fun v9 =>
  (ckq h n l0 9).bind fun u11 =>
  (q_X10_openOwn K h n l0 l1 l2 v9).bind fun v13 =>
  (rdR v13 n l0 9 1).bind fun v15 =>
  v15.bind fun a17 =>
  (ckq v13 n a17 7).bind fun u19 =>
  (q_X7_worthAt K v13 n a17 l2).bind fun v21 =>
  some (v21, v13)
set_option maxRecDepth 100000 in
set_option maxHeartbeats 4000000 in
theorem c_X10_worth {K : Nat} {G : mm_G} {l : Launch} {h : mm_H} {n : Nat} (l0 : Nat) (l1 : Int32) (l2 : Int32) {r_ : Int64 × mm_H} (hn : 48 ≤ n) (hr : q_X10_worth K h n l0 l1 l2 = some r_) : Sp G l yX10_worth cX10_worth 3 (some .long) 7 0 0 [.ref l0, .int l1, .int l2] h n (fun v h' n' => v = some (.long r_.1) ∧ h' = r_.2 ∧ n' = n) := by
  refine Sp_of (by decide +kernel) (Nat.le_of_ble_eq_true rfl) hn ?_
  intro W0 hwl C
  subst hwl
  unfold q_X10_worth at hr
  show WW W0 G 3 0 0 _ 0 [some (.ref l0), some (.int l1), some (.int l2)] [] h n 0 0
  refine rr_aload_n (i := 0) C dX10_worth_0 rfl rfl ?_
  refine rr_iload_n (i := 1) C dX10_worth_1 rfl rfl ?_
  refine rr_iload_n (i := 2) C dX10_worth_2 rfl rfl ?_
  replace hr := Option.bind_eq_some_iff.mp hr
  obtain ⟨u1, e2, hr⟩ := hr
  replace hr := Option.bind_eq_some_iff.mp hr
  obtain ⟨v3, e4, hr⟩ := hr
  refine rr_callVq (as := [.int l1, .int l2]) (st := []) (mc' := 0) (ms' := 0) C dX10_worth_3 iv_X10_68 (by decide) e2 rfl (Nat.le_of_ble_eq_true rfl) (c_X10_isFirmsYear l0 l1 l2 (by omega) e4) (fun v_ h_ n_ q_ => ?_)
  obtain ⟨q1_, q2_, q3_⟩ := q_
  subst v_; subst h_; subst n_
  show WW W0 G 3 _ _ _ 6 [some (.ref l0), some (.int l1), some (.int l2)] [.int v3] h n _ _
  refine rr_if_ne (tgt := 13) C dX10_worth_6 (by decide) (fun c6_ => ?_) (fun c6_ => ?_)
  · replace hr := (if_neg c6_).symm.trans hr
    refine rr_aload_n (i := 0) C dX10_worth_13 rfl rfl ?_
    refine rr_iload_n (i := 1) C dX10_worth_14 rfl rfl ?_
    refine rr_iload_n (i := 2) C dX10_worth_15 rfl rfl ?_
    refine rr_aload_n (i := 0) C dX10_worth_16 rfl rfl ?_
    replace hr := Option.bind_eq_some_iff.mp hr
    obtain ⟨v5, e6, hr⟩ := hr
    refine rr_rdR C dX10_worth_17 fl_X10_12 e6 ?_
    replace hr := Option.bind_eq_some_iff.mp hr
    obtain ⟨a7, e8, hr⟩ := hr
    subst e8
    replace hr := Option.bind_eq_some_iff.mp hr
    obtain ⟨v9, e10, hr⟩ := hr
    refine rr_rdI C dX10_worth_20 fl_X10_55 e10 ?_
    replace hr := Option.bind_eq_some_iff.mp hr
    obtain ⟨u11, e12, hr⟩ := hr
    replace hr := Option.bind_eq_some_iff.mp hr
    obtain ⟨v13, e14, hr⟩ := hr
    refine rr_callVq (as := [.int l1, .int l2, .int v9]) (st := []) (mc' := 0) (ms' := 0) C dX10_worth_23 iv_X10_170 (by decide) e12 rfl (Nat.le_of_ble_eq_true rfl) (c_X10_openOwn l0 l1 l2 v9 (by omega) e14) (fun v_ h_ n_ q_ => ?_)
    obtain ⟨q1_, q2_, q3_⟩ := q_
    subst v_; subst h_; subst n_
    show WW W0 G 3 _ _ _ 26 [some (.ref l0), some (.int l1), some (.int l2)] [] v13 n _ _
    refine rr_aload_n (i := 0) C dX10_worth_26 rfl rfl ?_
    replace hr := Option.bind_eq_some_iff.mp hr
    obtain ⟨v15, e16, hr⟩ := hr
    refine rr_rdR C dX10_worth_27 fl_X10_21 e16 ?_
    refine rr_iload_n (i := 2) C dX10_worth_30 rfl rfl ?_
    replace hr := Option.bind_eq_some_iff.mp hr
    obtain ⟨a17, e18, hr⟩ := hr
    subst e18
    replace hr := Option.bind_eq_some_iff.mp hr
    obtain ⟨u19, e20, hr⟩ := hr
    replace hr := Option.bind_eq_some_iff.mp hr
    obtain ⟨v21, e22, hr⟩ := hr
    refine rr_callVq (as := [.int l2]) (st := []) (mc' := 0) (ms' := 0) C dX10_worth_31 iv_X10_207 (by decide) e20 rfl (Nat.le_of_ble_eq_true rfl) (c_X7_worthAt a17 l2 (by omega) e22) (fun v_ h_ n_ q_ => ?_)
    obtain ⟨q1_, q2_, q3_⟩ := q_
    subst v_; subst h_; subst n_
    show WW W0 G 3 _ _ _ 34 [some (.ref l0), some (.int l1), some (.int l2)] [.long v21] v13 n _ _
    obtain rfl := Option.some.inj hr
    exact rr_lret C dX10_worth_34 rfl ⟨rfl, rfl, rfl⟩
  · replace hr := (if_pos c6_).symm.trans hr
    refine rr_ldc2 C dX10_worth_9 ct_X10_205 ?_
    obtain rfl := Option.some.inj hr
    exact rr_lret C dX10_worth_12 rfl ⟨rfl, rfl, rfl⟩
def q_X10_isDay (K : Nat) (h : mm_H) (n : Nat) (l0 : Int32) : Option (Int32) :=
  (q_X10_isWithin K h n l0 0 1499).bind fun v1 =>
  (ckz v1).bind fun u3 =>
  some v1
set_option maxRecDepth 100000 in
set_option maxHeartbeats 4000000 in
theorem c_X10_isDay {K : Nat} {G : mm_G} {l : Launch} {h : mm_H} {n : Nat} (l0 : Int32) {r_ : Int32} (hn : 48 ≤ n) (hr : q_X10_isDay K h n l0 = some r_) : Sp G l yX10_isDay cX10_isDay 1 (some .boolean) 1 0 0 [.int l0] h n (fun v h' n' => v = some (.int r_) ∧ h' = h ∧ n' = n) := by
  refine Sp_of (by decide +kernel) (Nat.le_of_ble_eq_true rfl) hn ?_
  intro W0 hwl C
  subst hwl
  unfold q_X10_isDay at hr
  show WW W0 G 1 0 0 _ 0 [some (.int l0)] [] h n 0 0
  refine rr_iload_n (i := 0) C dX10_isDay_0 rfl rfl ?_
  refine rr_iconst (v := 0) C dX10_isDay_1 (by decide) ?_
  refine rr_sipush (v := 1499) C dX10_isDay_2 (by decide) ?_
  replace hr := Option.bind_eq_some_iff.mp hr
  obtain ⟨v1, e2, hr⟩ := hr
  refine rr_callS (as := [.int l0, .int 0, .int 1499]) (st := []) (mc' := 0) (ms' := 0) C dX10_isDay_5 it_X10_60 (by decide) (Nat.le_of_ble_eq_true rfl) (c_X10_isWithin l0 0 1499 (by omega) e2) (fun v_ h_ n_ q_ => ?_)
  obtain ⟨q1_, q2_, q3_⟩ := q_
  subst v_; subst h_; subst n_
  show WW W0 G 1 _ _ _ 8 [some (.int l0)] [.int v1] h n _ _
  replace hr := Option.bind_eq_some_iff.mp hr
  obtain ⟨u3, e4, hr⟩ := hr
  obtain rfl := Option.some.inj hr
  exact rr_iret (ty := .boolean) C dX10_isDay_8 rfl (ckz_s e4) ⟨rfl, rfl, rfl⟩
def q_X10_line (K : Nat) (h : mm_H) (n : Nat) (l0 : Nat) (l1 : Int32) (l2 : Int32) (l3 : Int32) (l4 : Int32) : Option (Int64 × mm_H) :=
  (ckq h n l0 9).bind fun u1 =>
  (q_X10_isFirmsYear K h n l0 l1 l2).bind fun v3 =>
  if v3 = 0 then
    some ((-2000000000000), h)
  else
  (q_X10_isDay K h n l3).bind fun v5 =>
  if v5 = 0 then
    some ((-2000000000000), h)
  else
  (q_X10_isWithin K h n l4 0 14).bind fun v7 =>
  if v7 = 0 then
    some ((-2000000000000), h)
  else
  (ckq h n l0 9).bind fun u9 =>
  (q_X10_openOwn K h n l0 l1 l2 l3).bind fun v11 =>
  (rdR v11 n l0 9 1).bind fun v13 =>
  v13.bind fun a15 =>
  (ckq v11 n a15 7).bind fun u17 =>
  (q_X7_fillLines K v11 n a15 l2 l2).bind fun v19 =>
  (rdR v19 n l0 9 1).bind fun v21 =>
  v21.bind fun a23 =>
  (ckq v19 n a23 7).bind fun u25 =>
  (q_X7_lineAt K v19 n a23 l2 l4).bind fun v27 =>
  some (v27, v19)
set_option maxRecDepth 100000 in
set_option maxHeartbeats 4000000 in
theorem c_X10_line {K : Nat} {G : mm_G} {l : Launch} {h : mm_H} {n : Nat} (l0 : Nat) (l1 : Int32) (l2 : Int32) (l3 : Int32) (l4 : Int32) {r_ : Int64 × mm_H} (hn : 48 ≤ n) (hr : q_X10_line K h n l0 l1 l2 l3 l4 = some r_) : Sp G l yX10_line cX10_line 5 (some .long) 7 0 0 [.ref l0, .int l1, .int l2, .int l3, .int l4] h n (fun v h' n' => v = some (.long r_.1) ∧ h' = r_.2 ∧ n' = n) := by
  refine Sp_of (by decide +kernel) (Nat.le_of_ble_eq_true rfl) hn ?_
  intro W0 hwl C
  subst hwl
  unfold q_X10_line at hr
  show WW W0 G 5 0 0 _ 0 [some (.ref l0), some (.int l1), some (.int l2), some (.int l3), some (.int l4)] [] h n 0 0
  refine rr_aload_n (i := 0) C dX10_line_0 rfl rfl ?_
  refine rr_iload_n (i := 1) C dX10_line_1 rfl rfl ?_
  refine rr_iload_n (i := 2) C dX10_line_2 rfl rfl ?_
  replace hr := Option.bind_eq_some_iff.mp hr
  obtain ⟨u1, e2, hr⟩ := hr
  replace hr := Option.bind_eq_some_iff.mp hr
  obtain ⟨v3, e4, hr⟩ := hr
  refine rr_callVq (as := [.int l1, .int l2]) (st := []) (mc' := 0) (ms' := 0) C dX10_line_3 iv_X10_68 (by decide) e2 rfl (Nat.le_of_ble_eq_true rfl) (c_X10_isFirmsYear l0 l1 l2 (by omega) e4) (fun v_ h_ n_ q_ => ?_)
  obtain ⟨q1_, q2_, q3_⟩ := q_
  subst v_; subst h_; subst n_
  show WW W0 G 5 _ _ _ 6 [some (.ref l0), some (.int l1), some (.int l2), some (.int l3), some (.int l4)] [.int v3] h n _ _
  refine rr_if_eq (tgt := 27) C dX10_line_6 (by decide) (fun c6_ => ?_) (fun c6_ => ?_)
  · replace hr := (if_pos c6_).symm.trans hr
    refine rr_ldc2 C dX10_line_27 ct_X10_205 ?_
    obtain rfl := Option.some.inj hr
    exact rr_lret C dX10_line_30 rfl ⟨rfl, rfl, rfl⟩
  · replace hr := (if_neg c6_).symm.trans hr
    refine rr_iload_n (i := 3) C dX10_line_9 rfl rfl ?_
    replace hr := Option.bind_eq_some_iff.mp hr
    obtain ⟨v5, e6, hr⟩ := hr
    refine rr_callS (as := [.int l3]) (st := []) (mc' := 0) (ms' := 0) C dX10_line_10 it_X10_85 (by decide) (Nat.le_of_ble_eq_true rfl) (c_X10_isDay l3 (by omega) e6) (fun v_ h_ n_ q_ => ?_)
    obtain ⟨q1_, q2_, q3_⟩ := q_
    subst v_; subst h_; subst n_
    show WW W0 G 5 _ _ _ 13 [some (.ref l0), some (.int l1), some (.int l2), some (.int l3), some (.int l4)] [.int v5] h n _ _
    refine rr_if_eq (tgt := 27) C dX10_line_13 (by decide) (fun c13_ => ?_) (fun c13_ => ?_)
    · replace hr := (if_pos c13_).symm.trans hr
      refine rr_ldc2 C dX10_line_27 ct_X10_205 ?_
      obtain rfl := Option.some.inj hr
      exact rr_lret C dX10_line_30 rfl ⟨rfl, rfl, rfl⟩
    · replace hr := (if_neg c13_).symm.trans hr
      refine rr_iload C dX10_line_16 rfl ?_
      refine rr_iconst (v := 0) C dX10_line_18 (by decide) ?_
      refine rr_bipush (v := 14) C dX10_line_19 (by decide) ?_
      replace hr := Option.bind_eq_some_iff.mp hr
      obtain ⟨v7, e8, hr⟩ := hr
      refine rr_callS (as := [.int l4, .int 0, .int 14]) (st := []) (mc' := 0) (ms' := 0) C dX10_line_21 it_X10_60 (by decide) (Nat.le_of_ble_eq_true rfl) (c_X10_isWithin l4 0 14 (by omega) e8) (fun v_ h_ n_ q_ => ?_)
      obtain ⟨q1_, q2_, q3_⟩ := q_
      subst v_; subst h_; subst n_
      show WW W0 G 5 _ _ _ 24 [some (.ref l0), some (.int l1), some (.int l2), some (.int l3), some (.int l4)] [.int v7] h n _ _
      refine rr_if_ne (tgt := 31) C dX10_line_24 (by decide) (fun c24_ => ?_) (fun c24_ => ?_)
      · replace hr := (if_neg c24_).symm.trans hr
        refine rr_aload_n (i := 0) C dX10_line_31 rfl rfl ?_
        refine rr_iload_n (i := 1) C dX10_line_32 rfl rfl ?_
        refine rr_iload_n (i := 2) C dX10_line_33 rfl rfl ?_
        refine rr_iload_n (i := 3) C dX10_line_34 rfl rfl ?_
        replace hr := Option.bind_eq_some_iff.mp hr
        obtain ⟨u9, e10, hr⟩ := hr
        replace hr := Option.bind_eq_some_iff.mp hr
        obtain ⟨v11, e12, hr⟩ := hr
        refine rr_callVq (as := [.int l1, .int l2, .int l3]) (st := []) (mc' := 0) (ms' := 0) C dX10_line_35 iv_X10_170 (by decide) e10 rfl (Nat.le_of_ble_eq_true rfl) (c_X10_openOwn l0 l1 l2 l3 (by omega) e12) (fun v_ h_ n_ q_ => ?_)
        obtain ⟨q1_, q2_, q3_⟩ := q_
        subst v_; subst h_; subst n_
        show WW W0 G 5 _ _ _ 38 [some (.ref l0), some (.int l1), some (.int l2), some (.int l3), some (.int l4)] [] v11 n _ _
        refine rr_aload_n (i := 0) C dX10_line_38 rfl rfl ?_
        replace hr := Option.bind_eq_some_iff.mp hr
        obtain ⟨v13, e14, hr⟩ := hr
        refine rr_rdR C dX10_line_39 fl_X10_21 e14 ?_
        refine rr_iload_n (i := 2) C dX10_line_42 rfl rfl ?_
        refine rr_iload_n (i := 2) C dX10_line_43 rfl rfl ?_
        replace hr := Option.bind_eq_some_iff.mp hr
        obtain ⟨a15, e16, hr⟩ := hr
        subst e16
        replace hr := Option.bind_eq_some_iff.mp hr
        obtain ⟨u17, e18, hr⟩ := hr
        replace hr := Option.bind_eq_some_iff.mp hr
        obtain ⟨v19, e20, hr⟩ := hr
        refine rr_callVq (as := [.int l2, .int l2]) (st := []) (mc' := 0) (ms' := 0) C dX10_line_44 iv_X10_211 (by decide) e18 rfl (Nat.le_of_ble_eq_true rfl) (c_X7_fillLines a15 l2 l2 (by omega) e20) (fun v_ h_ n_ q_ => ?_)
        obtain ⟨q1_, q2_, q3_⟩ := q_
        subst v_; subst h_; subst n_
        show WW W0 G 5 _ _ _ 47 [some (.ref l0), some (.int l1), some (.int l2), some (.int l3), some (.int l4)] [] v19 n _ _
        refine rr_aload_n (i := 0) C dX10_line_47 rfl rfl ?_
        replace hr := Option.bind_eq_some_iff.mp hr
        obtain ⟨v21, e22, hr⟩ := hr
        refine rr_rdR C dX10_line_48 fl_X10_21 e22 ?_
        refine rr_iload_n (i := 2) C dX10_line_51 rfl rfl ?_
        refine rr_iload C dX10_line_52 rfl ?_
        replace hr := Option.bind_eq_some_iff.mp hr
        obtain ⟨a23, e24, hr⟩ := hr
        subst e24
        replace hr := Option.bind_eq_some_iff.mp hr
        obtain ⟨u25, e26, hr⟩ := hr
        replace hr := Option.bind_eq_some_iff.mp hr
        obtain ⟨v27, e28, hr⟩ := hr
        refine rr_callVq (as := [.int l2, .int l4]) (st := []) (mc' := 0) (ms' := 0) C dX10_line_54 iv_X10_215 (by decide) e26 rfl (Nat.le_of_ble_eq_true rfl) (c_X7_lineAt a23 l2 l4 (by omega) e28) (fun v_ h_ n_ q_ => ?_)
        obtain ⟨q1_, q2_, q3_⟩ := q_
        subst v_; subst h_; subst n_
        show WW W0 G 5 _ _ _ 57 [some (.ref l0), some (.int l1), some (.int l2), some (.int l3), some (.int l4)] [.long v27] v19 n _ _
        obtain rfl := Option.some.inj hr
        exact rr_lret C dX10_line_57 rfl ⟨rfl, rfl, rfl⟩
      · replace hr := (if_pos c24_).symm.trans hr
        refine rr_ldc2 C dX10_line_27 ct_X10_205 ?_
        obtain rfl := Option.some.inj hr
        exact rr_lret C dX10_line_30 rfl ⟨rfl, rfl, rfl⟩
def q_X10_revenue (K : Nat) (h : mm_H) (n : Nat) (l0 : Nat) (l1 : Int32) (l2 : Int32) (l3 : Int32) : Option (Int64 × mm_H) :=
  (ckq h n l0 9).bind fun u1 =>
  (q_X10_isFirmsYear K h n l0 l1 l2).bind fun v3 =>
  if v3 = 0 then
    some ((-2000000000000), h)
  else
  (q_X10_isDay K h n l3).bind fun v5 =>
  if v5 = 0 then
    some ((-2000000000000), h)
  else
  (ckq h n l0 9).bind fun u7 =>
  (q_X10_openOwn K h n l0 l1 l2 l3).bind fun v9 =>
  (rdR v9 n l0 9 1).bind fun v11 =>
  v11.bind fun a13 =>
  (ckq v9 n a13 7).bind fun u15 =>
  (q_X7_fillLines K v9 n a13 l2 l2).bind fun v17 =>
  (rdR v17 n l0 9 1).bind fun v19 =>
  v19.bind fun a21 =>
  (ckq v17 n a21 7).bind fun u23 =>
  (q_X7_allLines K v17 n a21 l2).bind fun v25 =>
  some (v25, v17)
set_option maxRecDepth 100000 in
set_option maxHeartbeats 4000000 in
theorem c_X10_revenue {K : Nat} {G : mm_G} {l : Launch} {h : mm_H} {n : Nat} (l0 : Nat) (l1 : Int32) (l2 : Int32) (l3 : Int32) {r_ : Int64 × mm_H} (hn : 48 ≤ n) (hr : q_X10_revenue K h n l0 l1 l2 l3 = some r_) : Sp G l yX10_revenue cX10_revenue 4 (some .long) 7 0 0 [.ref l0, .int l1, .int l2, .int l3] h n (fun v h' n' => v = some (.long r_.1) ∧ h' = r_.2 ∧ n' = n) := by
  refine Sp_of (by decide +kernel) (Nat.le_of_ble_eq_true rfl) hn ?_
  intro W0 hwl C
  subst hwl
  unfold q_X10_revenue at hr
  show WW W0 G 4 0 0 _ 0 [some (.ref l0), some (.int l1), some (.int l2), some (.int l3)] [] h n 0 0
  refine rr_aload_n (i := 0) C dX10_revenue_0 rfl rfl ?_
  refine rr_iload_n (i := 1) C dX10_revenue_1 rfl rfl ?_
  refine rr_iload_n (i := 2) C dX10_revenue_2 rfl rfl ?_
  replace hr := Option.bind_eq_some_iff.mp hr
  obtain ⟨u1, e2, hr⟩ := hr
  replace hr := Option.bind_eq_some_iff.mp hr
  obtain ⟨v3, e4, hr⟩ := hr
  refine rr_callVq (as := [.int l1, .int l2]) (st := []) (mc' := 0) (ms' := 0) C dX10_revenue_3 iv_X10_68 (by decide) e2 rfl (Nat.le_of_ble_eq_true rfl) (c_X10_isFirmsYear l0 l1 l2 (by omega) e4) (fun v_ h_ n_ q_ => ?_)
  obtain ⟨q1_, q2_, q3_⟩ := q_
  subst v_; subst h_; subst n_
  show WW W0 G 4 _ _ _ 6 [some (.ref l0), some (.int l1), some (.int l2), some (.int l3)] [.int v3] h n _ _
  refine rr_if_eq (tgt := 16) C dX10_revenue_6 (by decide) (fun c6_ => ?_) (fun c6_ => ?_)
  · replace hr := (if_pos c6_).symm.trans hr
    refine rr_ldc2 C dX10_revenue_16 ct_X10_205 ?_
    obtain rfl := Option.some.inj hr
    exact rr_lret C dX10_revenue_19 rfl ⟨rfl, rfl, rfl⟩
  · replace hr := (if_neg c6_).symm.trans hr
    refine rr_iload_n (i := 3) C dX10_revenue_9 rfl rfl ?_
    replace hr := Option.bind_eq_some_iff.mp hr
    obtain ⟨v5, e6, hr⟩ := hr
    refine rr_callS (as := [.int l3]) (st := []) (mc' := 0) (ms' := 0) C dX10_revenue_10 it_X10_85 (by decide) (Nat.le_of_ble_eq_true rfl) (c_X10_isDay l3 (by omega) e6) (fun v_ h_ n_ q_ => ?_)
    obtain ⟨q1_, q2_, q3_⟩ := q_
    subst v_; subst h_; subst n_
    show WW W0 G 4 _ _ _ 13 [some (.ref l0), some (.int l1), some (.int l2), some (.int l3)] [.int v5] h n _ _
    refine rr_if_ne (tgt := 20) C dX10_revenue_13 (by decide) (fun c13_ => ?_) (fun c13_ => ?_)
    · replace hr := (if_neg c13_).symm.trans hr
      refine rr_aload_n (i := 0) C dX10_revenue_20 rfl rfl ?_
      refine rr_iload_n (i := 1) C dX10_revenue_21 rfl rfl ?_
      refine rr_iload_n (i := 2) C dX10_revenue_22 rfl rfl ?_
      refine rr_iload_n (i := 3) C dX10_revenue_23 rfl rfl ?_
      replace hr := Option.bind_eq_some_iff.mp hr
      obtain ⟨u7, e8, hr⟩ := hr
      replace hr := Option.bind_eq_some_iff.mp hr
      obtain ⟨v9, e10, hr⟩ := hr
      refine rr_callVq (as := [.int l1, .int l2, .int l3]) (st := []) (mc' := 0) (ms' := 0) C dX10_revenue_24 iv_X10_170 (by decide) e8 rfl (Nat.le_of_ble_eq_true rfl) (c_X10_openOwn l0 l1 l2 l3 (by omega) e10) (fun v_ h_ n_ q_ => ?_)
      obtain ⟨q1_, q2_, q3_⟩ := q_
      subst v_; subst h_; subst n_
      show WW W0 G 4 _ _ _ 27 [some (.ref l0), some (.int l1), some (.int l2), some (.int l3)] [] v9 n _ _
      refine rr_aload_n (i := 0) C dX10_revenue_27 rfl rfl ?_
      replace hr := Option.bind_eq_some_iff.mp hr
      obtain ⟨v11, e12, hr⟩ := hr
      refine rr_rdR C dX10_revenue_28 fl_X10_21 e12 ?_
      refine rr_iload_n (i := 2) C dX10_revenue_31 rfl rfl ?_
      refine rr_iload_n (i := 2) C dX10_revenue_32 rfl rfl ?_
      replace hr := Option.bind_eq_some_iff.mp hr
      obtain ⟨a13, e14, hr⟩ := hr
      subst e14
      replace hr := Option.bind_eq_some_iff.mp hr
      obtain ⟨u15, e16, hr⟩ := hr
      replace hr := Option.bind_eq_some_iff.mp hr
      obtain ⟨v17, e18, hr⟩ := hr
      refine rr_callVq (as := [.int l2, .int l2]) (st := []) (mc' := 0) (ms' := 0) C dX10_revenue_33 iv_X10_211 (by decide) e16 rfl (Nat.le_of_ble_eq_true rfl) (c_X7_fillLines a13 l2 l2 (by omega) e18) (fun v_ h_ n_ q_ => ?_)
      obtain ⟨q1_, q2_, q3_⟩ := q_
      subst v_; subst h_; subst n_
      show WW W0 G 4 _ _ _ 36 [some (.ref l0), some (.int l1), some (.int l2), some (.int l3)] [] v17 n _ _
      refine rr_aload_n (i := 0) C dX10_revenue_36 rfl rfl ?_
      replace hr := Option.bind_eq_some_iff.mp hr
      obtain ⟨v19, e20, hr⟩ := hr
      refine rr_rdR C dX10_revenue_37 fl_X10_21 e20 ?_
      refine rr_iload_n (i := 2) C dX10_revenue_40 rfl rfl ?_
      replace hr := Option.bind_eq_some_iff.mp hr
      obtain ⟨a21, e22, hr⟩ := hr
      subst e22
      replace hr := Option.bind_eq_some_iff.mp hr
      obtain ⟨u23, e24, hr⟩ := hr
      replace hr := Option.bind_eq_some_iff.mp hr
      obtain ⟨v25, e26, hr⟩ := hr
      refine rr_callVq (as := [.int l2]) (st := []) (mc' := 0) (ms' := 0) C dX10_revenue_41 iv_X10_218 (by decide) e24 rfl (Nat.le_of_ble_eq_true rfl) (c_X7_allLines a21 l2 (by omega) e26) (fun v_ h_ n_ q_ => ?_)
      obtain ⟨q1_, q2_, q3_⟩ := q_
      subst v_; subst h_; subst n_
      show WW W0 G 4 _ _ _ 44 [some (.ref l0), some (.int l1), some (.int l2), some (.int l3)] [.long v25] v17 n _ _
      obtain rfl := Option.some.inj hr
      exact rr_lret C dX10_revenue_44 rfl ⟨rfl, rfl, rfl⟩
    · replace hr := (if_pos c13_).symm.trans hr
      refine rr_ldc2 C dX10_revenue_16 ct_X10_205 ?_
      obtain rfl := Option.some.inj hr
      exact rr_lret C dX10_revenue_19 rfl ⟨rfl, rfl, rfl⟩
def q_X10_bills (K : Nat) (h : mm_H) (n : Nat) (l0 : Nat) (l1 : Int32) (l2 : Int32) (l3 : Int32) (l4 : Int32) : Option (Int64 × mm_H) :=
  (ckq h n l0 9).bind fun u1 =>
  (q_X10_isFirmsYear K h n l0 l1 l2).bind fun v3 =>
  if v3 = 0 then
    some ((-2000000000000), h)
  else
  (q_X10_isDay K h n l3).bind fun v5 =>
  if v5 = 0 then
    some ((-2000000000000), h)
  else
  (q_X10_isWithin K h n l4 0 1).bind fun v7 =>
  if v7 = 0 then
    some ((-2000000000000), h)
  else
  (ckq h n l0 9).bind fun u9 =>
  (q_X10_openOwn K h n l0 l1 l2 l3).bind fun v11 =>
  (rdR v11 n l0 9 1).bind fun v13 =>
  v13.bind fun a15 =>
  (ckq v11 n a15 7).bind fun u17 =>
  (q_X7_fillBills K v11 n a15 l2).bind fun v19 =>
  if l4 = 0 then
    (rdR v19 n l0 9 1).bind fun v21 =>
    v21.bind fun a23 =>
    (ckq v19 n a23 7).bind fun u25 =>
    (q_X7_billsAt K v19 n a23 l2).bind fun v27 =>
    some (v27, v19)
  else
  (rdR v19 n l0 9 1).bind fun v29 =>
  v29.bind fun a31 =>
  (ckq v19 n a31 7).bind fun u33 =>
  (q_X7_carriedAt K v19 n a31 l2).bind fun v35 =>
  some (v35, v19)
set_option maxRecDepth 100000 in
set_option maxHeartbeats 4000000 in
theorem c_X10_bills {K : Nat} {G : mm_G} {l : Launch} {h : mm_H} {n : Nat} (l0 : Nat) (l1 : Int32) (l2 : Int32) (l3 : Int32) (l4 : Int32) {r_ : Int64 × mm_H} (hn : 48 ≤ n) (hr : q_X10_bills K h n l0 l1 l2 l3 l4 = some r_) : Sp G l yX10_bills cX10_bills 5 (some .long) 7 0 0 [.ref l0, .int l1, .int l2, .int l3, .int l4] h n (fun v h' n' => v = some (.long r_.1) ∧ h' = r_.2 ∧ n' = n) := by
  refine Sp_of (by decide +kernel) (Nat.le_of_ble_eq_true rfl) hn ?_
  intro W0 hwl C
  subst hwl
  unfold q_X10_bills at hr
  show WW W0 G 5 0 0 _ 0 [some (.ref l0), some (.int l1), some (.int l2), some (.int l3), some (.int l4)] [] h n 0 0
  refine rr_aload_n (i := 0) C dX10_bills_0 rfl rfl ?_
  refine rr_iload_n (i := 1) C dX10_bills_1 rfl rfl ?_
  refine rr_iload_n (i := 2) C dX10_bills_2 rfl rfl ?_
  replace hr := Option.bind_eq_some_iff.mp hr
  obtain ⟨u1, e2, hr⟩ := hr
  replace hr := Option.bind_eq_some_iff.mp hr
  obtain ⟨v3, e4, hr⟩ := hr
  refine rr_callVq (as := [.int l1, .int l2]) (st := []) (mc' := 0) (ms' := 0) C dX10_bills_3 iv_X10_68 (by decide) e2 rfl (Nat.le_of_ble_eq_true rfl) (c_X10_isFirmsYear l0 l1 l2 (by omega) e4) (fun v_ h_ n_ q_ => ?_)
  obtain ⟨q1_, q2_, q3_⟩ := q_
  subst v_; subst h_; subst n_
  show WW W0 G 5 _ _ _ 6 [some (.ref l0), some (.int l1), some (.int l2), some (.int l3), some (.int l4)] [.int v3] h n _ _
  refine rr_if_eq (tgt := 26) C dX10_bills_6 (by decide) (fun c6_ => ?_) (fun c6_ => ?_)
  · replace hr := (if_pos c6_).symm.trans hr
    refine rr_ldc2 C dX10_bills_26 ct_X10_205 ?_
    obtain rfl := Option.some.inj hr
    exact rr_lret C dX10_bills_29 rfl ⟨rfl, rfl, rfl⟩
  · replace hr := (if_neg c6_).symm.trans hr
    refine rr_iload_n (i := 3) C dX10_bills_9 rfl rfl ?_
    replace hr := Option.bind_eq_some_iff.mp hr
    obtain ⟨v5, e6, hr⟩ := hr
    refine rr_callS (as := [.int l3]) (st := []) (mc' := 0) (ms' := 0) C dX10_bills_10 it_X10_85 (by decide) (Nat.le_of_ble_eq_true rfl) (c_X10_isDay l3 (by omega) e6) (fun v_ h_ n_ q_ => ?_)
    obtain ⟨q1_, q2_, q3_⟩ := q_
    subst v_; subst h_; subst n_
    show WW W0 G 5 _ _ _ 13 [some (.ref l0), some (.int l1), some (.int l2), some (.int l3), some (.int l4)] [.int v5] h n _ _
    refine rr_if_eq (tgt := 26) C dX10_bills_13 (by decide) (fun c13_ => ?_) (fun c13_ => ?_)
    · replace hr := (if_pos c13_).symm.trans hr
      refine rr_ldc2 C dX10_bills_26 ct_X10_205 ?_
      obtain rfl := Option.some.inj hr
      exact rr_lret C dX10_bills_29 rfl ⟨rfl, rfl, rfl⟩
    · replace hr := (if_neg c13_).symm.trans hr
      refine rr_iload C dX10_bills_16 rfl ?_
      refine rr_iconst (v := 0) C dX10_bills_18 (by decide) ?_
      refine rr_iconst (v := 1) C dX10_bills_19 (by decide) ?_
      replace hr := Option.bind_eq_some_iff.mp hr
      obtain ⟨v7, e8, hr⟩ := hr
      refine rr_callS (as := [.int l4, .int 0, .int 1]) (st := []) (mc' := 0) (ms' := 0) C dX10_bills_20 it_X10_60 (by decide) (Nat.le_of_ble_eq_true rfl) (c_X10_isWithin l4 0 1 (by omega) e8) (fun v_ h_ n_ q_ => ?_)
      obtain ⟨q1_, q2_, q3_⟩ := q_
      subst v_; subst h_; subst n_
      show WW W0 G 5 _ _ _ 23 [some (.ref l0), some (.int l1), some (.int l2), some (.int l3), some (.int l4)] [.int v7] h n _ _
      refine rr_if_ne (tgt := 30) C dX10_bills_23 (by decide) (fun c23_ => ?_) (fun c23_ => ?_)
      · replace hr := (if_neg c23_).symm.trans hr
        refine rr_aload_n (i := 0) C dX10_bills_30 rfl rfl ?_
        refine rr_iload_n (i := 1) C dX10_bills_31 rfl rfl ?_
        refine rr_iload_n (i := 2) C dX10_bills_32 rfl rfl ?_
        refine rr_iload_n (i := 3) C dX10_bills_33 rfl rfl ?_
        replace hr := Option.bind_eq_some_iff.mp hr
        obtain ⟨u9, e10, hr⟩ := hr
        replace hr := Option.bind_eq_some_iff.mp hr
        obtain ⟨v11, e12, hr⟩ := hr
        refine rr_callVq (as := [.int l1, .int l2, .int l3]) (st := []) (mc' := 0) (ms' := 0) C dX10_bills_34 iv_X10_170 (by decide) e10 rfl (Nat.le_of_ble_eq_true rfl) (c_X10_openOwn l0 l1 l2 l3 (by omega) e12) (fun v_ h_ n_ q_ => ?_)
        obtain ⟨q1_, q2_, q3_⟩ := q_
        subst v_; subst h_; subst n_
        show WW W0 G 5 _ _ _ 37 [some (.ref l0), some (.int l1), some (.int l2), some (.int l3), some (.int l4)] [] v11 n _ _
        refine rr_aload_n (i := 0) C dX10_bills_37 rfl rfl ?_
        replace hr := Option.bind_eq_some_iff.mp hr
        obtain ⟨v13, e14, hr⟩ := hr
        refine rr_rdR C dX10_bills_38 fl_X10_21 e14 ?_
        refine rr_iload_n (i := 2) C dX10_bills_41 rfl rfl ?_
        replace hr := Option.bind_eq_some_iff.mp hr
        obtain ⟨a15, e16, hr⟩ := hr
        subst e16
        replace hr := Option.bind_eq_some_iff.mp hr
        obtain ⟨u17, e18, hr⟩ := hr
        replace hr := Option.bind_eq_some_iff.mp hr
        obtain ⟨v19, e20, hr⟩ := hr
        refine rr_callVq (as := [.int l2]) (st := []) (mc' := 0) (ms' := 0) C dX10_bills_42 iv_X10_221 (by decide) e18 rfl (Nat.le_of_ble_eq_true rfl) (c_X7_fillBills a15 l2 (by omega) e20) (fun v_ h_ n_ q_ => ?_)
        obtain ⟨q1_, q2_, q3_⟩ := q_
        subst v_; subst h_; subst n_
        show WW W0 G 5 _ _ _ 45 [some (.ref l0), some (.int l1), some (.int l2), some (.int l3), some (.int l4)] [] v19 n _ _
        refine rr_iload C dX10_bills_45 rfl ?_
        refine rr_if_ne (tgt := 61) C dX10_bills_47 (by decide) (fun c47_ => ?_) (fun c47_ => ?_)
        · replace hr := (if_neg c47_).symm.trans hr
          refine rr_aload_n (i := 0) C dX10_bills_61 rfl rfl ?_
          replace hr := Option.bind_eq_some_iff.mp hr
          obtain ⟨v29, e30, hr⟩ := hr
          refine rr_rdR C dX10_bills_62 fl_X10_21 e30 ?_
          refine rr_iload_n (i := 2) C dX10_bills_65 rfl rfl ?_
          replace hr := Option.bind_eq_some_iff.mp hr
          obtain ⟨a31, e32, hr⟩ := hr
          subst e32
          replace hr := Option.bind_eq_some_iff.mp hr
          obtain ⟨u33, e34, hr⟩ := hr
          replace hr := Option.bind_eq_some_iff.mp hr
          obtain ⟨v35, e36, hr⟩ := hr
          refine rr_callVq (as := [.int l2]) (st := []) (mc' := 0) (ms' := 0) C dX10_bills_66 iv_X10_227 (by decide) e34 rfl (Nat.le_of_ble_eq_true rfl) (c_X7_carriedAt a31 l2 (by omega) e36) (fun v_ h_ n_ q_ => ?_)
          obtain ⟨q1_, q2_, q3_⟩ := q_
          subst v_; subst h_; subst n_
          show WW W0 G 5 _ _ _ 69 [some (.ref l0), some (.int l1), some (.int l2), some (.int l3), some (.int l4)] [.long v35] v19 n _ _
          obtain rfl := Option.some.inj hr
          exact rr_lret C dX10_bills_69 rfl ⟨rfl, rfl, rfl⟩
        · replace hr := (if_pos c47_).symm.trans hr
          refine rr_aload_n (i := 0) C dX10_bills_50 rfl rfl ?_
          replace hr := Option.bind_eq_some_iff.mp hr
          obtain ⟨v21, e22, hr⟩ := hr
          refine rr_rdR C dX10_bills_51 fl_X10_21 e22 ?_
          refine rr_iload_n (i := 2) C dX10_bills_54 rfl rfl ?_
          replace hr := Option.bind_eq_some_iff.mp hr
          obtain ⟨a23, e24, hr⟩ := hr
          subst e24
          replace hr := Option.bind_eq_some_iff.mp hr
          obtain ⟨u25, e26, hr⟩ := hr
          replace hr := Option.bind_eq_some_iff.mp hr
          obtain ⟨v27, e28, hr⟩ := hr
          refine rr_callVq (as := [.int l2]) (st := []) (mc' := 0) (ms' := 0) C dX10_bills_55 iv_X10_224 (by decide) e26 rfl (Nat.le_of_ble_eq_true rfl) (c_X7_billsAt a23 l2 (by omega) e28) (fun v_ h_ n_ q_ => ?_)
          obtain ⟨q1_, q2_, q3_⟩ := q_
          subst v_; subst h_; subst n_
          show WW W0 G 5 _ _ _ 58 [some (.ref l0), some (.int l1), some (.int l2), some (.int l3), some (.int l4)] [.long v27] v19 n _ _
          refine rr_goto (tgt := 69) C dX10_bills_58 (by decide) ?_
          obtain rfl := Option.some.inj hr
          exact rr_lret C dX10_bills_69 rfl ⟨rfl, rfl, rfl⟩
      · replace hr := (if_pos c23_).symm.trans hr
        refine rr_ldc2 C dX10_bills_26 ct_X10_205 ?_
        obtain rfl := Option.some.inj hr
        exact rr_lret C dX10_bills_29 rfl ⟨rfl, rfl, rfl⟩
def lp_X10_home_83 (K : Nat) (h : mm_H) (n : Nat) (l0 : Nat) (l1 : Int32) (l2 : Int32) (l3 : Int32) (l5 : Int64) : Nat → Int64 → Int32 → Option (Int64)
  | 0, _, _ => none
  | k_ + 1, l7, l9 =>
    if 3 ≤ l9 then
      some (l7)
    else
    (rdR h n l0 9 0).bind fun v29 =>
    v29.bind fun a31 =>
    (ckq h n a31 4).bind fun u33 =>
    (q_X4_partOf K h n a31 l5 l9 l1 l2 l3).bind fun v35 =>
    (rdR h n l0 9 0).bind fun v37 =>
    v37.bind fun a39 =>
    (ckq h n a39 4).bind fun u41 =>
    (q_X4_homesOf K h n a39 l9 l1 l2 l3).bind fun v43 =>
    lp_X10_home_83 K h n l0 l1 l2 l3 l5 k_ (l7 - (v35 * (Int32.toInt64 v43))) (l9 + 1)
def q_X10_home (K : Nat) (h : mm_H) (n : Nat) (l0 : Nat) (l1 : Int32) (l2 : Int32) (l3 : Int32) (l4 : Int32) : Option (Int64 × mm_H) :=
  (ckq h n l0 9).bind fun u1 =>
  (q_X10_isFirmsYear K h n l0 l1 l2).bind fun v3 =>
  if v3 = 0 then
    some ((-2000000000000), h)
  else
  (q_X10_isDay K h n l3).bind fun v5 =>
  if v5 = 0 then
    some ((-2000000000000), h)
  else
  (q_X10_isWithin K h n l4 0 3).bind fun v7 =>
  if v7 = 0 then
    some ((-2000000000000), h)
  else
  (ckq h n l0 9).bind fun u9 =>
  (q_X10_openOwn K h n l0 l1 l2 l3).bind fun v11 =>
  (rdR v11 n l0 9 1).bind fun v13 =>
  v13.bind fun a15 =>
  (ckq v11 n a15 7).bind fun u17 =>
  (q_X7_fillBills K v11 n a15 l2).bind fun v19 =>
  (rdR v19 n l0 9 1).bind fun v21 =>
  v21.bind fun a23 =>
  (ckq v19 n a23 7).bind fun u25 =>
  (q_X7_billsAt K v19 n a23 l2).bind fun v27 =>
  if 3 ≤ l4 then
    (lp_X10_home_83 K v19 n l0 l1 l2 l3 v27 K v27 0).bind fun v46 =>
    some (v46, v19)
  else
  (rdR v19 n l0 9 0).bind fun v48 =>
  v48.bind fun a50 =>
  (ckq v19 n a50 4).bind fun u52 =>
  (q_X4_partOf K v19 n a50 v27 l4 l1 l2 l3).bind fun v54 =>
  some (v54, v19)
set_option maxRecDepth 100000 in
set_option maxHeartbeats 4000000 in
theorem w_X10_home_83 {K : Nat} {W0 : mm_X} {G : mm_G} {mc ms kc ks : Nat} {Q_ : State → Prop} {h : mm_H} {n : Nat} (C : mm_C W0 G cX10_home yX10_home.cls 12 mc ms (some .long) 7 yX10_home.name) (hn : 48 ≤ n) (l0 : Nat) (l1 : Int32) (l2 : Int32) (l3 : Int32) (l5 : Int64) : ∀ (k_ : Nat) (l7 : Int64) (l9 : Int32) {r_ : Int64} (hr : lp_X10_home_83 K h n l0 l1 l2 l3 l5 k_ l7 l9 = some r_) (hx0 : WW W0 G 12 mc ms Q_ 132 [none, none, none, none, none, none, none, some (.long r_), none, none, none, none] [] h n kc ks), WW W0 G 12 mc ms Q_ 83 [some (.ref l0), some (.int l1), some (.int l2), some (.int l3), none, some (.long l5), none, some (.long l7), none, some (.int l9), none, none] [] h n kc ks := by
  intro k_
  induction k_ with
  | zero =>
    intro l7 l9 r_ hr
    cases hr
  | succ k_ ih_ =>
    intro l7 l9 r_ hr hx0
    unfold lp_X10_home_83 at hr
    refine rr_iload C dX10_home_83 rfl ?_
    refine rr_iconst (v := 3) C dX10_home_85 (by decide) ?_
    refine rr_icmp_ge (tgt := 132) C dX10_home_86 (by decide) (fun c86_ => ?_) (fun c86_ => ?_)
    · replace hr := (if_pos c86_).symm.trans hr
      obtain rfl := Option.some.inj hr
      exact rr_keep [false, false, false, false, false, false, false, true, false, false, false, false] (hx0)
    · replace hr := (if_neg c86_).symm.trans hr
      refine rr_aload_n (i := 0) C dX10_home_89 rfl rfl ?_
      replace hr := Option.bind_eq_some_iff.mp hr
      obtain ⟨v29, e30, hr⟩ := hr
      refine rr_rdR C dX10_home_90 fl_X10_12 e30 ?_
      refine rr_lload C dX10_home_93 rfl ?_
      refine rr_iload C dX10_home_95 rfl ?_
      refine rr_iload_n (i := 1) C dX10_home_97 rfl rfl ?_
      refine rr_iload_n (i := 2) C dX10_home_98 rfl rfl ?_
      refine rr_iload_n (i := 3) C dX10_home_99 rfl rfl ?_
      replace hr := Option.bind_eq_some_iff.mp hr
      obtain ⟨a31, e32, hr⟩ := hr
      subst e32
      replace hr := Option.bind_eq_some_iff.mp hr
      obtain ⟨u33, e34, hr⟩ := hr
      replace hr := Option.bind_eq_some_iff.mp hr
      obtain ⟨v35, e36, hr⟩ := hr
      refine rr_callVq (as := [.long l5, .int l9, .int l1, .int l2, .int l3]) (st := []) (mc' := 0) (ms' := 0) C dX10_home_100 iv_X10_230 (by decide) e34 rfl (Nat.le_of_ble_eq_true rfl) (c_X4_partOf a31 l5 l9 l1 l2 l3 (by omega) e36) (fun v_ h_ n_ q_ => ?_)
      obtain ⟨q1_, q2_, q3_⟩ := q_
      subst v_; subst h_; subst n_
      show WW W0 G 12 _ _ _ 103 [some (.ref l0), some (.int l1), some (.int l2), some (.int l3), none, some (.long l5), none, some (.long l7), none, some (.int l9), none, none] [.long v35] h n _ _
      refine rr_lstore C dX10_home_103 (by decide) ?_
      show WW W0 G 12 _ _ _ 105 [some (.ref l0), some (.int l1), some (.int l2), some (.int l3), none, some (.long l5), none, some (.long l7), none, some (.int l9), some (.long v35), none] [] h n _ _
      refine rr_lload C dX10_home_105 rfl ?_
      refine rr_lload C dX10_home_107 rfl ?_
      refine rr_aload_n (i := 0) C dX10_home_109 rfl rfl ?_
      replace hr := Option.bind_eq_some_iff.mp hr
      obtain ⟨v37, e38, hr⟩ := hr
      refine rr_rdR C dX10_home_110 fl_X10_12 e38 ?_
      refine rr_iload C dX10_home_113 rfl ?_
      refine rr_iload_n (i := 1) C dX10_home_115 rfl rfl ?_
      refine rr_iload_n (i := 2) C dX10_home_116 rfl rfl ?_
      refine rr_iload_n (i := 3) C dX10_home_117 rfl rfl ?_
      replace hr := Option.bind_eq_some_iff.mp hr
      obtain ⟨a39, e40, hr⟩ := hr
      subst e40
      replace hr := Option.bind_eq_some_iff.mp hr
      obtain ⟨u41, e42, hr⟩ := hr
      replace hr := Option.bind_eq_some_iff.mp hr
      obtain ⟨v43, e44, hr⟩ := hr
      refine rr_callVq (as := [.int l9, .int l1, .int l2, .int l3]) (st := [.long v35, .long l7]) (mc' := 0) (ms' := 0) C dX10_home_118 iv_X10_234 (by decide) e42 rfl (Nat.le_of_ble_eq_true rfl) (c_X4_homesOf a39 l9 l1 l2 l3 (by omega) e44) (fun v_ h_ n_ q_ => ?_)
      obtain ⟨q1_, q2_, q3_⟩ := q_
      subst v_; subst h_; subst n_
      show WW W0 G 12 _ _ _ 121 [some (.ref l0), some (.int l1), some (.int l2), some (.int l3), none, some (.long l5), none, some (.long l7), none, some (.int l9), some (.long v35), none] [.int v43, .long v35, .long l7] h n _ _
      refine rr_i2l C dX10_home_121 ?_
      refine rr_lmul C dX10_home_122 ?_
      refine rr_lsub C dX10_home_123 ?_
      refine rr_lstore C dX10_home_124 (by decide) ?_
      show WW W0 G 12 _ _ _ 126 [some (.ref l0), some (.int l1), some (.int l2), some (.int l3), none, some (.long l5), none, some (.long (l7 - (v35 * (Int32.toInt64 v43)))), none, some (.int l9), some (.long v35), none] [] h n _ _
      refine rr_iinc (v := l9 + 1) C dX10_home_126 rfl rfl ?_
      show WW W0 G 12 _ _ _ 129 [some (.ref l0), some (.int l1), some (.int l2), some (.int l3), none, some (.long l5), none, some (.long (l7 - (v35 * (Int32.toInt64 v43)))), none, some (.int (l9 + 1)), some (.long v35), none] [] h n _ _
      refine rr_goto (tgt := 83) C dX10_home_129 (by decide) ?_
      exact rr_keep [true, true, true, true, false, true, false, true, false, true, false, false] (ih_ _ _ hr hx0)
set_option maxRecDepth 100000 in
set_option maxHeartbeats 4000000 in
theorem c_X10_home {K : Nat} {G : mm_G} {l : Launch} {h : mm_H} {n : Nat} (l0 : Nat) (l1 : Int32) (l2 : Int32) (l3 : Int32) (l4 : Int32) {r_ : Int64 × mm_H} (hn : 48 ≤ n) (hr : q_X10_home K h n l0 l1 l2 l3 l4 = some r_) : Sp G l yX10_home cX10_home 12 (some .long) 7 0 0 [.ref l0, .int l1, .int l2, .int l3, .int l4] h n (fun v h' n' => v = some (.long r_.1) ∧ h' = r_.2 ∧ n' = n) := by
  refine Sp_of (by decide +kernel) (Nat.le_of_ble_eq_true rfl) hn ?_
  intro W0 hwl C
  subst hwl
  unfold q_X10_home at hr
  show WW W0 G 12 0 0 _ 0 [some (.ref l0), some (.int l1), some (.int l2), some (.int l3), some (.int l4), none, none, none, none, none, none, none] [] h n 0 0
  refine rr_aload_n (i := 0) C dX10_home_0 rfl rfl ?_
  refine rr_iload_n (i := 1) C dX10_home_1 rfl rfl ?_
  refine rr_iload_n (i := 2) C dX10_home_2 rfl rfl ?_
  replace hr := Option.bind_eq_some_iff.mp hr
  obtain ⟨u1, e2, hr⟩ := hr
  replace hr := Option.bind_eq_some_iff.mp hr
  obtain ⟨v3, e4, hr⟩ := hr
  refine rr_callVq (as := [.int l1, .int l2]) (st := []) (mc' := 0) (ms' := 0) C dX10_home_3 iv_X10_68 (by decide) e2 rfl (Nat.le_of_ble_eq_true rfl) (c_X10_isFirmsYear l0 l1 l2 (by omega) e4) (fun v_ h_ n_ q_ => ?_)
  obtain ⟨q1_, q2_, q3_⟩ := q_
  subst v_; subst h_; subst n_
  show WW W0 G 12 _ _ _ 6 [some (.ref l0), some (.int l1), some (.int l2), some (.int l3), some (.int l4), none, none, none, none, none, none, none] [.int v3] h n _ _
  refine rr_if_eq (tgt := 26) C dX10_home_6 (by decide) (fun c6_ => ?_) (fun c6_ => ?_)
  · replace hr := (if_pos c6_).symm.trans hr
    refine rr_ldc2 C dX10_home_26 ct_X10_205 ?_
    obtain rfl := Option.some.inj hr
    exact rr_lret C dX10_home_29 rfl ⟨rfl, rfl, rfl⟩
  · replace hr := (if_neg c6_).symm.trans hr
    refine rr_iload_n (i := 3) C dX10_home_9 rfl rfl ?_
    replace hr := Option.bind_eq_some_iff.mp hr
    obtain ⟨v5, e6, hr⟩ := hr
    refine rr_callS (as := [.int l3]) (st := []) (mc' := 0) (ms' := 0) C dX10_home_10 it_X10_85 (by decide) (Nat.le_of_ble_eq_true rfl) (c_X10_isDay l3 (by omega) e6) (fun v_ h_ n_ q_ => ?_)
    obtain ⟨q1_, q2_, q3_⟩ := q_
    subst v_; subst h_; subst n_
    show WW W0 G 12 _ _ _ 13 [some (.ref l0), some (.int l1), some (.int l2), some (.int l3), some (.int l4), none, none, none, none, none, none, none] [.int v5] h n _ _
    refine rr_if_eq (tgt := 26) C dX10_home_13 (by decide) (fun c13_ => ?_) (fun c13_ => ?_)
    · replace hr := (if_pos c13_).symm.trans hr
      refine rr_ldc2 C dX10_home_26 ct_X10_205 ?_
      obtain rfl := Option.some.inj hr
      exact rr_lret C dX10_home_29 rfl ⟨rfl, rfl, rfl⟩
    · replace hr := (if_neg c13_).symm.trans hr
      refine rr_iload C dX10_home_16 rfl ?_
      refine rr_iconst (v := 0) C dX10_home_18 (by decide) ?_
      refine rr_iconst (v := 3) C dX10_home_19 (by decide) ?_
      replace hr := Option.bind_eq_some_iff.mp hr
      obtain ⟨v7, e8, hr⟩ := hr
      refine rr_callS (as := [.int l4, .int 0, .int 3]) (st := []) (mc' := 0) (ms' := 0) C dX10_home_20 it_X10_60 (by decide) (Nat.le_of_ble_eq_true rfl) (c_X10_isWithin l4 0 3 (by omega) e8) (fun v_ h_ n_ q_ => ?_)
      obtain ⟨q1_, q2_, q3_⟩ := q_
      subst v_; subst h_; subst n_
      show WW W0 G 12 _ _ _ 23 [some (.ref l0), some (.int l1), some (.int l2), some (.int l3), some (.int l4), none, none, none, none, none, none, none] [.int v7] h n _ _
      refine rr_if_ne (tgt := 30) C dX10_home_23 (by decide) (fun c23_ => ?_) (fun c23_ => ?_)
      · replace hr := (if_neg c23_).symm.trans hr
        refine rr_aload_n (i := 0) C dX10_home_30 rfl rfl ?_
        refine rr_iload_n (i := 1) C dX10_home_31 rfl rfl ?_
        refine rr_iload_n (i := 2) C dX10_home_32 rfl rfl ?_
        refine rr_iload_n (i := 3) C dX10_home_33 rfl rfl ?_
        replace hr := Option.bind_eq_some_iff.mp hr
        obtain ⟨u9, e10, hr⟩ := hr
        replace hr := Option.bind_eq_some_iff.mp hr
        obtain ⟨v11, e12, hr⟩ := hr
        refine rr_callVq (as := [.int l1, .int l2, .int l3]) (st := []) (mc' := 0) (ms' := 0) C dX10_home_34 iv_X10_170 (by decide) e10 rfl (Nat.le_of_ble_eq_true rfl) (c_X10_openOwn l0 l1 l2 l3 (by omega) e12) (fun v_ h_ n_ q_ => ?_)
        obtain ⟨q1_, q2_, q3_⟩ := q_
        subst v_; subst h_; subst n_
        show WW W0 G 12 _ _ _ 37 [some (.ref l0), some (.int l1), some (.int l2), some (.int l3), some (.int l4), none, none, none, none, none, none, none] [] v11 n _ _
        refine rr_aload_n (i := 0) C dX10_home_37 rfl rfl ?_
        replace hr := Option.bind_eq_some_iff.mp hr
        obtain ⟨v13, e14, hr⟩ := hr
        refine rr_rdR C dX10_home_38 fl_X10_21 e14 ?_
        refine rr_iload_n (i := 2) C dX10_home_41 rfl rfl ?_
        replace hr := Option.bind_eq_some_iff.mp hr
        obtain ⟨a15, e16, hr⟩ := hr
        subst e16
        replace hr := Option.bind_eq_some_iff.mp hr
        obtain ⟨u17, e18, hr⟩ := hr
        replace hr := Option.bind_eq_some_iff.mp hr
        obtain ⟨v19, e20, hr⟩ := hr
        refine rr_callVq (as := [.int l2]) (st := []) (mc' := 0) (ms' := 0) C dX10_home_42 iv_X10_221 (by decide) e18 rfl (Nat.le_of_ble_eq_true rfl) (c_X7_fillBills a15 l2 (by omega) e20) (fun v_ h_ n_ q_ => ?_)
        obtain ⟨q1_, q2_, q3_⟩ := q_
        subst v_; subst h_; subst n_
        show WW W0 G 12 _ _ _ 45 [some (.ref l0), some (.int l1), some (.int l2), some (.int l3), some (.int l4), none, none, none, none, none, none, none] [] v19 n _ _
        refine rr_aload_n (i := 0) C dX10_home_45 rfl rfl ?_
        replace hr := Option.bind_eq_some_iff.mp hr
        obtain ⟨v21, e22, hr⟩ := hr
        refine rr_rdR C dX10_home_46 fl_X10_21 e22 ?_
        refine rr_iload_n (i := 2) C dX10_home_49 rfl rfl ?_
        replace hr := Option.bind_eq_some_iff.mp hr
        obtain ⟨a23, e24, hr⟩ := hr
        subst e24
        replace hr := Option.bind_eq_some_iff.mp hr
        obtain ⟨u25, e26, hr⟩ := hr
        replace hr := Option.bind_eq_some_iff.mp hr
        obtain ⟨v27, e28, hr⟩ := hr
        refine rr_callVq (as := [.int l2]) (st := []) (mc' := 0) (ms' := 0) C dX10_home_50 iv_X10_224 (by decide) e26 rfl (Nat.le_of_ble_eq_true rfl) (c_X7_billsAt a23 l2 (by omega) e28) (fun v_ h_ n_ q_ => ?_)
        obtain ⟨q1_, q2_, q3_⟩ := q_
        subst v_; subst h_; subst n_
        show WW W0 G 12 _ _ _ 53 [some (.ref l0), some (.int l1), some (.int l2), some (.int l3), some (.int l4), none, none, none, none, none, none, none] [.long v27] v19 n _ _
        refine rr_lstore C dX10_home_53 (by decide) ?_
        show WW W0 G 12 _ _ _ 55 [some (.ref l0), some (.int l1), some (.int l2), some (.int l3), some (.int l4), some (.long v27), none, none, none, none, none, none] [] v19 n _ _
        refine rr_iload C dX10_home_55 rfl ?_
        refine rr_iconst (v := 3) C dX10_home_57 (by decide) ?_
        refine rr_icmp_ge (tgt := 76) C dX10_home_58 (by decide) (fun c58_ => ?_) (fun c58_ => ?_)
        · replace hr := (if_pos c58_).symm.trans hr
          refine rr_lload C dX10_home_76 rfl ?_
          refine rr_lstore C dX10_home_78 (by decide) ?_
          show WW W0 G 12 _ _ _ 80 [some (.ref l0), some (.int l1), some (.int l2), some (.int l3), some (.int l4), some (.long v27), none, some (.long v27), none, none, none, none] [] v19 n _ _
          refine rr_iconst (v := 0) C dX10_home_80 (by decide) ?_
          refine rr_istore C dX10_home_81 (by decide) ?_
          show WW W0 G 12 _ _ _ 83 [some (.ref l0), some (.int l1), some (.int l2), some (.int l3), some (.int l4), some (.long v27), none, some (.long v27), none, some (.int 0), none, none] [] v19 n _ _
          replace hr := Option.bind_eq_some_iff.mp hr
          obtain ⟨v46, e47, hr⟩ := hr
          refine rr_keep [true, true, true, true, false, true, false, true, false, true, false, false] (w_X10_home_83 C (by omega) l0 l1 l2 l3 v27 K v27 0 e47 ?_)
          show WW W0 G 12 _ _ _ 132 [none, none, none, none, none, none, none, some (.long v46), none, none, none, none] [] v19 n _ _
          refine rr_lload C dX10_home_132 rfl ?_
          obtain rfl := Option.some.inj hr
          exact rr_lret C dX10_home_134 rfl ⟨rfl, rfl, rfl⟩
        · replace hr := (if_neg c58_).symm.trans hr
          refine rr_aload_n (i := 0) C dX10_home_61 rfl rfl ?_
          replace hr := Option.bind_eq_some_iff.mp hr
          obtain ⟨v48, e49, hr⟩ := hr
          refine rr_rdR C dX10_home_62 fl_X10_12 e49 ?_
          refine rr_lload C dX10_home_65 rfl ?_
          refine rr_iload C dX10_home_67 rfl ?_
          refine rr_iload_n (i := 1) C dX10_home_69 rfl rfl ?_
          refine rr_iload_n (i := 2) C dX10_home_70 rfl rfl ?_
          refine rr_iload_n (i := 3) C dX10_home_71 rfl rfl ?_
          replace hr := Option.bind_eq_some_iff.mp hr
          obtain ⟨a50, e51, hr⟩ := hr
          subst e51
          replace hr := Option.bind_eq_some_iff.mp hr
          obtain ⟨u52, e53, hr⟩ := hr
          replace hr := Option.bind_eq_some_iff.mp hr
          obtain ⟨v54, e55, hr⟩ := hr
          refine rr_callVq (as := [.long v27, .int l4, .int l1, .int l2, .int l3]) (st := []) (mc' := 0) (ms' := 0) C dX10_home_72 iv_X10_230 (by decide) e53 rfl (Nat.le_of_ble_eq_true rfl) (c_X4_partOf a50 v27 l4 l1 l2 l3 (by omega) e55) (fun v_ h_ n_ q_ => ?_)
          obtain ⟨q1_, q2_, q3_⟩ := q_
          subst v_; subst h_; subst n_
          show WW W0 G 12 _ _ _ 75 [some (.ref l0), some (.int l1), some (.int l2), some (.int l3), some (.int l4), some (.long v27), none, none, none, none, none, none] [.long v54] v19 n _ _
          obtain rfl := Option.some.inj hr
          exact rr_lret C dX10_home_75 rfl ⟨rfl, rfl, rfl⟩
      · replace hr := (if_pos c23_).symm.trans hr
        refine rr_ldc2 C dX10_home_26 ct_X10_205 ?_
        obtain rfl := Option.some.inj hr
        exact rr_lret C dX10_home_29 rfl ⟨rfl, rfl, rfl⟩
def q_X10_who (K : Nat) (h : mm_H) (n : Nat) (l0 : Nat) (l1 : Int32) (l2 : Int32) (l3 : Int32) (l4 : Int32) (l5 : Int32) : Option (Int64 × mm_H) :=
  (ckq h n l0 9).bind fun u1 =>
  (q_X10_isFirmsYear K h n l0 l1 l2).bind fun v3 =>
  if v3 = 0 then
    some ((-2000000000000), h)
  else
  (q_X10_isDay K h n l3).bind fun v5 =>
  if v5 = 0 then
    some ((-2000000000000), h)
  else
  (q_X10_isWithin K h n l4 0 2).bind fun v7 =>
  if v7 = 0 then
    some ((-2000000000000), h)
  else
  (q_X10_isWithin K h n l5 0 14).bind fun v9 =>
  if v9 = 0 then
    some ((-2000000000000), h)
  else
  (ckq h n l0 9).bind fun u11 =>
  (q_X10_openOwn K h n l0 l1 l2 l3).bind fun v13 =>
  (rdR v13 n l0 9 1).bind fun v15 =>
  v15.bind fun a17 =>
  (ckq v13 n a17 7).bind fun u19 =>
  (q_X7_fillLines K v13 n a17 l2 l2).bind fun v21 =>
  (rdR v21 n l0 9 0).bind fun v23 =>
  (rdR v21 n l0 9 1).bind fun v25 =>
  v25.bind fun a27 =>
  (ckq v21 n a27 7).bind fun u29 =>
  (q_X7_lineAt K v21 n a27 l2 l5).bind fun v31 =>
  v23.bind fun a33 =>
  (ckq v21 n a33 4).bind fun u35 =>
  (q_X4_partOf K v21 n a33 v31 l4 l1 l2 l3).bind fun v37 =>
  some (v37, v21)
set_option maxRecDepth 100000 in
set_option maxHeartbeats 4000000 in
theorem c_X10_who {K : Nat} {G : mm_G} {l : Launch} {h : mm_H} {n : Nat} (l0 : Nat) (l1 : Int32) (l2 : Int32) (l3 : Int32) (l4 : Int32) (l5 : Int32) {r_ : Int64 × mm_H} (hn : 48 ≤ n) (hr : q_X10_who K h n l0 l1 l2 l3 l4 l5 = some r_) : Sp G l yX10_who cX10_who 6 (some .long) 7 0 0 [.ref l0, .int l1, .int l2, .int l3, .int l4, .int l5] h n (fun v h' n' => v = some (.long r_.1) ∧ h' = r_.2 ∧ n' = n) := by
  refine Sp_of (by decide +kernel) (Nat.le_of_ble_eq_true rfl) hn ?_
  intro W0 hwl C
  subst hwl
  unfold q_X10_who at hr
  show WW W0 G 6 0 0 _ 0 [some (.ref l0), some (.int l1), some (.int l2), some (.int l3), some (.int l4), some (.int l5)] [] h n 0 0
  refine rr_aload_n (i := 0) C dX10_who_0 rfl rfl ?_
  refine rr_iload_n (i := 1) C dX10_who_1 rfl rfl ?_
  refine rr_iload_n (i := 2) C dX10_who_2 rfl rfl ?_
  replace hr := Option.bind_eq_some_iff.mp hr
  obtain ⟨u1, e2, hr⟩ := hr
  replace hr := Option.bind_eq_some_iff.mp hr
  obtain ⟨v3, e4, hr⟩ := hr
  refine rr_callVq (as := [.int l1, .int l2]) (st := []) (mc' := 0) (ms' := 0) C dX10_who_3 iv_X10_68 (by decide) e2 rfl (Nat.le_of_ble_eq_true rfl) (c_X10_isFirmsYear l0 l1 l2 (by omega) e4) (fun v_ h_ n_ q_ => ?_)
  obtain ⟨q1_, q2_, q3_⟩ := q_
  subst v_; subst h_; subst n_
  show WW W0 G 6 _ _ _ 6 [some (.ref l0), some (.int l1), some (.int l2), some (.int l3), some (.int l4), some (.int l5)] [.int v3] h n _ _
  refine rr_if_eq (tgt := 37) C dX10_who_6 (by decide) (fun c6_ => ?_) (fun c6_ => ?_)
  · replace hr := (if_pos c6_).symm.trans hr
    refine rr_ldc2 C dX10_who_37 ct_X10_205 ?_
    obtain rfl := Option.some.inj hr
    exact rr_lret C dX10_who_40 rfl ⟨rfl, rfl, rfl⟩
  · replace hr := (if_neg c6_).symm.trans hr
    refine rr_iload_n (i := 3) C dX10_who_9 rfl rfl ?_
    replace hr := Option.bind_eq_some_iff.mp hr
    obtain ⟨v5, e6, hr⟩ := hr
    refine rr_callS (as := [.int l3]) (st := []) (mc' := 0) (ms' := 0) C dX10_who_10 it_X10_85 (by decide) (Nat.le_of_ble_eq_true rfl) (c_X10_isDay l3 (by omega) e6) (fun v_ h_ n_ q_ => ?_)
    obtain ⟨q1_, q2_, q3_⟩ := q_
    subst v_; subst h_; subst n_
    show WW W0 G 6 _ _ _ 13 [some (.ref l0), some (.int l1), some (.int l2), some (.int l3), some (.int l4), some (.int l5)] [.int v5] h n _ _
    refine rr_if_eq (tgt := 37) C dX10_who_13 (by decide) (fun c13_ => ?_) (fun c13_ => ?_)
    · replace hr := (if_pos c13_).symm.trans hr
      refine rr_ldc2 C dX10_who_37 ct_X10_205 ?_
      obtain rfl := Option.some.inj hr
      exact rr_lret C dX10_who_40 rfl ⟨rfl, rfl, rfl⟩
    · replace hr := (if_neg c13_).symm.trans hr
      refine rr_iload C dX10_who_16 rfl ?_
      refine rr_iconst (v := 0) C dX10_who_18 (by decide) ?_
      refine rr_iconst (v := 2) C dX10_who_19 (by decide) ?_
      replace hr := Option.bind_eq_some_iff.mp hr
      obtain ⟨v7, e8, hr⟩ := hr
      refine rr_callS (as := [.int l4, .int 0, .int 2]) (st := []) (mc' := 0) (ms' := 0) C dX10_who_20 it_X10_60 (by decide) (Nat.le_of_ble_eq_true rfl) (c_X10_isWithin l4 0 2 (by omega) e8) (fun v_ h_ n_ q_ => ?_)
      obtain ⟨q1_, q2_, q3_⟩ := q_
      subst v_; subst h_; subst n_
      show WW W0 G 6 _ _ _ 23 [some (.ref l0), some (.int l1), some (.int l2), some (.int l3), some (.int l4), some (.int l5)] [.int v7] h n _ _
      refine rr_if_eq (tgt := 37) C dX10_who_23 (by decide) (fun c23_ => ?_) (fun c23_ => ?_)
      · replace hr := (if_pos c23_).symm.trans hr
        refine rr_ldc2 C dX10_who_37 ct_X10_205 ?_
        obtain rfl := Option.some.inj hr
        exact rr_lret C dX10_who_40 rfl ⟨rfl, rfl, rfl⟩
      · replace hr := (if_neg c23_).symm.trans hr
        refine rr_iload C dX10_who_26 rfl ?_
        refine rr_iconst (v := 0) C dX10_who_28 (by decide) ?_
        refine rr_bipush (v := 14) C dX10_who_29 (by decide) ?_
        replace hr := Option.bind_eq_some_iff.mp hr
        obtain ⟨v9, e10, hr⟩ := hr
        refine rr_callS (as := [.int l5, .int 0, .int 14]) (st := []) (mc' := 0) (ms' := 0) C dX10_who_31 it_X10_60 (by decide) (Nat.le_of_ble_eq_true rfl) (c_X10_isWithin l5 0 14 (by omega) e10) (fun v_ h_ n_ q_ => ?_)
        obtain ⟨q1_, q2_, q3_⟩ := q_
        subst v_; subst h_; subst n_
        show WW W0 G 6 _ _ _ 34 [some (.ref l0), some (.int l1), some (.int l2), some (.int l3), some (.int l4), some (.int l5)] [.int v9] h n _ _
        refine rr_if_ne (tgt := 41) C dX10_who_34 (by decide) (fun c34_ => ?_) (fun c34_ => ?_)
        · replace hr := (if_neg c34_).symm.trans hr
          refine rr_aload_n (i := 0) C dX10_who_41 rfl rfl ?_
          refine rr_iload_n (i := 1) C dX10_who_42 rfl rfl ?_
          refine rr_iload_n (i := 2) C dX10_who_43 rfl rfl ?_
          refine rr_iload_n (i := 3) C dX10_who_44 rfl rfl ?_
          replace hr := Option.bind_eq_some_iff.mp hr
          obtain ⟨u11, e12, hr⟩ := hr
          replace hr := Option.bind_eq_some_iff.mp hr
          obtain ⟨v13, e14, hr⟩ := hr
          refine rr_callVq (as := [.int l1, .int l2, .int l3]) (st := []) (mc' := 0) (ms' := 0) C dX10_who_45 iv_X10_170 (by decide) e12 rfl (Nat.le_of_ble_eq_true rfl) (c_X10_openOwn l0 l1 l2 l3 (by omega) e14) (fun v_ h_ n_ q_ => ?_)
          obtain ⟨q1_, q2_, q3_⟩ := q_
          subst v_; subst h_; subst n_
          show WW W0 G 6 _ _ _ 48 [some (.ref l0), some (.int l1), some (.int l2), some (.int l3), some (.int l4), some (.int l5)] [] v13 n _ _
          refine rr_aload_n (i := 0) C dX10_who_48 rfl rfl ?_
          replace hr := Option.bind_eq_some_iff.mp hr
          obtain ⟨v15, e16, hr⟩ := hr
          refine rr_rdR C dX10_who_49 fl_X10_21 e16 ?_
          refine rr_iload_n (i := 2) C dX10_who_52 rfl rfl ?_
          refine rr_iload_n (i := 2) C dX10_who_53 rfl rfl ?_
          replace hr := Option.bind_eq_some_iff.mp hr
          obtain ⟨a17, e18, hr⟩ := hr
          subst e18
          replace hr := Option.bind_eq_some_iff.mp hr
          obtain ⟨u19, e20, hr⟩ := hr
          replace hr := Option.bind_eq_some_iff.mp hr
          obtain ⟨v21, e22, hr⟩ := hr
          refine rr_callVq (as := [.int l2, .int l2]) (st := []) (mc' := 0) (ms' := 0) C dX10_who_54 iv_X10_211 (by decide) e20 rfl (Nat.le_of_ble_eq_true rfl) (c_X7_fillLines a17 l2 l2 (by omega) e22) (fun v_ h_ n_ q_ => ?_)
          obtain ⟨q1_, q2_, q3_⟩ := q_
          subst v_; subst h_; subst n_
          show WW W0 G 6 _ _ _ 57 [some (.ref l0), some (.int l1), some (.int l2), some (.int l3), some (.int l4), some (.int l5)] [] v21 n _ _
          refine rr_aload_n (i := 0) C dX10_who_57 rfl rfl ?_
          replace hr := Option.bind_eq_some_iff.mp hr
          obtain ⟨v23, e24, hr⟩ := hr
          refine rr_rdR C dX10_who_58 fl_X10_12 e24 ?_
          refine rr_aload_n (i := 0) C dX10_who_61 rfl rfl ?_
          replace hr := Option.bind_eq_some_iff.mp hr
          obtain ⟨v25, e26, hr⟩ := hr
          refine rr_rdR C dX10_who_62 fl_X10_21 e26 ?_
          refine rr_iload_n (i := 2) C dX10_who_65 rfl rfl ?_
          refine rr_iload C dX10_who_66 rfl ?_
          replace hr := Option.bind_eq_some_iff.mp hr
          obtain ⟨a27, e28, hr⟩ := hr
          subst e28
          replace hr := Option.bind_eq_some_iff.mp hr
          obtain ⟨u29, e30, hr⟩ := hr
          replace hr := Option.bind_eq_some_iff.mp hr
          obtain ⟨v31, e32, hr⟩ := hr
          refine rr_callVq (as := [.int l2, .int l5]) (st := [va_rf v23]) (mc' := 0) (ms' := 0) C dX10_who_68 iv_X10_215 (by decide) e30 rfl (by rcases v23 with _ | _ <;> exact Nat.le_of_ble_eq_true rfl) (c_X7_lineAt a27 l2 l5 (by omega) e32) (fun v_ h_ n_ q_ => ?_)
          obtain ⟨q1_, q2_, q3_⟩ := q_
          subst v_; subst h_; subst n_
          show WW W0 G 6 _ _ _ 71 [some (.ref l0), some (.int l1), some (.int l2), some (.int l3), some (.int l4), some (.int l5)] [.long v31, va_rf v23] v21 n _ _
          refine rr_iload C dX10_who_71 rfl ?_
          refine rr_iload_n (i := 1) C dX10_who_73 rfl rfl ?_
          refine rr_iload_n (i := 2) C dX10_who_74 rfl rfl ?_
          refine rr_iload_n (i := 3) C dX10_who_75 rfl rfl ?_
          replace hr := Option.bind_eq_some_iff.mp hr
          obtain ⟨a33, e34, hr⟩ := hr
          subst e34
          replace hr := Option.bind_eq_some_iff.mp hr
          obtain ⟨u35, e36, hr⟩ := hr
          replace hr := Option.bind_eq_some_iff.mp hr
          obtain ⟨v37, e38, hr⟩ := hr
          refine rr_callVq (as := [.long v31, .int l4, .int l1, .int l2, .int l3]) (st := []) (mc' := 0) (ms' := 0) C dX10_who_76 iv_X10_230 (by decide) e36 rfl (Nat.le_of_ble_eq_true rfl) (c_X4_partOf a33 v31 l4 l1 l2 l3 (by omega) e38) (fun v_ h_ n_ q_ => ?_)
          obtain ⟨q1_, q2_, q3_⟩ := q_
          subst v_; subst h_; subst n_
          show WW W0 G 6 _ _ _ 79 [some (.ref l0), some (.int l1), some (.int l2), some (.int l3), some (.int l4), some (.int l5)] [.long v37] v21 n _ _
          obtain rfl := Option.some.inj hr
          exact rr_lret C dX10_who_79 rfl ⟨rfl, rfl, rfl⟩
        · replace hr := (if_pos c34_).symm.trans hr
          refine rr_ldc2 C dX10_who_37 ct_X10_205 ?_
          obtain rfl := Option.some.inj hr
          exact rr_lret C dX10_who_40 rfl ⟨rfl, rfl, rfl⟩
def q_X10_count (K : Nat) (h : mm_H) (n : Nat) (l0 : Nat) (l1 : Int32) : Option (Int32) :=
  if l1 = 0 then
    (rdR h n l0 9 0).bind fun v1 =>
    v1.bind fun a3 =>
    (rdI h n a3 4 6).bind fun v5 =>
    some v5
  else
  if l1 = 1 then
    (rdR h n l0 9 0).bind fun v7 =>
    v7.bind fun a9 =>
    (rdI h n a9 4 5).bind fun v11 =>
    some v11
  else
  if l1 = 2 then
    (rdR h n l0 9 0).bind fun v13 =>
    v13.bind fun a15 =>
    (rdR h n a15 4 1).bind fun v17 =>
    v17.bind fun a19 =>
    (rdI h n a19 0 4).bind fun v21 =>
    some v21
  else
  if l1 = 3 then
    (rdR h n l0 9 0).bind fun v23 =>
    v23.bind fun a25 =>
    (rdR h n a25 4 2).bind fun v27 =>
    v27.bind fun a29 =>
    (rdI h n a29 8 4).bind fun v31 =>
    some v31
  else
  if l1 = 4 then
    (rdR h n l0 9 0).bind fun v33 =>
    v33.bind fun a35 =>
    (rdR h n a35 4 2).bind fun v37 =>
    v37.bind fun a39 =>
    (rdI h n a39 8 5).bind fun v41 =>
    some v41
  else
  if l1 = 5 then
    (rdR h n l0 9 0).bind fun v43 =>
    v43.bind fun a45 =>
    (rdR h n a45 4 3).bind fun v47 =>
    v47.bind fun a49 =>
    (rdI h n a49 1 5).bind fun v51 =>
    some v51
  else
  if l1 = 6 then
    (rdR h n l0 9 0).bind fun v53 =>
    v53.bind fun a55 =>
    (rdR h n a55 4 4).bind fun v57 =>
    v57.bind fun a59 =>
    (rdI h n a59 1 5).bind fun v61 =>
    some v61
  else
  if l1 = 7 then
    (rdI h n l0 9 7).bind fun v63 =>
    some v63
  else
  if l1 = 8 then
    (rdR h n l0 9 8).bind fun v65 =>
    match v65 with
    | none =>
      some 0
    | some a67 =>
      some 1
  else
  if l1 = 9 then
    (rdI h n l0 9 5).bind fun v68 =>
    some v68
  else
  if l1 = 10 then
    (rdI h n l0 9 10).bind fun v70 =>
    some v70
  else
  some (-1)
set_option maxRecDepth 100000 in
set_option maxHeartbeats 4000000 in
theorem c_X10_count {K : Nat} {G : mm_G} {l : Launch} {h : mm_H} {n : Nat} (l0 : Nat) (l1 : Int32) {r_ : Int32} (hn : 48 ≤ n) (hr : q_X10_count K h n l0 l1 = some r_) : Sp G l yX10_count cX10_count 2 (some .int) 0 0 0 [.ref l0, .int l1] h n (fun v h' n' => v = some (.int r_) ∧ h' = h ∧ n' = n) := by
  refine Sp_of (by decide +kernel) (Nat.le_of_ble_eq_true rfl) hn ?_
  intro W0 hwl C
  subst hwl
  unfold q_X10_count at hr
  show WW W0 G 2 0 0 _ 0 [some (.ref l0), some (.int l1)] [] h n 0 0
  refine rr_iload_n (i := 1) C dX10_count_0 rfl rfl ?_
  by_cases s1_0 : l1 = 0
  · replace hr := (if_pos s1_0).symm.trans hr
    refine rr_tabIn (off := 59) (tgt := 60) C dX10_count_1 (by rw [s1_0]; decide) (by rw [s1_0]; decide) (by rw [s1_0]; rfl) (by decide) ?_
    refine rr_aload_n (i := 0) C dX10_count_60 rfl rfl ?_
    replace hr := Option.bind_eq_some_iff.mp hr
    obtain ⟨v1, e2, hr⟩ := hr
    refine rr_rdR C dX10_count_61 fl_X10_12 e2 ?_
    replace hr := Option.bind_eq_some_iff.mp hr
    obtain ⟨a3, e4, hr⟩ := hr
    subst e4
    replace hr := Option.bind_eq_some_iff.mp hr
    obtain ⟨v5, e6, hr⟩ := hr
    refine rr_rdI C dX10_count_64 fl_X10_55 e6 ?_
    obtain rfl := Option.some.inj hr
    exact rr_iret (ty := .int) C dX10_count_67 rfl rfl ⟨rfl, rfl, rfl⟩
  replace hr := (if_neg s1_0).symm.trans hr
  by_cases s1_1 : l1 = 1
  · replace hr := (if_pos s1_1).symm.trans hr
    refine rr_tabIn (off := 67) (tgt := 68) C dX10_count_1 (by rw [s1_1]; decide) (by rw [s1_1]; decide) (by rw [s1_1]; rfl) (by decide) ?_
    refine rr_aload_n (i := 0) C dX10_count_68 rfl rfl ?_
    replace hr := Option.bind_eq_some_iff.mp hr
    obtain ⟨v7, e8, hr⟩ := hr
    refine rr_rdR C dX10_count_69 fl_X10_12 e8 ?_
    replace hr := Option.bind_eq_some_iff.mp hr
    obtain ⟨a9, e10, hr⟩ := hr
    subst e10
    replace hr := Option.bind_eq_some_iff.mp hr
    obtain ⟨v11, e12, hr⟩ := hr
    refine rr_rdI C dX10_count_72 fl_X10_292 e12 ?_
    obtain rfl := Option.some.inj hr
    exact rr_iret (ty := .int) C dX10_count_75 rfl rfl ⟨rfl, rfl, rfl⟩
  replace hr := (if_neg s1_1).symm.trans hr
  by_cases s1_2 : l1 = 2
  · replace hr := (if_pos s1_2).symm.trans hr
    refine rr_tabIn (off := 75) (tgt := 76) C dX10_count_1 (by rw [s1_2]; decide) (by rw [s1_2]; decide) (by rw [s1_2]; rfl) (by decide) ?_
    refine rr_aload_n (i := 0) C dX10_count_76 rfl rfl ?_
    replace hr := Option.bind_eq_some_iff.mp hr
    obtain ⟨v13, e14, hr⟩ := hr
    refine rr_rdR C dX10_count_77 fl_X10_12 e14 ?_
    replace hr := Option.bind_eq_some_iff.mp hr
    obtain ⟨a15, e16, hr⟩ := hr
    subst e16
    replace hr := Option.bind_eq_some_iff.mp hr
    obtain ⟨v17, e18, hr⟩ := hr
    refine rr_rdR C dX10_count_80 fl_X10_75 e18 ?_
    replace hr := Option.bind_eq_some_iff.mp hr
    obtain ⟨a19, e20, hr⟩ := hr
    subst e20
    replace hr := Option.bind_eq_some_iff.mp hr
    obtain ⟨v21, e22, hr⟩ := hr
    refine rr_rdI C dX10_count_83 fl_X10_295 e22 ?_
    obtain rfl := Option.some.inj hr
    exact rr_iret (ty := .int) C dX10_count_86 rfl rfl ⟨rfl, rfl, rfl⟩
  replace hr := (if_neg s1_2).symm.trans hr
  by_cases s1_3 : l1 = 3
  · replace hr := (if_pos s1_3).symm.trans hr
    refine rr_tabIn (off := 86) (tgt := 87) C dX10_count_1 (by rw [s1_3]; decide) (by rw [s1_3]; decide) (by rw [s1_3]; rfl) (by decide) ?_
    refine rr_aload_n (i := 0) C dX10_count_87 rfl rfl ?_
    replace hr := Option.bind_eq_some_iff.mp hr
    obtain ⟨v23, e24, hr⟩ := hr
    refine rr_rdR C dX10_count_88 fl_X10_12 e24 ?_
    replace hr := Option.bind_eq_some_iff.mp hr
    obtain ⟨a25, e26, hr⟩ := hr
    subst e26
    replace hr := Option.bind_eq_some_iff.mp hr
    obtain ⟨v27, e28, hr⟩ := hr
    refine rr_rdR C dX10_count_91 fl_X10_94 e28 ?_
    replace hr := Option.bind_eq_some_iff.mp hr
    obtain ⟨a29, e30, hr⟩ := hr
    subst e30
    replace hr := Option.bind_eq_some_iff.mp hr
    obtain ⟨v31, e32, hr⟩ := hr
    refine rr_rdI C dX10_count_94 fl_X10_298 e32 ?_
    obtain rfl := Option.some.inj hr
    exact rr_iret (ty := .int) C dX10_count_97 rfl rfl ⟨rfl, rfl, rfl⟩
  replace hr := (if_neg s1_3).symm.trans hr
  by_cases s1_4 : l1 = 4
  · replace hr := (if_pos s1_4).symm.trans hr
    refine rr_tabIn (off := 97) (tgt := 98) C dX10_count_1 (by rw [s1_4]; decide) (by rw [s1_4]; decide) (by rw [s1_4]; rfl) (by decide) ?_
    refine rr_aload_n (i := 0) C dX10_count_98 rfl rfl ?_
    replace hr := Option.bind_eq_some_iff.mp hr
    obtain ⟨v33, e34, hr⟩ := hr
    refine rr_rdR C dX10_count_99 fl_X10_12 e34 ?_
    replace hr := Option.bind_eq_some_iff.mp hr
    obtain ⟨a35, e36, hr⟩ := hr
    subst e36
    replace hr := Option.bind_eq_some_iff.mp hr
    obtain ⟨v37, e38, hr⟩ := hr
    refine rr_rdR C dX10_count_102 fl_X10_94 e38 ?_
    replace hr := Option.bind_eq_some_iff.mp hr
    obtain ⟨a39, e40, hr⟩ := hr
    subst e40
    replace hr := Option.bind_eq_some_iff.mp hr
    obtain ⟨v41, e42, hr⟩ := hr
    refine rr_rdI C dX10_count_105 fl_X10_299 e42 ?_
    obtain rfl := Option.some.inj hr
    exact rr_iret (ty := .int) C dX10_count_108 rfl rfl ⟨rfl, rfl, rfl⟩
  replace hr := (if_neg s1_4).symm.trans hr
  by_cases s1_5 : l1 = 5
  · replace hr := (if_pos s1_5).symm.trans hr
    refine rr_tabIn (off := 108) (tgt := 109) C dX10_count_1 (by rw [s1_5]; decide) (by rw [s1_5]; decide) (by rw [s1_5]; rfl) (by decide) ?_
    refine rr_aload_n (i := 0) C dX10_count_109 rfl rfl ?_
    replace hr := Option.bind_eq_some_iff.mp hr
    obtain ⟨v43, e44, hr⟩ := hr
    refine rr_rdR C dX10_count_110 fl_X10_12 e44 ?_
    replace hr := Option.bind_eq_some_iff.mp hr
    obtain ⟨a45, e46, hr⟩ := hr
    subst e46
    replace hr := Option.bind_eq_some_iff.mp hr
    obtain ⟨v47, e48, hr⟩ := hr
    refine rr_rdR C dX10_count_113 fl_X10_109 e48 ?_
    replace hr := Option.bind_eq_some_iff.mp hr
    obtain ⟨a49, e50, hr⟩ := hr
    subst e50
    replace hr := Option.bind_eq_some_iff.mp hr
    obtain ⟨v51, e52, hr⟩ := hr
    refine rr_rdI C dX10_count_116 fl_X10_302 e52 ?_
    obtain rfl := Option.some.inj hr
    exact rr_iret (ty := .int) C dX10_count_119 rfl rfl ⟨rfl, rfl, rfl⟩
  replace hr := (if_neg s1_5).symm.trans hr
  by_cases s1_6 : l1 = 6
  · replace hr := (if_pos s1_6).symm.trans hr
    refine rr_tabIn (off := 119) (tgt := 120) C dX10_count_1 (by rw [s1_6]; decide) (by rw [s1_6]; decide) (by rw [s1_6]; rfl) (by decide) ?_
    refine rr_aload_n (i := 0) C dX10_count_120 rfl rfl ?_
    replace hr := Option.bind_eq_some_iff.mp hr
    obtain ⟨v53, e54, hr⟩ := hr
    refine rr_rdR C dX10_count_121 fl_X10_12 e54 ?_
    replace hr := Option.bind_eq_some_iff.mp hr
    obtain ⟨a55, e56, hr⟩ := hr
    subst e56
    replace hr := Option.bind_eq_some_iff.mp hr
    obtain ⟨v57, e58, hr⟩ := hr
    refine rr_rdR C dX10_count_124 fl_X10_116 e58 ?_
    replace hr := Option.bind_eq_some_iff.mp hr
    obtain ⟨a59, e60, hr⟩ := hr
    subst e60
    replace hr := Option.bind_eq_some_iff.mp hr
    obtain ⟨v61, e62, hr⟩ := hr
    refine rr_rdI C dX10_count_127 fl_X10_302 e62 ?_
    obtain rfl := Option.some.inj hr
    exact rr_iret (ty := .int) C dX10_count_130 rfl rfl ⟨rfl, rfl, rfl⟩
  replace hr := (if_neg s1_6).symm.trans hr
  by_cases s1_7 : l1 = 7
  · replace hr := (if_pos s1_7).symm.trans hr
    refine rr_tabIn (off := 130) (tgt := 131) C dX10_count_1 (by rw [s1_7]; decide) (by rw [s1_7]; decide) (by rw [s1_7]; rfl) (by decide) ?_
    refine rr_aload_n (i := 0) C dX10_count_131 rfl rfl ?_
    replace hr := Option.bind_eq_some_iff.mp hr
    obtain ⟨v63, e64, hr⟩ := hr
    refine rr_rdI C dX10_count_132 fl_X10_129 e64 ?_
    obtain rfl := Option.some.inj hr
    exact rr_iret (ty := .int) C dX10_count_135 rfl rfl ⟨rfl, rfl, rfl⟩
  replace hr := (if_neg s1_7).symm.trans hr
  by_cases s1_8 : l1 = 8
  · replace hr := (if_pos s1_8).symm.trans hr
    refine rr_tabIn (off := 135) (tgt := 136) C dX10_count_1 (by rw [s1_8]; decide) (by rw [s1_8]; decide) (by rw [s1_8]; rfl) (by decide) ?_
    refine rr_aload_n (i := 0) C dX10_count_136 rfl rfl ?_
    replace hr := Option.bind_eq_some_iff.mp hr
    obtain ⟨v65, e66, hr⟩ := hr
    refine rr_rdR C dX10_count_137 fl_X10_150 e66 ?_
    rcases v65 with _ | a67
    · dsimp only at hr
      refine rr_ifnonnullN C dX10_count_140 ?_
      refine rr_iconst (v := 0) C dX10_count_143 (by decide) ?_
      refine rr_goto (tgt := 148) C dX10_count_144 (by decide) ?_
      obtain rfl := Option.some.inj hr
      exact rr_iret (ty := .int) C dX10_count_148 rfl rfl ⟨rfl, rfl, rfl⟩
    · dsimp only at hr
      refine rr_ifnonnull (tgt := 147) C dX10_count_140 (by decide) ?_
      refine rr_iconst (v := 1) C dX10_count_147 (by decide) ?_
      obtain rfl := Option.some.inj hr
      exact rr_iret (ty := .int) C dX10_count_148 rfl rfl ⟨rfl, rfl, rfl⟩
  replace hr := (if_neg s1_8).symm.trans hr
  by_cases s1_9 : l1 = 9
  · replace hr := (if_pos s1_9).symm.trans hr
    refine rr_tabIn (off := 148) (tgt := 149) C dX10_count_1 (by rw [s1_9]; decide) (by rw [s1_9]; decide) (by rw [s1_9]; rfl) (by decide) ?_
    refine rr_aload_n (i := 0) C dX10_count_149 rfl rfl ?_
    replace hr := Option.bind_eq_some_iff.mp hr
    obtain ⟨v68, e69, hr⟩ := hr
    refine rr_rdI C dX10_count_150 fl_X10_119 e69 ?_
    obtain rfl := Option.some.inj hr
    exact rr_iret (ty := .int) C dX10_count_153 rfl rfl ⟨rfl, rfl, rfl⟩
  replace hr := (if_neg s1_9).symm.trans hr
  by_cases s1_10 : l1 = 10
  · replace hr := (if_pos s1_10).symm.trans hr
    refine rr_tabIn (off := 153) (tgt := 154) C dX10_count_1 (by rw [s1_10]; decide) (by rw [s1_10]; decide) (by rw [s1_10]; rfl) (by decide) ?_
    refine rr_aload_n (i := 0) C dX10_count_154 rfl rfl ?_
    replace hr := Option.bind_eq_some_iff.mp hr
    obtain ⟨v70, e71, hr⟩ := hr
    refine rr_rdI C dX10_count_155 fl_X10_274 e71 ?_
    obtain rfl := Option.some.inj hr
    exact rr_iret (ty := .int) C dX10_count_158 rfl rfl ⟨rfl, rfl, rfl⟩
  replace hr := (if_neg s1_10).symm.trans hr
  refine rr_tabOut (tgt := 159) C dX10_count_1 (by have t0 : ¬ Int32.toInt l1 = 0 := (fun q => s1_0 (Int32.toInt_inj.mp (show Int32.toInt l1 = (0 : Int32).toInt from q))); have t1 : ¬ Int32.toInt l1 = 1 := (fun q => s1_1 (Int32.toInt_inj.mp (show Int32.toInt l1 = (1 : Int32).toInt from q))); have t2 : ¬ Int32.toInt l1 = 2 := (fun q => s1_2 (Int32.toInt_inj.mp (show Int32.toInt l1 = (2 : Int32).toInt from q))); have t3 : ¬ Int32.toInt l1 = 3 := (fun q => s1_3 (Int32.toInt_inj.mp (show Int32.toInt l1 = (3 : Int32).toInt from q))); have t4 : ¬ Int32.toInt l1 = 4 := (fun q => s1_4 (Int32.toInt_inj.mp (show Int32.toInt l1 = (4 : Int32).toInt from q))); have t5 : ¬ Int32.toInt l1 = 5 := (fun q => s1_5 (Int32.toInt_inj.mp (show Int32.toInt l1 = (5 : Int32).toInt from q))); have t6 : ¬ Int32.toInt l1 = 6 := (fun q => s1_6 (Int32.toInt_inj.mp (show Int32.toInt l1 = (6 : Int32).toInt from q))); have t7 : ¬ Int32.toInt l1 = 7 := (fun q => s1_7 (Int32.toInt_inj.mp (show Int32.toInt l1 = (7 : Int32).toInt from q))); have t8 : ¬ Int32.toInt l1 = 8 := (fun q => s1_8 (Int32.toInt_inj.mp (show Int32.toInt l1 = (8 : Int32).toInt from q))); have t9 : ¬ Int32.toInt l1 = 9 := (fun q => s1_9 (Int32.toInt_inj.mp (show Int32.toInt l1 = (9 : Int32).toInt from q))); have t10 : ¬ Int32.toInt l1 = 10 := (fun q => s1_10 (Int32.toInt_inj.mp (show Int32.toInt l1 = (10 : Int32).toInt from q))); omega) (by decide) ?_
  refine rr_iconst (v := (-1)) C dX10_count_159 (by decide) ?_
  obtain rfl := Option.some.inj hr
  exact rr_iret (ty := .int) C dX10_count_160 rfl rfl ⟨rfl, rfl, rfl⟩
def q_J5_length_8abf5 (K : Nat) (h : mm_H) (n : Nat) (l0 : Nat) : Option (Int32) :=
  (rdI h n l0 11 3).bind fun v1 =>
  some v1
set_option maxRecDepth 100000 in
set_option maxHeartbeats 4000000 in
theorem c_J5_length_8abf5 {K : Nat} {G : mm_G} {l : Launch} {h : mm_H} {n : Nat} (l0 : Nat) {r_ : Int32} (hn : 48 ≤ n) (hr : q_J5_length_8abf5 K h n l0 = some r_) : Sp G l yJ5_length_8abf5 cJ5_length_8abf5 1 (some .int) 0 0 0 [.ref l0] h n (fun v h' n' => v = some (.int r_) ∧ h' = h ∧ n' = n) := by
  refine Sp_of (by decide +kernel) (Nat.le_of_ble_eq_true rfl) hn ?_
  intro W0 hwl C
  subst hwl
  unfold q_J5_length_8abf5 at hr
  show WW W0 G 1 0 0 _ 0 [some (.ref l0)] [] h n 0 0
  refine rr_aload_n (i := 0) C dJ5_length_8abf5_0 rfl rfl ?_
  replace hr := Option.bind_eq_some_iff.mp hr
  obtain ⟨v1, e2, hr⟩ := hr
  refine rr_rdI C dJ5_length_8abf5_1 fl_J5_79 e2 ?_
  obtain rfl := Option.some.inj hr
  exact rr_iret (ty := .int) C dJ5_length_8abf5_4 rfl rfl ⟨rfl, rfl, rfl⟩
def q_J8_newLength_cabcc (K : Nat) (h : mm_H) (n : Nat) (l0 : Int32) (l1 : Int32) (l2 : Int32) : Option (Int32) :=
  if (l0 + (i_max l1 l2)) ≤ 0 then
    none
  else
  if 2147483639 < (l0 + (i_max l1 l2)) then
    none
  else
  some (l0 + (i_max l1 l2))
set_option maxRecDepth 100000 in
set_option maxHeartbeats 4000000 in
theorem c_J8_newLength_cabcc {K : Nat} {G : mm_G} {l : Launch} {h : mm_H} {n : Nat} (l0 : Int32) (l1 : Int32) (l2 : Int32) {r_ : Int32} (hn : 48 ≤ n) (hr : q_J8_newLength_cabcc K h n l0 l1 l2 = some r_) : Sp G l yJ8_newLength_cabcc cJ8_newLength_cabcc 4 (some .int) 1 0 0 [.int l0, .int l1, .int l2] h n (fun v h' n' => v = some (.int r_) ∧ h' = h ∧ n' = n) := by
  refine Sp_of (by decide +kernel) (Nat.le_of_ble_eq_true rfl) hn ?_
  intro W0 hwl C
  subst hwl
  unfold q_J8_newLength_cabcc at hr
  show WW W0 G 4 0 0 _ 0 [some (.int l0), some (.int l1), some (.int l2), none] [] h n 0 0
  refine rr_iload_n (i := 0) C dJ8_newLength_cabcc_0 rfl rfl ?_
  refine rr_iload_n (i := 1) C dJ8_newLength_cabcc_1 rfl rfl ?_
  refine rr_iload_n (i := 2) C dJ8_newLength_cabcc_2 rfl rfl ?_
  refine rr_mmax C dJ8_newLength_cabcc_3 ma_J8_194 (by decide) (Nat.le_of_ble_eq_true rfl) ?_
  refine rr_iadd C dJ8_newLength_cabcc_6 ?_
  refine rr_istore_n (i := 3) C dJ8_newLength_cabcc_7 rfl (by decide) ?_
  show WW W0 G 4 _ _ _ 8 [some (.int l0), some (.int l1), some (.int l2), some (.int (l0 + (i_max l1 l2)))] [] h n _ _
  refine rr_iconst (v := 0) C dJ8_newLength_cabcc_8 (by decide) ?_
  refine rr_iload_n (i := 3) C dJ8_newLength_cabcc_9 rfl rfl ?_
  refine rr_icmp_ge (tgt := 21) C dJ8_newLength_cabcc_10 (by decide) (fun c10_ => ?_) (fun c10_ => ?_)
  · replace hr := (if_pos c10_).symm.trans hr
    refine rr_iload_n (i := 0) C dJ8_newLength_cabcc_21 rfl rfl ?_
    refine rr_iload_n (i := 1) C dJ8_newLength_cabcc_22 rfl rfl ?_
    cases hr
  · replace hr := (if_neg c10_).symm.trans hr
    refine rr_iload_n (i := 3) C dJ8_newLength_cabcc_13 rfl rfl ?_
    refine rr_ldc C dJ8_newLength_cabcc_14 ct_J8_200 ?_
    refine rr_icmp_gt (tgt := 21) C dJ8_newLength_cabcc_16 (by decide) (fun c16_ => ?_) (fun c16_ => ?_)
    · replace hr := (if_pos c16_).symm.trans hr
      refine rr_iload_n (i := 0) C dJ8_newLength_cabcc_21 rfl rfl ?_
      refine rr_iload_n (i := 1) C dJ8_newLength_cabcc_22 rfl rfl ?_
      cases hr
    · replace hr := (if_neg c16_).symm.trans hr
      refine rr_iload_n (i := 3) C dJ8_newLength_cabcc_19 rfl rfl ?_
      obtain rfl := Option.some.inj hr
      exact rr_iret (ty := .int) C dJ8_newLength_cabcc_20 rfl rfl ⟨rfl, rfl, rfl⟩
def q_J5_newCapacity_0f7a4 (K : Nat) (h : mm_H) (n : Nat) (l0 : Nat) (l1 : Int32) : Option (Int32) :=
  (rdR h n l0 11 0).bind fun v1 =>
  v1.bind fun a3 =>
  (lenA h n a3 2).bind fun v5 =>
  (rdI h n l0 11 1).bind fun v7 =>
  (rdI h n l0 11 1).bind fun v11 =>
  (q_J8_newLength_cabcc K h n v5 ((l1 <<< (v7 &&& 31)) - v5) (v5 + (2 <<< (v11 &&& 31)))).bind fun v13 =>
  if v13 = 2147483647 then
    none
  else
  (rdI h n l0 11 1).bind fun v15 =>
  some (v13 >>> (v15 &&& 31))
set_option maxRecDepth 100000 in
set_option maxHeartbeats 4000000 in
theorem c_J5_newCapacity_0f7a4 {K : Nat} {G : mm_G} {l : Launch} {h : mm_H} {n : Nat} (l0 : Nat) (l1 : Int32) {r_ : Int32} (hn : 48 ≤ n) (hr : q_J5_newCapacity_0f7a4 K h n l0 l1 = some r_) : Sp G l yJ5_newCapacity_0f7a4 cJ5_newCapacity_0f7a4 6 (some .int) 2 0 0 [.ref l0, .int l1] h n (fun v h' n' => v = some (.int r_) ∧ h' = h ∧ n' = n) := by
  refine Sp_of (by decide +kernel) (Nat.le_of_ble_eq_true rfl) hn ?_
  intro W0 hwl C
  subst hwl
  unfold q_J5_newCapacity_0f7a4 at hr
  show WW W0 G 6 0 0 _ 0 [some (.ref l0), some (.int l1), none, none, none, none] [] h n 0 0
  refine rr_aload_n (i := 0) C dJ5_newCapacity_0f7a4_0 rfl rfl ?_
  replace hr := Option.bind_eq_some_iff.mp hr
  obtain ⟨v1, e2, hr⟩ := hr
  refine rr_rdR C dJ5_newCapacity_0f7a4_1 fl_J5_15 e2 ?_
  replace hr := Option.bind_eq_some_iff.mp hr
  obtain ⟨a3, e4, hr⟩ := hr
  subst e4
  replace hr := Option.bind_eq_some_iff.mp hr
  obtain ⟨v5, e6, hr⟩ := hr
  refine rr_lenA C dJ5_newCapacity_0f7a4_4 e6 ?_
  refine rr_istore_n (i := 2) C dJ5_newCapacity_0f7a4_5 rfl (by decide) ?_
  show WW W0 G 6 _ _ _ 6 [some (.ref l0), some (.int l1), some (.int v5), none, none, none] [] h n _ _
  refine rr_iload_n (i := 1) C dJ5_newCapacity_0f7a4_6 rfl rfl ?_
  refine rr_aload_n (i := 0) C dJ5_newCapacity_0f7a4_7 rfl rfl ?_
  replace hr := Option.bind_eq_some_iff.mp hr
  obtain ⟨v7, e8, hr⟩ := hr
  refine rr_rdI C dJ5_newCapacity_0f7a4_8 fl_J5_22 e8 ?_
  refine rr_ishl C dJ5_newCapacity_0f7a4_11 ?_
  refine rr_istore_n (i := 3) C dJ5_newCapacity_0f7a4_12 rfl (by decide) ?_
  show WW W0 G 6 _ _ _ 13 [some (.ref l0), some (.int l1), some (.int v5), some (.int (l1 <<< (v7 &&& 31))), none, none] [] h n _ _
  refine rr_iload_n (i := 3) C dJ5_newCapacity_0f7a4_13 rfl rfl ?_
  refine rr_iload_n (i := 2) C dJ5_newCapacity_0f7a4_14 rfl rfl ?_
  refine rr_isub C dJ5_newCapacity_0f7a4_15 ?_
  refine rr_istore C dJ5_newCapacity_0f7a4_16 (by decide) ?_
  show WW W0 G 6 _ _ _ 18 [some (.ref l0), some (.int l1), some (.int v5), some (.int (l1 <<< (v7 &&& 31))), some (.int ((l1 <<< (v7 &&& 31)) - v5)), none] [] h n _ _
  refine rr_iload_n (i := 2) C dJ5_newCapacity_0f7a4_18 rfl rfl ?_
  refine rr_iload C dJ5_newCapacity_0f7a4_19 rfl ?_
  refine rr_iload_n (i := 2) C dJ5_newCapacity_0f7a4_21 rfl rfl ?_
  refine rr_iconst (v := 2) C dJ5_newCapacity_0f7a4_22 (by decide) ?_
  refine rr_aload_n (i := 0) C dJ5_newCapacity_0f7a4_23 rfl rfl ?_
  replace hr := Option.bind_eq_some_iff.mp hr
  obtain ⟨v11, e12, hr⟩ := hr
  refine rr_rdI C dJ5_newCapacity_0f7a4_24 fl_J5_22 e12 ?_
  refine rr_ishl C dJ5_newCapacity_0f7a4_27 ?_
  refine rr_iadd C dJ5_newCapacity_0f7a4_28 ?_
  replace hr := Option.bind_eq_some_iff.mp hr
  obtain ⟨v13, e14, hr⟩ := hr
  refine rr_callS (as := [.int v5, .int ((l1 <<< (v7 &&& 31)) - v5), .int (v5 + (2 <<< (v11 &&& 31)))]) (st := []) (mc' := 0) (ms' := 0) C dJ5_newCapacity_0f7a4_29 it_J5_114 (by decide) (Nat.le_of_ble_eq_true rfl) (c_J8_newLength_cabcc v5 ((l1 <<< (v7 &&& 31)) - v5) (v5 + (2 <<< (v11 &&& 31))) (by omega) e14) (fun v_ h_ n_ q_ => ?_)
  obtain ⟨q1_, q2_, q3_⟩ := q_
  subst v_; subst h_; subst n_
  show WW W0 G 6 _ _ _ 32 [some (.ref l0), some (.int l1), some (.int v5), some (.int (l1 <<< (v7 &&& 31))), some (.int ((l1 <<< (v7 &&& 31)) - v5)), none] [.int v13] h n _ _
  refine rr_istore C dJ5_newCapacity_0f7a4_32 (by decide) ?_
  show WW W0 G 6 _ _ _ 34 [some (.ref l0), some (.int l1), some (.int v5), some (.int (l1 <<< (v7 &&& 31))), some (.int ((l1 <<< (v7 &&& 31)) - v5)), some (.int v13)] [] h n _ _
  refine rr_iload C dJ5_newCapacity_0f7a4_34 rfl ?_
  refine rr_ldc C dJ5_newCapacity_0f7a4_36 ct_J5_39 ?_
  refine rr_icmp_ne (tgt := 51) C dJ5_newCapacity_0f7a4_38 (by decide) (fun c38_ => ?_) (fun c38_ => ?_)
  · replace hr := (if_neg c38_).symm.trans hr
    refine rr_iload C dJ5_newCapacity_0f7a4_51 rfl ?_
    refine rr_aload_n (i := 0) C dJ5_newCapacity_0f7a4_53 rfl rfl ?_
    replace hr := Option.bind_eq_some_iff.mp hr
    obtain ⟨v15, e16, hr⟩ := hr
    refine rr_rdI C dJ5_newCapacity_0f7a4_54 fl_J5_22 e16 ?_
    refine rr_ishr C dJ5_newCapacity_0f7a4_57 ?_
    obtain rfl := Option.some.inj hr
    exact rr_iret (ty := .int) C dJ5_newCapacity_0f7a4_58 rfl rfl ⟨rfl, rfl, rfl⟩
  · replace hr := (if_pos c38_).symm.trans hr
    cases hr
def lp_J6_stringSize_0f7a4_16 (K : Nat) (h : mm_H) (n : Nat) (l0 : Int32) (l1 : Int32) : Nat → Int32 → Int32 → Option (Nat × Int32)
  | 0, _, _ => none
  | k_ + 1, l2, l3 =>
    if 10 ≤ l3 then
      some (1, l3)
    else
    if l0 ≤ l2 then
      lp_J6_stringSize_0f7a4_16 K h n l0 l1 k_ (10 * l2) (l3 + 1)
    else
    some (0, l3)
def q_J6_stringSize_0f7a4 (K : Nat) (h : mm_H) (n : Nat) (l0 : Int32) : Option (Int32) :=
  if l0 < 0 then
    (lp_J6_stringSize_0f7a4_16 K h n l0 1 K (-10) 1).bind fun v2 =>
    if v2.1 = 0 then
      some (v2.2 + 1)
    else
    if v2.1 = 1 then
      some (10 + 1)
    else
      none
  else
  (lp_J6_stringSize_0f7a4_16 K h n (-l0) 0 K (-10) 1).bind fun v4 =>
  if v4.1 = 0 then
    some (v4.2 + 0)
  else
  if v4.1 = 1 then
    some (10 + 0)
  else
    none
set_option maxRecDepth 100000 in
set_option maxHeartbeats 4000000 in
theorem w_J6_stringSize_0f7a4_16 {K : Nat} {W0 : mm_X} {G : mm_G} {mc ms kc ks : Nat} {Q_ : State → Prop} {h : mm_H} {n : Nat} (C : mm_C W0 G cJ6_stringSize_0f7a4 yJ6_stringSize_0f7a4.cls 4 mc ms (some .int) 0 yJ6_stringSize_0f7a4.name) (hn : 48 ≤ n) (l0 : Int32) (l1 : Int32) : ∀ (k_ : Nat) (l2 : Int32) (l3 : Int32) {r_ : Nat × Int32} (hr : lp_J6_stringSize_0f7a4_16 K h n l0 l1 k_ l2 l3 = some r_) (hx0 : r_.1 = 0 → WW W0 G 4 mc ms Q_ 27 [none, some (.int l1), none, some (.int r_.2)] [] h n kc ks) (hx1 : r_.1 = 1 → WW W0 G 4 mc ms Q_ 42 [none, some (.int l1), none, none] [] h n kc ks), WW W0 G 4 mc ms Q_ 16 [some (.int l0), some (.int l1), some (.int l2), some (.int l3)] [] h n kc ks := by
  intro k_
  induction k_ with
  | zero =>
    intro l2 l3 r_ hr
    cases hr
  | succ k_ ih_ =>
    intro l2 l3 r_ hr hx0 hx1
    unfold lp_J6_stringSize_0f7a4_16 at hr
    refine rr_iload_n (i := 3) C dJ6_stringSize_0f7a4_16 rfl rfl ?_
    refine rr_bipush (v := 10) C dJ6_stringSize_0f7a4_17 (by decide) ?_
    refine rr_icmp_ge (tgt := 42) C dJ6_stringSize_0f7a4_19 (by decide) (fun c19_ => ?_) (fun c19_ => ?_)
    · replace hr := (if_pos c19_).symm.trans hr
      obtain rfl := Option.some.inj hr
      exact rr_keep [false, true, false, false] (hx1 rfl)
    · replace hr := (if_neg c19_).symm.trans hr
      refine rr_iload_n (i := 0) C dJ6_stringSize_0f7a4_22 rfl rfl ?_
      refine rr_iload_n (i := 2) C dJ6_stringSize_0f7a4_23 rfl rfl ?_
      refine rr_icmp_le (tgt := 31) C dJ6_stringSize_0f7a4_24 (by decide) (fun c24_ => ?_) (fun c24_ => ?_)
      · replace hr := (if_pos c24_).symm.trans hr
        refine rr_bipush (v := 10) C dJ6_stringSize_0f7a4_31 (by decide) ?_
        refine rr_iload_n (i := 2) C dJ6_stringSize_0f7a4_33 rfl rfl ?_
        refine rr_imul C dJ6_stringSize_0f7a4_34 ?_
        refine rr_istore_n (i := 2) C dJ6_stringSize_0f7a4_35 rfl (by decide) ?_
        show WW W0 G 4 _ _ _ 36 [some (.int l0), some (.int l1), some (.int (10 * l2)), some (.int l3)] [] h n _ _
        refine rr_iinc (v := l3 + 1) C dJ6_stringSize_0f7a4_36 rfl rfl ?_
        show WW W0 G 4 _ _ _ 39 [some (.int l0), some (.int l1), some (.int (10 * l2)), some (.int (l3 + 1))] [] h n _ _
        refine rr_goto (tgt := 16) C dJ6_stringSize_0f7a4_39 (by decide) ?_
        exact rr_keep [true, true, true, true] (ih_ _ _ hr hx0 hx1)
      · replace hr := (if_neg c24_).symm.trans hr
        obtain rfl := Option.some.inj hr
        exact rr_keep [false, true, false, true] (hx0 rfl)
set_option maxRecDepth 100000 in
set_option maxHeartbeats 4000000 in
theorem c_J6_stringSize_0f7a4 {K : Nat} {G : mm_G} {l : Launch} {h : mm_H} {n : Nat} (l0 : Int32) {r_ : Int32} (hn : 48 ≤ n) (hr : q_J6_stringSize_0f7a4 K h n l0 = some r_) : Sp G l yJ6_stringSize_0f7a4 cJ6_stringSize_0f7a4 4 (some .int) 0 0 0 [.int l0] h n (fun v h' n' => v = some (.int r_) ∧ h' = h ∧ n' = n) := by
  refine Sp_of (by decide +kernel) (Nat.le_of_ble_eq_true rfl) hn ?_
  intro W0 hwl C
  subst hwl
  unfold q_J6_stringSize_0f7a4 at hr
  show WW W0 G 4 0 0 _ 0 [some (.int l0), none, none, none] [] h n 0 0
  refine rr_iconst (v := 1) C dJ6_stringSize_0f7a4_0 (by decide) ?_
  refine rr_istore_n (i := 1) C dJ6_stringSize_0f7a4_1 rfl (by decide) ?_
  show WW W0 G 4 _ _ _ 2 [some (.int l0), some (.int 1), none, none] [] h n _ _
  refine rr_iload_n (i := 0) C dJ6_stringSize_0f7a4_2 rfl rfl ?_
  refine rr_if_lt (tgt := 11) C dJ6_stringSize_0f7a4_3 (by decide) (fun c3_ => ?_) (fun c3_ => ?_)
  · replace hr := (if_pos c3_).symm.trans hr
    refine rr_bipush (v := (-10)) C dJ6_stringSize_0f7a4_11 (by decide) ?_
    refine rr_istore_n (i := 2) C dJ6_stringSize_0f7a4_13 rfl (by decide) ?_
    show WW W0 G 4 _ _ _ 14 [some (.int l0), some (.int 1), some (.int (-10)), none] [] h n _ _
    refine rr_iconst (v := 1) C dJ6_stringSize_0f7a4_14 (by decide) ?_
    refine rr_istore_n (i := 3) C dJ6_stringSize_0f7a4_15 rfl (by decide) ?_
    show WW W0 G 4 _ _ _ 16 [some (.int l0), some (.int 1), some (.int (-10)), some (.int 1)] [] h n _ _
    replace hr := Option.bind_eq_some_iff.mp hr
    obtain ⟨v2, e3, hr⟩ := hr
    refine rr_keep [true, true, true, true] (w_J6_stringSize_0f7a4_16 C (by omega) l0 1 K (-10) 1 e3 ?_ ?_)
    · intro cx_
      replace hr := (if_pos cx_).symm.trans hr
      show WW W0 G 4 _ _ _ 27 [none, some (.int 1), none, some (.int v2.2)] [] h n _ _
      refine rr_iload_n (i := 3) C dJ6_stringSize_0f7a4_27 rfl rfl ?_
      refine rr_iload_n (i := 1) C dJ6_stringSize_0f7a4_28 rfl rfl ?_
      refine rr_iadd C dJ6_stringSize_0f7a4_29 ?_
      obtain rfl := Option.some.inj hr
      exact rr_iret (ty := .int) C dJ6_stringSize_0f7a4_30 rfl rfl ⟨rfl, rfl, rfl⟩
    · intro cx_
      replace hr := (if_neg (fun z_ => absurd (z_.symm.trans cx_) (by decide))).symm.trans hr
      replace hr := (if_pos cx_).symm.trans hr
      show WW W0 G 4 _ _ _ 42 [none, some (.int 1), none, none] [] h n _ _
      refine rr_bipush (v := 10) C dJ6_stringSize_0f7a4_42 (by decide) ?_
      refine rr_iload_n (i := 1) C dJ6_stringSize_0f7a4_44 rfl rfl ?_
      refine rr_iadd C dJ6_stringSize_0f7a4_45 ?_
      obtain rfl := Option.some.inj hr
      exact rr_iret (ty := .int) C dJ6_stringSize_0f7a4_46 rfl rfl ⟨rfl, rfl, rfl⟩
  · replace hr := (if_neg c3_).symm.trans hr
    refine rr_iconst (v := 0) C dJ6_stringSize_0f7a4_6 (by decide) ?_
    refine rr_istore_n (i := 1) C dJ6_stringSize_0f7a4_7 rfl (by decide) ?_
    show WW W0 G 4 _ _ _ 8 [some (.int l0), some (.int 0), none, none] [] h n _ _
    refine rr_iload_n (i := 0) C dJ6_stringSize_0f7a4_8 rfl rfl ?_
    refine rr_ineg C dJ6_stringSize_0f7a4_9 ?_
    refine rr_istore_n (i := 0) C dJ6_stringSize_0f7a4_10 rfl (by decide) ?_
    show WW W0 G 4 _ _ _ 11 [some (.int (-l0)), some (.int 0), none, none] [] h n _ _
    refine rr_bipush (v := (-10)) C dJ6_stringSize_0f7a4_11 (by decide) ?_
    refine rr_istore_n (i := 2) C dJ6_stringSize_0f7a4_13 rfl (by decide) ?_
    show WW W0 G 4 _ _ _ 14 [some (.int (-l0)), some (.int 0), some (.int (-10)), none] [] h n _ _
    refine rr_iconst (v := 1) C dJ6_stringSize_0f7a4_14 (by decide) ?_
    refine rr_istore_n (i := 3) C dJ6_stringSize_0f7a4_15 rfl (by decide) ?_
    show WW W0 G 4 _ _ _ 16 [some (.int (-l0)), some (.int 0), some (.int (-10)), some (.int 1)] [] h n _ _
    replace hr := Option.bind_eq_some_iff.mp hr
    obtain ⟨v4, e5, hr⟩ := hr
    refine rr_keep [true, true, true, true] (w_J6_stringSize_0f7a4_16 C (by omega) (-l0) 0 K (-10) 1 e5 ?_ ?_)
    · intro cx_
      replace hr := (if_pos cx_).symm.trans hr
      show WW W0 G 4 _ _ _ 27 [none, some (.int 0), none, some (.int v4.2)] [] h n _ _
      refine rr_iload_n (i := 3) C dJ6_stringSize_0f7a4_27 rfl rfl ?_
      refine rr_iload_n (i := 1) C dJ6_stringSize_0f7a4_28 rfl rfl ?_
      refine rr_iadd C dJ6_stringSize_0f7a4_29 ?_
      obtain rfl := Option.some.inj hr
      exact rr_iret (ty := .int) C dJ6_stringSize_0f7a4_30 rfl rfl ⟨rfl, rfl, rfl⟩
    · intro cx_
      replace hr := (if_neg (fun z_ => absurd (z_.symm.trans cx_) (by decide))).symm.trans hr
      replace hr := (if_pos cx_).symm.trans hr
      show WW W0 G 4 _ _ _ 42 [none, some (.int 0), none, none] [] h n _ _
      refine rr_bipush (v := 10) C dJ6_stringSize_0f7a4_42 (by decide) ?_
      refine rr_iload_n (i := 1) C dJ6_stringSize_0f7a4_44 rfl rfl ?_
      refine rr_iadd C dJ6_stringSize_0f7a4_45 ?_
      obtain rfl := Option.some.inj hr
      exact rr_iret (ty := .int) C dJ6_stringSize_0f7a4_46 rfl rfl ⟨rfl, rfl, rfl⟩
def q_J5_getValue_6d5f1 (K : Nat) (h : mm_H) (n : Nat) (l0 : Nat) : Option (Option Nat) :=
  (rdR h n l0 11 0).bind fun v1 =>
  some v1
set_option maxRecDepth 100000 in
set_option maxHeartbeats 4000000 in
theorem c_J5_getValue_6d5f1 {K : Nat} {G : mm_G} {l : Launch} {h : mm_H} {n : Nat} (l0 : Nat) {r_ : Option Nat} (hn : 48 ≤ n) (hr : q_J5_getValue_6d5f1 K h n l0 = some r_) : Sp G l yJ5_getValue_6d5f1 cJ5_getValue_6d5f1 1 (some (.array .byte)) 0 0 0 [.ref l0] h n (fun v h' n' => v = some (va_rf r_) ∧ h' = h ∧ n' = n) := by
  refine Sp_of (by decide +kernel) (Nat.le_of_ble_eq_true rfl) hn ?_
  intro W0 hwl C
  subst hwl
  unfold q_J5_getValue_6d5f1 at hr
  show WW W0 G 1 0 0 _ 0 [some (.ref l0)] [] h n 0 0
  refine rr_aload_n (i := 0) C dJ5_getValue_6d5f1_0 rfl rfl ?_
  replace hr := Option.bind_eq_some_iff.mp hr
  obtain ⟨v1, e2, hr⟩ := hr
  refine rr_rdR C dJ5_getValue_6d5f1_1 fl_J5_15 e2 ?_
  obtain rfl := Option.some.inj hr
  exact rr_aret (r := v1) C dJ5_getValue_6d5f1_4 rfl (Or.inr ⟨_, rfl⟩) ⟨rfl, rfl, rfl⟩
def q_J5_isLatin1_aae02 (K : Nat) (h : mm_H) (n : Nat) (l0 : Nat) : Option (Int32) :=
  (rdI h n l0 11 1).bind fun v1 =>
  if v1 = 0 then
    some 1
  else
  some 0
set_option maxRecDepth 100000 in
set_option maxHeartbeats 4000000 in
theorem c_J5_isLatin1_aae02 {K : Nat} {G : mm_G} {l : Launch} {h : mm_H} {n : Nat} (l0 : Nat) {r_ : Int32} (hn : 48 ≤ n) (hr : q_J5_isLatin1_aae02 K h n l0 = some r_) : Sp G l yJ5_isLatin1_aae02 cJ5_isLatin1_aae02 1 (some .boolean) 0 0 0 [.ref l0] h n (fun v h' n' => v = some (.int r_) ∧ h' = h ∧ n' = n) := by
  refine Sp_of (by decide +kernel) (Nat.le_of_ble_eq_true rfl) hn ?_
  intro W0 hwl C
  subst hwl
  unfold q_J5_isLatin1_aae02 at hr
  show WW W0 G 1 0 0 _ 0 [some (.ref l0)] [] h n 0 0
  refine rr_getsC C dJ5_isLatin1_aae02_0 sl_J5_18 ?_
  refine rr_if_eq (tgt := 17) C dJ5_isLatin1_aae02_3 (by decide) (fun q_ => absurd q_ (by decide)) (fun _ => ?_)
  refine rr_aload_n (i := 0) C dJ5_isLatin1_aae02_6 rfl rfl ?_
  replace hr := Option.bind_eq_some_iff.mp hr
  obtain ⟨v1, e2, hr⟩ := hr
  refine rr_rdI C dJ5_isLatin1_aae02_7 fl_J5_22 e2 ?_
  refine rr_if_ne (tgt := 17) C dJ5_isLatin1_aae02_10 (by decide) (fun c10_ => ?_) (fun c10_ => ?_)
  · replace hr := (if_neg c10_).symm.trans hr
    refine rr_iconst (v := 0) C dJ5_isLatin1_aae02_17 (by decide) ?_
    obtain rfl := Option.some.inj hr
    exact rr_iret (ty := .boolean) C dJ5_isLatin1_aae02_18 rfl rfl ⟨rfl, rfl, rfl⟩
  · replace hr := (if_pos c10_).symm.trans hr
    refine rr_iconst (v := 1) C dJ5_isLatin1_aae02_13 (by decide) ?_
    refine rr_goto (tgt := 18) C dJ5_isLatin1_aae02_14 (by decide) ?_
    obtain rfl := Option.some.inj hr
    exact rr_iret (ty := .boolean) C dJ5_isLatin1_aae02_18 rfl rfl ⟨rfl, rfl, rfl⟩
def q_J5_inflateIfNeededFor_a7421 (K : Nat) (h : mm_H) (n : Nat) (l0 : Nat) (l1 : Option Nat) : Option (Unit) :=
  (rdI h n l0 11 1).bind fun v1 =>
  l1.bind fun a3 =>
  (ckS h n a3).bind fun u5 =>
  (q_J0_coder_7d493 K h n a3).bind fun v7 =>
  if v1 = v7 then
    some ()
  else
  none
set_option maxRecDepth 100000 in
set_option maxHeartbeats 4000000 in
theorem c_J5_inflateIfNeededFor_a7421 {K : Nat} {G : mm_G} {l : Launch} {h : mm_H} {n : Nat} (l0 : Nat) (l1 : Option Nat) {r_ : Unit} (hn : 48 ≤ n) (hr : q_J5_inflateIfNeededFor_a7421 K h n l0 l1 = some r_) : Sp G l yJ5_inflateIfNeededFor_a7421 cJ5_inflateIfNeededFor_a7421 2 none 1 0 0 [.ref l0, va_rf l1] h n (fun v h' n' => v = none ∧ h' = h ∧ n' = n) := by
  refine Sp_of (by decide +kernel) (by rcases l1 with _ | _ <;> exact Nat.le_of_ble_eq_true rfl) hn ?_
  intro W0 hwl C
  subst hwl
  unfold q_J5_inflateIfNeededFor_a7421 at hr
  rw [show mm_en 2 [.ref l0, va_rf l1] = [some (.ref l0), some (va_rf l1)] from by rcases l1 with _ | _ <;> rfl]
  show WW W0 G 2 0 0 _ 0 [some (.ref l0), some (va_rf l1)] [] h n 0 0
  refine rr_getsC C dJ5_inflateIfNeededFor_a7421_0 sl_J5_18 ?_
  refine rr_if_eq (tgt := 21) C dJ5_inflateIfNeededFor_a7421_3 (by decide) (fun q_ => absurd q_ (by decide)) (fun _ => ?_)
  refine rr_aload_n (i := 0) C dJ5_inflateIfNeededFor_a7421_6 rfl rfl ?_
  replace hr := Option.bind_eq_some_iff.mp hr
  obtain ⟨v1, e2, hr⟩ := hr
  refine rr_rdI C dJ5_inflateIfNeededFor_a7421_7 fl_J5_22 e2 ?_
  refine rr_aload_nO (i := 1) C dJ5_inflateIfNeededFor_a7421_10 rfl rfl ?_
  replace hr := Option.bind_eq_some_iff.mp hr
  obtain ⟨a3, e4, hr⟩ := hr
  subst e4
  replace hr := Option.bind_eq_some_iff.mp hr
  obtain ⟨u5, e6, hr⟩ := hr
  replace hr := Option.bind_eq_some_iff.mp hr
  obtain ⟨v7, e8, hr⟩ := hr
  refine rr_callVS (as := []) (st := [.int v1]) (mc' := 0) (ms' := 0) C dJ5_inflateIfNeededFor_a7421_11 iv_J5_40 rfl (by decide) e6 (Nat.le_of_ble_eq_true rfl) (c_J0_coder_7d493 a3 (by omega) e8) (fun v_ h_ n_ q_ => ?_)
  obtain ⟨q1_, q2_, q3_⟩ := q_
  subst v_; subst h_; subst n_
  show WW W0 G 2 _ _ _ 14 [some (.ref l0), some (.ref a3)] [.int v7, .int v1] h n _ _
  refine rr_icmp_eq (tgt := 21) C dJ5_inflateIfNeededFor_a7421_14 (by decide) (fun c14_ => ?_) (fun c14_ => ?_)
  · replace hr := (if_pos c14_).symm.trans hr
    obtain rfl := Option.some.inj hr
    exact rr_vret C dJ5_inflateIfNeededFor_a7421_21 rfl ⟨rfl, rfl, rfl⟩
  · replace hr := (if_neg c14_).symm.trans hr
    refine rr_aload_n (i := 0) C dJ5_inflateIfNeededFor_a7421_17 rfl rfl ?_
    cases hr
def lp_J6_getChars_ba4f3_22 (K : Nat) (n : Nat) (l2 : Option Nat) (l6 : Int32) : Nat → Int32 → Int32 → mm_H → Option (Int32 × Int32 × mm_H)
  | 0, _, _, _ => none
  | k_ + 1, l0, l5, h =>
    if (-100) < l0 then
      some (l0, l5, h)
    else
    (ldO h 1000200 (((l0 / 100) * 100) - l0)).bind fun v4 =>
    l2.bind fun a6 =>
    (stB h n a6 (l5 + (-1)) v4).bind fun h8 =>
    (ldO h8 1000201 (((l0 / 100) * 100) - l0)).bind fun v10 =>
    (stB h8 n a6 ((l5 + (-1)) + (-1)) v10).bind fun h12 =>
    lp_J6_getChars_ba4f3_22 K n l2 l6 k_ (l0 / 100) ((l5 + (-1)) + (-1)) h12
def q_J6_getChars_ba4f3 (K : Nat) (h : mm_H) (n : Nat) (l0 : Int32) (l1 : Int32) (l2 : Option Nat) : Option (Int32 × mm_H) :=
  if 0 ≤ l0 then
    (lp_J6_getChars_ba4f3_22 K n l2 0 K (-l0) l1 h).bind fun v14 =>
    (ldO v14.2.2 1000200 (-v14.1)).bind fun v16 =>
    l2.bind fun a18 =>
    (stB v14.2.2 n a18 (v14.2.1 + (-1)) v16).bind fun h20 =>
    if (-9) ≤ v14.1 then
      some (v14.2.1 + (-1), h20)
    else
    (ldO h20 1000201 (-v14.1)).bind fun v22 =>
    (stB h20 n a18 ((v14.2.1 + (-1)) + (-1)) v22).bind fun h24 =>
    some ((v14.2.1 + (-1)) + (-1), h24)
  else
  (lp_J6_getChars_ba4f3_22 K n l2 1 K l0 l1 h).bind fun v26 =>
  (ldO v26.2.2 1000200 (-v26.1)).bind fun v28 =>
  l2.bind fun a30 =>
  (stB v26.2.2 n a30 (v26.2.1 + (-1)) v28).bind fun h32 =>
  if (-9) ≤ v26.1 then
    (stB h32 n a30 ((v26.2.1 + (-1)) + (-1)) 45).bind fun h34 =>
    some ((v26.2.1 + (-1)) + (-1), h34)
  else
  (ldO h32 1000201 (-v26.1)).bind fun v36 =>
  (stB h32 n a30 ((v26.2.1 + (-1)) + (-1)) v36).bind fun h38 =>
  (stB h38 n a30 (((v26.2.1 + (-1)) + (-1)) + (-1)) 45).bind fun h40 =>
  some (((v26.2.1 + (-1)) + (-1)) + (-1), h40)
set_option maxRecDepth 100000 in
set_option maxHeartbeats 4000000 in
theorem w_J6_getChars_ba4f3_22 {K : Nat} {W0 : mm_X} {G : mm_G} {mc ms kc ks : Nat} {Q_ : State → Prop} {n : Nat} (C : mm_C W0 G cJ6_getChars_ba4f3 yJ6_getChars_ba4f3.cls 7 mc ms (some .int) 0 yJ6_getChars_ba4f3.name) (hn : 48 ≤ n) (l2 : Option Nat) (l6 : Int32) : ∀ (k_ : Nat) (l0 : Int32) (l5 : Int32) (h : mm_H) {r_ : Int32 × Int32 × mm_H} (hr : lp_J6_getChars_ba4f3_22 K n l2 l6 k_ l0 l5 h = some r_) (hx0 : WW W0 G 7 mc ms Q_ 72 [some (.int r_.1), none, some (va_rf l2), none, none, some (.int r_.2.1), some (.int l6)] [] r_.2.2 n kc ks), WW W0 G 7 mc ms Q_ 22 [some (.int l0), none, some (va_rf l2), none, none, some (.int l5), some (.int l6)] [] h n kc ks := by
  intro k_
  induction k_ with
  | zero =>
    intro l0 l5 h r_ hr
    cases hr
  | succ k_ ih_ =>
    intro l0 l5 h r_ hr hx0
    unfold lp_J6_getChars_ba4f3_22 at hr
    refine rr_iload_n (i := 0) C dJ6_getChars_ba4f3_22 rfl rfl ?_
    refine rr_bipush (v := (-100)) C dJ6_getChars_ba4f3_23 (by decide) ?_
    refine rr_icmp_gt (tgt := 72) C dJ6_getChars_ba4f3_25 (by decide) (fun c25_ => ?_) (fun c25_ => ?_)
    · replace hr := (if_pos c25_).symm.trans hr
      obtain rfl := Option.some.inj hr
      exact rr_keep [true, false, true, false, false, true, true] (hx0)
    · replace hr := (if_neg c25_).symm.trans hr
      refine rr_iload_n (i := 0) C dJ6_getChars_ba4f3_28 rfl rfl ?_
      refine rr_bipush (v := 100) C dJ6_getChars_ba4f3_29 (by decide) ?_
      refine rr_idiv C dJ6_getChars_ba4f3_31 (by decide) ?_
      refine rr_istore_n (i := 3) C dJ6_getChars_ba4f3_32 rfl (by decide) ?_
      rw [mm_set1_rf (i := 2) (r := l2) rfl]
      show WW W0 G 7 _ _ _ 33 [some (.int l0), none, some (va_rf l2), some (.int (l0 / 100)), none, some (.int l5), some (.int l6)] [] h n _ _
      refine rr_iload_n (i := 3) C dJ6_getChars_ba4f3_33 rfl rfl ?_
      refine rr_bipush (v := 100) C dJ6_getChars_ba4f3_34 (by decide) ?_
      refine rr_imul C dJ6_getChars_ba4f3_36 ?_
      refine rr_iload_n (i := 0) C dJ6_getChars_ba4f3_37 rfl rfl ?_
      refine rr_isub C dJ6_getChars_ba4f3_38 ?_
      refine rr_istore C dJ6_getChars_ba4f3_39 (by decide) ?_
      show WW W0 G 7 _ _ _ 41 [some (.int l0), none, some (va_rf l2), some (.int (l0 / 100)), some (.int (((l0 / 100) * 100) - l0)), some (.int l5), some (.int l6)] [] h n _ _
      refine rr_iload_n (i := 3) C dJ6_getChars_ba4f3_41 rfl rfl ?_
      refine rr_istore_n (i := 0) C dJ6_getChars_ba4f3_42 rfl (by decide) ?_
      show WW W0 G 7 _ _ _ 43 [some (.int (l0 / 100)), none, some (va_rf l2), some (.int (l0 / 100)), some (.int (((l0 / 100) * 100) - l0)), some (.int l5), some (.int l6)] [] h n _ _
      refine rr_aload_nO (i := 2) C dJ6_getChars_ba4f3_43 rfl rfl ?_
      refine rr_iinc (v := l5 + (-1)) C dJ6_getChars_ba4f3_44 rfl rfl ?_
      show WW W0 G 7 _ _ _ 47 [some (.int (l0 / 100)), none, some (va_rf l2), some (.int (l0 / 100)), some (.int (((l0 / 100) * 100) - l0)), some (.int (l5 + (-1))), some (.int l6)] [va_rf l2] h n _ _
      refine rr_iload C dJ6_getChars_ba4f3_47 rfl ?_
      refine rr_getsD1 C dJ6_getChars_ba4f3_49 sl_J6_83 ?_
      refine rr_iload C dJ6_getChars_ba4f3_52 rfl ?_
      replace hr := Option.bind_eq_some_iff.mp hr
      obtain ⟨v4, e5, hr⟩ := hr
      refine rr_ldO C dJ6_getChars_ba4f3_54 e5 ?_
      replace hr := Option.bind_eq_some_iff.mp hr
      obtain ⟨a6, e7, hr⟩ := hr
      subst e7
      replace hr := Option.bind_eq_some_iff.mp hr
      obtain ⟨h8, e9, hr⟩ := hr
      refine rr_stB C dJ6_getChars_ba4f3_55 e9 ?_
      refine rr_aload_n (i := 2) C dJ6_getChars_ba4f3_56 rfl rfl ?_
      refine rr_iinc (v := (l5 + (-1)) + (-1)) C dJ6_getChars_ba4f3_57 rfl rfl ?_
      show WW W0 G 7 _ _ _ 60 [some (.int (l0 / 100)), none, some (.ref a6), some (.int (l0 / 100)), some (.int (((l0 / 100) * 100) - l0)), some (.int ((l5 + (-1)) + (-1))), some (.int l6)] [.ref a6] h8 n _ _
      refine rr_iload C dJ6_getChars_ba4f3_60 rfl ?_
      refine rr_getsD2 C dJ6_getChars_ba4f3_62 sl_J6_87 ?_
      refine rr_iload C dJ6_getChars_ba4f3_65 rfl ?_
      replace hr := Option.bind_eq_some_iff.mp hr
      obtain ⟨v10, e11, hr⟩ := hr
      refine rr_ldO C dJ6_getChars_ba4f3_67 e11 ?_
      replace hr := Option.bind_eq_some_iff.mp hr
      obtain ⟨h12, e13, hr⟩ := hr
      refine rr_stB C dJ6_getChars_ba4f3_68 e13 ?_
      refine rr_goto (tgt := 22) C dJ6_getChars_ba4f3_69 (by decide) ?_
      exact rr_keep [true, false, true, false, false, true, true] (ih_ _ _ _ hr hx0)
set_option maxRecDepth 100000 in
set_option maxHeartbeats 4000000 in
theorem c_J6_getChars_ba4f3 {K : Nat} {G : mm_G} {l : Launch} {h : mm_H} {n : Nat} (l0 : Int32) (l1 : Int32) (l2 : Option Nat) {r_ : Int32 × mm_H} (hn : 48 ≤ n) (hr : q_J6_getChars_ba4f3 K h n l0 l1 l2 = some r_) : Sp G l yJ6_getChars_ba4f3 cJ6_getChars_ba4f3 7 (some .int) 0 0 0 [.int l0, .int l1, va_rf l2] h n (fun v h' n' => v = some (.int r_.1) ∧ h' = r_.2 ∧ n' = n) := by
  refine Sp_of (by decide +kernel) (by rcases l2 with _ | _ <;> exact Nat.le_of_ble_eq_true rfl) hn ?_
  intro W0 hwl C
  subst hwl
  unfold q_J6_getChars_ba4f3 at hr
  rw [show mm_en 7 [.int l0, .int l1, va_rf l2] = [some (.int l0), some (.int l1), some (va_rf l2), none, none, none, none] from by rcases l2 with _ | _ <;> rfl]
  show WW W0 G 7 0 0 _ 0 [some (.int l0), some (.int l1), some (va_rf l2), none, none, none, none] [] h n 0 0
  refine rr_iload_n (i := 1) C dJ6_getChars_ba4f3_0 rfl rfl ?_
  refine rr_istore C dJ6_getChars_ba4f3_1 (by decide) ?_
  show WW W0 G 7 _ _ _ 3 [some (.int l0), some (.int l1), some (va_rf l2), none, none, some (.int l1), none] [] h n _ _
  refine rr_iload_n (i := 0) C dJ6_getChars_ba4f3_3 rfl rfl ?_
  refine rr_if_ge (tgt := 11) C dJ6_getChars_ba4f3_4 (by decide) (fun c4_ => ?_) (fun c4_ => ?_)
  · replace hr := (if_pos c4_).symm.trans hr
    refine rr_iconst (v := 0) C dJ6_getChars_ba4f3_11 (by decide) ?_
    refine rr_istore C dJ6_getChars_ba4f3_12 (by decide) ?_
    show WW W0 G 7 _ _ _ 14 [some (.int l0), some (.int l1), some (va_rf l2), none, none, some (.int l1), some (.int 0)] [] h n _ _
    refine rr_iload C dJ6_getChars_ba4f3_14 rfl ?_
    refine rr_if_ne (tgt := 22) C dJ6_getChars_ba4f3_16 (by decide) (fun q_ => absurd rfl q_) (fun _ => ?_)
    refine rr_iload_n (i := 0) C dJ6_getChars_ba4f3_19 rfl rfl ?_
    refine rr_ineg C dJ6_getChars_ba4f3_20 ?_
    refine rr_istore_n (i := 0) C dJ6_getChars_ba4f3_21 rfl (by decide) ?_
    show WW W0 G 7 _ _ _ 22 [some (.int (-l0)), some (.int l1), some (va_rf l2), none, none, some (.int l1), some (.int 0)] [] h n _ _
    replace hr := Option.bind_eq_some_iff.mp hr
    obtain ⟨v14, e15, hr⟩ := hr
    refine rr_keep [true, false, true, false, false, true, true] (w_J6_getChars_ba4f3_22 C (by omega) l2 0 K (-l0) l1 h e15 ?_)
    show WW W0 G 7 _ _ _ 72 [some (.int v14.1), none, some (va_rf l2), none, none, some (.int v14.2.1), some (.int 0)] [] v14.2.2 n _ _
    refine rr_aload_nO (i := 2) C dJ6_getChars_ba4f3_72 rfl rfl ?_
    refine rr_iinc (v := v14.2.1 + (-1)) C dJ6_getChars_ba4f3_73 rfl rfl ?_
    show WW W0 G 7 _ _ _ 76 [some (.int v14.1), none, some (va_rf l2), none, none, some (.int (v14.2.1 + (-1))), some (.int 0)] [va_rf l2] v14.2.2 n _ _
    refine rr_iload C dJ6_getChars_ba4f3_76 rfl ?_
    refine rr_getsD1 C dJ6_getChars_ba4f3_78 sl_J6_83 ?_
    refine rr_iload_n (i := 0) C dJ6_getChars_ba4f3_81 rfl rfl ?_
    refine rr_ineg C dJ6_getChars_ba4f3_82 ?_
    replace hr := Option.bind_eq_some_iff.mp hr
    obtain ⟨v16, e17, hr⟩ := hr
    refine rr_ldO C dJ6_getChars_ba4f3_83 e17 ?_
    replace hr := Option.bind_eq_some_iff.mp hr
    obtain ⟨a18, e19, hr⟩ := hr
    subst e19
    replace hr := Option.bind_eq_some_iff.mp hr
    obtain ⟨h20, e21, hr⟩ := hr
    refine rr_stB C dJ6_getChars_ba4f3_84 e21 ?_
    refine rr_iload_n (i := 0) C dJ6_getChars_ba4f3_85 rfl rfl ?_
    refine rr_bipush (v := (-9)) C dJ6_getChars_ba4f3_86 (by decide) ?_
    refine rr_icmp_ge (tgt := 104) C dJ6_getChars_ba4f3_88 (by decide) (fun c88_ => ?_) (fun c88_ => ?_)
    · replace hr := (if_pos c88_).symm.trans hr
      refine rr_iload C dJ6_getChars_ba4f3_104 rfl ?_
      refine rr_if_eq (tgt := 118) C dJ6_getChars_ba4f3_106 (by decide) (fun _ => ?_) (fun q_ => absurd rfl q_)
      refine rr_iload C dJ6_getChars_ba4f3_118 rfl ?_
      obtain rfl := Option.some.inj hr
      exact rr_iret (ty := .int) C dJ6_getChars_ba4f3_120 rfl rfl ⟨rfl, rfl, rfl⟩
    · replace hr := (if_neg c88_).symm.trans hr
      refine rr_aload_n (i := 2) C dJ6_getChars_ba4f3_91 rfl rfl ?_
      refine rr_iinc (v := (v14.2.1 + (-1)) + (-1)) C dJ6_getChars_ba4f3_92 rfl rfl ?_
      show WW W0 G 7 _ _ _ 95 [some (.int v14.1), none, some (.ref a18), none, none, some (.int ((v14.2.1 + (-1)) + (-1))), some (.int 0)] [.ref a18] h20 n _ _
      refine rr_iload C dJ6_getChars_ba4f3_95 rfl ?_
      refine rr_getsD2 C dJ6_getChars_ba4f3_97 sl_J6_87 ?_
      refine rr_iload_n (i := 0) C dJ6_getChars_ba4f3_100 rfl rfl ?_
      refine rr_ineg C dJ6_getChars_ba4f3_101 ?_
      replace hr := Option.bind_eq_some_iff.mp hr
      obtain ⟨v22, e23, hr⟩ := hr
      refine rr_ldO C dJ6_getChars_ba4f3_102 e23 ?_
      replace hr := Option.bind_eq_some_iff.mp hr
      obtain ⟨h24, e25, hr⟩ := hr
      refine rr_stB C dJ6_getChars_ba4f3_103 e25 ?_
      refine rr_iload C dJ6_getChars_ba4f3_104 rfl ?_
      refine rr_if_eq (tgt := 118) C dJ6_getChars_ba4f3_106 (by decide) (fun _ => ?_) (fun q_ => absurd rfl q_)
      refine rr_iload C dJ6_getChars_ba4f3_118 rfl ?_
      obtain rfl := Option.some.inj hr
      exact rr_iret (ty := .int) C dJ6_getChars_ba4f3_120 rfl rfl ⟨rfl, rfl, rfl⟩
  · replace hr := (if_neg c4_).symm.trans hr
    refine rr_iconst (v := 1) C dJ6_getChars_ba4f3_7 (by decide) ?_
    refine rr_goto (tgt := 12) C dJ6_getChars_ba4f3_8 (by decide) ?_
    refine rr_istore C dJ6_getChars_ba4f3_12 (by decide) ?_
    show WW W0 G 7 _ _ _ 14 [some (.int l0), some (.int l1), some (va_rf l2), none, none, some (.int l1), some (.int 1)] [] h n _ _
    refine rr_iload C dJ6_getChars_ba4f3_14 rfl ?_
    refine rr_if_ne (tgt := 22) C dJ6_getChars_ba4f3_16 (by decide) (fun _ => ?_) (fun q_ => absurd q_ (by decide))
    replace hr := Option.bind_eq_some_iff.mp hr
    obtain ⟨v26, e27, hr⟩ := hr
    refine rr_keep [true, false, true, false, false, true, true] (w_J6_getChars_ba4f3_22 C (by omega) l2 1 K l0 l1 h e27 ?_)
    show WW W0 G 7 _ _ _ 72 [some (.int v26.1), none, some (va_rf l2), none, none, some (.int v26.2.1), some (.int 1)] [] v26.2.2 n _ _
    refine rr_aload_nO (i := 2) C dJ6_getChars_ba4f3_72 rfl rfl ?_
    refine rr_iinc (v := v26.2.1 + (-1)) C dJ6_getChars_ba4f3_73 rfl rfl ?_
    show WW W0 G 7 _ _ _ 76 [some (.int v26.1), none, some (va_rf l2), none, none, some (.int (v26.2.1 + (-1))), some (.int 1)] [va_rf l2] v26.2.2 n _ _
    refine rr_iload C dJ6_getChars_ba4f3_76 rfl ?_
    refine rr_getsD1 C dJ6_getChars_ba4f3_78 sl_J6_83 ?_
    refine rr_iload_n (i := 0) C dJ6_getChars_ba4f3_81 rfl rfl ?_
    refine rr_ineg C dJ6_getChars_ba4f3_82 ?_
    replace hr := Option.bind_eq_some_iff.mp hr
    obtain ⟨v28, e29, hr⟩ := hr
    refine rr_ldO C dJ6_getChars_ba4f3_83 e29 ?_
    replace hr := Option.bind_eq_some_iff.mp hr
    obtain ⟨a30, e31, hr⟩ := hr
    subst e31
    replace hr := Option.bind_eq_some_iff.mp hr
    obtain ⟨h32, e33, hr⟩ := hr
    refine rr_stB C dJ6_getChars_ba4f3_84 e33 ?_
    refine rr_iload_n (i := 0) C dJ6_getChars_ba4f3_85 rfl rfl ?_
    refine rr_bipush (v := (-9)) C dJ6_getChars_ba4f3_86 (by decide) ?_
    refine rr_icmp_ge (tgt := 104) C dJ6_getChars_ba4f3_88 (by decide) (fun c88_ => ?_) (fun c88_ => ?_)
    · replace hr := (if_pos c88_).symm.trans hr
      refine rr_iload C dJ6_getChars_ba4f3_104 rfl ?_
      refine rr_if_eq (tgt := 118) C dJ6_getChars_ba4f3_106 (by decide) (fun q_ => absurd q_ (by decide)) (fun _ => ?_)
      refine rr_aload_n (i := 2) C dJ6_getChars_ba4f3_109 rfl rfl ?_
      refine rr_iinc (v := (v26.2.1 + (-1)) + (-1)) C dJ6_getChars_ba4f3_110 rfl rfl ?_
      show WW W0 G 7 _ _ _ 113 [some (.int v26.1), none, some (.ref a30), none, none, some (.int ((v26.2.1 + (-1)) + (-1))), some (.int 1)] [.ref a30] h32 n _ _
      refine rr_iload C dJ6_getChars_ba4f3_113 rfl ?_
      refine rr_bipush (v := 45) C dJ6_getChars_ba4f3_115 (by decide) ?_
      replace hr := Option.bind_eq_some_iff.mp hr
      obtain ⟨h34, e35, hr⟩ := hr
      refine rr_stB C dJ6_getChars_ba4f3_117 e35 ?_
      refine rr_iload C dJ6_getChars_ba4f3_118 rfl ?_
      obtain rfl := Option.some.inj hr
      exact rr_iret (ty := .int) C dJ6_getChars_ba4f3_120 rfl rfl ⟨rfl, rfl, rfl⟩
    · replace hr := (if_neg c88_).symm.trans hr
      refine rr_aload_n (i := 2) C dJ6_getChars_ba4f3_91 rfl rfl ?_
      refine rr_iinc (v := (v26.2.1 + (-1)) + (-1)) C dJ6_getChars_ba4f3_92 rfl rfl ?_
      show WW W0 G 7 _ _ _ 95 [some (.int v26.1), none, some (.ref a30), none, none, some (.int ((v26.2.1 + (-1)) + (-1))), some (.int 1)] [.ref a30] h32 n _ _
      refine rr_iload C dJ6_getChars_ba4f3_95 rfl ?_
      refine rr_getsD2 C dJ6_getChars_ba4f3_97 sl_J6_87 ?_
      refine rr_iload_n (i := 0) C dJ6_getChars_ba4f3_100 rfl rfl ?_
      refine rr_ineg C dJ6_getChars_ba4f3_101 ?_
      replace hr := Option.bind_eq_some_iff.mp hr
      obtain ⟨v36, e37, hr⟩ := hr
      refine rr_ldO C dJ6_getChars_ba4f3_102 e37 ?_
      replace hr := Option.bind_eq_some_iff.mp hr
      obtain ⟨h38, e39, hr⟩ := hr
      refine rr_stB C dJ6_getChars_ba4f3_103 e39 ?_
      refine rr_iload C dJ6_getChars_ba4f3_104 rfl ?_
      refine rr_if_eq (tgt := 118) C dJ6_getChars_ba4f3_106 (by decide) (fun q_ => absurd q_ (by decide)) (fun _ => ?_)
      refine rr_aload_n (i := 2) C dJ6_getChars_ba4f3_109 rfl rfl ?_
      refine rr_iinc (v := ((v26.2.1 + (-1)) + (-1)) + (-1)) C dJ6_getChars_ba4f3_110 rfl rfl ?_
      show WW W0 G 7 _ _ _ 113 [some (.int v26.1), none, some (.ref a30), none, none, some (.int (((v26.2.1 + (-1)) + (-1)) + (-1))), some (.int 1)] [.ref a30] h38 n _ _
      refine rr_iload C dJ6_getChars_ba4f3_113 rfl ?_
      refine rr_bipush (v := 45) C dJ6_getChars_ba4f3_115 (by decide) ?_
      replace hr := Option.bind_eq_some_iff.mp hr
      obtain ⟨h40, e41, hr⟩ := hr
      refine rr_stB C dJ6_getChars_ba4f3_117 e41 ?_
      refine rr_iload C dJ6_getChars_ba4f3_118 rfl ?_
      obtain rfl := Option.some.inj hr
      exact rr_iret (ty := .int) C dJ6_getChars_ba4f3_120 rfl rfl ⟨rfl, rfl, rfl⟩
def q_J3_checkFromIndexSize_8c36e (K : Nat) (h : mm_H) (n : Nat) (l0 : Int32) (l1 : Int32) (l2 : Int32) (l3 : Option Nat) : Option (Int32) :=
  if ((l2 ||| l0) ||| l1) < 0 then
    none
  else
  if l1 ≤ (l2 - l0) then
    some l0
  else
  none
set_option maxRecDepth 100000 in
set_option maxHeartbeats 4000000 in
theorem c_J3_checkFromIndexSize_8c36e {K : Nat} {G : mm_G} {l : Launch} {h : mm_H} {n : Nat} (l0 : Int32) (l1 : Int32) (l2 : Int32) (l3 : Option Nat) {r_ : Int32} (hn : 48 ≤ n) (hr : q_J3_checkFromIndexSize_8c36e K h n l0 l1 l2 l3 = some r_) : Sp G l yJ3_checkFromIndexSize_8c36e cJ3_checkFromIndexSize_8c36e 4 (some .int) 0 0 0 [.int l0, .int l1, .int l2, va_rf l3] h n (fun v h' n' => v = some (.int r_) ∧ h' = h ∧ n' = n) := by
  refine Sp_of (by decide +kernel) (by rcases l3 with _ | _ <;> exact Nat.le_of_ble_eq_true rfl) hn ?_
  intro W0 hwl C
  subst hwl
  unfold q_J3_checkFromIndexSize_8c36e at hr
  rw [show mm_en 4 [.int l0, .int l1, .int l2, va_rf l3] = [some (.int l0), some (.int l1), some (.int l2), some (va_rf l3)] from by rcases l3 with _ | _ <;> rfl]
  show WW W0 G 4 0 0 _ 0 [some (.int l0), some (.int l1), some (.int l2), some (va_rf l3)] [] h n 0 0
  refine rr_iload_n (i := 2) C dJ3_checkFromIndexSize_8c36e_0 rfl rfl ?_
  refine rr_iload_n (i := 0) C dJ3_checkFromIndexSize_8c36e_1 rfl rfl ?_
  refine rr_ior C dJ3_checkFromIndexSize_8c36e_2 ?_
  refine rr_iload_n (i := 1) C dJ3_checkFromIndexSize_8c36e_3 rfl rfl ?_
  refine rr_ior C dJ3_checkFromIndexSize_8c36e_4 ?_
  refine rr_if_lt (tgt := 15) C dJ3_checkFromIndexSize_8c36e_5 (by decide) (fun c5_ => ?_) (fun c5_ => ?_)
  · replace hr := (if_pos c5_).symm.trans hr
    refine rr_aload_nO (i := 3) C dJ3_checkFromIndexSize_8c36e_15 rfl rfl ?_
    refine rr_iload_n (i := 0) C dJ3_checkFromIndexSize_8c36e_16 rfl rfl ?_
    refine rr_iload_n (i := 1) C dJ3_checkFromIndexSize_8c36e_17 rfl rfl ?_
    refine rr_iload_n (i := 2) C dJ3_checkFromIndexSize_8c36e_18 rfl rfl ?_
    cases hr
  · replace hr := (if_neg c5_).symm.trans hr
    refine rr_iload_n (i := 1) C dJ3_checkFromIndexSize_8c36e_8 rfl rfl ?_
    refine rr_iload_n (i := 2) C dJ3_checkFromIndexSize_8c36e_9 rfl rfl ?_
    refine rr_iload_n (i := 0) C dJ3_checkFromIndexSize_8c36e_10 rfl rfl ?_
    refine rr_isub C dJ3_checkFromIndexSize_8c36e_11 ?_
    refine rr_icmp_le (tgt := 23) C dJ3_checkFromIndexSize_8c36e_12 (by decide) (fun c12_ => ?_) (fun c12_ => ?_)
    · replace hr := (if_pos c12_).symm.trans hr
      refine rr_iload_n (i := 0) C dJ3_checkFromIndexSize_8c36e_23 rfl rfl ?_
      obtain rfl := Option.some.inj hr
      exact rr_iret (ty := .int) C dJ3_checkFromIndexSize_8c36e_24 rfl rfl ⟨rfl, rfl, rfl⟩
    · replace hr := (if_neg c12_).symm.trans hr
      refine rr_aload_nO (i := 3) C dJ3_checkFromIndexSize_8c36e_15 rfl rfl ?_
      refine rr_iload_n (i := 0) C dJ3_checkFromIndexSize_8c36e_16 rfl rfl ?_
      refine rr_iload_n (i := 1) C dJ3_checkFromIndexSize_8c36e_17 rfl rfl ?_
      refine rr_iload_n (i := 2) C dJ3_checkFromIndexSize_8c36e_18 rfl rfl ?_
      cases hr
def q_J0_checkBoundsOffCount_cabcc (K : Nat) (h : mm_H) (n : Nat) (l0 : Int32) (l1 : Int32) (l2 : Int32) : Option (Int32) :=
  (q_J3_checkFromIndexSize_8c36e K h n l0 l1 l2 none).bind fun v2 =>
  some v2
set_option maxRecDepth 100000 in
set_option maxHeartbeats 4000000 in
theorem c_J0_checkBoundsOffCount_cabcc {K : Nat} {G : mm_G} {l : Launch} {h : mm_H} {n : Nat} (l0 : Int32) (l1 : Int32) (l2 : Int32) {r_ : Int32} (hn : 48 ≤ n) (hr : q_J0_checkBoundsOffCount_cabcc K h n l0 l1 l2 = some r_) : Sp G l yJ0_checkBoundsOffCount_cabcc cJ0_checkBoundsOffCount_cabcc 3 (some .int) 1 0 0 [.int l0, .int l1, .int l2] h n (fun v h' n' => v = some (.int r_) ∧ h' = h ∧ n' = n) := by
  refine Sp_of (by decide +kernel) (Nat.le_of_ble_eq_true rfl) hn ?_
  intro W0 hwl C
  subst hwl
  unfold q_J0_checkBoundsOffCount_cabcc at hr
  show WW W0 G 3 0 0 _ 0 [some (.int l0), some (.int l1), some (.int l2)] [] h n 0 0
  refine rr_iload_n (i := 0) C dJ0_checkBoundsOffCount_cabcc_0 rfl rfl ?_
  refine rr_iload_n (i := 1) C dJ0_checkBoundsOffCount_cabcc_1 rfl rfl ?_
  refine rr_iload_n (i := 2) C dJ0_checkBoundsOffCount_cabcc_2 rfl rfl ?_
  refine rr_getsF C dJ0_checkBoundsOffCount_cabcc_3 sl_J0_1053 (fun unk1 => ?_)
  replace hr := Option.bind_eq_some_iff.mp hr
  obtain ⟨v2, e3, hr⟩ := hr
  refine rr_callS (as := [.int l0, .int l1, .int l2, va_rf unk1]) (st := []) (mc' := 0) (ms' := 0) C dJ0_checkBoundsOffCount_cabcc_6 it_J0_1065 (by decide) (Nat.le_of_ble_eq_true rfl) (c_J3_checkFromIndexSize_8c36e (K := K) l0 l1 l2 unk1 (by omega) (show q_J3_checkFromIndexSize_8c36e K h n l0 l1 l2 unk1 = some v2 from e3)) (fun v_ h_ n_ q_ => ?_)
  obtain ⟨q1_, q2_, q3_⟩ := q_
  subst v_; subst h_; subst n_
  show WW W0 G 3 _ _ _ 9 [some (.int l0), some (.int l1), some (.int l2)] [.int v2] h n _ _
  obtain rfl := Option.some.inj hr
  exact rr_iret (ty := .int) C dJ0_checkBoundsOffCount_cabcc_9 rfl rfl ⟨rfl, rfl, rfl⟩
def q_J3_checkFromToIndex_8c36e (K : Nat) (h : mm_H) (n : Nat) (l0 : Int32) (l1 : Int32) (l2 : Int32) (l3 : Option Nat) : Option (Int32) :=
  if l0 < 0 then
    none
  else
  if l1 < l0 then
    none
  else
  if l1 ≤ l2 then
    some l0
  else
  none
set_option maxRecDepth 100000 in
set_option maxHeartbeats 4000000 in
theorem c_J3_checkFromToIndex_8c36e {K : Nat} {G : mm_G} {l : Launch} {h : mm_H} {n : Nat} (l0 : Int32) (l1 : Int32) (l2 : Int32) (l3 : Option Nat) {r_ : Int32} (hn : 48 ≤ n) (hr : q_J3_checkFromToIndex_8c36e K h n l0 l1 l2 l3 = some r_) : Sp G l yJ3_checkFromToIndex_8c36e cJ3_checkFromToIndex_8c36e 4 (some .int) 0 0 0 [.int l0, .int l1, .int l2, va_rf l3] h n (fun v h' n' => v = some (.int r_) ∧ h' = h ∧ n' = n) := by
  refine Sp_of (by decide +kernel) (by rcases l3 with _ | _ <;> exact Nat.le_of_ble_eq_true rfl) hn ?_
  intro W0 hwl C
  subst hwl
  unfold q_J3_checkFromToIndex_8c36e at hr
  rw [show mm_en 4 [.int l0, .int l1, .int l2, va_rf l3] = [some (.int l0), some (.int l1), some (.int l2), some (va_rf l3)] from by rcases l3 with _ | _ <;> rfl]
  show WW W0 G 4 0 0 _ 0 [some (.int l0), some (.int l1), some (.int l2), some (va_rf l3)] [] h n 0 0
  refine rr_iload_n (i := 0) C dJ3_checkFromToIndex_8c36e_0 rfl rfl ?_
  refine rr_if_lt (tgt := 14) C dJ3_checkFromToIndex_8c36e_1 (by decide) (fun c1_ => ?_) (fun c1_ => ?_)
  · replace hr := (if_pos c1_).symm.trans hr
    refine rr_aload_nO (i := 3) C dJ3_checkFromToIndex_8c36e_14 rfl rfl ?_
    refine rr_iload_n (i := 0) C dJ3_checkFromToIndex_8c36e_15 rfl rfl ?_
    refine rr_iload_n (i := 1) C dJ3_checkFromToIndex_8c36e_16 rfl rfl ?_
    refine rr_iload_n (i := 2) C dJ3_checkFromToIndex_8c36e_17 rfl rfl ?_
    cases hr
  · replace hr := (if_neg c1_).symm.trans hr
    refine rr_iload_n (i := 0) C dJ3_checkFromToIndex_8c36e_4 rfl rfl ?_
    refine rr_iload_n (i := 1) C dJ3_checkFromToIndex_8c36e_5 rfl rfl ?_
    refine rr_icmp_gt (tgt := 14) C dJ3_checkFromToIndex_8c36e_6 (by decide) (fun c6_ => ?_) (fun c6_ => ?_)
    · replace hr := (if_pos c6_).symm.trans hr
      refine rr_aload_nO (i := 3) C dJ3_checkFromToIndex_8c36e_14 rfl rfl ?_
      refine rr_iload_n (i := 0) C dJ3_checkFromToIndex_8c36e_15 rfl rfl ?_
      refine rr_iload_n (i := 1) C dJ3_checkFromToIndex_8c36e_16 rfl rfl ?_
      refine rr_iload_n (i := 2) C dJ3_checkFromToIndex_8c36e_17 rfl rfl ?_
      cases hr
    · replace hr := (if_neg c6_).symm.trans hr
      refine rr_iload_n (i := 1) C dJ3_checkFromToIndex_8c36e_9 rfl rfl ?_
      refine rr_iload_n (i := 2) C dJ3_checkFromToIndex_8c36e_10 rfl rfl ?_
      refine rr_icmp_le (tgt := 22) C dJ3_checkFromToIndex_8c36e_11 (by decide) (fun c11_ => ?_) (fun c11_ => ?_)
      · replace hr := (if_pos c11_).symm.trans hr
        refine rr_iload_n (i := 0) C dJ3_checkFromToIndex_8c36e_22 rfl rfl ?_
        obtain rfl := Option.some.inj hr
        exact rr_iret (ty := .int) C dJ3_checkFromToIndex_8c36e_23 rfl rfl ⟨rfl, rfl, rfl⟩
      · replace hr := (if_neg c11_).symm.trans hr
        refine rr_aload_nO (i := 3) C dJ3_checkFromToIndex_8c36e_14 rfl rfl ?_
        refine rr_iload_n (i := 0) C dJ3_checkFromToIndex_8c36e_15 rfl rfl ?_
        refine rr_iload_n (i := 1) C dJ3_checkFromToIndex_8c36e_16 rfl rfl ?_
        refine rr_iload_n (i := 2) C dJ3_checkFromToIndex_8c36e_17 rfl rfl ?_
        cases hr
def q_J0_checkBoundsBeginEnd_23922 (K : Nat) (h : mm_H) (n : Nat) (l0 : Int32) (l1 : Int32) (l2 : Int32) : Option (Unit) :=
  (q_J3_checkFromToIndex_8c36e K h n l0 l1 l2 none).bind fun v2 =>
  some ()
set_option maxRecDepth 100000 in
set_option maxHeartbeats 4000000 in
theorem c_J0_checkBoundsBeginEnd_23922 {K : Nat} {G : mm_G} {l : Launch} {h : mm_H} {n : Nat} (l0 : Int32) (l1 : Int32) (l2 : Int32) {r_ : Unit} (hn : 48 ≤ n) (hr : q_J0_checkBoundsBeginEnd_23922 K h n l0 l1 l2 = some r_) : Sp G l yJ0_checkBoundsBeginEnd_23922 cJ0_checkBoundsBeginEnd_23922 3 none 1 0 0 [.int l0, .int l1, .int l2] h n (fun v h' n' => v = none ∧ h' = h ∧ n' = n) := by
  refine Sp_of (by decide +kernel) (Nat.le_of_ble_eq_true rfl) hn ?_
  intro W0 hwl C
  subst hwl
  unfold q_J0_checkBoundsBeginEnd_23922 at hr
  show WW W0 G 3 0 0 _ 0 [some (.int l0), some (.int l1), some (.int l2)] [] h n 0 0
  refine rr_iload_n (i := 0) C dJ0_checkBoundsBeginEnd_23922_0 rfl rfl ?_
  refine rr_iload_n (i := 1) C dJ0_checkBoundsBeginEnd_23922_1 rfl rfl ?_
  refine rr_iload_n (i := 2) C dJ0_checkBoundsBeginEnd_23922_2 rfl rfl ?_
  refine rr_getsF C dJ0_checkBoundsBeginEnd_23922_3 sl_J0_1053 (fun unk1 => ?_)
  replace hr := Option.bind_eq_some_iff.mp hr
  obtain ⟨v2, e3, hr⟩ := hr
  refine rr_callS (as := [.int l0, .int l1, .int l2, va_rf unk1]) (st := []) (mc' := 0) (ms' := 0) C dJ0_checkBoundsBeginEnd_23922_6 it_J0_1062 (by decide) (Nat.le_of_ble_eq_true rfl) (c_J3_checkFromToIndex_8c36e (K := K) l0 l1 l2 unk1 (by omega) (show q_J3_checkFromToIndex_8c36e K h n l0 l1 l2 unk1 = some v2 from e3)) (fun v_ h_ n_ q_ => ?_)
  obtain ⟨q1_, q2_, q3_⟩ := q_
  subst v_; subst h_; subst n_
  show WW W0 G 3 _ _ _ 9 [some (.int l0), some (.int l1), some (.int l2)] [.int v2] h n _ _
  refine rr_pop C dJ0_checkBoundsBeginEnd_23922_9 rfl ?_
  obtain rfl := Option.some.inj hr
  exact rr_vret C dJ0_checkBoundsBeginEnd_23922_10 rfl ⟨rfl, rfl, rfl⟩
def q_J4_length_8abf5 (K : Nat) (h : mm_H) (n : Nat) (l0 : Nat) : Option (Int32) :=
  (ckq h n l0 11).bind fun u1 =>
  (q_J5_length_8abf5 K h n l0).bind fun v5 =>
  some v5
set_option maxRecDepth 100000 in
set_option maxHeartbeats 4000000 in
theorem c_J4_length_8abf5 {K : Nat} {G : mm_G} {l : Launch} {h : mm_H} {n : Nat} (l0 : Nat) {r_ : Int32} (hn : 48 ≤ n) (hr : q_J4_length_8abf5 K h n l0 = some r_) : Sp G l yJ4_length_8abf5 cJ4_length_8abf5 1 (some .int) 1 0 0 [.ref l0] h n (fun v h' n' => v = some (.int r_) ∧ h' = h ∧ n' = n) := by
  refine Sp_of (by decide +kernel) (Nat.le_of_ble_eq_true rfl) hn ?_
  intro W0 hwl C
  subst hwl
  unfold q_J4_length_8abf5 at hr
  show WW W0 G 1 0 0 _ 0 [some (.ref l0)] [] h n 0 0
  refine rr_aload_n (i := 0) C dJ4_length_8abf5_0 rfl rfl ?_
  replace hr := Option.bind_eq_some_iff.mp hr
  obtain ⟨u1, e2, hr⟩ := hr
  replace hr := Option.bind_eq_some_iff.mp hr
  obtain ⟨v5, e6, hr⟩ := hr
  refine rr_callSU (as := []) (st := []) (mc' := 0) (ms' := 0) C dJ4_length_8abf5_1 is_J4_343 (by decide) e2 (Nat.le_of_ble_eq_true rfl) (c_J5_length_8abf5 l0 (by omega) e6) (fun v_ h_ n_ q_ => ?_)
  obtain ⟨q1_, q2_, q3_⟩ := q_
  subst v_; subst h_; subst n_
  show WW W0 G 1 _ _ _ 4 [some (.ref l0)] [.int v5] h n _ _
  obtain rfl := Option.some.inj hr
  exact rr_iret (ty := .int) C dJ4_length_8abf5_4 rfl rfl ⟨rfl, rfl, rfl⟩
def q_J7_checkLength_df160 (K : Nat) (h : mm_H) (n : Nat) (l0 : Int32) (l1 : Int32) : Option (Unit) :=
  if l0 ≤ l1 then
    some ()
  else
  none
set_option maxRecDepth 100000 in
set_option maxHeartbeats 4000000 in
theorem c_J7_checkLength_df160 {K : Nat} {G : mm_G} {l : Launch} {h : mm_H} {n : Nat} (l0 : Int32) (l1 : Int32) {r_ : Unit} (hn : 48 ≤ n) (hr : q_J7_checkLength_df160 K h n l0 l1 = some r_) : Sp G l yJ7_checkLength_df160 cJ7_checkLength_df160 2 none 0 0 0 [.int l0, .int l1] h n (fun v h' n' => v = none ∧ h' = h ∧ n' = n) := by
  refine Sp_of (by decide +kernel) (Nat.le_of_ble_eq_true rfl) hn ?_
  intro W0 hwl C
  subst hwl
  unfold q_J7_checkLength_df160 at hr
  show WW W0 G 2 0 0 _ 0 [some (.int l0), some (.int l1)] [] h n 0 0
  refine rr_iload_n (i := 1) C dJ7_checkLength_df160_0 rfl rfl ?_
  refine rr_iload_n (i := 0) C dJ7_checkLength_df160_1 rfl rfl ?_
  refine rr_icmp_ge (tgt := 37) C dJ7_checkLength_df160_2 (by decide) (fun c2_ => ?_) (fun c2_ => ?_)
  · replace hr := (if_pos c2_).symm.trans hr
    obtain rfl := Option.some.inj hr
    exact rr_vret C dJ7_checkLength_df160_37 rfl ⟨rfl, rfl, rfl⟩
  · replace hr := (if_neg c2_).symm.trans hr
    cases hr

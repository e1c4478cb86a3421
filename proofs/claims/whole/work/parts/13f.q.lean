def q_X10_day (K : Nat) (h : mm_H) (n : Nat) (l0 : Nat) (l1 : Int32) : Option (Int32 × mm_H) :=
  (rdR h n l0 9 0).bind fun v1 =>
  v1.bind fun a3 =>
  (rdI h n a3 4 6).bind fun v5 =>
  if l1 ≤ v5 then
    some (0, h)
  else
  if l1 < 1500 then
    (rdR h n l0 9 0).bind fun v7 =>
    v7.bind fun a9 =>
    (wrF h n a9 4 6 (.int l1)).bind fun h11 =>
    some (1, h11)
  else
  some (0, h)
set_option maxRecDepth 100000 in
set_option maxHeartbeats 4000000 in
theorem c_X10_day {K : Nat} {G : mm_G} {l : Launch} {h : mm_H} {n : Nat} (l0 : Nat) (l1 : Int32) {r_ : Int32 × mm_H} (hn : 48 ≤ n) (hr : q_X10_day K h n l0 l1 = some r_) : Sp G l yX10_day cX10_day 2 (some .boolean) 0 0 0 [.ref l0, .int l1] h n (fun v h' n' => v = some (.int r_.1) ∧ h' = r_.2 ∧ n' = n) := by
  refine Sp_of (by decide +kernel) (Nat.le_of_ble_eq_true rfl) hn ?_
  intro W0 hwl C
  subst hwl
  unfold q_X10_day at hr
  show WW W0 G 2 0 0 _ 0 [some (.ref l0), some (.int l1)] [] h n 0 0
  refine rr_iload_n (i := 1) C dX10_day_0 rfl rfl ?_
  refine rr_aload_n (i := 0) C dX10_day_1 rfl rfl ?_
  replace hr := Option.bind_eq_some_iff.mp hr
  obtain ⟨v1, e2, hr⟩ := hr
  refine rr_rdR C dX10_day_2 fl_X10_12 e2 ?_
  replace hr := Option.bind_eq_some_iff.mp hr
  obtain ⟨a3, e4, hr⟩ := hr
  subst e4
  replace hr := Option.bind_eq_some_iff.mp hr
  obtain ⟨v5, e6, hr⟩ := hr
  refine rr_rdI C dX10_day_5 fl_X10_55 e6 ?_
  refine rr_icmp_le (tgt := 18) C dX10_day_8 (by decide) (fun c8_ => ?_) (fun c8_ => ?_)
  · replace hr := (if_pos c8_).symm.trans hr
    refine rr_iconst (v := 0) C dX10_day_18 (by decide) ?_
    obtain rfl := Option.some.inj hr
    exact rr_iret (ty := .boolean) C dX10_day_19 rfl rfl ⟨rfl, rfl, rfl⟩
  · replace hr := (if_neg c8_).symm.trans hr
    refine rr_iload_n (i := 1) C dX10_day_11 rfl rfl ?_
    refine rr_sipush (v := 1500) C dX10_day_12 (by decide) ?_
    refine rr_icmp_lt (tgt := 20) C dX10_day_15 (by decide) (fun c15_ => ?_) (fun c15_ => ?_)
    · replace hr := (if_pos c15_).symm.trans hr
      refine rr_aload_n (i := 0) C dX10_day_20 rfl rfl ?_
      replace hr := Option.bind_eq_some_iff.mp hr
      obtain ⟨v7, e8, hr⟩ := hr
      refine rr_rdR C dX10_day_21 fl_X10_12 e8 ?_
      refine rr_iload_n (i := 1) C dX10_day_24 rfl rfl ?_
      replace hr := Option.bind_eq_some_iff.mp hr
      obtain ⟨a9, e10, hr⟩ := hr
      subst e10
      replace hr := Option.bind_eq_some_iff.mp hr
      obtain ⟨h11, e12, hr⟩ := hr
      refine rr_wrF C dX10_day_25 fp_X10_55 rfl rfl e12 ?_
      refine rr_iconst (v := 1) C dX10_day_28 (by decide) ?_
      obtain rfl := Option.some.inj hr
      exact rr_iret (ty := .boolean) C dX10_day_29 rfl rfl ⟨rfl, rfl, rfl⟩
    · replace hr := (if_neg c15_).symm.trans hr
      refine rr_iconst (v := 0) C dX10_day_18 (by decide) ?_
      obtain rfl := Option.some.inj hr
      exact rr_iret (ty := .boolean) C dX10_day_19 rfl rfl ⟨rfl, rfl, rfl⟩
def q_X10_isWithin (K : Nat) (h : mm_H) (n : Nat) (l0 : Int32) (l1 : Int32) (l2 : Int32) : Option (Int32) :=
  if l0 < l1 then
    some 0
  else
  if l2 < l0 then
    some 0
  else
  some 1
set_option maxRecDepth 100000 in
set_option maxHeartbeats 4000000 in
theorem c_X10_isWithin {K : Nat} {G : mm_G} {l : Launch} {h : mm_H} {n : Nat} (l0 : Int32) (l1 : Int32) (l2 : Int32) {r_ : Int32} (hn : 48 ≤ n) (hr : q_X10_isWithin K h n l0 l1 l2 = some r_) : Sp G l yX10_isWithin cX10_isWithin 3 (some .boolean) 0 0 0 [.int l0, .int l1, .int l2] h n (fun v h' n' => v = some (.int r_) ∧ h' = h ∧ n' = n) := by
  refine Sp_of (by decide +kernel) (Nat.le_of_ble_eq_true rfl) hn ?_
  intro W0 hwl C
  subst hwl
  unfold q_X10_isWithin at hr
  show WW W0 G 3 0 0 _ 0 [some (.int l0), some (.int l1), some (.int l2)] [] h n 0 0
  refine rr_iload_n (i := 0) C dX10_isWithin_0 rfl rfl ?_
  refine rr_iload_n (i := 1) C dX10_isWithin_1 rfl rfl ?_
  refine rr_icmp_lt (tgt := 14) C dX10_isWithin_2 (by decide) (fun c2_ => ?_) (fun c2_ => ?_)
  · replace hr := (if_pos c2_).symm.trans hr
    refine rr_iconst (v := 0) C dX10_isWithin_14 (by decide) ?_
    obtain rfl := Option.some.inj hr
    exact rr_iret (ty := .boolean) C dX10_isWithin_15 rfl rfl ⟨rfl, rfl, rfl⟩
  · replace hr := (if_neg c2_).symm.trans hr
    refine rr_iload_n (i := 0) C dX10_isWithin_5 rfl rfl ?_
    refine rr_iload_n (i := 2) C dX10_isWithin_6 rfl rfl ?_
    refine rr_icmp_gt (tgt := 14) C dX10_isWithin_7 (by decide) (fun c7_ => ?_) (fun c7_ => ?_)
    · replace hr := (if_pos c7_).symm.trans hr
      refine rr_iconst (v := 0) C dX10_isWithin_14 (by decide) ?_
      obtain rfl := Option.some.inj hr
      exact rr_iret (ty := .boolean) C dX10_isWithin_15 rfl rfl ⟨rfl, rfl, rfl⟩
    · replace hr := (if_neg c7_).symm.trans hr
      refine rr_iconst (v := 1) C dX10_isWithin_10 (by decide) ?_
      refine rr_goto (tgt := 15) C dX10_isWithin_11 (by decide) ?_
      obtain rfl := Option.some.inj hr
      exact rr_iret (ty := .boolean) C dX10_isWithin_15 rfl rfl ⟨rfl, rfl, rfl⟩
def q_X10_firm (K : Nat) (h : mm_H) (n : Nat) (l0 : Nat) (l1 : Int32) : Option (Int32 × mm_H) :=
  (q_X10_isWithin K h n l1 0 999999).bind fun v1 =>
  if v1 = 0 then
    some ((-1), h)
  else
  (rdR h n l0 9 0).bind fun v3 =>
  v3.bind fun a5 =>
  (ckq h n a5 4).bind fun u7 =>
  (q_X4_takeFirm K h n a5 l1).bind fun v9 =>
  some (v9.1, v9.2)
set_option maxRecDepth 100000 in
set_option maxHeartbeats 4000000 in
theorem c_X10_firm {K : Nat} {G : mm_G} {l : Launch} {h : mm_H} {n : Nat} (l0 : Nat) (l1 : Int32) {r_ : Int32 × mm_H} (hn : 48 ≤ n) (hr : q_X10_firm K h n l0 l1 = some r_) : Sp G l yX10_firm cX10_firm 2 (some .int) 1 0 0 [.ref l0, .int l1] h n (fun v h' n' => v = some (.int r_.1) ∧ h' = r_.2 ∧ n' = n) := by
  refine Sp_of (by decide +kernel) (Nat.le_of_ble_eq_true rfl) hn ?_
  intro W0 hwl C
  subst hwl
  unfold q_X10_firm at hr
  show WW W0 G 2 0 0 _ 0 [some (.ref l0), some (.int l1)] [] h n 0 0
  refine rr_iload_n (i := 1) C dX10_firm_0 rfl rfl ?_
  refine rr_iconst (v := 0) C dX10_firm_1 (by decide) ?_
  refine rr_ldc C dX10_firm_2 ct_X10_59 ?_
  replace hr := Option.bind_eq_some_iff.mp hr
  obtain ⟨v1, e2, hr⟩ := hr
  refine rr_callS (as := [.int l1, .int 0, .int 999999]) (st := []) (mc' := 0) (ms' := 0) C dX10_firm_4 it_X10_60 (by decide) (Nat.le_of_ble_eq_true rfl) (c_X10_isWithin l1 0 999999 (by omega) e2) (fun v_ h_ n_ q_ => ?_)
  obtain ⟨q1_, q2_, q3_⟩ := q_
  subst v_; subst h_; subst n_
  show WW W0 G 2 _ _ _ 7 [some (.ref l0), some (.int l1)] [.int v1] h n _ _
  refine rr_if_eq (tgt := 21) C dX10_firm_7 (by decide) (fun c7_ => ?_) (fun c7_ => ?_)
  · replace hr := (if_pos c7_).symm.trans hr
    refine rr_iconst (v := (-1)) C dX10_firm_21 (by decide) ?_
    obtain rfl := Option.some.inj hr
    exact rr_iret (ty := .int) C dX10_firm_22 rfl rfl ⟨rfl, rfl, rfl⟩
  · replace hr := (if_neg c7_).symm.trans hr
    refine rr_aload_n (i := 0) C dX10_firm_10 rfl rfl ?_
    replace hr := Option.bind_eq_some_iff.mp hr
    obtain ⟨v3, e4, hr⟩ := hr
    refine rr_rdR C dX10_firm_11 fl_X10_12 e4 ?_
    refine rr_iload_n (i := 1) C dX10_firm_14 rfl rfl ?_
    replace hr := Option.bind_eq_some_iff.mp hr
    obtain ⟨a5, e6, hr⟩ := hr
    subst e6
    replace hr := Option.bind_eq_some_iff.mp hr
    obtain ⟨u7, e8, hr⟩ := hr
    replace hr := Option.bind_eq_some_iff.mp hr
    obtain ⟨v9, e10, hr⟩ := hr
    refine rr_callVq (as := [.int l1]) (st := []) (mc' := 0) (ms' := 0) C dX10_firm_15 iv_X10_64 (by decide) e8 rfl (Nat.le_of_ble_eq_true rfl) (c_X4_takeFirm a5 l1 (by omega) e10) (fun v_ h_ n_ q_ => ?_)
    obtain ⟨q1_, q2_, q3_⟩ := q_
    subst v_; subst h_; subst n_
    show WW W0 G 2 _ _ _ 18 [some (.ref l0), some (.int l1)] [.int v9.1] v9.2 n _ _
    refine rr_goto (tgt := 22) C dX10_firm_18 (by decide) ?_
    obtain rfl := Option.some.inj hr
    exact rr_iret (ty := .int) C dX10_firm_22 rfl rfl ⟨rfl, rfl, rfl⟩
def q_X10_isFirm (K : Nat) (h : mm_H) (n : Nat) (l0 : Nat) (l1 : Int32) : Option (Int32) :=
  if l1 < 0 then
    some 0
  else
  (rdR h n l0 9 0).bind fun v1 =>
  v1.bind fun a3 =>
  (rdI h n a3 4 5).bind fun v5 =>
  if v5 ≤ l1 then
    some 0
  else
  some 1
set_option maxRecDepth 100000 in
set_option maxHeartbeats 4000000 in
theorem c_X10_isFirm {K : Nat} {G : mm_G} {l : Launch} {h : mm_H} {n : Nat} (l0 : Nat) (l1 : Int32) {r_ : Int32} (hn : 48 ≤ n) (hr : q_X10_isFirm K h n l0 l1 = some r_) : Sp G l yX10_isFirm cX10_isFirm 2 (some .boolean) 0 0 0 [.ref l0, .int l1] h n (fun v h' n' => v = some (.int r_) ∧ h' = h ∧ n' = n) := by
  refine Sp_of (by decide +kernel) (Nat.le_of_ble_eq_true rfl) hn ?_
  intro W0 hwl C
  subst hwl
  unfold q_X10_isFirm at hr
  show WW W0 G 2 0 0 _ 0 [some (.ref l0), some (.int l1)] [] h n 0 0
  refine rr_iload_n (i := 1) C dX10_isFirm_0 rfl rfl ?_
  refine rr_if_lt (tgt := 19) C dX10_isFirm_1 (by decide) (fun c1_ => ?_) (fun c1_ => ?_)
  · replace hr := (if_pos c1_).symm.trans hr
    refine rr_iconst (v := 0) C dX10_isFirm_19 (by decide) ?_
    obtain rfl := Option.some.inj hr
    exact rr_iret (ty := .boolean) C dX10_isFirm_20 rfl rfl ⟨rfl, rfl, rfl⟩
  · replace hr := (if_neg c1_).symm.trans hr
    refine rr_iload_n (i := 1) C dX10_isFirm_4 rfl rfl ?_
    refine rr_aload_n (i := 0) C dX10_isFirm_5 rfl rfl ?_
    replace hr := Option.bind_eq_some_iff.mp hr
    obtain ⟨v1, e2, hr⟩ := hr
    refine rr_rdR C dX10_isFirm_6 fl_X10_12 e2 ?_
    replace hr := Option.bind_eq_some_iff.mp hr
    obtain ⟨a3, e4, hr⟩ := hr
    subst e4
    replace hr := Option.bind_eq_some_iff.mp hr
    obtain ⟨v5, e6, hr⟩ := hr
    refine rr_rdI C dX10_isFirm_9 fl_X10_292 e6 ?_
    refine rr_icmp_ge (tgt := 19) C dX10_isFirm_12 (by decide) (fun c12_ => ?_) (fun c12_ => ?_)
    · replace hr := (if_pos c12_).symm.trans hr
      refine rr_iconst (v := 0) C dX10_isFirm_19 (by decide) ?_
      obtain rfl := Option.some.inj hr
      exact rr_iret (ty := .boolean) C dX10_isFirm_20 rfl rfl ⟨rfl, rfl, rfl⟩
    · replace hr := (if_neg c12_).symm.trans hr
      refine rr_iconst (v := 1) C dX10_isFirm_15 (by decide) ?_
      refine rr_goto (tgt := 20) C dX10_isFirm_16 (by decide) ?_
      obtain rfl := Option.some.inj hr
      exact rr_iret (ty := .boolean) C dX10_isFirm_20 rfl rfl ⟨rfl, rfl, rfl⟩
def q_X10_isFirmsYear (K : Nat) (h : mm_H) (n : Nat) (l0 : Nat) (l1 : Int32) (l2 : Int32) : Option (Int32) :=
  (ckq h n l0 9).bind fun u1 =>
  (q_X10_isFirm K h n l0 l1).bind fun v3 =>
  if v3 = 0 then
    some 0
  else
  (q_X10_isWithin K h n l2 0 14).bind fun v5 =>
  if v5 = 0 then
    some 0
  else
  some 1
set_option maxRecDepth 100000 in
set_option maxHeartbeats 4000000 in
theorem c_X10_isFirmsYear {K : Nat} {G : mm_G} {l : Launch} {h : mm_H} {n : Nat} (l0 : Nat) (l1 : Int32) (l2 : Int32) {r_ : Int32} (hn : 48 ≤ n) (hr : q_X10_isFirmsYear K h n l0 l1 l2 = some r_) : Sp G l yX10_isFirmsYear cX10_isFirmsYear 3 (some .boolean) 1 0 0 [.ref l0, .int l1, .int l2] h n (fun v h' n' => v = some (.int r_) ∧ h' = h ∧ n' = n) := by
  refine Sp_of (by decide +kernel) (Nat.le_of_ble_eq_true rfl) hn ?_
  intro W0 hwl C
  subst hwl
  unfold q_X10_isFirmsYear at hr
  show WW W0 G 3 0 0 _ 0 [some (.ref l0), some (.int l1), some (.int l2)] [] h n 0 0
  refine rr_aload_n (i := 0) C dX10_isFirmsYear_0 rfl rfl ?_
  refine rr_iload_n (i := 1) C dX10_isFirmsYear_1 rfl rfl ?_
  replace hr := Option.bind_eq_some_iff.mp hr
  obtain ⟨u1, e2, hr⟩ := hr
  replace hr := Option.bind_eq_some_iff.mp hr
  obtain ⟨v3, e4, hr⟩ := hr
  refine rr_callVq (as := [.int l1]) (st := []) (mc' := 0) (ms' := 0) C dX10_isFirmsYear_2 iv_X10_187 (by decide) e2 rfl (Nat.le_of_ble_eq_true rfl) (c_X10_isFirm l0 l1 (by omega) e4) (fun v_ h_ n_ q_ => ?_)
  obtain ⟨q1_, q2_, q3_⟩ := q_
  subst v_; subst h_; subst n_
  show WW W0 G 3 _ _ _ 5 [some (.ref l0), some (.int l1), some (.int l2)] [.int v3] h n _ _
  refine rr_if_eq (tgt := 22) C dX10_isFirmsYear_5 (by decide) (fun c5_ => ?_) (fun c5_ => ?_)
  · replace hr := (if_pos c5_).symm.trans hr
    refine rr_iconst (v := 0) C dX10_isFirmsYear_22 (by decide) ?_
    obtain rfl := Option.some.inj hr
    exact rr_iret (ty := .boolean) C dX10_isFirmsYear_23 rfl rfl ⟨rfl, rfl, rfl⟩
  · replace hr := (if_neg c5_).symm.trans hr
    refine rr_iload_n (i := 2) C dX10_isFirmsYear_8 rfl rfl ?_
    refine rr_iconst (v := 0) C dX10_isFirmsYear_9 (by decide) ?_
    refine rr_bipush (v := 14) C dX10_isFirmsYear_10 (by decide) ?_
    replace hr := Option.bind_eq_some_iff.mp hr
    obtain ⟨v5, e6, hr⟩ := hr
    refine rr_callS (as := [.int l2, .int 0, .int 14]) (st := []) (mc' := 0) (ms' := 0) C dX10_isFirmsYear_12 it_X10_60 (by decide) (Nat.le_of_ble_eq_true rfl) (c_X10_isWithin l2 0 14 (by omega) e6) (fun v_ h_ n_ q_ => ?_)
    obtain ⟨q1_, q2_, q3_⟩ := q_
    subst v_; subst h_; subst n_
    show WW W0 G 3 _ _ _ 15 [some (.ref l0), some (.int l1), some (.int l2)] [.int v5] h n _ _
    refine rr_if_eq (tgt := 22) C dX10_isFirmsYear_15 (by decide) (fun c15_ => ?_) (fun c15_ => ?_)
    · replace hr := (if_pos c15_).symm.trans hr
      refine rr_iconst (v := 0) C dX10_isFirmsYear_22 (by decide) ?_
      obtain rfl := Option.some.inj hr
      exact rr_iret (ty := .boolean) C dX10_isFirmsYear_23 rfl rfl ⟨rfl, rfl, rfl⟩
    · replace hr := (if_neg c15_).symm.trans hr
      refine rr_iconst (v := 1) C dX10_isFirmsYear_18 (by decide) ?_
      refine rr_goto (tgt := 23) C dX10_isFirmsYear_19 (by decide) ?_
      obtain rfl := Option.some.inj hr
      exact rr_iret (ty := .boolean) C dX10_isFirmsYear_23 rfl rfl ⟨rfl, rfl, rfl⟩
def q_X10_mostOfFact (K : Nat) (h : mm_H) (n : Nat) (l0 : Int32) : Option (Int32) :=
  if 3 ≤ l0 then
    if 11 ≤ l0 then
      some 9999
    else
    some 99999
  else
  some 999
set_option maxRecDepth 100000 in
set_option maxHeartbeats 4000000 in
theorem c_X10_mostOfFact {K : Nat} {G : mm_G} {l : Launch} {h : mm_H} {n : Nat} (l0 : Int32) {r_ : Int32} (hn : 48 ≤ n) (hr : q_X10_mostOfFact K h n l0 = some r_) : Sp G l yX10_mostOfFact cX10_mostOfFact 1 (some .int) 0 0 0 [.int l0] h n (fun v h' n' => v = some (.int r_) ∧ h' = h ∧ n' = n) := by
  refine Sp_of (by decide +kernel) (Nat.le_of_ble_eq_true rfl) hn ?_
  intro W0 hwl C
  subst hwl
  unfold q_X10_mostOfFact at hr
  show WW W0 G 1 0 0 _ 0 [some (.int l0)] [] h n 0 0
  refine rr_iload_n (i := 0) C dX10_mostOfFact_0 rfl rfl ?_
  refine rr_iconst (v := 3) C dX10_mostOfFact_1 (by decide) ?_
  refine rr_icmp_ge (tgt := 9) C dX10_mostOfFact_2 (by decide) (fun c2_ => ?_) (fun c2_ => ?_)
  · replace hr := (if_pos c2_).symm.trans hr
    refine rr_iload_n (i := 0) C dX10_mostOfFact_9 rfl rfl ?_
    refine rr_bipush (v := 11) C dX10_mostOfFact_10 (by decide) ?_
    refine rr_icmp_ge (tgt := 20) C dX10_mostOfFact_12 (by decide) (fun c12_ => ?_) (fun c12_ => ?_)
    · replace hr := (if_pos c12_).symm.trans hr
      refine rr_sipush (v := 9999) C dX10_mostOfFact_20 (by decide) ?_
      obtain rfl := Option.some.inj hr
      exact rr_iret (ty := .int) C dX10_mostOfFact_23 rfl rfl ⟨rfl, rfl, rfl⟩
    · replace hr := (if_neg c12_).symm.trans hr
      refine rr_ldc C dX10_mostOfFact_15 ct_X10_93 ?_
      refine rr_goto (tgt := 23) C dX10_mostOfFact_17 (by decide) ?_
      obtain rfl := Option.some.inj hr
      exact rr_iret (ty := .int) C dX10_mostOfFact_23 rfl rfl ⟨rfl, rfl, rfl⟩
  · replace hr := (if_neg c2_).symm.trans hr
    refine rr_sipush (v := 999) C dX10_mostOfFact_5 (by decide) ?_
    obtain rfl := Option.some.inj hr
    exact rr_iret (ty := .int) C dX10_mostOfFact_8 rfl rfl ⟨rfl, rfl, rfl⟩
def q_X10_fact (K : Nat) (h : mm_H) (n : Nat) (l0 : Nat) (l1 : Int32) (l2 : Int32) (l3 : Int32) (l4 : Int32) : Option (Int32 × mm_H) :=
  (ckq h n l0 9).bind fun u1 =>
  (q_X10_isFirmsYear K h n l0 l1 l2).bind fun v3 =>
  if v3 = 0 then
    some ((-1), h)
  else
  (q_X10_isWithin K h n l3 0 16).bind fun v5 =>
  if v5 = 0 then
    some ((-1), h)
  else
  (q_X10_mostOfFact K h n l3).bind fun v7 =>
  (q_X10_isWithin K h n l4 0 v7).bind fun v9 =>
  if v9 = 0 then
    some ((-1), h)
  else
  (rdR h n l0 9 0).bind fun v11 =>
  v11.bind fun a13 =>
  (rdR h n a13 4 1).bind fun v15 =>
  (rdR h n l0 9 0).bind fun v17 =>
  v17.bind fun a19 =>
  (rdI h n a19 4 6).bind fun v21 =>
  v15.bind fun a23 =>
  (ckq h n a23 0).bind fun u25 =>
  (q_X0_take K h n a23 l1 l2 l3 l4 v21).bind fun v27 =>
  some (v27.1, v27.2)
set_option maxRecDepth 100000 in
set_option maxHeartbeats 4000000 in
theorem c_X10_fact {K : Nat} {G : mm_G} {l : Launch} {h : mm_H} {n : Nat} (l0 : Nat) (l1 : Int32) (l2 : Int32) (l3 : Int32) (l4 : Int32) {r_ : Int32 × mm_H} (hn : 48 ≤ n) (hr : q_X10_fact K h n l0 l1 l2 l3 l4 = some r_) : Sp G l yX10_fact cX10_fact 5 (some .int) 2 0 0 [.ref l0, .int l1, .int l2, .int l3, .int l4] h n (fun v h' n' => v = some (.int r_.1) ∧ h' = r_.2 ∧ n' = n) := by
  refine Sp_of (by decide +kernel) (Nat.le_of_ble_eq_true rfl) hn ?_
  intro W0 hwl C
  subst hwl
  unfold q_X10_fact at hr
  show WW W0 G 5 0 0 _ 0 [some (.ref l0), some (.int l1), some (.int l2), some (.int l3), some (.int l4)] [] h n 0 0
  refine rr_aload_n (i := 0) C dX10_fact_0 rfl rfl ?_
  refine rr_iload_n (i := 1) C dX10_fact_1 rfl rfl ?_
  refine rr_iload_n (i := 2) C dX10_fact_2 rfl rfl ?_
  replace hr := Option.bind_eq_some_iff.mp hr
  obtain ⟨u1, e2, hr⟩ := hr
  replace hr := Option.bind_eq_some_iff.mp hr
  obtain ⟨v3, e4, hr⟩ := hr
  refine rr_callVq (as := [.int l1, .int l2]) (st := []) (mc' := 0) (ms' := 0) C dX10_fact_3 iv_X10_68 (by decide) e2 rfl (Nat.le_of_ble_eq_true rfl) (c_X10_isFirmsYear l0 l1 l2 (by omega) e4) (fun v_ h_ n_ q_ => ?_)
  obtain ⟨q1_, q2_, q3_⟩ := q_
  subst v_; subst h_; subst n_
  show WW W0 G 5 _ _ _ 6 [some (.ref l0), some (.int l1), some (.int l2), some (.int l3), some (.int l4)] [.int v3] h n _ _
  refine rr_if_eq (tgt := 32) C dX10_fact_6 (by decide) (fun c6_ => ?_) (fun c6_ => ?_)
  · replace hr := (if_pos c6_).symm.trans hr
    refine rr_iconst (v := (-1)) C dX10_fact_32 (by decide) ?_
    obtain rfl := Option.some.inj hr
    exact rr_iret (ty := .int) C dX10_fact_33 rfl rfl ⟨rfl, rfl, rfl⟩
  · replace hr := (if_neg c6_).symm.trans hr
    refine rr_iload_n (i := 3) C dX10_fact_9 rfl rfl ?_
    refine rr_iconst (v := 0) C dX10_fact_10 (by decide) ?_
    refine rr_bipush (v := 16) C dX10_fact_11 (by decide) ?_
    replace hr := Option.bind_eq_some_iff.mp hr
    obtain ⟨v5, e6, hr⟩ := hr
    refine rr_callS (as := [.int l3, .int 0, .int 16]) (st := []) (mc' := 0) (ms' := 0) C dX10_fact_13 it_X10_60 (by decide) (Nat.le_of_ble_eq_true rfl) (c_X10_isWithin l3 0 16 (by omega) e6) (fun v_ h_ n_ q_ => ?_)
    obtain ⟨q1_, q2_, q3_⟩ := q_
    subst v_; subst h_; subst n_
    show WW W0 G 5 _ _ _ 16 [some (.ref l0), some (.int l1), some (.int l2), some (.int l3), some (.int l4)] [.int v5] h n _ _
    refine rr_if_eq (tgt := 32) C dX10_fact_16 (by decide) (fun c16_ => ?_) (fun c16_ => ?_)
    · replace hr := (if_pos c16_).symm.trans hr
      refine rr_iconst (v := (-1)) C dX10_fact_32 (by decide) ?_
      obtain rfl := Option.some.inj hr
      exact rr_iret (ty := .int) C dX10_fact_33 rfl rfl ⟨rfl, rfl, rfl⟩
    · replace hr := (if_neg c16_).symm.trans hr
      refine rr_iload C dX10_fact_19 rfl ?_
      refine rr_iconst (v := 0) C dX10_fact_21 (by decide) ?_
      refine rr_iload_n (i := 3) C dX10_fact_22 rfl rfl ?_
      replace hr := Option.bind_eq_some_iff.mp hr
      obtain ⟨v7, e8, hr⟩ := hr
      refine rr_callS (as := [.int l3]) (st := [.int 0, .int l4]) (mc' := 0) (ms' := 0) C dX10_fact_23 it_X10_72 (by decide) (Nat.le_of_ble_eq_true rfl) (c_X10_mostOfFact l3 (by omega) e8) (fun v_ h_ n_ q_ => ?_)
      obtain ⟨q1_, q2_, q3_⟩ := q_
      subst v_; subst h_; subst n_
      show WW W0 G 5 _ _ _ 26 [some (.ref l0), some (.int l1), some (.int l2), some (.int l3), some (.int l4)] [.int v7, .int 0, .int l4] h n _ _
      replace hr := Option.bind_eq_some_iff.mp hr
      obtain ⟨v9, e10, hr⟩ := hr
      refine rr_callS (as := [.int l4, .int 0, .int v7]) (st := []) (mc' := 0) (ms' := 0) C dX10_fact_26 it_X10_60 (by decide) (Nat.le_of_ble_eq_true rfl) (c_X10_isWithin l4 0 v7 (by omega) e10) (fun v_ h_ n_ q_ => ?_)
      obtain ⟨q1_, q2_, q3_⟩ := q_
      subst v_; subst h_; subst n_
      show WW W0 G 5 _ _ _ 29 [some (.ref l0), some (.int l1), some (.int l2), some (.int l3), some (.int l4)] [.int v9] h n _ _
      refine rr_if_ne (tgt := 34) C dX10_fact_29 (by decide) (fun c29_ => ?_) (fun c29_ => ?_)
      · replace hr := (if_neg c29_).symm.trans hr
        refine rr_aload_n (i := 0) C dX10_fact_34 rfl rfl ?_
        replace hr := Option.bind_eq_some_iff.mp hr
        obtain ⟨v11, e12, hr⟩ := hr
        refine rr_rdR C dX10_fact_35 fl_X10_12 e12 ?_
        replace hr := Option.bind_eq_some_iff.mp hr
        obtain ⟨a13, e14, hr⟩ := hr
        subst e14
        replace hr := Option.bind_eq_some_iff.mp hr
        obtain ⟨v15, e16, hr⟩ := hr
        refine rr_rdR C dX10_fact_38 fl_X10_75 e16 ?_
        refine rr_iload_n (i := 1) C dX10_fact_41 rfl rfl ?_
        refine rr_iload_n (i := 2) C dX10_fact_42 rfl rfl ?_
        refine rr_iload_n (i := 3) C dX10_fact_43 rfl rfl ?_
        refine rr_iload C dX10_fact_44 rfl ?_
        refine rr_aload_n (i := 0) C dX10_fact_46 rfl rfl ?_
        replace hr := Option.bind_eq_some_iff.mp hr
        obtain ⟨v17, e18, hr⟩ := hr
        refine rr_rdR C dX10_fact_47 fl_X10_12 e18 ?_
        replace hr := Option.bind_eq_some_iff.mp hr
        obtain ⟨a19, e20, hr⟩ := hr
        subst e20
        replace hr := Option.bind_eq_some_iff.mp hr
        obtain ⟨v21, e22, hr⟩ := hr
        refine rr_rdI C dX10_fact_50 fl_X10_55 e22 ?_
        replace hr := Option.bind_eq_some_iff.mp hr
        obtain ⟨a23, e24, hr⟩ := hr
        subst e24
        replace hr := Option.bind_eq_some_iff.mp hr
        obtain ⟨u25, e26, hr⟩ := hr
        replace hr := Option.bind_eq_some_iff.mp hr
        obtain ⟨v27, e28, hr⟩ := hr
        refine rr_callVq (as := [.int l1, .int l2, .int l3, .int l4, .int v21]) (st := []) (mc' := 0) (ms' := 0) C dX10_fact_53 iv_X10_79 (by decide) e26 rfl (Nat.le_of_ble_eq_true rfl) (c_X0_take a23 l1 l2 l3 l4 v21 (by omega) e28) (fun v_ h_ n_ q_ => ?_)
        obtain ⟨q1_, q2_, q3_⟩ := q_
        subst v_; subst h_; subst n_
        show WW W0 G 5 _ _ _ 56 [some (.ref l0), some (.int l1), some (.int l2), some (.int l3), some (.int l4)] [.int v27.1] v27.2 n _ _
        obtain rfl := Option.some.inj hr
        exact rr_iret (ty := .int) C dX10_fact_56 rfl rfl ⟨rfl, rfl, rfl⟩
      · replace hr := (if_pos c29_).symm.trans hr
        refine rr_iconst (v := (-1)) C dX10_fact_32 (by decide) ?_
        obtain rfl := Option.some.inj hr
        exact rr_iret (ty := .int) C dX10_fact_33 rfl rfl ⟨rfl, rfl, rfl⟩
def q_X10_isDay (K : Nat) (h : mm_H) (n : Nat) (l0 : Int32) : Option (Int32) :=
  (q_X10_isWithin K h n l0 0 1499).bind fun v1 =>
  (ckz v1).bind fun u3 =>
  some v1
set_option maxRecDepth 100000 in
set_option maxHeartbeats 4000000 in
theorem c_X10_isDay {K : Nat} {G : mm_G} {l : Launch} {h : mm_H} {n : Nat} (l0 : Int32) {r_ : Int32} (hn : 48 ≤ n) (hr : q_X10_isDay K h n l0 = some r_) : Sp G l yX10_isDay cX10_isDay 1 (some .boolean) 1 0 0 [.int l0] h n (fun v h' n' => v = some (.int r_) ∧ h' = h ∧ n' = n) := by
  refine Sp_of (by decide +kernel) (Nat.le_of_ble_eq_true rfl) hn ?_
  intro W0 hwl C
  subst hwl
  unfold q_X10_isDay at hr
  show WW W0 G 1 0 0 _ 0 [some (.int l0)] [] h n 0 0
  refine rr_iload_n (i := 0) C dX10_isDay_0 rfl rfl ?_
  refine rr_iconst (v := 0) C dX10_isDay_1 (by decide) ?_
  refine rr_sipush (v := 1499) C dX10_isDay_2 (by decide) ?_
  replace hr := Option.bind_eq_some_iff.mp hr
  obtain ⟨v1, e2, hr⟩ := hr
  refine rr_callS (as := [.int l0, .int 0, .int 1499]) (st := []) (mc' := 0) (ms' := 0) C dX10_isDay_5 it_X10_60 (by decide) (Nat.le_of_ble_eq_true rfl) (c_X10_isWithin l0 0 1499 (by omega) e2) (fun v_ h_ n_ q_ => ?_)
  obtain ⟨q1_, q2_, q3_⟩ := q_
  subst v_; subst h_; subst n_
  show WW W0 G 1 _ _ _ 8 [some (.int l0)] [.int v1] h n _ _
  replace hr := Option.bind_eq_some_iff.mp hr
  obtain ⟨u3, e4, hr⟩ := hr
  obtain rfl := Option.some.inj hr
  exact rr_iret (ty := .boolean) C dX10_isDay_8 rfl (ckz_s e4) ⟨rfl, rfl, rfl⟩
def q_X10_known (K : Nat) (h : mm_H) (n : Nat) (l0 : Nat) (l1 : Int32) (l2 : Int32) (l3 : Int32) (l4 : Int32) : Option (Int32) :=
  (ckq h n l0 9).bind fun u1 =>
  (q_X10_isFirmsYear K h n l0 l1 l2).bind fun v3 =>
  if v3 = 0 then
    some (-1)
  else
  (q_X10_isWithin K h n l3 0 16).bind fun v5 =>
  if v5 = 0 then
    some (-1)
  else
  (q_X10_isDay K h n l4).bind fun v7 =>
  if v7 = 0 then
    some (-1)
  else
  (rdR h n l0 9 0).bind fun v9 =>
  v9.bind fun a11 =>
  (rdR h n a11 4 1).bind fun v13 =>
  v13.bind fun a15 =>
  (ckq h n a15 0).bind fun u17 =>
  (q_X0_knownBy K h n a15 l1 l2 l3 l4).bind fun v19 =>
  some v19
set_option maxRecDepth 100000 in
set_option maxHeartbeats 4000000 in
theorem c_X10_known {K : Nat} {G : mm_G} {l : Launch} {h : mm_H} {n : Nat} (l0 : Nat) (l1 : Int32) (l2 : Int32) (l3 : Int32) (l4 : Int32) {r_ : Int32} (hn : 48 ≤ n) (hr : q_X10_known K h n l0 l1 l2 l3 l4 = some r_) : Sp G l yX10_known cX10_known 5 (some .int) 2 0 0 [.ref l0, .int l1, .int l2, .int l3, .int l4] h n (fun v h' n' => v = some (.int r_) ∧ h' = h ∧ n' = n) := by
  refine Sp_of (by decide +kernel) (Nat.le_of_ble_eq_true rfl) hn ?_
  intro W0 hwl C
  subst hwl
  unfold q_X10_known at hr
  show WW W0 G 5 0 0 _ 0 [some (.ref l0), some (.int l1), some (.int l2), some (.int l3), some (.int l4)] [] h n 0 0
  refine rr_aload_n (i := 0) C dX10_known_0 rfl rfl ?_
  refine rr_iload_n (i := 1) C dX10_known_1 rfl rfl ?_
  refine rr_iload_n (i := 2) C dX10_known_2 rfl rfl ?_
  replace hr := Option.bind_eq_some_iff.mp hr
  obtain ⟨u1, e2, hr⟩ := hr
  replace hr := Option.bind_eq_some_iff.mp hr
  obtain ⟨v3, e4, hr⟩ := hr
  refine rr_callVq (as := [.int l1, .int l2]) (st := []) (mc' := 0) (ms' := 0) C dX10_known_3 iv_X10_68 (by decide) e2 rfl (Nat.le_of_ble_eq_true rfl) (c_X10_isFirmsYear l0 l1 l2 (by omega) e4) (fun v_ h_ n_ q_ => ?_)
  obtain ⟨q1_, q2_, q3_⟩ := q_
  subst v_; subst h_; subst n_
  show WW W0 G 5 _ _ _ 6 [some (.ref l0), some (.int l1), some (.int l2), some (.int l3), some (.int l4)] [.int v3] h n _ _
  refine rr_if_eq (tgt := 27) C dX10_known_6 (by decide) (fun c6_ => ?_) (fun c6_ => ?_)
  · replace hr := (if_pos c6_).symm.trans hr
    refine rr_iconst (v := (-1)) C dX10_known_27 (by decide) ?_
    obtain rfl := Option.some.inj hr
    exact rr_iret (ty := .int) C dX10_known_28 rfl rfl ⟨rfl, rfl, rfl⟩
  · replace hr := (if_neg c6_).symm.trans hr
    refine rr_iload_n (i := 3) C dX10_known_9 rfl rfl ?_
    refine rr_iconst (v := 0) C dX10_known_10 (by decide) ?_
    refine rr_bipush (v := 16) C dX10_known_11 (by decide) ?_
    replace hr := Option.bind_eq_some_iff.mp hr
    obtain ⟨v5, e6, hr⟩ := hr
    refine rr_callS (as := [.int l3, .int 0, .int 16]) (st := []) (mc' := 0) (ms' := 0) C dX10_known_13 it_X10_60 (by decide) (Nat.le_of_ble_eq_true rfl) (c_X10_isWithin l3 0 16 (by omega) e6) (fun v_ h_ n_ q_ => ?_)
    obtain ⟨q1_, q2_, q3_⟩ := q_
    subst v_; subst h_; subst n_
    show WW W0 G 5 _ _ _ 16 [some (.ref l0), some (.int l1), some (.int l2), some (.int l3), some (.int l4)] [.int v5] h n _ _
    refine rr_if_eq (tgt := 27) C dX10_known_16 (by decide) (fun c16_ => ?_) (fun c16_ => ?_)
    · replace hr := (if_pos c16_).symm.trans hr
      refine rr_iconst (v := (-1)) C dX10_known_27 (by decide) ?_
      obtain rfl := Option.some.inj hr
      exact rr_iret (ty := .int) C dX10_known_28 rfl rfl ⟨rfl, rfl, rfl⟩
    · replace hr := (if_neg c16_).symm.trans hr
      refine rr_iload C dX10_known_19 rfl ?_
      replace hr := Option.bind_eq_some_iff.mp hr
      obtain ⟨v7, e8, hr⟩ := hr
      refine rr_callS (as := [.int l4]) (st := []) (mc' := 0) (ms' := 0) C dX10_known_21 it_X10_85 (by decide) (Nat.le_of_ble_eq_true rfl) (c_X10_isDay l4 (by omega) e8) (fun v_ h_ n_ q_ => ?_)
      obtain ⟨q1_, q2_, q3_⟩ := q_
      subst v_; subst h_; subst n_
      show WW W0 G 5 _ _ _ 24 [some (.ref l0), some (.int l1), some (.int l2), some (.int l3), some (.int l4)] [.int v7] h n _ _
      refine rr_if_ne (tgt := 29) C dX10_known_24 (by decide) (fun c24_ => ?_) (fun c24_ => ?_)
      · replace hr := (if_neg c24_).symm.trans hr
        refine rr_aload_n (i := 0) C dX10_known_29 rfl rfl ?_
        replace hr := Option.bind_eq_some_iff.mp hr
        obtain ⟨v9, e10, hr⟩ := hr
        refine rr_rdR C dX10_known_30 fl_X10_12 e10 ?_
        replace hr := Option.bind_eq_some_iff.mp hr
        obtain ⟨a11, e12, hr⟩ := hr
        subst e12
        replace hr := Option.bind_eq_some_iff.mp hr
        obtain ⟨v13, e14, hr⟩ := hr
        refine rr_rdR C dX10_known_33 fl_X10_75 e14 ?_
        refine rr_iload_n (i := 1) C dX10_known_36 rfl rfl ?_
        refine rr_iload_n (i := 2) C dX10_known_37 rfl rfl ?_
        refine rr_iload_n (i := 3) C dX10_known_38 rfl rfl ?_
        refine rr_iload C dX10_known_39 rfl ?_
        replace hr := Option.bind_eq_some_iff.mp hr
        obtain ⟨a15, e16, hr⟩ := hr
        subst e16
        replace hr := Option.bind_eq_some_iff.mp hr
        obtain ⟨u17, e18, hr⟩ := hr
        replace hr := Option.bind_eq_some_iff.mp hr
        obtain ⟨v19, e20, hr⟩ := hr
        refine rr_callVq (as := [.int l1, .int l2, .int l3, .int l4]) (st := []) (mc' := 0) (ms' := 0) C dX10_known_41 iv_X10_89 (by decide) e18 rfl (Nat.le_of_ble_eq_true rfl) (c_X0_knownBy a15 l1 l2 l3 l4 (by omega) e20) (fun v_ h_ n_ q_ => ?_)
        obtain ⟨q1_, q2_, q3_⟩ := q_
        subst v_; subst h_; subst n_
        show WW W0 G 5 _ _ _ 44 [some (.ref l0), some (.int l1), some (.int l2), some (.int l3), some (.int l4)] [.int v19] h n _ _
        obtain rfl := Option.some.inj hr
        exact rr_iret (ty := .int) C dX10_known_44 rfl rfl ⟨rfl, rfl, rfl⟩
      · replace hr := (if_pos c24_).symm.trans hr
        refine rr_iconst (v := (-1)) C dX10_known_27 (by decide) ?_
        obtain rfl := Option.some.inj hr
        exact rr_iret (ty := .int) C dX10_known_28 rfl rfl ⟨rfl, rfl, rfl⟩
def q_X10_work (K : Nat) (h : mm_H) (n : Nat) (l0 : Nat) (l1 : Int32) (l2 : Int32) (l3 : Int32) : Option (Int32 × mm_H) :=
  (ckq h n l0 9).bind fun u1 =>
  (q_X10_isFirmsYear K h n l0 l1 l3).bind fun v3 =>
  if v3 = 0 then
    some ((-1), h)
  else
  (q_X10_isWithin K h n l2 1 99999).bind fun v5 =>
  if v5 = 0 then
    some ((-1), h)
  else
  (rdR h n l0 9 0).bind fun v7 =>
  v7.bind fun a9 =>
  (rdR h n a9 4 2).bind fun v11 =>
  v11.bind fun a13 =>
  (ckq h n a13 8).bind fun u15 =>
  (q_X9_take K h n a13 l1 l2 l3).bind fun v17 =>
  some (v17.1, v17.2)
set_option maxRecDepth 100000 in
set_option maxHeartbeats 4000000 in
theorem c_X10_work {K : Nat} {G : mm_G} {l : Launch} {h : mm_H} {n : Nat} (l0 : Nat) (l1 : Int32) (l2 : Int32) (l3 : Int32) {r_ : Int32 × mm_H} (hn : 48 ≤ n) (hr : q_X10_work K h n l0 l1 l2 l3 = some r_) : Sp G l yX10_work cX10_work 4 (some .int) 2 0 0 [.ref l0, .int l1, .int l2, .int l3] h n (fun v h' n' => v = some (.int r_.1) ∧ h' = r_.2 ∧ n' = n) := by
  refine Sp_of (by decide +kernel) (Nat.le_of_ble_eq_true rfl) hn ?_
  intro W0 hwl C
  subst hwl
  unfold q_X10_work at hr
  show WW W0 G 4 0 0 _ 0 [some (.ref l0), some (.int l1), some (.int l2), some (.int l3)] [] h n 0 0
  refine rr_aload_n (i := 0) C dX10_work_0 rfl rfl ?_
  refine rr_iload_n (i := 1) C dX10_work_1 rfl rfl ?_
  refine rr_iload_n (i := 3) C dX10_work_2 rfl rfl ?_
  replace hr := Option.bind_eq_some_iff.mp hr
  obtain ⟨u1, e2, hr⟩ := hr
  replace hr := Option.bind_eq_some_iff.mp hr
  obtain ⟨v3, e4, hr⟩ := hr
  refine rr_callVq (as := [.int l1, .int l3]) (st := []) (mc' := 0) (ms' := 0) C dX10_work_3 iv_X10_68 (by decide) e2 rfl (Nat.le_of_ble_eq_true rfl) (c_X10_isFirmsYear l0 l1 l3 (by omega) e4) (fun v_ h_ n_ q_ => ?_)
  obtain ⟨q1_, q2_, q3_⟩ := q_
  subst v_; subst h_; subst n_
  show WW W0 G 4 _ _ _ 6 [some (.ref l0), some (.int l1), some (.int l2), some (.int l3)] [.int v3] h n _ _
  refine rr_if_eq (tgt := 19) C dX10_work_6 (by decide) (fun c6_ => ?_) (fun c6_ => ?_)
  · replace hr := (if_pos c6_).symm.trans hr
    refine rr_iconst (v := (-1)) C dX10_work_19 (by decide) ?_
    obtain rfl := Option.some.inj hr
    exact rr_iret (ty := .int) C dX10_work_20 rfl rfl ⟨rfl, rfl, rfl⟩
  · replace hr := (if_neg c6_).symm.trans hr
    refine rr_iload_n (i := 2) C dX10_work_9 rfl rfl ?_
    refine rr_iconst (v := 1) C dX10_work_10 (by decide) ?_
    refine rr_ldc C dX10_work_11 ct_X10_93 ?_
    replace hr := Option.bind_eq_some_iff.mp hr
    obtain ⟨v5, e6, hr⟩ := hr
    refine rr_callS (as := [.int l2, .int 1, .int 99999]) (st := []) (mc' := 0) (ms' := 0) C dX10_work_13 it_X10_60 (by decide) (Nat.le_of_ble_eq_true rfl) (c_X10_isWithin l2 1 99999 (by omega) e6) (fun v_ h_ n_ q_ => ?_)
    obtain ⟨q1_, q2_, q3_⟩ := q_
    subst v_; subst h_; subst n_
    show WW W0 G 4 _ _ _ 16 [some (.ref l0), some (.int l1), some (.int l2), some (.int l3)] [.int v5] h n _ _
    refine rr_if_ne (tgt := 21) C dX10_work_16 (by decide) (fun c16_ => ?_) (fun c16_ => ?_)
    · replace hr := (if_neg c16_).symm.trans hr
      refine rr_aload_n (i := 0) C dX10_work_21 rfl rfl ?_
      replace hr := Option.bind_eq_some_iff.mp hr
      obtain ⟨v7, e8, hr⟩ := hr
      refine rr_rdR C dX10_work_22 fl_X10_12 e8 ?_
      replace hr := Option.bind_eq_some_iff.mp hr
      obtain ⟨a9, e10, hr⟩ := hr
      subst e10
      replace hr := Option.bind_eq_some_iff.mp hr
      obtain ⟨v11, e12, hr⟩ := hr
      refine rr_rdR C dX10_work_25 fl_X10_94 e12 ?_
      refine rr_iload_n (i := 1) C dX10_work_28 rfl rfl ?_
      refine rr_iload_n (i := 2) C dX10_work_29 rfl rfl ?_
      refine rr_iload_n (i := 3) C dX10_work_30 rfl rfl ?_
      replace hr := Option.bind_eq_some_iff.mp hr
      obtain ⟨a13, e14, hr⟩ := hr
      subst e14
      replace hr := Option.bind_eq_some_iff.mp hr
      obtain ⟨u15, e16, hr⟩ := hr
      replace hr := Option.bind_eq_some_iff.mp hr
      obtain ⟨v17, e18, hr⟩ := hr
      refine rr_callVq (as := [.int l1, .int l2, .int l3]) (st := []) (mc' := 0) (ms' := 0) C dX10_work_31 iv_X10_98 (by decide) e16 rfl (Nat.le_of_ble_eq_true rfl) (c_X9_take a13 l1 l2 l3 (by omega) e18) (fun v_ h_ n_ q_ => ?_)
      obtain ⟨q1_, q2_, q3_⟩ := q_
      subst v_; subst h_; subst n_
      show WW W0 G 4 _ _ _ 34 [some (.ref l0), some (.int l1), some (.int l2), some (.int l3)] [.int v17.1] v17.2 n _ _
      obtain rfl := Option.some.inj hr
      exact rr_iret (ty := .int) C dX10_work_34 rfl rfl ⟨rfl, rfl, rfl⟩
    · replace hr := (if_pos c16_).symm.trans hr
      refine rr_iconst (v := (-1)) C dX10_work_19 (by decide) ?_
      obtain rfl := Option.some.inj hr
      exact rr_iret (ty := .int) C dX10_work_20 rfl rfl ⟨rfl, rfl, rfl⟩
def q_X10_done (K : Nat) (h : mm_H) (n : Nat) (l0 : Nat) (l1 : Int32) : Option (Int32 × mm_H) :=
  (rdR h n l0 9 0).bind fun v1 =>
  v1.bind fun a3 =>
  (rdR h n a3 4 2).bind fun v5 =>
  (rdR h n l0 9 0).bind fun v7 =>
  v7.bind fun a9 =>
  (rdI h n a9 4 6).bind fun v11 =>
  v5.bind fun a13 =>
  (ckq h n a13 8).bind fun u15 =>
  (q_X9_finish K h n a13 l1 v11).bind fun v17 =>
  (ckz v17.1).bind fun u19 =>
  some (v17.1, v17.2)
set_option maxRecDepth 100000 in
set_option maxHeartbeats 4000000 in
theorem c_X10_done {K : Nat} {G : mm_G} {l : Launch} {h : mm_H} {n : Nat} (l0 : Nat) (l1 : Int32) {r_ : Int32 × mm_H} (hn : 48 ≤ n) (hr : q_X10_done K h n l0 l1 = some r_) : Sp G l yX10_done cX10_done 2 (some .boolean) 2 0 0 [.ref l0, .int l1] h n (fun v h' n' => v = some (.int r_.1) ∧ h' = r_.2 ∧ n' = n) := by
  refine Sp_of (by decide +kernel) (Nat.le_of_ble_eq_true rfl) hn ?_
  intro W0 hwl C
  subst hwl
  unfold q_X10_done at hr
  show WW W0 G 2 0 0 _ 0 [some (.ref l0), some (.int l1)] [] h n 0 0
  refine rr_aload_n (i := 0) C dX10_done_0 rfl rfl ?_
  replace hr := Option.bind_eq_some_iff.mp hr
  obtain ⟨v1, e2, hr⟩ := hr
  refine rr_rdR C dX10_done_1 fl_X10_12 e2 ?_
  replace hr := Option.bind_eq_some_iff.mp hr
  obtain ⟨a3, e4, hr⟩ := hr
  subst e4
  replace hr := Option.bind_eq_some_iff.mp hr
  obtain ⟨v5, e6, hr⟩ := hr
  refine rr_rdR C dX10_done_4 fl_X10_94 e6 ?_
  refine rr_iload_n (i := 1) C dX10_done_7 rfl rfl ?_
  refine rr_aload_n (i := 0) C dX10_done_8 rfl rfl ?_
  replace hr := Option.bind_eq_some_iff.mp hr
  obtain ⟨v7, e8, hr⟩ := hr
  refine rr_rdR C dX10_done_9 fl_X10_12 e8 ?_
  replace hr := Option.bind_eq_some_iff.mp hr
  obtain ⟨a9, e10, hr⟩ := hr
  subst e10
  replace hr := Option.bind_eq_some_iff.mp hr
  obtain ⟨v11, e12, hr⟩ := hr
  refine rr_rdI C dX10_done_12 fl_X10_55 e12 ?_
  replace hr := Option.bind_eq_some_iff.mp hr
  obtain ⟨a13, e14, hr⟩ := hr
  subst e14
  replace hr := Option.bind_eq_some_iff.mp hr
  obtain ⟨u15, e16, hr⟩ := hr
  replace hr := Option.bind_eq_some_iff.mp hr
  obtain ⟨v17, e18, hr⟩ := hr
  refine rr_callVq (as := [.int l1, .int v11]) (st := []) (mc' := 0) (ms' := 0) C dX10_done_15 iv_X10_103 (by decide) e16 rfl (Nat.le_of_ble_eq_true rfl) (c_X9_finish a13 l1 v11 (by omega) e18) (fun v_ h_ n_ q_ => ?_)
  obtain ⟨q1_, q2_, q3_⟩ := q_
  subst v_; subst h_; subst n_
  show WW W0 G 2 _ _ _ 18 [some (.ref l0), some (.int l1)] [.int v17.1] v17.2 n _ _
  replace hr := Option.bind_eq_some_iff.mp hr
  obtain ⟨u19, e20, hr⟩ := hr
  obtain rfl := Option.some.inj hr
  exact rr_iret (ty := .boolean) C dX10_done_18 rfl (ckz_s e20) ⟨rfl, rfl, rfl⟩
def q_X10_isHead (K : Nat) (h : mm_H) (n : Nat) (l0 : Int32) : Option (Int32) :=
  (q_X10_isWithin K h n l0 0 3).bind fun v1 =>
  (ckz v1).bind fun u3 =>
  some v1
set_option maxRecDepth 100000 in
set_option maxHeartbeats 4000000 in
theorem c_X10_isHead {K : Nat} {G : mm_G} {l : Launch} {h : mm_H} {n : Nat} (l0 : Int32) {r_ : Int32} (hn : 48 ≤ n) (hr : q_X10_isHead K h n l0 = some r_) : Sp G l yX10_isHead cX10_isHead 1 (some .boolean) 1 0 0 [.int l0] h n (fun v h' n' => v = some (.int r_) ∧ h' = h ∧ n' = n) := by
  refine Sp_of (by decide +kernel) (Nat.le_of_ble_eq_true rfl) hn ?_
  intro W0 hwl C
  subst hwl
  unfold q_X10_isHead at hr
  show WW W0 G 1 0 0 _ 0 [some (.int l0)] [] h n 0 0
  refine rr_iload_n (i := 0) C dX10_isHead_0 rfl rfl ?_
  refine rr_iconst (v := 0) C dX10_isHead_1 (by decide) ?_
  refine rr_iconst (v := 3) C dX10_isHead_2 (by decide) ?_
  replace hr := Option.bind_eq_some_iff.mp hr
  obtain ⟨v1, e2, hr⟩ := hr
  refine rr_callS (as := [.int l0, .int 0, .int 3]) (st := []) (mc' := 0) (ms' := 0) C dX10_isHead_3 it_X10_60 (by decide) (Nat.le_of_ble_eq_true rfl) (c_X10_isWithin l0 0 3 (by omega) e2) (fun v_ h_ n_ q_ => ?_)
  obtain ⟨q1_, q2_, q3_⟩ := q_
  subst v_; subst h_; subst n_
  show WW W0 G 1 _ _ _ 6 [some (.int l0)] [.int v1] h n _ _
  replace hr := Option.bind_eq_some_iff.mp hr
  obtain ⟨u3, e4, hr⟩ := hr
  obtain rfl := Option.some.inj hr
  exact rr_iret (ty := .boolean) C dX10_isHead_6 rfl (ckz_s e4) ⟨rfl, rfl, rfl⟩
def q_X10_bench (K : Nat) (h : mm_H) (n : Nat) (l0 : Nat) (l1 : Int32) (l2 : Int32) (l3 : Int32) (l4 : Int32) : Option (Int32 × mm_H) :=
  (ckq h n l0 9).bind fun u1 =>
  (q_X10_isFirmsYear K h n l0 l1 l3).bind fun v3 =>
  if v3 = 0 then
    some ((-1), h)
  else
  (q_X10_isHead K h n l2).bind fun v5 =>
  if v5 = 0 then
    some ((-1), h)
  else
  (q_X10_isWithin K h n l4 0 99999).bind fun v7 =>
  if v7 = 0 then
    some ((-1), h)
  else
  (rdR h n l0 9 0).bind fun v9 =>
  v9.bind fun a11 =>
  (rdR h n a11 4 3).bind fun v13 =>
  (rdR h n l0 9 0).bind fun v15 =>
  v15.bind fun a17 =>
  (rdI h n a17 4 6).bind fun v19 =>
  v13.bind fun a21 =>
  (ckq h n a21 1).bind fun u23 =>
  (q_X1_take K h n a21 l1 l2 l3 l4 v19).bind fun v25 =>
  some (v25.1, v25.2)
set_option maxRecDepth 100000 in
set_option maxHeartbeats 4000000 in
theorem c_X10_bench {K : Nat} {G : mm_G} {l : Launch} {h : mm_H} {n : Nat} (l0 : Nat) (l1 : Int32) (l2 : Int32) (l3 : Int32) (l4 : Int32) {r_ : Int32 × mm_H} (hn : 48 ≤ n) (hr : q_X10_bench K h n l0 l1 l2 l3 l4 = some r_) : Sp G l yX10_bench cX10_bench 5 (some .int) 2 0 0 [.ref l0, .int l1, .int l2, .int l3, .int l4] h n (fun v h' n' => v = some (.int r_.1) ∧ h' = r_.2 ∧ n' = n) := by
  refine Sp_of (by decide +kernel) (Nat.le_of_ble_eq_true rfl) hn ?_
  intro W0 hwl C
  subst hwl
  unfold q_X10_bench at hr
  show WW W0 G 5 0 0 _ 0 [some (.ref l0), some (.int l1), some (.int l2), some (.int l3), some (.int l4)] [] h n 0 0
  refine rr_aload_n (i := 0) C dX10_bench_0 rfl rfl ?_
  refine rr_iload_n (i := 1) C dX10_bench_1 rfl rfl ?_
  refine rr_iload_n (i := 3) C dX10_bench_2 rfl rfl ?_
  replace hr := Option.bind_eq_some_iff.mp hr
  obtain ⟨u1, e2, hr⟩ := hr
  replace hr := Option.bind_eq_some_iff.mp hr
  obtain ⟨v3, e4, hr⟩ := hr
  refine rr_callVq (as := [.int l1, .int l3]) (st := []) (mc' := 0) (ms' := 0) C dX10_bench_3 iv_X10_68 (by decide) e2 rfl (Nat.le_of_ble_eq_true rfl) (c_X10_isFirmsYear l0 l1 l3 (by omega) e4) (fun v_ h_ n_ q_ => ?_)
  obtain ⟨q1_, q2_, q3_⟩ := q_
  subst v_; subst h_; subst n_
  show WW W0 G 5 _ _ _ 6 [some (.ref l0), some (.int l1), some (.int l2), some (.int l3), some (.int l4)] [.int v3] h n _ _
  refine rr_if_eq (tgt := 27) C dX10_bench_6 (by decide) (fun c6_ => ?_) (fun c6_ => ?_)
  · replace hr := (if_pos c6_).symm.trans hr
    refine rr_iconst (v := (-1)) C dX10_bench_27 (by decide) ?_
    obtain rfl := Option.some.inj hr
    exact rr_iret (ty := .int) C dX10_bench_28 rfl rfl ⟨rfl, rfl, rfl⟩
  · replace hr := (if_neg c6_).symm.trans hr
    refine rr_iload_n (i := 2) C dX10_bench_9 rfl rfl ?_
    replace hr := Option.bind_eq_some_iff.mp hr
    obtain ⟨v5, e6, hr⟩ := hr
    refine rr_callS (as := [.int l2]) (st := []) (mc' := 0) (ms' := 0) C dX10_bench_10 it_X10_106 (by decide) (Nat.le_of_ble_eq_true rfl) (c_X10_isHead l2 (by omega) e6) (fun v_ h_ n_ q_ => ?_)
    obtain ⟨q1_, q2_, q3_⟩ := q_
    subst v_; subst h_; subst n_
    show WW W0 G 5 _ _ _ 13 [some (.ref l0), some (.int l1), some (.int l2), some (.int l3), some (.int l4)] [.int v5] h n _ _
    refine rr_if_eq (tgt := 27) C dX10_bench_13 (by decide) (fun c13_ => ?_) (fun c13_ => ?_)
    · replace hr := (if_pos c13_).symm.trans hr
      refine rr_iconst (v := (-1)) C dX10_bench_27 (by decide) ?_
      obtain rfl := Option.some.inj hr
      exact rr_iret (ty := .int) C dX10_bench_28 rfl rfl ⟨rfl, rfl, rfl⟩
    · replace hr := (if_neg c13_).symm.trans hr
      refine rr_iload C dX10_bench_16 rfl ?_
      refine rr_iconst (v := 0) C dX10_bench_18 (by decide) ?_
      refine rr_ldc C dX10_bench_19 ct_X10_93 ?_
      replace hr := Option.bind_eq_some_iff.mp hr
      obtain ⟨v7, e8, hr⟩ := hr
      refine rr_callS (as := [.int l4, .int 0, .int 99999]) (st := []) (mc' := 0) (ms' := 0) C dX10_bench_21 it_X10_60 (by decide) (Nat.le_of_ble_eq_true rfl) (c_X10_isWithin l4 0 99999 (by omega) e8) (fun v_ h_ n_ q_ => ?_)
      obtain ⟨q1_, q2_, q3_⟩ := q_
      subst v_; subst h_; subst n_
      show WW W0 G 5 _ _ _ 24 [some (.ref l0), some (.int l1), some (.int l2), some (.int l3), some (.int l4)] [.int v7] h n _ _
      refine rr_if_ne (tgt := 29) C dX10_bench_24 (by decide) (fun c24_ => ?_) (fun c24_ => ?_)
      · replace hr := (if_neg c24_).symm.trans hr
        refine rr_aload_n (i := 0) C dX10_bench_29 rfl rfl ?_
        replace hr := Option.bind_eq_some_iff.mp hr
        obtain ⟨v9, e10, hr⟩ := hr
        refine rr_rdR C dX10_bench_30 fl_X10_12 e10 ?_
        replace hr := Option.bind_eq_some_iff.mp hr
        obtain ⟨a11, e12, hr⟩ := hr
        subst e12
        replace hr := Option.bind_eq_some_iff.mp hr
        obtain ⟨v13, e14, hr⟩ := hr
        refine rr_rdR C dX10_bench_33 fl_X10_109 e14 ?_
        refine rr_iload_n (i := 1) C dX10_bench_36 rfl rfl ?_
        refine rr_iload_n (i := 2) C dX10_bench_37 rfl rfl ?_
        refine rr_iload_n (i := 3) C dX10_bench_38 rfl rfl ?_
        refine rr_iload C dX10_bench_39 rfl ?_
        refine rr_aload_n (i := 0) C dX10_bench_41 rfl rfl ?_
        replace hr := Option.bind_eq_some_iff.mp hr
        obtain ⟨v15, e16, hr⟩ := hr
        refine rr_rdR C dX10_bench_42 fl_X10_12 e16 ?_
        replace hr := Option.bind_eq_some_iff.mp hr
        obtain ⟨a17, e18, hr⟩ := hr
        subst e18
        replace hr := Option.bind_eq_some_iff.mp hr
        obtain ⟨v19, e20, hr⟩ := hr
        refine rr_rdI C dX10_bench_45 fl_X10_55 e20 ?_
        replace hr := Option.bind_eq_some_iff.mp hr
        obtain ⟨a21, e22, hr⟩ := hr
        subst e22
        replace hr := Option.bind_eq_some_iff.mp hr
        obtain ⟨u23, e24, hr⟩ := hr
        replace hr := Option.bind_eq_some_iff.mp hr
        obtain ⟨v25, e26, hr⟩ := hr
        refine rr_callVq (as := [.int l1, .int l2, .int l3, .int l4, .int v19]) (st := []) (mc' := 0) (ms' := 0) C dX10_bench_48 iv_X10_113 (by decide) e24 rfl (Nat.le_of_ble_eq_true rfl) (c_X1_take a21 l1 l2 l3 l4 v19 (by omega) e26) (fun v_ h_ n_ q_ => ?_)
        obtain ⟨q1_, q2_, q3_⟩ := q_
        subst v_; subst h_; subst n_
        show WW W0 G 5 _ _ _ 51 [some (.ref l0), some (.int l1), some (.int l2), some (.int l3), some (.int l4)] [.int v25.1] v25.2 n _ _
        obtain rfl := Option.some.inj hr
        exact rr_iret (ty := .int) C dX10_bench_51 rfl rfl ⟨rfl, rfl, rfl⟩
      · replace hr := (if_pos c24_).symm.trans hr
        refine rr_iconst (v := (-1)) C dX10_bench_27 (by decide) ?_
        obtain rfl := Option.some.inj hr
        exact rr_iret (ty := .int) C dX10_bench_28 rfl rfl ⟨rfl, rfl, rfl⟩
def q_X10_log (K : Nat) (h : mm_H) (n : Nat) (l0 : Nat) (l1 : Int32) (l2 : Int32) (l3 : Int32) : Option (Int32 × mm_H) :=
  (ckq h n l0 9).bind fun u1 =>
  (q_X10_isFirmsYear K h n l0 l1 l2).bind fun v3 =>
  if v3 = 0 then
    some ((-1), h)
  else
  (rdR h n l0 9 0).bind fun v5 =>
  v5.bind fun a7 =>
  (rdI h n a7 4 6).bind fun v9 =>
  if l2 ≤ (v9 / 100) then
    some ((-1), h)
  else
  (q_X10_isWithin K h n l3 1 99999).bind fun v11 =>
  if v11 = 0 then
    some ((-1), h)
  else
  (rdR h n l0 9 0).bind fun v13 =>
  v13.bind fun a15 =>
  (rdR h n a15 4 4).bind fun v17 =>
  (rdR h n l0 9 0).bind fun v19 =>
  v19.bind fun a21 =>
  (rdI h n a21 4 6).bind fun v23 =>
  v17.bind fun a25 =>
  (ckq h n a25 1).bind fun u27 =>
  (q_X1_take K h n a25 l1 0 l2 l3 v23).bind fun v29 =>
  some (v29.1, v29.2)
set_option maxRecDepth 100000 in
set_option maxHeartbeats 4000000 in
theorem c_X10_log {K : Nat} {G : mm_G} {l : Launch} {h : mm_H} {n : Nat} (l0 : Nat) (l1 : Int32) (l2 : Int32) (l3 : Int32) {r_ : Int32 × mm_H} (hn : 48 ≤ n) (hr : q_X10_log K h n l0 l1 l2 l3 = some r_) : Sp G l yX10_log cX10_log 4 (some .int) 2 0 0 [.ref l0, .int l1, .int l2, .int l3] h n (fun v h' n' => v = some (.int r_.1) ∧ h' = r_.2 ∧ n' = n) := by
  refine Sp_of (by decide +kernel) (Nat.le_of_ble_eq_true rfl) hn ?_
  intro W0 hwl C
  subst hwl
  unfold q_X10_log at hr
  show WW W0 G 4 0 0 _ 0 [some (.ref l0), some (.int l1), some (.int l2), some (.int l3)] [] h n 0 0
  refine rr_aload_n (i := 0) C dX10_log_0 rfl rfl ?_
  refine rr_iload_n (i := 1) C dX10_log_1 rfl rfl ?_
  refine rr_iload_n (i := 2) C dX10_log_2 rfl rfl ?_
  replace hr := Option.bind_eq_some_iff.mp hr
  obtain ⟨u1, e2, hr⟩ := hr
  replace hr := Option.bind_eq_some_iff.mp hr
  obtain ⟨v3, e4, hr⟩ := hr
  refine rr_callVq (as := [.int l1, .int l2]) (st := []) (mc' := 0) (ms' := 0) C dX10_log_3 iv_X10_68 (by decide) e2 rfl (Nat.le_of_ble_eq_true rfl) (c_X10_isFirmsYear l0 l1 l2 (by omega) e4) (fun v_ h_ n_ q_ => ?_)
  obtain ⟨q1_, q2_, q3_⟩ := q_
  subst v_; subst h_; subst n_
  show WW W0 G 4 _ _ _ 6 [some (.ref l0), some (.int l1), some (.int l2), some (.int l3)] [.int v3] h n _ _
  refine rr_if_eq (tgt := 33) C dX10_log_6 (by decide) (fun c6_ => ?_) (fun c6_ => ?_)
  · replace hr := (if_pos c6_).symm.trans hr
    refine rr_iconst (v := (-1)) C dX10_log_33 (by decide) ?_
    obtain rfl := Option.some.inj hr
    exact rr_iret (ty := .int) C dX10_log_34 rfl rfl ⟨rfl, rfl, rfl⟩
  · replace hr := (if_neg c6_).symm.trans hr
    refine rr_iload_n (i := 2) C dX10_log_9 rfl rfl ?_
    refine rr_aload_n (i := 0) C dX10_log_10 rfl rfl ?_
    replace hr := Option.bind_eq_some_iff.mp hr
    obtain ⟨v5, e6, hr⟩ := hr
    refine rr_rdR C dX10_log_11 fl_X10_12 e6 ?_
    replace hr := Option.bind_eq_some_iff.mp hr
    obtain ⟨a7, e8, hr⟩ := hr
    subst e8
    replace hr := Option.bind_eq_some_iff.mp hr
    obtain ⟨v9, e10, hr⟩ := hr
    refine rr_rdI C dX10_log_14 fl_X10_55 e10 ?_
    refine rr_bipush (v := 100) C dX10_log_17 (by decide) ?_
    refine rr_idiv C dX10_log_19 (by decide) ?_
    refine rr_icmp_le (tgt := 33) C dX10_log_20 (by decide) (fun c20_ => ?_) (fun c20_ => ?_)
    · replace hr := (if_pos c20_).symm.trans hr
      refine rr_iconst (v := (-1)) C dX10_log_33 (by decide) ?_
      obtain rfl := Option.some.inj hr
      exact rr_iret (ty := .int) C dX10_log_34 rfl rfl ⟨rfl, rfl, rfl⟩
    · replace hr := (if_neg c20_).symm.trans hr
      refine rr_iload_n (i := 3) C dX10_log_23 rfl rfl ?_
      refine rr_iconst (v := 1) C dX10_log_24 (by decide) ?_
      refine rr_ldc C dX10_log_25 ct_X10_93 ?_
      replace hr := Option.bind_eq_some_iff.mp hr
      obtain ⟨v11, e12, hr⟩ := hr
      refine rr_callS (as := [.int l3, .int 1, .int 99999]) (st := []) (mc' := 0) (ms' := 0) C dX10_log_27 it_X10_60 (by decide) (Nat.le_of_ble_eq_true rfl) (c_X10_isWithin l3 1 99999 (by omega) e12) (fun v_ h_ n_ q_ => ?_)
      obtain ⟨q1_, q2_, q3_⟩ := q_
      subst v_; subst h_; subst n_
      show WW W0 G 4 _ _ _ 30 [some (.ref l0), some (.int l1), some (.int l2), some (.int l3)] [.int v11] h n _ _
      refine rr_if_ne (tgt := 35) C dX10_log_30 (by decide) (fun c30_ => ?_) (fun c30_ => ?_)
      · replace hr := (if_neg c30_).symm.trans hr
        refine rr_aload_n (i := 0) C dX10_log_35 rfl rfl ?_
        replace hr := Option.bind_eq_some_iff.mp hr
        obtain ⟨v13, e14, hr⟩ := hr
        refine rr_rdR C dX10_log_36 fl_X10_12 e14 ?_
        replace hr := Option.bind_eq_some_iff.mp hr
        obtain ⟨a15, e16, hr⟩ := hr
        subst e16
        replace hr := Option.bind_eq_some_iff.mp hr
        obtain ⟨v17, e18, hr⟩ := hr
        refine rr_rdR C dX10_log_39 fl_X10_116 e18 ?_
        refine rr_iload_n (i := 1) C dX10_log_42 rfl rfl ?_
        refine rr_iconst (v := 0) C dX10_log_43 (by decide) ?_
        refine rr_iload_n (i := 2) C dX10_log_44 rfl rfl ?_
        refine rr_iload_n (i := 3) C dX10_log_45 rfl rfl ?_
        refine rr_aload_n (i := 0) C dX10_log_46 rfl rfl ?_
        replace hr := Option.bind_eq_some_iff.mp hr
        obtain ⟨v19, e20, hr⟩ := hr
        refine rr_rdR C dX10_log_47 fl_X10_12 e20 ?_
        replace hr := Option.bind_eq_some_iff.mp hr
        obtain ⟨a21, e22, hr⟩ := hr
        subst e22
        replace hr := Option.bind_eq_some_iff.mp hr
        obtain ⟨v23, e24, hr⟩ := hr
        refine rr_rdI C dX10_log_50 fl_X10_55 e24 ?_
        replace hr := Option.bind_eq_some_iff.mp hr
        obtain ⟨a25, e26, hr⟩ := hr
        subst e26
        replace hr := Option.bind_eq_some_iff.mp hr
        obtain ⟨u27, e28, hr⟩ := hr
        replace hr := Option.bind_eq_some_iff.mp hr
        obtain ⟨v29, e30, hr⟩ := hr
        refine rr_callVq (as := [.int l1, .int 0, .int l2, .int l3, .int v23]) (st := []) (mc' := 0) (ms' := 0) C dX10_log_53 iv_X10_113 (by decide) e28 rfl (Nat.le_of_ble_eq_true rfl) (c_X1_take a25 l1 0 l2 l3 v23 (by omega) e30) (fun v_ h_ n_ q_ => ?_)
        obtain ⟨q1_, q2_, q3_⟩ := q_
        subst v_; subst h_; subst n_
        show WW W0 G 4 _ _ _ 56 [some (.ref l0), some (.int l1), some (.int l2), some (.int l3)] [.int v29.1] v29.2 n _ _
        obtain rfl := Option.some.inj hr
        exact rr_iret (ty := .int) C dX10_log_56 rfl rfl ⟨rfl, rfl, rfl⟩
      · replace hr := (if_pos c30_).symm.trans hr
        refine rr_iconst (v := (-1)) C dX10_log_33 (by decide) ?_
        obtain rfl := Option.some.inj hr
        exact rr_iret (ty := .int) C dX10_log_34 rfl rfl ⟨rfl, rfl, rfl⟩
def lp_X10_tapeNumber_3 (K : Nat) (n : Nat) (l0 : Nat) (l1 : Int32) : Nat → Int32 → mm_H → Option (mm_H)
  | 0, _, _ => none
  | k_ + 1, l2, h =>
    if l2 < 0 then
      some (h)
    else
    (rdI h n l0 9 5).bind fun v1 =>
    if 900 ≤ v1 then
      lp_X10_tapeNumber_3 K n l0 l1 k_ (l2 + (-8)) h
    else
    (rdR h n l0 9 4).bind fun v3 =>
    (rdI h n l0 9 5).bind fun v5 =>
    v3.bind fun a7 =>
    (stI h n a7 v5 ((((Int32.toUInt32 l1) >>> ((Int32.toUInt32 l2) &&& Int32.toUInt32 31)).toInt32) &&& 255)).bind fun h9 =>
    (rdI h9 n l0 9 5).bind fun v11 =>
    (wrF h9 n l0 9 5 (.int (v11 + 1))).bind fun h13 =>
    lp_X10_tapeNumber_3 K n l0 l1 k_ (l2 + (-8)) h13
def q_X10_tapeNumber (K : Nat) (h : mm_H) (n : Nat) (l0 : Nat) (l1 : Int32) : Option (mm_H) :=
  (lp_X10_tapeNumber_3 K n l0 l1 K 24 h).bind fun v15 =>
  some v15
set_option maxRecDepth 100000 in
set_option maxHeartbeats 4000000 in
theorem w_X10_tapeNumber_3 {K : Nat} {W0 : mm_X} {G : mm_G} {mc ms kc ks : Nat} {Q_ : State → Prop} {n : Nat} (C : mm_C W0 G cX10_tapeNumber yX10_tapeNumber.cls 3 mc ms none 0 yX10_tapeNumber.name) (hn : 48 ≤ n) (l0 : Nat) (l1 : Int32) : ∀ (k_ : Nat) (l2 : Int32) (h : mm_H) {r_ : mm_H} (hr : lp_X10_tapeNumber_3 K n l0 l1 k_ l2 h = some r_) (hx0 : WW W0 G 3 mc ms Q_ 49 [none, none, none] [] r_ n kc ks), WW W0 G 3 mc ms Q_ 3 [some (.ref l0), some (.int l1), some (.int l2)] [] h n kc ks := by
  intro k_
  induction k_ with
  | zero =>
    intro l2 h r_ hr
    cases hr
  | succ k_ ih_ =>
    intro l2 h r_ hr hx0
    unfold lp_X10_tapeNumber_3 at hr
    refine rr_iload_n (i := 2) C dX10_tapeNumber_3 rfl rfl ?_
    refine rr_if_lt (tgt := 49) C dX10_tapeNumber_4 (by decide) (fun c4_ => ?_) (fun c4_ => ?_)
    · replace hr := (if_pos c4_).symm.trans hr
      obtain rfl := Option.some.inj hr
      exact rr_keep [false, false, false] (hx0)
    · replace hr := (if_neg c4_).symm.trans hr
      refine rr_aload_n (i := 0) C dX10_tapeNumber_7 rfl rfl ?_
      replace hr := Option.bind_eq_some_iff.mp hr
      obtain ⟨v1, e2, hr⟩ := hr
      refine rr_rdI C dX10_tapeNumber_8 fl_X10_119 e2 ?_
      refine rr_sipush (v := 900) C dX10_tapeNumber_11 (by decide) ?_
      refine rr_icmp_ge (tgt := 43) C dX10_tapeNumber_14 (by decide) (fun c14_ => ?_) (fun c14_ => ?_)
      · replace hr := (if_pos c14_).symm.trans hr
        refine rr_iinc (v := l2 + (-8)) C dX10_tapeNumber_43 rfl rfl ?_
        show WW W0 G 3 _ _ _ 46 [some (.ref l0), some (.int l1), some (.int (l2 + (-8)))] [] h n _ _
        refine rr_goto (tgt := 3) C dX10_tapeNumber_46 (by decide) ?_
        exact rr_keep [true, true, true] (ih_ _ _ hr hx0)
      · replace hr := (if_neg c14_).symm.trans hr
        refine rr_aload_n (i := 0) C dX10_tapeNumber_17 rfl rfl ?_
        replace hr := Option.bind_eq_some_iff.mp hr
        obtain ⟨v3, e4, hr⟩ := hr
        refine rr_rdR C dX10_tapeNumber_18 fl_X10_39 e4 ?_
        refine rr_aload_n (i := 0) C dX10_tapeNumber_21 rfl rfl ?_
        replace hr := Option.bind_eq_some_iff.mp hr
        obtain ⟨v5, e6, hr⟩ := hr
        refine rr_rdI C dX10_tapeNumber_22 fl_X10_119 e6 ?_
        refine rr_iload_n (i := 1) C dX10_tapeNumber_25 rfl rfl ?_
        refine rr_iload_n (i := 2) C dX10_tapeNumber_26 rfl rfl ?_
        refine rr_iushr C dX10_tapeNumber_27 ?_
        refine rr_sipush (v := 255) C dX10_tapeNumber_28 (by decide) ?_
        refine rr_iand C dX10_tapeNumber_31 ?_
        replace hr := Option.bind_eq_some_iff.mp hr
        obtain ⟨a7, e8, hr⟩ := hr
        subst e8
        replace hr := Option.bind_eq_some_iff.mp hr
        obtain ⟨h9, e10, hr⟩ := hr
        refine rr_stI C dX10_tapeNumber_32 e10 ?_
        refine rr_aload_n (i := 0) C dX10_tapeNumber_33 rfl rfl ?_
        refine rr_dup C dX10_tapeNumber_34 rfl ?_
        replace hr := Option.bind_eq_some_iff.mp hr
        obtain ⟨v11, e12, hr⟩ := hr
        refine rr_rdI C dX10_tapeNumber_35 fl_X10_119 e12 ?_
        refine rr_iconst (v := 1) C dX10_tapeNumber_38 (by decide) ?_
        refine rr_iadd C dX10_tapeNumber_39 ?_
        replace hr := Option.bind_eq_some_iff.mp hr
        obtain ⟨h13, e14, hr⟩ := hr
        refine rr_wrF C dX10_tapeNumber_40 fp_X10_119 rfl rfl e14 ?_
        refine rr_iinc (v := l2 + (-8)) C dX10_tapeNumber_43 rfl rfl ?_
        show WW W0 G 3 _ _ _ 46 [some (.ref l0), some (.int l1), some (.int (l2 + (-8)))] [] h13 n _ _
        refine rr_goto (tgt := 3) C dX10_tapeNumber_46 (by decide) ?_
        exact rr_keep [true, true, true] (ih_ _ _ hr hx0)
set_option maxRecDepth 100000 in
set_option maxHeartbeats 4000000 in
theorem c_X10_tapeNumber {K : Nat} {G : mm_G} {l : Launch} {h : mm_H} {n : Nat} (l0 : Nat) (l1 : Int32) {r_ : mm_H} (hn : 48 ≤ n) (hr : q_X10_tapeNumber K h n l0 l1 = some r_) : Sp G l yX10_tapeNumber cX10_tapeNumber 3 none 0 0 0 [.ref l0, .int l1] h n (fun v h' n' => v = none ∧ h' = r_ ∧ n' = n) := by
  refine Sp_of (by decide +kernel) (Nat.le_of_ble_eq_true rfl) hn ?_
  intro W0 hwl C
  subst hwl
  unfold q_X10_tapeNumber at hr
  show WW W0 G 3 0 0 _ 0 [some (.ref l0), some (.int l1), none] [] h n 0 0
  refine rr_bipush (v := 24) C dX10_tapeNumber_0 (by decide) ?_
  refine rr_istore_n (i := 2) C dX10_tapeNumber_2 rfl (by decide) ?_
  show WW W0 G 3 _ _ _ 3 [some (.ref l0), some (.int l1), some (.int 24)] [] h n _ _
  replace hr := Option.bind_eq_some_iff.mp hr
  obtain ⟨v15, e16, hr⟩ := hr
  refine rr_keep [true, true, true] (w_X10_tapeNumber_3 C (by omega) l0 l1 K 24 h e16 ?_)
  show WW W0 G 3 _ _ _ 49 [none, none, none] [] v15 n _ _
  obtain rfl := Option.some.inj hr
  exact rr_vret C dX10_tapeNumber_49 rfl ⟨rfl, rfl, rfl⟩
def q_X10_feed (K : Nat) (h : mm_H) (n : Nat) (l0 : Nat) (l1 : Int32) (l2 : Int32) (l3 : Int32) (l4 : Int32) (l5 : Int32) : Option (Int32 × mm_H) :=
  (rdI h n l0 9 5).bind fun v1 =>
  if (v1 + 20) ≤ 900 then
    (ckq h n l0 9).bind fun u3 =>
    (q_X10_tapeNumber K h n l0 l1).bind fun v5 =>
    (ckq v5 n l0 9).bind fun u7 =>
    (q_X10_tapeNumber K v5 n l0 l2).bind fun v9 =>
    (ckq v9 n l0 9).bind fun u11 =>
    (q_X10_tapeNumber K v9 n l0 l3).bind fun v13 =>
    (ckq v13 n l0 9).bind fun u15 =>
    (q_X10_tapeNumber K v13 n l0 l4).bind fun v17 =>
    (ckq v17 n l0 9).bind fun u19 =>
    (q_X10_tapeNumber K v17 n l0 l5).bind fun v21 =>
    (rdI v21 n l0 9 5).bind fun v23 =>
    some (v23, v21)
  else
  some ((-1), h)
set_option maxRecDepth 100000 in
set_option maxHeartbeats 4000000 in
theorem c_X10_feed {K : Nat} {G : mm_G} {l : Launch} {h : mm_H} {n : Nat} (l0 : Nat) (l1 : Int32) (l2 : Int32) (l3 : Int32) (l4 : Int32) (l5 : Int32) {r_ : Int32 × mm_H} (hn : 48 ≤ n) (hr : q_X10_feed K h n l0 l1 l2 l3 l4 l5 = some r_) : Sp G l yX10_feed cX10_feed 6 (some .int) 1 0 0 [.ref l0, .int l1, .int l2, .int l3, .int l4, .int l5] h n (fun v h' n' => v = some (.int r_.1) ∧ h' = r_.2 ∧ n' = n) := by
  refine Sp_of (by decide +kernel) (Nat.le_of_ble_eq_true rfl) hn ?_
  intro W0 hwl C
  subst hwl
  unfold q_X10_feed at hr
  show WW W0 G 6 0 0 _ 0 [some (.ref l0), some (.int l1), some (.int l2), some (.int l3), some (.int l4), some (.int l5)] [] h n 0 0
  refine rr_aload_n (i := 0) C dX10_feed_0 rfl rfl ?_
  replace hr := Option.bind_eq_some_iff.mp hr
  obtain ⟨v1, e2, hr⟩ := hr
  refine rr_rdI C dX10_feed_1 fl_X10_119 e2 ?_
  refine rr_bipush (v := 20) C dX10_feed_4 (by decide) ?_
  refine rr_iadd C dX10_feed_6 ?_
  refine rr_sipush (v := 900) C dX10_feed_7 (by decide) ?_
  refine rr_icmp_le (tgt := 15) C dX10_feed_10 (by decide) (fun c10_ => ?_) (fun c10_ => ?_)
  · replace hr := (if_pos c10_).symm.trans hr
    refine rr_aload_n (i := 0) C dX10_feed_15 rfl rfl ?_
    refine rr_iload_n (i := 1) C dX10_feed_16 rfl rfl ?_
    replace hr := Option.bind_eq_some_iff.mp hr
    obtain ⟨u3, e4, hr⟩ := hr
    replace hr := Option.bind_eq_some_iff.mp hr
    obtain ⟨v5, e6, hr⟩ := hr
    refine rr_callVq (as := [.int l1]) (st := []) (mc' := 0) (ms' := 0) C dX10_feed_17 iv_X10_122 (by decide) e4 rfl (Nat.le_of_ble_eq_true rfl) (c_X10_tapeNumber l0 l1 (by omega) e6) (fun v_ h_ n_ q_ => ?_)
    obtain ⟨q1_, q2_, q3_⟩ := q_
    subst v_; subst h_; subst n_
    show WW W0 G 6 _ _ _ 20 [some (.ref l0), some (.int l1), some (.int l2), some (.int l3), some (.int l4), some (.int l5)] [] v5 n _ _
    refine rr_aload_n (i := 0) C dX10_feed_20 rfl rfl ?_
    refine rr_iload_n (i := 2) C dX10_feed_21 rfl rfl ?_
    replace hr := Option.bind_eq_some_iff.mp hr
    obtain ⟨u7, e8, hr⟩ := hr
    replace hr := Option.bind_eq_some_iff.mp hr
    obtain ⟨v9, e10, hr⟩ := hr
    refine rr_callVq (as := [.int l2]) (st := []) (mc' := 0) (ms' := 0) C dX10_feed_22 iv_X10_122 (by decide) e8 rfl (Nat.le_of_ble_eq_true rfl) (c_X10_tapeNumber l0 l2 (by omega) e10) (fun v_ h_ n_ q_ => ?_)
    obtain ⟨q1_, q2_, q3_⟩ := q_
    subst v_; subst h_; subst n_
    show WW W0 G 6 _ _ _ 25 [some (.ref l0), some (.int l1), some (.int l2), some (.int l3), some (.int l4), some (.int l5)] [] v9 n _ _
    refine rr_aload_n (i := 0) C dX10_feed_25 rfl rfl ?_
    refine rr_iload_n (i := 3) C dX10_feed_26 rfl rfl ?_
    replace hr := Option.bind_eq_some_iff.mp hr
    obtain ⟨u11, e12, hr⟩ := hr
    replace hr := Option.bind_eq_some_iff.mp hr
    obtain ⟨v13, e14, hr⟩ := hr
    refine rr_callVq (as := [.int l3]) (st := []) (mc' := 0) (ms' := 0) C dX10_feed_27 iv_X10_122 (by decide) e12 rfl (Nat.le_of_ble_eq_true rfl) (c_X10_tapeNumber l0 l3 (by omega) e14) (fun v_ h_ n_ q_ => ?_)
    obtain ⟨q1_, q2_, q3_⟩ := q_
    subst v_; subst h_; subst n_
    show WW W0 G 6 _ _ _ 30 [some (.ref l0), some (.int l1), some (.int l2), some (.int l3), some (.int l4), some (.int l5)] [] v13 n _ _
    refine rr_aload_n (i := 0) C dX10_feed_30 rfl rfl ?_
    refine rr_iload C dX10_feed_31 rfl ?_
    replace hr := Option.bind_eq_some_iff.mp hr
    obtain ⟨u15, e16, hr⟩ := hr
    replace hr := Option.bind_eq_some_iff.mp hr
    obtain ⟨v17, e18, hr⟩ := hr
    refine rr_callVq (as := [.int l4]) (st := []) (mc' := 0) (ms' := 0) C dX10_feed_33 iv_X10_122 (by decide) e16 rfl (Nat.le_of_ble_eq_true rfl) (c_X10_tapeNumber l0 l4 (by omega) e18) (fun v_ h_ n_ q_ => ?_)
    obtain ⟨q1_, q2_, q3_⟩ := q_
    subst v_; subst h_; subst n_
    show WW W0 G 6 _ _ _ 36 [some (.ref l0), some (.int l1), some (.int l2), some (.int l3), some (.int l4), some (.int l5)] [] v17 n _ _
    refine rr_aload_n (i := 0) C dX10_feed_36 rfl rfl ?_
    refine rr_iload C dX10_feed_37 rfl ?_
    replace hr := Option.bind_eq_some_iff.mp hr
    obtain ⟨u19, e20, hr⟩ := hr
    replace hr := Option.bind_eq_some_iff.mp hr
    obtain ⟨v21, e22, hr⟩ := hr
    refine rr_callVq (as := [.int l5]) (st := []) (mc' := 0) (ms' := 0) C dX10_feed_39 iv_X10_122 (by decide) e20 rfl (Nat.le_of_ble_eq_true rfl) (c_X10_tapeNumber l0 l5 (by omega) e22) (fun v_ h_ n_ q_ => ?_)
    obtain ⟨q1_, q2_, q3_⟩ := q_
    subst v_; subst h_; subst n_
    show WW W0 G 6 _ _ _ 42 [some (.ref l0), some (.int l1), some (.int l2), some (.int l3), some (.int l4), some (.int l5)] [] v21 n _ _
    refine rr_aload_n (i := 0) C dX10_feed_42 rfl rfl ?_
    replace hr := Option.bind_eq_some_iff.mp hr
    obtain ⟨v23, e24, hr⟩ := hr
    refine rr_rdI C dX10_feed_43 fl_X10_119 e24 ?_
    obtain rfl := Option.some.inj hr
    exact rr_iret (ty := .int) C dX10_feed_46 rfl rfl ⟨rfl, rfl, rfl⟩
  · replace hr := (if_neg c10_).symm.trans hr
    refine rr_iconst (v := (-1)) C dX10_feed_13 (by decide) ?_
    obtain rfl := Option.some.inj hr
    exact rr_iret (ty := .int) C dX10_feed_14 rfl rfl ⟨rfl, rfl, rfl⟩
def q_X10_isReview (K : Nat) (h : mm_H) (n : Nat) (l0 : Int32) : Option (Int32) :=
  (q_X10_isWithin K h n l0 0 2).bind fun v1 =>
  (ckz v1).bind fun u3 =>
  some v1
set_option maxRecDepth 100000 in
set_option maxHeartbeats 4000000 in
theorem c_X10_isReview {K : Nat} {G : mm_G} {l : Launch} {h : mm_H} {n : Nat} (l0 : Int32) {r_ : Int32} (hn : 48 ≤ n) (hr : q_X10_isReview K h n l0 = some r_) : Sp G l yX10_isReview cX10_isReview 1 (some .boolean) 1 0 0 [.int l0] h n (fun v h' n' => v = some (.int r_) ∧ h' = h ∧ n' = n) := by
  refine Sp_of (by decide +kernel) (Nat.le_of_ble_eq_true rfl) hn ?_
  intro W0 hwl C
  subst hwl
  unfold q_X10_isReview at hr
  show WW W0 G 1 0 0 _ 0 [some (.int l0)] [] h n 0 0
  refine rr_iload_n (i := 0) C dX10_isReview_0 rfl rfl ?_
  refine rr_iconst (v := 0) C dX10_isReview_1 (by decide) ?_
  refine rr_iconst (v := 2) C dX10_isReview_2 (by decide) ?_
  replace hr := Option.bind_eq_some_iff.mp hr
  obtain ⟨v1, e2, hr⟩ := hr
  refine rr_callS (as := [.int l0, .int 0, .int 2]) (st := []) (mc' := 0) (ms' := 0) C dX10_isReview_3 it_X10_60 (by decide) (Nat.le_of_ble_eq_true rfl) (c_X10_isWithin l0 0 2 (by omega) e2) (fun v_ h_ n_ q_ => ?_)
  obtain ⟨q1_, q2_, q3_⟩ := q_
  subst v_; subst h_; subst n_
  show WW W0 G 1 _ _ _ 6 [some (.int l0)] [.int v1] h n _ _
  replace hr := Option.bind_eq_some_iff.mp hr
  obtain ⟨u3, e4, hr⟩ := hr
  obtain rfl := Option.some.inj hr
  exact rr_iret (ty := .boolean) C dX10_isReview_6 rfl (ckz_s e4) ⟨rfl, rfl, rfl⟩
def q_X10_takenAt (K : Nat) (h : mm_H) (n : Nat) (l0 : Nat) (l1 : Int32) : Option (Option Nat) :=
  if l1 < 0 then
    some none
  else
  (rdI h n l0 9 7).bind fun v1 =>
  if v1 ≤ l1 then
    some none
  else
  if 8 ≤ l1 then
    some none
  else
  (rdR h n l0 9 6).bind fun v3 =>
  v3.bind fun a5 =>
  (ldR h n a5 5 l1).bind fun v7 =>
  some v7
set_option maxRecDepth 100000 in
set_option maxHeartbeats 4000000 in
theorem c_X10_takenAt {K : Nat} {G : mm_G} {l : Launch} {h : mm_H} {n : Nat} (l0 : Nat) (l1 : Int32) {r_ : Option Nat} (hn : 48 ≤ n) (hr : q_X10_takenAt K h n l0 l1 = some r_) : Sp G l yX10_takenAt cX10_takenAt 2 (some (.object "WaterReview$RuleBook")) 0 0 0 [.ref l0, .int l1] h n (fun v h' n' => v = some (va_rf r_) ∧ h' = h ∧ n' = n) := by
  refine Sp_of (by decide +kernel) (Nat.le_of_ble_eq_true rfl) hn ?_
  intro W0 hwl C
  subst hwl
  unfold q_X10_takenAt at hr
  show WW W0 G 2 0 0 _ 0 [some (.ref l0), some (.int l1)] [] h n 0 0
  refine rr_iload_n (i := 1) C dX10_takenAt_0 rfl rfl ?_
  refine rr_if_lt (tgt := 27) C dX10_takenAt_1 (by decide) (fun c1_ => ?_) (fun c1_ => ?_)
  · replace hr := (if_pos c1_).symm.trans hr
    refine rr_null C dX10_takenAt_27 ?_
    obtain rfl := Option.some.inj hr
    exact rr_aret (r := none) C dX10_takenAt_28 rfl (Or.inl ⟨_, rfl⟩) ⟨rfl, rfl, rfl⟩
  · replace hr := (if_neg c1_).symm.trans hr
    refine rr_iload_n (i := 1) C dX10_takenAt_4 rfl rfl ?_
    refine rr_aload_n (i := 0) C dX10_takenAt_5 rfl rfl ?_
    replace hr := Option.bind_eq_some_iff.mp hr
    obtain ⟨v1, e2, hr⟩ := hr
    refine rr_rdI C dX10_takenAt_6 fl_X10_129 e2 ?_
    refine rr_icmp_ge (tgt := 27) C dX10_takenAt_9 (by decide) (fun c9_ => ?_) (fun c9_ => ?_)
    · replace hr := (if_pos c9_).symm.trans hr
      refine rr_null C dX10_takenAt_27 ?_
      obtain rfl := Option.some.inj hr
      exact rr_aret (r := none) C dX10_takenAt_28 rfl (Or.inl ⟨_, rfl⟩) ⟨rfl, rfl, rfl⟩
    · replace hr := (if_neg c9_).symm.trans hr
      refine rr_iload_n (i := 1) C dX10_takenAt_12 rfl rfl ?_
      refine rr_bipush (v := 8) C dX10_takenAt_13 (by decide) ?_
      refine rr_icmp_ge (tgt := 27) C dX10_takenAt_15 (by decide) (fun c15_ => ?_) (fun c15_ => ?_)
      · replace hr := (if_pos c15_).symm.trans hr
        refine rr_null C dX10_takenAt_27 ?_
        obtain rfl := Option.some.inj hr
        exact rr_aret (r := none) C dX10_takenAt_28 rfl (Or.inl ⟨_, rfl⟩) ⟨rfl, rfl, rfl⟩
      · replace hr := (if_neg c15_).symm.trans hr
        refine rr_aload_n (i := 0) C dX10_takenAt_18 rfl rfl ?_
        replace hr := Option.bind_eq_some_iff.mp hr
        obtain ⟨v3, e4, hr⟩ := hr
        refine rr_rdR C dX10_takenAt_19 fl_X10_45 e4 ?_
        refine rr_iload_n (i := 1) C dX10_takenAt_22 rfl rfl ?_
        replace hr := Option.bind_eq_some_iff.mp hr
        obtain ⟨a5, e6, hr⟩ := hr
        subst e6
        replace hr := Option.bind_eq_some_iff.mp hr
        obtain ⟨v7, e8, hr⟩ := hr
        refine rr_ldR C dX10_takenAt_23 e8 ?_
        refine rr_goto (tgt := 28) C dX10_takenAt_24 (by decide) ?_
        obtain rfl := Option.some.inj hr
        exact rr_aret (r := v7) C dX10_takenAt_28 rfl (Or.inl ⟨_, rfl⟩) ⟨rfl, rfl, rfl⟩
def lp_X10_takenOf_8 (K : Nat) (h : mm_H) (n : Nat) (l0 : Nat) (l1 : Int32) (l2 : Int32) : Nat → Int32 → Int32 → Int32 → Option (Int32)
  | 0, _, _, _ => none
  | k_ + 1, l3, l4, l5 =>
    (rdI h n l0 9 7).bind fun v1 =>
    if v1 ≤ l5 then
      some (l3)
    else
    (ckq h n l0 9).bind fun u3 =>
    (q_X10_takenAt K h n l0 l5).bind fun v5 =>
    match v5 with
    | none =>
      lp_X10_takenOf_8 K h n l0 l1 l2 k_ l3 l4 (l5 + 1)
    | some a7 =>
      (rdI h n a7 6 3).bind fun v8 =>
      if l2 < v8 then
        lp_X10_takenOf_8 K h n l0 l1 l2 k_ l3 l4 (l5 + 1)
      else
      (rdI h n a7 6 2).bind fun v10 =>
      if l1 < v10 then
        lp_X10_takenOf_8 K h n l0 l1 l2 k_ l3 l4 (l5 + 1)
      else
      (rdI h n a7 6 2).bind fun v12 =>
      if v12 < l4 then
        lp_X10_takenOf_8 K h n l0 l1 l2 k_ l3 l4 (l5 + 1)
      else
      (rdI h n a7 6 2).bind fun v14 =>
      lp_X10_takenOf_8 K h n l0 l1 l2 k_ l5 v14 (l5 + 1)
def q_X10_takenOf (K : Nat) (h : mm_H) (n : Nat) (l0 : Nat) (l1 : Int32) (l2 : Int32) : Option (Int32) :=
  (lp_X10_takenOf_8 K h n l0 l1 l2 K (-1) (-1) 0).bind fun v16 =>
  some v16
set_option maxRecDepth 100000 in
set_option maxHeartbeats 4000000 in
theorem w_X10_takenOf_8 {K : Nat} {W0 : mm_X} {G : mm_G} {mc ms kc ks : Nat} {Q_ : State → Prop} {h : mm_H} {n : Nat} (C : mm_C W0 G cX10_takenOf yX10_takenOf.cls 7 mc ms (some .int) 1 yX10_takenOf.name) (hn : 48 ≤ n) (l0 : Nat) (l1 : Int32) (l2 : Int32) : ∀ (k_ : Nat) (l3 : Int32) (l4 : Int32) (l5 : Int32) {r_ : Int32} (hr : lp_X10_takenOf_8 K h n l0 l1 l2 k_ l3 l4 l5 = some r_) (hx0 : WW W0 G 7 mc ms Q_ 74 [none, none, none, some (.int r_), none, none, none] [] h n kc ks), WW W0 G 7 mc ms Q_ 8 [some (.ref l0), some (.int l1), some (.int l2), some (.int l3), some (.int l4), some (.int l5), none] [] h n kc ks := by
  intro k_
  induction k_ with
  | zero =>
    intro l3 l4 l5 r_ hr
    cases hr
  | succ k_ ih_ =>
    intro l3 l4 l5 r_ hr hx0
    unfold lp_X10_takenOf_8 at hr
    refine rr_iload C dX10_takenOf_8 rfl ?_
    refine rr_aload_n (i := 0) C dX10_takenOf_10 rfl rfl ?_
    replace hr := Option.bind_eq_some_iff.mp hr
    obtain ⟨v1, e2, hr⟩ := hr
    refine rr_rdI C dX10_takenOf_11 fl_X10_129 e2 ?_
    refine rr_icmp_ge (tgt := 74) C dX10_takenOf_14 (by decide) (fun c14_ => ?_) (fun c14_ => ?_)
    · replace hr := (if_pos c14_).symm.trans hr
      obtain rfl := Option.some.inj hr
      exact rr_keep [false, false, false, true, false, false, false] (hx0)
    · replace hr := (if_neg c14_).symm.trans hr
      refine rr_aload_n (i := 0) C dX10_takenOf_17 rfl rfl ?_
      refine rr_iload C dX10_takenOf_18 rfl ?_
      replace hr := Option.bind_eq_some_iff.mp hr
      obtain ⟨u3, e4, hr⟩ := hr
      replace hr := Option.bind_eq_some_iff.mp hr
      obtain ⟨v5, e6, hr⟩ := hr
      refine rr_callVq (as := [.int l5]) (st := []) (mc' := 0) (ms' := 0) C dX10_takenOf_20 iv_X10_136 (by decide) e4 rfl (Nat.le_of_ble_eq_true rfl) (c_X10_takenAt l0 l5 (by omega) e6) (fun v_ h_ n_ q_ => ?_)
      obtain ⟨q1_, q2_, q3_⟩ := q_
      subst v_; subst h_; subst n_
      show WW W0 G 7 _ _ _ 23 [some (.ref l0), some (.int l1), some (.int l2), some (.int l3), some (.int l4), some (.int l5), none] [va_rf v5] h n _ _
      refine rr_astoreO C dX10_takenOf_23 (by decide) ?_
      show WW W0 G 7 _ _ _ 25 [some (.ref l0), some (.int l1), some (.int l2), some (.int l3), some (.int l4), some (.int l5), some (va_rf v5)] [] h n _ _
      refine rr_aloadO C dX10_takenOf_25 rfl ?_
      rcases v5 with _ | a7
      · dsimp only at hr
        refine rr_ifnullN (tgt := 68) C dX10_takenOf_27 (by decide) ?_
        refine rr_iinc (v := l5 + 1) C dX10_takenOf_68 rfl rfl ?_
        show WW W0 G 7 _ _ _ 71 [some (.ref l0), some (.int l1), some (.int l2), some (.int l3), some (.int l4), some (.int (l5 + 1)), some (.null)] [] h n _ _
        refine rr_goto (tgt := 8) C dX10_takenOf_71 (by decide) ?_
        exact rr_keep [true, true, true, true, true, true, false] (ih_ _ _ _ hr hx0)
      · dsimp only at hr
        refine rr_ifnull C dX10_takenOf_27 ?_
        refine rr_aload C dX10_takenOf_30 rfl ?_
        replace hr := Option.bind_eq_some_iff.mp hr
        obtain ⟨v8, e9, hr⟩ := hr
        refine rr_rdI C dX10_takenOf_32 fl_X10_147 e9 ?_
        refine rr_iload_n (i := 2) C dX10_takenOf_35 rfl rfl ?_
        refine rr_icmp_gt (tgt := 68) C dX10_takenOf_36 (by decide) (fun c36_ => ?_) (fun c36_ => ?_)
        · replace hr := (if_pos c36_).symm.trans hr
          refine rr_iinc (v := l5 + 1) C dX10_takenOf_68 rfl rfl ?_
          show WW W0 G 7 _ _ _ 71 [some (.ref l0), some (.int l1), some (.int l2), some (.int l3), some (.int l4), some (.int (l5 + 1)), some (.ref a7)] [] h n _ _
          refine rr_goto (tgt := 8) C dX10_takenOf_71 (by decide) ?_
          exact rr_keep [true, true, true, true, true, true, false] (ih_ _ _ _ hr hx0)
        · replace hr := (if_neg c36_).symm.trans hr
          refine rr_aload C dX10_takenOf_39 rfl ?_
          replace hr := Option.bind_eq_some_iff.mp hr
          obtain ⟨v10, e11, hr⟩ := hr
          refine rr_rdI C dX10_takenOf_41 fl_X10_144 e11 ?_
          refine rr_iload_n (i := 1) C dX10_takenOf_44 rfl rfl ?_
          refine rr_icmp_gt (tgt := 68) C dX10_takenOf_45 (by decide) (fun c45_ => ?_) (fun c45_ => ?_)
          · replace hr := (if_pos c45_).symm.trans hr
            refine rr_iinc (v := l5 + 1) C dX10_takenOf_68 rfl rfl ?_
            show WW W0 G 7 _ _ _ 71 [some (.ref l0), some (.int l1), some (.int l2), some (.int l3), some (.int l4), some (.int (l5 + 1)), some (.ref a7)] [] h n _ _
            refine rr_goto (tgt := 8) C dX10_takenOf_71 (by decide) ?_
            exact rr_keep [true, true, true, true, true, true, false] (ih_ _ _ _ hr hx0)
          · replace hr := (if_neg c45_).symm.trans hr
            refine rr_aload C dX10_takenOf_48 rfl ?_
            replace hr := Option.bind_eq_some_iff.mp hr
            obtain ⟨v12, e13, hr⟩ := hr
            refine rr_rdI C dX10_takenOf_50 fl_X10_144 e13 ?_
            refine rr_iload C dX10_takenOf_53 rfl ?_
            refine rr_icmp_lt (tgt := 68) C dX10_takenOf_55 (by decide) (fun c55_ => ?_) (fun c55_ => ?_)
            · replace hr := (if_pos c55_).symm.trans hr
              refine rr_iinc (v := l5 + 1) C dX10_takenOf_68 rfl rfl ?_
              show WW W0 G 7 _ _ _ 71 [some (.ref l0), some (.int l1), some (.int l2), some (.int l3), some (.int l4), some (.int (l5 + 1)), some (.ref a7)] [] h n _ _
              refine rr_goto (tgt := 8) C dX10_takenOf_71 (by decide) ?_
              exact rr_keep [true, true, true, true, true, true, false] (ih_ _ _ _ hr hx0)
            · replace hr := (if_neg c55_).symm.trans hr
              refine rr_iload C dX10_takenOf_58 rfl ?_
              refine rr_istore_n (i := 3) C dX10_takenOf_60 rfl (by decide) ?_
              show WW W0 G 7 _ _ _ 61 [some (.ref l0), some (.int l1), some (.int l2), some (.int l5), some (.int l4), some (.int l5), some (.ref a7)] [] h n _ _
              refine rr_aload C dX10_takenOf_61 rfl ?_
              replace hr := Option.bind_eq_some_iff.mp hr
              obtain ⟨v14, e15, hr⟩ := hr
              refine rr_rdI C dX10_takenOf_63 fl_X10_144 e15 ?_
              refine rr_istore C dX10_takenOf_66 (by decide) ?_
              show WW W0 G 7 _ _ _ 68 [some (.ref l0), some (.int l1), some (.int l2), some (.int l5), some (.int v14), some (.int l5), some (.ref a7)] [] h n _ _
              refine rr_iinc (v := l5 + 1) C dX10_takenOf_68 rfl rfl ?_
              show WW W0 G 7 _ _ _ 71 [some (.ref l0), some (.int l1), some (.int l2), some (.int l5), some (.int v14), some (.int (l5 + 1)), some (.ref a7)] [] h n _ _
              refine rr_goto (tgt := 8) C dX10_takenOf_71 (by decide) ?_
              exact rr_keep [true, true, true, true, true, true, false] (ih_ _ _ _ hr hx0)
set_option maxRecDepth 100000 in
set_option maxHeartbeats 4000000 in
theorem c_X10_takenOf {K : Nat} {G : mm_G} {l : Launch} {h : mm_H} {n : Nat} (l0 : Nat) (l1 : Int32) (l2 : Int32) {r_ : Int32} (hn : 48 ≤ n) (hr : q_X10_takenOf K h n l0 l1 l2 = some r_) : Sp G l yX10_takenOf cX10_takenOf 7 (some .int) 1 0 0 [.ref l0, .int l1, .int l2] h n (fun v h' n' => v = some (.int r_) ∧ h' = h ∧ n' = n) := by
  refine Sp_of (by decide +kernel) (Nat.le_of_ble_eq_true rfl) hn ?_
  intro W0 hwl C
  subst hwl
  unfold q_X10_takenOf at hr
  show WW W0 G 7 0 0 _ 0 [some (.ref l0), some (.int l1), some (.int l2), none, none, none, none] [] h n 0 0
  refine rr_iconst (v := (-1)) C dX10_takenOf_0 (by decide) ?_
  refine rr_istore_n (i := 3) C dX10_takenOf_1 rfl (by decide) ?_
  show WW W0 G 7 _ _ _ 2 [some (.ref l0), some (.int l1), some (.int l2), some (.int (-1)), none, none, none] [] h n _ _
  refine rr_iconst (v := (-1)) C dX10_takenOf_2 (by decide) ?_
  refine rr_istore C dX10_takenOf_3 (by decide) ?_
  show WW W0 G 7 _ _ _ 5 [some (.ref l0), some (.int l1), some (.int l2), some (.int (-1)), some (.int (-1)), none, none] [] h n _ _
  refine rr_iconst (v := 0) C dX10_takenOf_5 (by decide) ?_
  refine rr_istore C dX10_takenOf_6 (by decide) ?_
  show WW W0 G 7 _ _ _ 8 [some (.ref l0), some (.int l1), some (.int l2), some (.int (-1)), some (.int (-1)), some (.int 0), none] [] h n _ _
  replace hr := Option.bind_eq_some_iff.mp hr
  obtain ⟨v16, e17, hr⟩ := hr
  refine rr_keep [true, true, true, true, true, true, false] (w_X10_takenOf_8 C (by omega) l0 l1 l2 K (-1) (-1) 0 e17 ?_)
  show WW W0 G 7 _ _ _ 74 [none, none, none, some (.int v16), none, none, none] [] h n _ _
  refine rr_iload_n (i := 3) C dX10_takenOf_74 rfl rfl ?_
  obtain rfl := Option.some.inj hr
  exact rr_iret (ty := .int) C dX10_takenOf_75 rfl rfl ⟨rfl, rfl, rfl⟩
def q_X10_fault (K : Nat) (h : mm_H) (n : Nat) (l0 : Nat) : Option (Int32) :=
  (rdR h n l0 9 3).bind fun v1 =>
  v1.bind fun a3 =>
  (rdI h n a3 3 5).bind fun v5 =>
  some v5
set_option maxRecDepth 100000 in
set_option maxHeartbeats 4000000 in
theorem c_X10_fault {K : Nat} {G : mm_G} {l : Launch} {h : mm_H} {n : Nat} (l0 : Nat) {r_ : Int32} (hn : 48 ≤ n) (hr : q_X10_fault K h n l0 = some r_) : Sp G l yX10_fault cX10_fault 1 (some .int) 0 0 0 [.ref l0] h n (fun v h' n' => v = some (.int r_) ∧ h' = h ∧ n' = n) := by
  refine Sp_of (by decide +kernel) (Nat.le_of_ble_eq_true rfl) hn ?_
  intro W0 hwl C
  subst hwl
  unfold q_X10_fault at hr
  show WW W0 G 1 0 0 _ 0 [some (.ref l0)] [] h n 0 0
  refine rr_aload_n (i := 0) C dX10_fault_0 rfl rfl ?_
  replace hr := Option.bind_eq_some_iff.mp hr
  obtain ⟨v1, e2, hr⟩ := hr
  refine rr_rdR C dX10_fault_1 fl_X10_35 e2 ?_
  replace hr := Option.bind_eq_some_iff.mp hr
  obtain ⟨a3, e4, hr⟩ := hr
  subst e4
  replace hr := Option.bind_eq_some_iff.mp hr
  obtain ⟨v5, e6, hr⟩ := hr
  refine rr_rdI C dX10_fault_4 fl_X10_154 e6 ?_
  obtain rfl := Option.some.inj hr
  exact rr_iret (ty := .int) C dX10_fault_7 rfl rfl ⟨rfl, rfl, rfl⟩
def q_X10_review (K : Nat) (h : mm_H) (n : Nat) (l0 : Nat) (l1 : Int32) (l2 : Int32) : Option (Int32) :=
  (q_X10_isReview K h n l1).bind fun v1 =>
  if v1 = 0 then
    (ckq h n l0 9).bind fun u3 =>
    (q_X10_takenAt K h n l0 (-1)).bind fun v5 =>
    match v5 with
    | none =>
      some (-1)
    | some a7 =>
      if l2 = 0 then
        some (-1)
      else
      if l2 = 1 then
        (rdI h n a7 6 1).bind fun v8 =>
        some v8
      else
      if l2 = 2 then
        (ckq h n a7 6).bind fun u10 =>
        (q_X6_quarrelFirst K h n a7).bind fun v12 =>
        some v12
      else
      if l2 = 3 then
        (ckq h n a7 6).bind fun u14 =>
        (q_X6_quarrelFirst K h n a7).bind fun v16 =>
        (ckq h n a7 6).bind fun u18 =>
        (q_X6_quarrelWith K h n a7 v16).bind fun v20 =>
        some v20
      else
      some (-1)
  else
  (ckq h n l0 9).bind fun u22 =>
  (q_X10_takenOf K h n l0 l1 (l1 * 500)).bind fun v24 =>
  (ckq h n l0 9).bind fun u26 =>
  (q_X10_takenAt K h n l0 v24).bind fun v28 =>
  match v28 with
  | none =>
    some (-1)
  | some a30 =>
    if l2 = 0 then
      some v24
    else
    if l2 = 1 then
      (rdI h n a30 6 1).bind fun v31 =>
      some v31
    else
    if l2 = 2 then
      (ckq h n a30 6).bind fun u33 =>
      (q_X6_quarrelFirst K h n a30).bind fun v35 =>
      some v35
    else
    if l2 = 3 then
      (ckq h n a30 6).bind fun u37 =>
      (q_X6_quarrelFirst K h n a30).bind fun v39 =>
      (ckq h n a30 6).bind fun u41 =>
      (q_X6_quarrelWith K h n a30 v39).bind fun v43 =>
      some v43
    else
    some (-1)
set_option maxRecDepth 100000 in
set_option maxHeartbeats 4000000 in
theorem c_X10_review {K : Nat} {G : mm_G} {l : Launch} {h : mm_H} {n : Nat} (l0 : Nat) (l1 : Int32) (l2 : Int32) {r_ : Int32} (hn : 48 ≤ n) (hr : q_X10_review K h n l0 l1 l2 = some r_) : Sp G l yX10_review cX10_review 5 (some .int) 4 0 0 [.ref l0, .int l1, .int l2] h n (fun v h' n' => v = some (.int r_) ∧ h' = h ∧ n' = n) := by
  refine Sp_of (by decide +kernel) (Nat.le_of_ble_eq_true rfl) hn ?_
  intro W0 hwl C
  subst hwl
  unfold q_X10_review at hr
  show WW W0 G 5 0 0 _ 0 [some (.ref l0), some (.int l1), some (.int l2), none, none] [] h n 0 0
  refine rr_iload_n (i := 1) C dX10_review_0 rfl rfl ?_
  replace hr := Option.bind_eq_some_iff.mp hr
  obtain ⟨v1, e2, hr⟩ := hr
  refine rr_callS (as := [.int l1]) (st := []) (mc' := 0) (ms' := 0) C dX10_review_1 it_X10_126 (by decide) (Nat.le_of_ble_eq_true rfl) (c_X10_isReview l1 (by omega) e2) (fun v_ h_ n_ q_ => ?_)
  obtain ⟨q1_, q2_, q3_⟩ := q_
  subst v_; subst h_; subst n_
  show WW W0 G 5 _ _ _ 4 [some (.ref l0), some (.int l1), some (.int l2), none, none] [.int v1] h n _ _
  refine rr_if_eq (tgt := 20) C dX10_review_4 (by decide) (fun c4_ => ?_) (fun c4_ => ?_)
  · replace hr := (if_pos c4_).symm.trans hr
    refine rr_iconst (v := (-1)) C dX10_review_20 (by decide) ?_
    refine rr_istore_n (i := 3) C dX10_review_21 rfl (by decide) ?_
    show WW W0 G 5 _ _ _ 22 [some (.ref l0), some (.int l1), some (.int l2), some (.int (-1)), none] [] h n _ _
    refine rr_aload_n (i := 0) C dX10_review_22 rfl rfl ?_
    refine rr_iload_n (i := 3) C dX10_review_23 rfl rfl ?_
    replace hr := Option.bind_eq_some_iff.mp hr
    obtain ⟨u3, e4, hr⟩ := hr
    replace hr := Option.bind_eq_some_iff.mp hr
    obtain ⟨v5, e6, hr⟩ := hr
    refine rr_callVq (as := [.int (-1)]) (st := []) (mc' := 0) (ms' := 0) C dX10_review_24 iv_X10_136 (by decide) e4 rfl (Nat.le_of_ble_eq_true rfl) (c_X10_takenAt l0 (-1) (by omega) e6) (fun v_ h_ n_ q_ => ?_)
    obtain ⟨q1_, q2_, q3_⟩ := q_
    subst v_; subst h_; subst n_
    show WW W0 G 5 _ _ _ 27 [some (.ref l0), some (.int l1), some (.int l2), some (.int (-1)), none] [va_rf v5] h n _ _
    refine rr_astoreO C dX10_review_27 (by decide) ?_
    show WW W0 G 5 _ _ _ 29 [some (.ref l0), some (.int l1), some (.int l2), some (.int (-1)), some (va_rf v5)] [] h n _ _
    refine rr_aloadO C dX10_review_29 rfl ?_
    rcases v5 with _ | a7
    · dsimp only at hr
      refine rr_ifnonnullN C dX10_review_31 ?_
      refine rr_iconst (v := (-1)) C dX10_review_34 (by decide) ?_
      obtain rfl := Option.some.inj hr
      exact rr_iret (ty := .int) C dX10_review_35 rfl rfl ⟨rfl, rfl, rfl⟩
    · dsimp only at hr
      refine rr_ifnonnull (tgt := 36) C dX10_review_31 (by decide) ?_
      refine rr_iload_n (i := 2) C dX10_review_36 rfl rfl ?_
      by_cases s37_0 : l2 = 0
      · replace hr := (if_pos s37_0).symm.trans hr
        refine rr_tabIn (off := 31) (tgt := 68) C dX10_review_37 (by rw [s37_0]; decide) (by rw [s37_0]; decide) (by rw [s37_0]; rfl) (by decide) ?_
        refine rr_iload_n (i := 3) C dX10_review_68 rfl rfl ?_
        obtain rfl := Option.some.inj hr
        exact rr_iret (ty := .int) C dX10_review_69 rfl rfl ⟨rfl, rfl, rfl⟩
      replace hr := (if_neg s37_0).symm.trans hr
      by_cases s37_1 : l2 = 1
      · replace hr := (if_pos s37_1).symm.trans hr
        refine rr_tabIn (off := 33) (tgt := 70) C dX10_review_37 (by rw [s37_1]; decide) (by rw [s37_1]; decide) (by rw [s37_1]; rfl) (by decide) ?_
        refine rr_aload C dX10_review_70 rfl ?_
        replace hr := Option.bind_eq_some_iff.mp hr
        obtain ⟨v8, e9, hr⟩ := hr
        refine rr_rdI C dX10_review_72 fl_X10_157 e9 ?_
        obtain rfl := Option.some.inj hr
        exact rr_iret (ty := .int) C dX10_review_75 rfl rfl ⟨rfl, rfl, rfl⟩
      replace hr := (if_neg s37_1).symm.trans hr
      by_cases s37_2 : l2 = 2
      · replace hr := (if_pos s37_2).symm.trans hr
        refine rr_tabIn (off := 39) (tgt := 76) C dX10_review_37 (by rw [s37_2]; decide) (by rw [s37_2]; decide) (by rw [s37_2]; rfl) (by decide) ?_
        refine rr_aload C dX10_review_76 rfl ?_
        replace hr := Option.bind_eq_some_iff.mp hr
        obtain ⟨u10, e11, hr⟩ := hr
        replace hr := Option.bind_eq_some_iff.mp hr
        obtain ⟨v12, e13, hr⟩ := hr
        refine rr_callVq (as := []) (st := []) (mc' := 0) (ms' := 0) C dX10_review_78 iv_X10_160 (by decide) e11 rfl (Nat.le_of_ble_eq_true rfl) (c_X6_quarrelFirst a7 (by omega) e13) (fun v_ h_ n_ q_ => ?_)
        obtain ⟨q1_, q2_, q3_⟩ := q_
        subst v_; subst h_; subst n_
        show WW W0 G 5 _ _ _ 81 [some (.ref l0), some (.int l1), some (.int l2), some (.int (-1)), some (.ref a7)] [.int v12] h n _ _
        obtain rfl := Option.some.inj hr
        exact rr_iret (ty := .int) C dX10_review_81 rfl rfl ⟨rfl, rfl, rfl⟩
      replace hr := (if_neg s37_2).symm.trans hr
      by_cases s37_3 : l2 = 3
      · replace hr := (if_pos s37_3).symm.trans hr
        refine rr_tabIn (off := 45) (tgt := 82) C dX10_review_37 (by rw [s37_3]; decide) (by rw [s37_3]; decide) (by rw [s37_3]; rfl) (by decide) ?_
        refine rr_aload C dX10_review_82 rfl ?_
        refine rr_aload C dX10_review_84 rfl ?_
        replace hr := Option.bind_eq_some_iff.mp hr
        obtain ⟨u14, e15, hr⟩ := hr
        replace hr := Option.bind_eq_some_iff.mp hr
        obtain ⟨v16, e17, hr⟩ := hr
        refine rr_callVq (as := []) (st := [.ref a7]) (mc' := 0) (ms' := 0) C dX10_review_86 iv_X10_160 (by decide) e15 rfl (Nat.le_of_ble_eq_true rfl) (c_X6_quarrelFirst a7 (by omega) e17) (fun v_ h_ n_ q_ => ?_)
        obtain ⟨q1_, q2_, q3_⟩ := q_
        subst v_; subst h_; subst n_
        show WW W0 G 5 _ _ _ 89 [some (.ref l0), some (.int l1), some (.int l2), some (.int (-1)), some (.ref a7)] [.int v16, .ref a7] h n _ _
        replace hr := Option.bind_eq_some_iff.mp hr
        obtain ⟨u18, e19, hr⟩ := hr
        replace hr := Option.bind_eq_some_iff.mp hr
        obtain ⟨v20, e21, hr⟩ := hr
        refine rr_callVq (as := [.int v16]) (st := []) (mc' := 0) (ms' := 0) C dX10_review_89 iv_X10_164 (by decide) e19 rfl (Nat.le_of_ble_eq_true rfl) (c_X6_quarrelWith a7 v16 (by omega) e21) (fun v_ h_ n_ q_ => ?_)
        obtain ⟨q1_, q2_, q3_⟩ := q_
        subst v_; subst h_; subst n_
        show WW W0 G 5 _ _ _ 92 [some (.ref l0), some (.int l1), some (.int l2), some (.int (-1)), some (.ref a7)] [.int v20] h n _ _
        obtain rfl := Option.some.inj hr
        exact rr_iret (ty := .int) C dX10_review_92 rfl rfl ⟨rfl, rfl, rfl⟩
      replace hr := (if_neg s37_3).symm.trans hr
      refine rr_tabOut (tgt := 93) C dX10_review_37 (by have t0 : ¬ Int32.toInt l2 = 0 := (fun q => s37_0 (Int32.toInt_inj.mp (show Int32.toInt l2 = (0 : Int32).toInt from q))); have t1 : ¬ Int32.toInt l2 = 1 := (fun q => s37_1 (Int32.toInt_inj.mp (show Int32.toInt l2 = (1 : Int32).toInt from q))); have t2 : ¬ Int32.toInt l2 = 2 := (fun q => s37_2 (Int32.toInt_inj.mp (show Int32.toInt l2 = (2 : Int32).toInt from q))); have t3 : ¬ Int32.toInt l2 = 3 := (fun q => s37_3 (Int32.toInt_inj.mp (show Int32.toInt l2 = (3 : Int32).toInt from q))); omega) (by decide) ?_
      refine rr_iconst (v := (-1)) C dX10_review_93 (by decide) ?_
      obtain rfl := Option.some.inj hr
      exact rr_iret (ty := .int) C dX10_review_94 rfl rfl ⟨rfl, rfl, rfl⟩
  · replace hr := (if_neg c4_).symm.trans hr
    refine rr_aload_n (i := 0) C dX10_review_7 rfl rfl ?_
    refine rr_iload_n (i := 1) C dX10_review_8 rfl rfl ?_
    refine rr_iload_n (i := 1) C dX10_review_9 rfl rfl ?_
    refine rr_sipush (v := 500) C dX10_review_10 (by decide) ?_
    refine rr_imul C dX10_review_13 ?_
    replace hr := Option.bind_eq_some_iff.mp hr
    obtain ⟨u22, e23, hr⟩ := hr
    replace hr := Option.bind_eq_some_iff.mp hr
    obtain ⟨v24, e25, hr⟩ := hr
    refine rr_callVq (as := [.int l1, .int (l1 * 500)]) (st := []) (mc' := 0) (ms' := 0) C dX10_review_14 iv_X10_132 (by decide) e23 rfl (Nat.le_of_ble_eq_true rfl) (c_X10_takenOf l0 l1 (l1 * 500) (by omega) e25) (fun v_ h_ n_ q_ => ?_)
    obtain ⟨q1_, q2_, q3_⟩ := q_
    subst v_; subst h_; subst n_
    show WW W0 G 5 _ _ _ 17 [some (.ref l0), some (.int l1), some (.int l2), none, none] [.int v24] h n _ _
    refine rr_goto (tgt := 21) C dX10_review_17 (by decide) ?_
    refine rr_istore_n (i := 3) C dX10_review_21 rfl (by decide) ?_
    show WW W0 G 5 _ _ _ 22 [some (.ref l0), some (.int l1), some (.int l2), some (.int v24), none] [] h n _ _
    refine rr_aload_n (i := 0) C dX10_review_22 rfl rfl ?_
    refine rr_iload_n (i := 3) C dX10_review_23 rfl rfl ?_
    replace hr := Option.bind_eq_some_iff.mp hr
    obtain ⟨u26, e27, hr⟩ := hr
    replace hr := Option.bind_eq_some_iff.mp hr
    obtain ⟨v28, e29, hr⟩ := hr
    refine rr_callVq (as := [.int v24]) (st := []) (mc' := 0) (ms' := 0) C dX10_review_24 iv_X10_136 (by decide) e27 rfl (Nat.le_of_ble_eq_true rfl) (c_X10_takenAt l0 v24 (by omega) e29) (fun v_ h_ n_ q_ => ?_)
    obtain ⟨q1_, q2_, q3_⟩ := q_
    subst v_; subst h_; subst n_
    show WW W0 G 5 _ _ _ 27 [some (.ref l0), some (.int l1), some (.int l2), some (.int v24), none] [va_rf v28] h n _ _
    refine rr_astoreO C dX10_review_27 (by decide) ?_
    show WW W0 G 5 _ _ _ 29 [some (.ref l0), some (.int l1), some (.int l2), some (.int v24), some (va_rf v28)] [] h n _ _
    refine rr_aloadO C dX10_review_29 rfl ?_
    rcases v28 with _ | a30
    · dsimp only at hr
      refine rr_ifnonnullN C dX10_review_31 ?_
      refine rr_iconst (v := (-1)) C dX10_review_34 (by decide) ?_
      obtain rfl := Option.some.inj hr
      exact rr_iret (ty := .int) C dX10_review_35 rfl rfl ⟨rfl, rfl, rfl⟩
    · dsimp only at hr
      refine rr_ifnonnull (tgt := 36) C dX10_review_31 (by decide) ?_
      refine rr_iload_n (i := 2) C dX10_review_36 rfl rfl ?_
      by_cases s37_0 : l2 = 0
      · replace hr := (if_pos s37_0).symm.trans hr
        refine rr_tabIn (off := 31) (tgt := 68) C dX10_review_37 (by rw [s37_0]; decide) (by rw [s37_0]; decide) (by rw [s37_0]; rfl) (by decide) ?_
        refine rr_iload_n (i := 3) C dX10_review_68 rfl rfl ?_
        obtain rfl := Option.some.inj hr
        exact rr_iret (ty := .int) C dX10_review_69 rfl rfl ⟨rfl, rfl, rfl⟩
      replace hr := (if_neg s37_0).symm.trans hr
      by_cases s37_1 : l2 = 1
      · replace hr := (if_pos s37_1).symm.trans hr
        refine rr_tabIn (off := 33) (tgt := 70) C dX10_review_37 (by rw [s37_1]; decide) (by rw [s37_1]; decide) (by rw [s37_1]; rfl) (by decide) ?_
        refine rr_aload C dX10_review_70 rfl ?_
        replace hr := Option.bind_eq_some_iff.mp hr
        obtain ⟨v31, e32, hr⟩ := hr
        refine rr_rdI C dX10_review_72 fl_X10_157 e32 ?_
        obtain rfl := Option.some.inj hr
        exact rr_iret (ty := .int) C dX10_review_75 rfl rfl ⟨rfl, rfl, rfl⟩
      replace hr := (if_neg s37_1).symm.trans hr
      by_cases s37_2 : l2 = 2
      · replace hr := (if_pos s37_2).symm.trans hr
        refine rr_tabIn (off := 39) (tgt := 76) C dX10_review_37 (by rw [s37_2]; decide) (by rw [s37_2]; decide) (by rw [s37_2]; rfl) (by decide) ?_
        refine rr_aload C dX10_review_76 rfl ?_
        replace hr := Option.bind_eq_some_iff.mp hr
        obtain ⟨u33, e34, hr⟩ := hr
        replace hr := Option.bind_eq_some_iff.mp hr
        obtain ⟨v35, e36, hr⟩ := hr
        refine rr_callVq (as := []) (st := []) (mc' := 0) (ms' := 0) C dX10_review_78 iv_X10_160 (by decide) e34 rfl (Nat.le_of_ble_eq_true rfl) (c_X6_quarrelFirst a30 (by omega) e36) (fun v_ h_ n_ q_ => ?_)
        obtain ⟨q1_, q2_, q3_⟩ := q_
        subst v_; subst h_; subst n_
        show WW W0 G 5 _ _ _ 81 [some (.ref l0), some (.int l1), some (.int l2), some (.int v24), some (.ref a30)] [.int v35] h n _ _
        obtain rfl := Option.some.inj hr
        exact rr_iret (ty := .int) C dX10_review_81 rfl rfl ⟨rfl, rfl, rfl⟩
      replace hr := (if_neg s37_2).symm.trans hr
      by_cases s37_3 : l2 = 3
      · replace hr := (if_pos s37_3).symm.trans hr
        refine rr_tabIn (off := 45) (tgt := 82) C dX10_review_37 (by rw [s37_3]; decide) (by rw [s37_3]; decide) (by rw [s37_3]; rfl) (by decide) ?_
        refine rr_aload C dX10_review_82 rfl ?_
        refine rr_aload C dX10_review_84 rfl ?_
        replace hr := Option.bind_eq_some_iff.mp hr
        obtain ⟨u37, e38, hr⟩ := hr
        replace hr := Option.bind_eq_some_iff.mp hr
        obtain ⟨v39, e40, hr⟩ := hr
        refine rr_callVq (as := []) (st := [.ref a30]) (mc' := 0) (ms' := 0) C dX10_review_86 iv_X10_160 (by decide) e38 rfl (Nat.le_of_ble_eq_true rfl) (c_X6_quarrelFirst a30 (by omega) e40) (fun v_ h_ n_ q_ => ?_)
        obtain ⟨q1_, q2_, q3_⟩ := q_
        subst v_; subst h_; subst n_
        show WW W0 G 5 _ _ _ 89 [some (.ref l0), some (.int l1), some (.int l2), some (.int v24), some (.ref a30)] [.int v39, .ref a30] h n _ _
        replace hr := Option.bind_eq_some_iff.mp hr
        obtain ⟨u41, e42, hr⟩ := hr
        replace hr := Option.bind_eq_some_iff.mp hr
        obtain ⟨v43, e44, hr⟩ := hr
        refine rr_callVq (as := [.int v39]) (st := []) (mc' := 0) (ms' := 0) C dX10_review_89 iv_X10_164 (by decide) e42 rfl (Nat.le_of_ble_eq_true rfl) (c_X6_quarrelWith a30 v39 (by omega) e44) (fun v_ h_ n_ q_ => ?_)
        obtain ⟨q1_, q2_, q3_⟩ := q_
        subst v_; subst h_; subst n_
        show WW W0 G 5 _ _ _ 92 [some (.ref l0), some (.int l1), some (.int l2), some (.int v24), some (.ref a30)] [.int v43] h n _ _
        obtain rfl := Option.some.inj hr
        exact rr_iret (ty := .int) C dX10_review_92 rfl rfl ⟨rfl, rfl, rfl⟩
      replace hr := (if_neg s37_3).symm.trans hr
      refine rr_tabOut (tgt := 93) C dX10_review_37 (by have t0 : ¬ Int32.toInt l2 = 0 := (fun q => s37_0 (Int32.toInt_inj.mp (show Int32.toInt l2 = (0 : Int32).toInt from q))); have t1 : ¬ Int32.toInt l2 = 1 := (fun q => s37_1 (Int32.toInt_inj.mp (show Int32.toInt l2 = (1 : Int32).toInt from q))); have t2 : ¬ Int32.toInt l2 = 2 := (fun q => s37_2 (Int32.toInt_inj.mp (show Int32.toInt l2 = (2 : Int32).toInt from q))); have t3 : ¬ Int32.toInt l2 = 3 := (fun q => s37_3 (Int32.toInt_inj.mp (show Int32.toInt l2 = (3 : Int32).toInt from q))); omega) (by decide) ?_
      refine rr_iconst (v := (-1)) C dX10_review_93 (by decide) ?_
      obtain rfl := Option.some.inj hr
      exact rr_iret (ty := .int) C dX10_review_94 rfl rfl ⟨rfl, rfl, rfl⟩
def q_X10_isOfKind (K : Nat) (h : mm_H) (n : Nat) (l0 : Int32) (l1 : Int32) : Option (Int32) :=
  if l0 = 0 then
    (q_X10_isHead K h n l1).bind fun v1 =>
    (ckz v1).bind fun u3 =>
    some v1
  else
  if l0 = 1 then
    (q_X10_isHead K h n l1).bind fun v5 =>
    (ckz v5).bind fun u7 =>
    some v5
  else
  if l0 = 2 then
    (q_X10_isWithin K h n l1 0 2).bind fun v9 =>
    if v9 = 0 then
      some 0
    else
    some 1
  else
  some 1
set_option maxRecDepth 100000 in
set_option maxHeartbeats 4000000 in
theorem c_X10_isOfKind {K : Nat} {G : mm_G} {l : Launch} {h : mm_H} {n : Nat} (l0 : Int32) (l1 : Int32) {r_ : Int32} (hn : 48 ≤ n) (hr : q_X10_isOfKind K h n l0 l1 = some r_) : Sp G l yX10_isOfKind cX10_isOfKind 2 (some .boolean) 2 0 0 [.int l0, .int l1] h n (fun v h' n' => v = some (.int r_) ∧ h' = h ∧ n' = n) := by
  refine Sp_of (by decide +kernel) (Nat.le_of_ble_eq_true rfl) hn ?_
  intro W0 hwl C
  subst hwl
  unfold q_X10_isOfKind at hr
  show WW W0 G 2 0 0 _ 0 [some (.int l0), some (.int l1)] [] h n 0 0
  refine rr_iload_n (i := 0) C dX10_isOfKind_0 rfl rfl ?_
  refine rr_if_eq (tgt := 9) C dX10_isOfKind_1 (by decide) (fun c1_ => ?_) (fun c1_ => ?_)
  · replace hr := (if_pos c1_).symm.trans hr
    refine rr_iload_n (i := 1) C dX10_isOfKind_9 rfl rfl ?_
    replace hr := Option.bind_eq_some_iff.mp hr
    obtain ⟨v1, e2, hr⟩ := hr
    refine rr_callS (as := [.int l1]) (st := []) (mc' := 0) (ms' := 0) C dX10_isOfKind_10 it_X10_106 (by decide) (Nat.le_of_ble_eq_true rfl) (c_X10_isHead l1 (by omega) e2) (fun v_ h_ n_ q_ => ?_)
    obtain ⟨q1_, q2_, q3_⟩ := q_
    subst v_; subst h_; subst n_
    show WW W0 G 2 _ _ _ 13 [some (.int l0), some (.int l1)] [.int v1] h n _ _
    replace hr := Option.bind_eq_some_iff.mp hr
    obtain ⟨u3, e4, hr⟩ := hr
    obtain rfl := Option.some.inj hr
    exact rr_iret (ty := .boolean) C dX10_isOfKind_13 rfl (ckz_s e4) ⟨rfl, rfl, rfl⟩
  · replace hr := (if_neg c1_).symm.trans hr
    refine rr_iload_n (i := 0) C dX10_isOfKind_4 rfl rfl ?_
    refine rr_iconst (v := 1) C dX10_isOfKind_5 (by decide) ?_
    refine rr_icmp_ne (tgt := 14) C dX10_isOfKind_6 (by decide) (fun c6_ => ?_) (fun c6_ => ?_)
    · replace hr := (if_neg c6_).symm.trans hr
      refine rr_iload_n (i := 0) C dX10_isOfKind_14 rfl rfl ?_
      refine rr_iconst (v := 2) C dX10_isOfKind_15 (by decide) ?_
      refine rr_icmp_ne (tgt := 28) C dX10_isOfKind_16 (by decide) (fun c16_ => ?_) (fun c16_ => ?_)
      · replace hr := (if_neg c16_).symm.trans hr
        refine rr_iconst (v := 1) C dX10_isOfKind_28 (by decide) ?_
        refine rr_goto (tgt := 33) C dX10_isOfKind_29 (by decide) ?_
        obtain rfl := Option.some.inj hr
        exact rr_iret (ty := .boolean) C dX10_isOfKind_33 rfl rfl ⟨rfl, rfl, rfl⟩
      · replace hr := (if_pos c16_).symm.trans hr
        refine rr_iload_n (i := 1) C dX10_isOfKind_19 rfl rfl ?_
        refine rr_iconst (v := 0) C dX10_isOfKind_20 (by decide) ?_
        refine rr_iconst (v := 2) C dX10_isOfKind_21 (by decide) ?_
        replace hr := Option.bind_eq_some_iff.mp hr
        obtain ⟨v9, e10, hr⟩ := hr
        refine rr_callS (as := [.int l1, .int 0, .int 2]) (st := []) (mc' := 0) (ms' := 0) C dX10_isOfKind_22 it_X10_60 (by decide) (Nat.le_of_ble_eq_true rfl) (c_X10_isWithin l1 0 2 (by omega) e10) (fun v_ h_ n_ q_ => ?_)
        obtain ⟨q1_, q2_, q3_⟩ := q_
        subst v_; subst h_; subst n_
        show WW W0 G 2 _ _ _ 25 [some (.int l0), some (.int l1)] [.int v9] h n _ _
        refine rr_if_eq (tgt := 32) C dX10_isOfKind_25 (by decide) (fun c25_ => ?_) (fun c25_ => ?_)
        · replace hr := (if_pos c25_).symm.trans hr
          refine rr_iconst (v := 0) C dX10_isOfKind_32 (by decide) ?_
          obtain rfl := Option.some.inj hr
          exact rr_iret (ty := .boolean) C dX10_isOfKind_33 rfl rfl ⟨rfl, rfl, rfl⟩
        · replace hr := (if_neg c25_).symm.trans hr
          refine rr_iconst (v := 1) C dX10_isOfKind_28 (by decide) ?_
          refine rr_goto (tgt := 33) C dX10_isOfKind_29 (by decide) ?_
          obtain rfl := Option.some.inj hr
          exact rr_iret (ty := .boolean) C dX10_isOfKind_33 rfl rfl ⟨rfl, rfl, rfl⟩
    · replace hr := (if_pos c6_).symm.trans hr
      refine rr_iload_n (i := 1) C dX10_isOfKind_9 rfl rfl ?_
      replace hr := Option.bind_eq_some_iff.mp hr
      obtain ⟨v5, e6, hr⟩ := hr
      refine rr_callS (as := [.int l1]) (st := []) (mc' := 0) (ms' := 0) C dX10_isOfKind_10 it_X10_106 (by decide) (Nat.le_of_ble_eq_true rfl) (c_X10_isHead l1 (by omega) e6) (fun v_ h_ n_ q_ => ?_)
      obtain ⟨q1_, q2_, q3_⟩ := q_
      subst v_; subst h_; subst n_
      show WW W0 G 2 _ _ _ 13 [some (.int l0), some (.int l1)] [.int v5] h n _ _
      replace hr := Option.bind_eq_some_iff.mp hr
      obtain ⟨u7, e8, hr⟩ := hr
      obtain rfl := Option.some.inj hr
      exact rr_iret (ty := .boolean) C dX10_isOfKind_13 rfl (ckz_s e8) ⟨rfl, rfl, rfl⟩
def lp_X10_useOwnRules_2 (K : Nat) (n : Nat) (l0 : Nat) : Nat → Int32 → mm_H → Option (mm_H)
  | 0, _, _ => none
  | k_ + 1, l1, h =>
    if 3 ≤ l1 then
      some (h)
    else
    (rdR h n l0 9 1).bind fun v1 =>
    (ckq h n l0 9).bind fun u3 =>
    (q_X10_takenOf K h n l0 l1 (l1 * 500)).bind fun v5 =>
    (ckq h n l0 9).bind fun u7 =>
    (q_X10_takenAt K h n l0 v5).bind fun v9 =>
    v1.bind fun a11 =>
    (ckq h n a11 7).bind fun u13 =>
    (q_X7_useRules K h n a11 l1 v9).bind fun v15 =>
    lp_X10_useOwnRules_2 K n l0 k_ (l1 + 1) v15
def q_X10_useOwnRules (K : Nat) (h : mm_H) (n : Nat) (l0 : Nat) : Option (mm_H) :=
  (lp_X10_useOwnRules_2 K n l0 K 0 h).bind fun v17 =>
  some v17
set_option maxRecDepth 100000 in
set_option maxHeartbeats 4000000 in
theorem w_X10_useOwnRules_2 {K : Nat} {W0 : mm_X} {G : mm_G} {mc ms kc ks : Nat} {Q_ : State → Prop} {n : Nat} (C : mm_C W0 G cX10_useOwnRules yX10_useOwnRules.cls 2 mc ms none 2 yX10_useOwnRules.name) (hn : 48 ≤ n) (l0 : Nat) : ∀ (k_ : Nat) (l1 : Int32) (h : mm_H) {r_ : mm_H} (hr : lp_X10_useOwnRules_2 K n l0 k_ l1 h = some r_) (hx0 : WW W0 G 2 mc ms Q_ 35 [none, none] [] r_ n kc ks), WW W0 G 2 mc ms Q_ 2 [some (.ref l0), some (.int l1)] [] h n kc ks := by
  intro k_
  induction k_ with
  | zero =>
    intro l1 h r_ hr
    cases hr
  | succ k_ ih_ =>
    intro l1 h r_ hr hx0
    unfold lp_X10_useOwnRules_2 at hr
    refine rr_iload_n (i := 1) C dX10_useOwnRules_2 rfl rfl ?_
    refine rr_iconst (v := 3) C dX10_useOwnRules_3 (by decide) ?_
    refine rr_icmp_ge (tgt := 35) C dX10_useOwnRules_4 (by decide) (fun c4_ => ?_) (fun c4_ => ?_)
    · replace hr := (if_pos c4_).symm.trans hr
      obtain rfl := Option.some.inj hr
      exact rr_keep [false, false] (hx0)
    · replace hr := (if_neg c4_).symm.trans hr
      refine rr_aload_n (i := 0) C dX10_useOwnRules_7 rfl rfl ?_
      replace hr := Option.bind_eq_some_iff.mp hr
      obtain ⟨v1, e2, hr⟩ := hr
      refine rr_rdR C dX10_useOwnRules_8 fl_X10_21 e2 ?_
      refine rr_iload_n (i := 1) C dX10_useOwnRules_11 rfl rfl ?_
      refine rr_aload_n (i := 0) C dX10_useOwnRules_12 rfl rfl ?_
      refine rr_aload_n (i := 0) C dX10_useOwnRules_13 rfl rfl ?_
      refine rr_iload_n (i := 1) C dX10_useOwnRules_14 rfl rfl ?_
      refine rr_iload_n (i := 1) C dX10_useOwnRules_15 rfl rfl ?_
      refine rr_sipush (v := 500) C dX10_useOwnRules_16 (by decide) ?_
      refine rr_imul C dX10_useOwnRules_19 ?_
      replace hr := Option.bind_eq_some_iff.mp hr
      obtain ⟨u3, e4, hr⟩ := hr
      replace hr := Option.bind_eq_some_iff.mp hr
      obtain ⟨v5, e6, hr⟩ := hr
      refine rr_callVq (as := [.int l1, .int (l1 * 500)]) (st := [.ref l0, .int l1, va_rf v1]) (mc' := 0) (ms' := 0) C dX10_useOwnRules_20 iv_X10_132 (by decide) e4 rfl (by rcases v1 with _ | _ <;> exact Nat.le_of_ble_eq_true rfl) (c_X10_takenOf l0 l1 (l1 * 500) (by omega) e6) (fun v_ h_ n_ q_ => ?_)
      obtain ⟨q1_, q2_, q3_⟩ := q_
      subst v_; subst h_; subst n_
      show WW W0 G 2 _ _ _ 23 [some (.ref l0), some (.int l1)] [.int v5, .ref l0, .int l1, va_rf v1] h n _ _
      replace hr := Option.bind_eq_some_iff.mp hr
      obtain ⟨u7, e8, hr⟩ := hr
      replace hr := Option.bind_eq_some_iff.mp hr
      obtain ⟨v9, e10, hr⟩ := hr
      refine rr_callVq (as := [.int v5]) (st := [.int l1, va_rf v1]) (mc' := 0) (ms' := 0) C dX10_useOwnRules_23 iv_X10_136 (by decide) e8 rfl (by rcases v1 with _ | _ <;> exact Nat.le_of_ble_eq_true rfl) (c_X10_takenAt l0 v5 (by omega) e10) (fun v_ h_ n_ q_ => ?_)
      obtain ⟨q1_, q2_, q3_⟩ := q_
      subst v_; subst h_; subst n_
      show WW W0 G 2 _ _ _ 26 [some (.ref l0), some (.int l1)] [va_rf v9, .int l1, va_rf v1] h n _ _
      replace hr := Option.bind_eq_some_iff.mp hr
      obtain ⟨a11, e12, hr⟩ := hr
      subst e12
      replace hr := Option.bind_eq_some_iff.mp hr
      obtain ⟨u13, e14, hr⟩ := hr
      replace hr := Option.bind_eq_some_iff.mp hr
      obtain ⟨v15, e16, hr⟩ := hr
      refine rr_callVq (as := [.int l1, va_rf v9]) (st := []) (mc' := 0) (ms' := 0) C dX10_useOwnRules_26 iv_X10_240 (by decide) e14 rfl (Nat.le_of_ble_eq_true rfl) (c_X7_useRules a11 l1 v9 (by omega) e16) (fun v_ h_ n_ q_ => ?_)
      obtain ⟨q1_, q2_, q3_⟩ := q_
      subst v_; subst h_; subst n_
      show WW W0 G 2 _ _ _ 29 [some (.ref l0), some (.int l1)] [] v15 n _ _
      refine rr_iinc (v := l1 + 1) C dX10_useOwnRules_29 rfl rfl ?_
      show WW W0 G 2 _ _ _ 32 [some (.ref l0), some (.int (l1 + 1))] [] v15 n _ _
      refine rr_goto (tgt := 2) C dX10_useOwnRules_32 (by decide) ?_
      exact rr_keep [true, true] (ih_ _ _ hr hx0)
set_option maxRecDepth 100000 in
set_option maxHeartbeats 4000000 in
theorem c_X10_useOwnRules {K : Nat} {G : mm_G} {l : Launch} {h : mm_H} {n : Nat} (l0 : Nat) {r_ : mm_H} (hn : 48 ≤ n) (hr : q_X10_useOwnRules K h n l0 = some r_) : Sp G l yX10_useOwnRules cX10_useOwnRules 2 none 2 0 0 [.ref l0] h n (fun v h' n' => v = none ∧ h' = r_ ∧ n' = n) := by
  refine Sp_of (by decide +kernel) (Nat.le_of_ble_eq_true rfl) hn ?_
  intro W0 hwl C
  subst hwl
  unfold q_X10_useOwnRules at hr
  show WW W0 G 2 0 0 _ 0 [some (.ref l0), none] [] h n 0 0
  refine rr_iconst (v := 0) C dX10_useOwnRules_0 (by decide) ?_
  refine rr_istore_n (i := 1) C dX10_useOwnRules_1 rfl (by decide) ?_
  show WW W0 G 2 _ _ _ 2 [some (.ref l0), some (.int 0)] [] h n _ _
  replace hr := Option.bind_eq_some_iff.mp hr
  obtain ⟨v17, e18, hr⟩ := hr
  refine rr_keep [true, true] (w_X10_useOwnRules_2 C (by omega) l0 K 0 h e18 ?_)
  show WW W0 G 2 _ _ _ 35 [none, none] [] v17 n _ _
  obtain rfl := Option.some.inj hr
  exact rr_vret C dX10_useOwnRules_35 rfl ⟨rfl, rfl, rfl⟩
def q_X10_openOwn (K : Nat) (h : mm_H) (n : Nat) (l0 : Nat) (l1 : Int32) (l2 : Int32) (l3 : Int32) : Option (mm_H) :=
  (ckq h n l0 9).bind fun u1 =>
  (q_X10_useOwnRules K h n l0).bind fun v3 =>
  (rdR v3 n l0 9 1).bind fun v5 =>
  v5.bind fun a7 =>
  (ckq v3 n a7 7).bind fun u9 =>
  (q_X7_open K v3 n a7 l1 l2 l3).bind fun v11 =>
  some v11
set_option maxRecDepth 100000 in
set_option maxHeartbeats 4000000 in
theorem c_X10_openOwn {K : Nat} {G : mm_G} {l : Launch} {h : mm_H} {n : Nat} (l0 : Nat) (l1 : Int32) (l2 : Int32) (l3 : Int32) {r_ : mm_H} (hn : 48 ≤ n) (hr : q_X10_openOwn K h n l0 l1 l2 l3 = some r_) : Sp G l yX10_openOwn cX10_openOwn 4 none 6 0 0 [.ref l0, .int l1, .int l2, .int l3] h n (fun v h' n' => v = none ∧ h' = r_ ∧ n' = n) := by
  refine Sp_of (by decide +kernel) (Nat.le_of_ble_eq_true rfl) hn ?_
  intro W0 hwl C
  subst hwl
  unfold q_X10_openOwn at hr
  show WW W0 G 4 0 0 _ 0 [some (.ref l0), some (.int l1), some (.int l2), some (.int l3)] [] h n 0 0
  refine rr_aload_n (i := 0) C dX10_openOwn_0 rfl rfl ?_
  replace hr := Option.bind_eq_some_iff.mp hr
  obtain ⟨u1, e2, hr⟩ := hr
  replace hr := Option.bind_eq_some_iff.mp hr
  obtain ⟨v3, e4, hr⟩ := hr
  refine rr_callVq (as := []) (st := []) (mc' := 0) (ms' := 0) C dX10_openOwn_1 iv_X10_237 (by decide) e2 rfl (Nat.le_of_ble_eq_true rfl) (c_X10_useOwnRules l0 (by omega) e4) (fun v_ h_ n_ q_ => ?_)
  obtain ⟨q1_, q2_, q3_⟩ := q_
  subst v_; subst h_; subst n_
  show WW W0 G 4 _ _ _ 4 [some (.ref l0), some (.int l1), some (.int l2), some (.int l3)] [] v3 n _ _
  refine rr_aload_n (i := 0) C dX10_openOwn_4 rfl rfl ?_
  replace hr := Option.bind_eq_some_iff.mp hr
  obtain ⟨v5, e6, hr⟩ := hr
  refine rr_rdR C dX10_openOwn_5 fl_X10_21 e6 ?_
  refine rr_iload_n (i := 1) C dX10_openOwn_8 rfl rfl ?_
  refine rr_iload_n (i := 2) C dX10_openOwn_9 rfl rfl ?_
  refine rr_iload_n (i := 3) C dX10_openOwn_10 rfl rfl ?_
  replace hr := Option.bind_eq_some_iff.mp hr
  obtain ⟨a7, e8, hr⟩ := hr
  subst e8
  replace hr := Option.bind_eq_some_iff.mp hr
  obtain ⟨u9, e10, hr⟩ := hr
  replace hr := Option.bind_eq_some_iff.mp hr
  obtain ⟨v11, e12, hr⟩ := hr
  refine rr_callVq (as := [.int l1, .int l2, .int l3]) (st := []) (mc' := 0) (ms' := 0) C dX10_openOwn_11 iv_X10_244 (by decide) e10 rfl (Nat.le_of_ble_eq_true rfl) (c_X7_open a7 l1 l2 l3 (by omega) e12) (fun v_ h_ n_ q_ => ?_)
  obtain ⟨q1_, q2_, q3_⟩ := q_
  subst v_; subst h_; subst n_
  show WW W0 G 4 _ _ _ 14 [some (.ref l0), some (.int l1), some (.int l2), some (.int l3)] [] v11 n _ _
  obtain rfl := Option.some.inj hr
  exact rr_vret C dX10_openOwn_14 rfl ⟨rfl, rfl, rfl⟩
def q_X10_holds (K : Nat) (h : mm_H) (n : Nat) (l0 : Nat) (l1 : Int32) (l2 : Int32) (l3 : Int32) (l4 : Int32) : Option (Int32 × mm_H) :=
  (ckq h n l0 9).bind fun u1 =>
  (q_X10_isFirmsYear K h n l0 l1 l2).bind fun v3 =>
  if v3 = 0 then
    some ((-1), h)
  else
  (q_X10_isWithin K h n l3 0 8).bind fun v5 =>
  if v5 = 0 then
    some ((-1), h)
  else
  (q_X10_isOfKind K h n l3 l4).bind fun v7 =>
  if v7 = 0 then
    some ((-1), h)
  else
  (rdR h n l0 9 0).bind fun v9 =>
  v9.bind fun a11 =>
  (rdI h n a11 4 6).bind fun v13 =>
  (ckq h n l0 9).bind fun u15 =>
  (q_X10_openOwn K h n l0 l1 l2 v13).bind fun v17 =>
  (rdR v17 n l0 9 1).bind fun v19 =>
  (q_X5_slotOf K v17 n l3 l4).bind fun v21 =>
  v19.bind fun a23 =>
  (ckq v17 n a23 7).bind fun u25 =>
  (q_X7_standsAt K v17 n a23 l2 v21).bind fun v27 =>
  some (v27, v17)
set_option maxRecDepth 100000 in
set_option maxHeartbeats 4000000 in
theorem c_X10_holds {K : Nat} {G : mm_G} {l : Launch} {h : mm_H} {n : Nat} (l0 : Nat) (l1 : Int32) (l2 : Int32) (l3 : Int32) (l4 : Int32) {r_ : Int32 × mm_H} (hn : 48 ≤ n) (hr : q_X10_holds K h n l0 l1 l2 l3 l4 = some r_) : Sp G l yX10_holds cX10_holds 5 (some .int) 7 0 0 [.ref l0, .int l1, .int l2, .int l3, .int l4] h n (fun v h' n' => v = some (.int r_.1) ∧ h' = r_.2 ∧ n' = n) := by
  refine Sp_of (by decide +kernel) (Nat.le_of_ble_eq_true rfl) hn ?_
  intro W0 hwl C
  subst hwl
  unfold q_X10_holds at hr
  show WW W0 G 5 0 0 _ 0 [some (.ref l0), some (.int l1), some (.int l2), some (.int l3), some (.int l4)] [] h n 0 0
  refine rr_aload_n (i := 0) C dX10_holds_0 rfl rfl ?_
  refine rr_iload_n (i := 1) C dX10_holds_1 rfl rfl ?_
  refine rr_iload_n (i := 2) C dX10_holds_2 rfl rfl ?_
  replace hr := Option.bind_eq_some_iff.mp hr
  obtain ⟨u1, e2, hr⟩ := hr
  replace hr := Option.bind_eq_some_iff.mp hr
  obtain ⟨v3, e4, hr⟩ := hr
  refine rr_callVq (as := [.int l1, .int l2]) (st := []) (mc' := 0) (ms' := 0) C dX10_holds_3 iv_X10_68 (by decide) e2 rfl (Nat.le_of_ble_eq_true rfl) (c_X10_isFirmsYear l0 l1 l2 (by omega) e4) (fun v_ h_ n_ q_ => ?_)
  obtain ⟨q1_, q2_, q3_⟩ := q_
  subst v_; subst h_; subst n_
  show WW W0 G 5 _ _ _ 6 [some (.ref l0), some (.int l1), some (.int l2), some (.int l3), some (.int l4)] [.int v3] h n _ _
  refine rr_if_eq (tgt := 28) C dX10_holds_6 (by decide) (fun c6_ => ?_) (fun c6_ => ?_)
  · replace hr := (if_pos c6_).symm.trans hr
    refine rr_iconst (v := (-1)) C dX10_holds_28 (by decide) ?_
    obtain rfl := Option.some.inj hr
    exact rr_iret (ty := .int) C dX10_holds_29 rfl rfl ⟨rfl, rfl, rfl⟩
  · replace hr := (if_neg c6_).symm.trans hr
    refine rr_iload_n (i := 3) C dX10_holds_9 rfl rfl ?_
    refine rr_iconst (v := 0) C dX10_holds_10 (by decide) ?_
    refine rr_bipush (v := 8) C dX10_holds_11 (by decide) ?_
    replace hr := Option.bind_eq_some_iff.mp hr
    obtain ⟨v5, e6, hr⟩ := hr
    refine rr_callS (as := [.int l3, .int 0, .int 8]) (st := []) (mc' := 0) (ms' := 0) C dX10_holds_13 it_X10_60 (by decide) (Nat.le_of_ble_eq_true rfl) (c_X10_isWithin l3 0 8 (by omega) e6) (fun v_ h_ n_ q_ => ?_)
    obtain ⟨q1_, q2_, q3_⟩ := q_
    subst v_; subst h_; subst n_
    show WW W0 G 5 _ _ _ 16 [some (.ref l0), some (.int l1), some (.int l2), some (.int l3), some (.int l4)] [.int v5] h n _ _
    refine rr_if_eq (tgt := 28) C dX10_holds_16 (by decide) (fun c16_ => ?_) (fun c16_ => ?_)
    · replace hr := (if_pos c16_).symm.trans hr
      refine rr_iconst (v := (-1)) C dX10_holds_28 (by decide) ?_
      obtain rfl := Option.some.inj hr
      exact rr_iret (ty := .int) C dX10_holds_29 rfl rfl ⟨rfl, rfl, rfl⟩
    · replace hr := (if_neg c16_).symm.trans hr
      refine rr_iload_n (i := 3) C dX10_holds_19 rfl rfl ?_
      refine rr_iload C dX10_holds_20 rfl ?_
      replace hr := Option.bind_eq_some_iff.mp hr
      obtain ⟨v7, e8, hr⟩ := hr
      refine rr_callS (as := [.int l3, .int l4]) (st := []) (mc' := 0) (ms' := 0) C dX10_holds_22 it_X10_167 (by decide) (Nat.le_of_ble_eq_true rfl) (c_X10_isOfKind l3 l4 (by omega) e8) (fun v_ h_ n_ q_ => ?_)
      obtain ⟨q1_, q2_, q3_⟩ := q_
      subst v_; subst h_; subst n_
      show WW W0 G 5 _ _ _ 25 [some (.ref l0), some (.int l1), some (.int l2), some (.int l3), some (.int l4)] [.int v7] h n _ _
      refine rr_if_ne (tgt := 30) C dX10_holds_25 (by decide) (fun c25_ => ?_) (fun c25_ => ?_)
      · replace hr := (if_neg c25_).symm.trans hr
        refine rr_aload_n (i := 0) C dX10_holds_30 rfl rfl ?_
        refine rr_iload_n (i := 1) C dX10_holds_31 rfl rfl ?_
        refine rr_iload_n (i := 2) C dX10_holds_32 rfl rfl ?_
        refine rr_aload_n (i := 0) C dX10_holds_33 rfl rfl ?_
        replace hr := Option.bind_eq_some_iff.mp hr
        obtain ⟨v9, e10, hr⟩ := hr
        refine rr_rdR C dX10_holds_34 fl_X10_12 e10 ?_
        replace hr := Option.bind_eq_some_iff.mp hr
        obtain ⟨a11, e12, hr⟩ := hr
        subst e12
        replace hr := Option.bind_eq_some_iff.mp hr
        obtain ⟨v13, e14, hr⟩ := hr
        refine rr_rdI C dX10_holds_37 fl_X10_55 e14 ?_
        replace hr := Option.bind_eq_some_iff.mp hr
        obtain ⟨u15, e16, hr⟩ := hr
        replace hr := Option.bind_eq_some_iff.mp hr
        obtain ⟨v17, e18, hr⟩ := hr
        refine rr_callVq (as := [.int l1, .int l2, .int v13]) (st := []) (mc' := 0) (ms' := 0) C dX10_holds_40 iv_X10_170 (by decide) e16 rfl (Nat.le_of_ble_eq_true rfl) (c_X10_openOwn l0 l1 l2 v13 (by omega) e18) (fun v_ h_ n_ q_ => ?_)
        obtain ⟨q1_, q2_, q3_⟩ := q_
        subst v_; subst h_; subst n_
        show WW W0 G 5 _ _ _ 43 [some (.ref l0), some (.int l1), some (.int l2), some (.int l3), some (.int l4)] [] v17 n _ _
        refine rr_aload_n (i := 0) C dX10_holds_43 rfl rfl ?_
        replace hr := Option.bind_eq_some_iff.mp hr
        obtain ⟨v19, e20, hr⟩ := hr
        refine rr_rdR C dX10_holds_44 fl_X10_21 e20 ?_
        refine rr_iload_n (i := 2) C dX10_holds_47 rfl rfl ?_
        refine rr_iload_n (i := 3) C dX10_holds_48 rfl rfl ?_
        refine rr_iload C dX10_holds_49 rfl ?_
        replace hr := Option.bind_eq_some_iff.mp hr
        obtain ⟨v21, e22, hr⟩ := hr
        refine rr_callS (as := [.int l3, .int l4]) (st := [.int l2, va_rf v19]) (mc' := 0) (ms' := 0) C dX10_holds_51 it_X10_174 (by decide) (by rcases v19 with _ | _ <;> exact Nat.le_of_ble_eq_true rfl) (c_X5_slotOf l3 l4 (by omega) e22) (fun v_ h_ n_ q_ => ?_)
        obtain ⟨q1_, q2_, q3_⟩ := q_
        subst v_; subst h_; subst n_
        show WW W0 G 5 _ _ _ 54 [some (.ref l0), some (.int l1), some (.int l2), some (.int l3), some (.int l4)] [.int v21, .int l2, va_rf v19] v17 n _ _
        replace hr := Option.bind_eq_some_iff.mp hr
        obtain ⟨a23, e24, hr⟩ := hr
        subst e24
        replace hr := Option.bind_eq_some_iff.mp hr
        obtain ⟨u25, e26, hr⟩ := hr
        replace hr := Option.bind_eq_some_iff.mp hr
        obtain ⟨v27, e28, hr⟩ := hr
        refine rr_callVq (as := [.int l2, .int v21]) (st := []) (mc' := 0) (ms' := 0) C dX10_holds_54 iv_X10_179 (by decide) e26 rfl (Nat.le_of_ble_eq_true rfl) (c_X7_standsAt a23 l2 v21 (by omega) e28) (fun v_ h_ n_ q_ => ?_)
        obtain ⟨q1_, q2_, q3_⟩ := q_
        subst v_; subst h_; subst n_
        show WW W0 G 5 _ _ _ 57 [some (.ref l0), some (.int l1), some (.int l2), some (.int l3), some (.int l4)] [.int v27] v17 n _ _
        obtain rfl := Option.some.inj hr
        exact rr_iret (ty := .int) C dX10_holds_57 rfl rfl ⟨rfl, rfl, rfl⟩
      · replace hr := (if_pos c25_).symm.trans hr
        refine rr_iconst (v := (-1)) C dX10_holds_28 (by decide) ?_
        obtain rfl := Option.some.inj hr
        exact rr_iret (ty := .int) C dX10_holds_29 rfl rfl ⟨rfl, rfl, rfl⟩
def q_X10_allowed (K : Nat) (h : mm_H) (n : Nat) (l0 : Nat) (l1 : Int32) (l2 : Int32) (l3 : Int32) (l4 : Int32) : Option (Int32 × mm_H) :=
  (ckq h n l0 9).bind fun u1 =>
  (q_X10_isFirmsYear K h n l0 l1 l3).bind fun v3 =>
  if v3 = 0 then
    some ((-2000000000), h)
  else
  (q_X10_isHead K h n l2).bind fun v5 =>
  if v5 = 0 then
    some ((-2000000000), h)
  else
  (q_X10_isDay K h n l4).bind fun v7 =>
  if v7 = 0 then
    some ((-2000000000), h)
  else
  (ckq h n l0 9).bind fun u9 =>
  (q_X10_openOwn K h n l0 l1 l3 l4).bind fun v11 =>
  (rdR v11 n l0 9 1).bind fun v13 =>
  v13.bind fun a15 =>
  (ckq v11 n a15 7).bind fun u17 =>
  (q_X7_allowedFor K v11 n a15 l3 l2).bind fun v19 =>
  some (Int64.toInt32 v19.1, v19.2)
set_option maxRecDepth 100000 in
set_option maxHeartbeats 4000000 in
theorem c_X10_allowed {K : Nat} {G : mm_G} {l : Launch} {h : mm_H} {n : Nat} (l0 : Nat) (l1 : Int32) (l2 : Int32) (l3 : Int32) (l4 : Int32) {r_ : Int32 × mm_H} (hn : 48 ≤ n) (hr : q_X10_allowed K h n l0 l1 l2 l3 l4 = some r_) : Sp G l yX10_allowed cX10_allowed 5 (some .int) 7 0 0 [.ref l0, .int l1, .int l2, .int l3, .int l4] h n (fun v h' n' => v = some (.int r_.1) ∧ h' = r_.2 ∧ n' = n) := by
  refine Sp_of (by decide +kernel) (Nat.le_of_ble_eq_true rfl) hn ?_
  intro W0 hwl C
  subst hwl
  unfold q_X10_allowed at hr
  show WW W0 G 5 0 0 _ 0 [some (.ref l0), some (.int l1), some (.int l2), some (.int l3), some (.int l4)] [] h n 0 0
  refine rr_aload_n (i := 0) C dX10_allowed_0 rfl rfl ?_
  refine rr_iload_n (i := 1) C dX10_allowed_1 rfl rfl ?_
  refine rr_iload_n (i := 3) C dX10_allowed_2 rfl rfl ?_
  replace hr := Option.bind_eq_some_iff.mp hr
  obtain ⟨u1, e2, hr⟩ := hr
  replace hr := Option.bind_eq_some_iff.mp hr
  obtain ⟨v3, e4, hr⟩ := hr
  refine rr_callVq (as := [.int l1, .int l3]) (st := []) (mc' := 0) (ms' := 0) C dX10_allowed_3 iv_X10_68 (by decide) e2 rfl (Nat.le_of_ble_eq_true rfl) (c_X10_isFirmsYear l0 l1 l3 (by omega) e4) (fun v_ h_ n_ q_ => ?_)
  obtain ⟨q1_, q2_, q3_⟩ := q_
  subst v_; subst h_; subst n_
  show WW W0 G 5 _ _ _ 6 [some (.ref l0), some (.int l1), some (.int l2), some (.int l3), some (.int l4)] [.int v3] h n _ _
  refine rr_if_eq (tgt := 24) C dX10_allowed_6 (by decide) (fun c6_ => ?_) (fun c6_ => ?_)
  · replace hr := (if_pos c6_).symm.trans hr
    refine rr_ldc C dX10_allowed_24 ct_X10_182 ?_
    obtain rfl := Option.some.inj hr
    exact rr_iret (ty := .int) C dX10_allowed_26 rfl rfl ⟨rfl, rfl, rfl⟩
  · replace hr := (if_neg c6_).symm.trans hr
    refine rr_iload_n (i := 2) C dX10_allowed_9 rfl rfl ?_
    replace hr := Option.bind_eq_some_iff.mp hr
    obtain ⟨v5, e6, hr⟩ := hr
    refine rr_callS (as := [.int l2]) (st := []) (mc' := 0) (ms' := 0) C dX10_allowed_10 it_X10_106 (by decide) (Nat.le_of_ble_eq_true rfl) (c_X10_isHead l2 (by omega) e6) (fun v_ h_ n_ q_ => ?_)
    obtain ⟨q1_, q2_, q3_⟩ := q_
    subst v_; subst h_; subst n_
    show WW W0 G 5 _ _ _ 13 [some (.ref l0), some (.int l1), some (.int l2), some (.int l3), some (.int l4)] [.int v5] h n _ _
    refine rr_if_eq (tgt := 24) C dX10_allowed_13 (by decide) (fun c13_ => ?_) (fun c13_ => ?_)
    · replace hr := (if_pos c13_).symm.trans hr
      refine rr_ldc C dX10_allowed_24 ct_X10_182 ?_
      obtain rfl := Option.some.inj hr
      exact rr_iret (ty := .int) C dX10_allowed_26 rfl rfl ⟨rfl, rfl, rfl⟩
    · replace hr := (if_neg c13_).symm.trans hr
      refine rr_iload C dX10_allowed_16 rfl ?_
      replace hr := Option.bind_eq_some_iff.mp hr
      obtain ⟨v7, e8, hr⟩ := hr
      refine rr_callS (as := [.int l4]) (st := []) (mc' := 0) (ms' := 0) C dX10_allowed_18 it_X10_85 (by decide) (Nat.le_of_ble_eq_true rfl) (c_X10_isDay l4 (by omega) e8) (fun v_ h_ n_ q_ => ?_)
      obtain ⟨q1_, q2_, q3_⟩ := q_
      subst v_; subst h_; subst n_
      show WW W0 G 5 _ _ _ 21 [some (.ref l0), some (.int l1), some (.int l2), some (.int l3), some (.int l4)] [.int v7] h n _ _
      refine rr_if_ne (tgt := 27) C dX10_allowed_21 (by decide) (fun c21_ => ?_) (fun c21_ => ?_)
      · replace hr := (if_neg c21_).symm.trans hr
        refine rr_aload_n (i := 0) C dX10_allowed_27 rfl rfl ?_
        refine rr_iload_n (i := 1) C dX10_allowed_28 rfl rfl ?_
        refine rr_iload_n (i := 3) C dX10_allowed_29 rfl rfl ?_
        refine rr_iload C dX10_allowed_30 rfl ?_
        replace hr := Option.bind_eq_some_iff.mp hr
        obtain ⟨u9, e10, hr⟩ := hr
        replace hr := Option.bind_eq_some_iff.mp hr
        obtain ⟨v11, e12, hr⟩ := hr
        refine rr_callVq (as := [.int l1, .int l3, .int l4]) (st := []) (mc' := 0) (ms' := 0) C dX10_allowed_32 iv_X10_170 (by decide) e10 rfl (Nat.le_of_ble_eq_true rfl) (c_X10_openOwn l0 l1 l3 l4 (by omega) e12) (fun v_ h_ n_ q_ => ?_)
        obtain ⟨q1_, q2_, q3_⟩ := q_
        subst v_; subst h_; subst n_
        show WW W0 G 5 _ _ _ 35 [some (.ref l0), some (.int l1), some (.int l2), some (.int l3), some (.int l4)] [] v11 n _ _
        refine rr_aload_n (i := 0) C dX10_allowed_35 rfl rfl ?_
        replace hr := Option.bind_eq_some_iff.mp hr
        obtain ⟨v13, e14, hr⟩ := hr
        refine rr_rdR C dX10_allowed_36 fl_X10_21 e14 ?_
        refine rr_iload_n (i := 3) C dX10_allowed_39 rfl rfl ?_
        refine rr_iload_n (i := 2) C dX10_allowed_40 rfl rfl ?_
        replace hr := Option.bind_eq_some_iff.mp hr
        obtain ⟨a15, e16, hr⟩ := hr
        subst e16
        replace hr := Option.bind_eq_some_iff.mp hr
        obtain ⟨u17, e18, hr⟩ := hr
        replace hr := Option.bind_eq_some_iff.mp hr
        obtain ⟨v19, e20, hr⟩ := hr
        refine rr_callVq (as := [.int l3, .int l2]) (st := []) (mc' := 0) (ms' := 0) C dX10_allowed_41 iv_X10_183 (by decide) e18 rfl (Nat.le_of_ble_eq_true rfl) (c_X7_allowedFor a15 l3 l2 (by omega) e20) (fun v_ h_ n_ q_ => ?_)
        obtain ⟨q1_, q2_, q3_⟩ := q_
        subst v_; subst h_; subst n_
        show WW W0 G 5 _ _ _ 44 [some (.ref l0), some (.int l1), some (.int l2), some (.int l3), some (.int l4)] [.long v19.1] v19.2 n _ _
        refine rr_l2i C dX10_allowed_44 ?_
        obtain rfl := Option.some.inj hr
        exact rr_iret (ty := .int) C dX10_allowed_45 rfl rfl ⟨rfl, rfl, rfl⟩
      · replace hr := (if_pos c21_).symm.trans hr
        refine rr_ldc C dX10_allowed_24 ct_X10_182 ?_
        obtain rfl := Option.some.inj hr
        exact rr_iret (ty := .int) C dX10_allowed_26 rfl rfl ⟨rfl, rfl, rfl⟩
def q_X10_isDriver (K : Nat) (h : mm_H) (n : Nat) (l0 : Int32) : Option (Int32) :=
  (q_X10_isWithin K h n l0 0 2).bind fun v1 =>
  (ckz v1).bind fun u3 =>
  some v1
set_option maxRecDepth 100000 in
set_option maxHeartbeats 4000000 in
theorem c_X10_isDriver {K : Nat} {G : mm_G} {l : Launch} {h : mm_H} {n : Nat} (l0 : Int32) {r_ : Int32} (hn : 48 ≤ n) (hr : q_X10_isDriver K h n l0 = some r_) : Sp G l yX10_isDriver cX10_isDriver 1 (some .boolean) 1 0 0 [.int l0] h n (fun v h' n' => v = some (.int r_) ∧ h' = h ∧ n' = n) := by
  refine Sp_of (by decide +kernel) (Nat.le_of_ble_eq_true rfl) hn ?_
  intro W0 hwl C
  subst hwl
  unfold q_X10_isDriver at hr
  show WW W0 G 1 0 0 _ 0 [some (.int l0)] [] h n 0 0
  refine rr_iload_n (i := 0) C dX10_isDriver_0 rfl rfl ?_
  refine rr_iconst (v := 0) C dX10_isDriver_1 (by decide) ?_
  refine rr_iconst (v := 2) C dX10_isDriver_2 (by decide) ?_
  replace hr := Option.bind_eq_some_iff.mp hr
  obtain ⟨v1, e2, hr⟩ := hr
  refine rr_callS (as := [.int l0, .int 0, .int 2]) (st := []) (mc' := 0) (ms' := 0) C dX10_isDriver_3 it_X10_60 (by decide) (Nat.le_of_ble_eq_true rfl) (c_X10_isWithin l0 0 2 (by omega) e2) (fun v_ h_ n_ q_ => ?_)
  obtain ⟨q1_, q2_, q3_⟩ := q_
  subst v_; subst h_; subst n_
  show WW W0 G 1 _ _ _ 6 [some (.int l0)] [.int v1] h n _ _
  replace hr := Option.bind_eq_some_iff.mp hr
  obtain ⟨u3, e4, hr⟩ := hr
  obtain rfl := Option.some.inj hr
  exact rr_iret (ty := .boolean) C dX10_isDriver_6 rfl (ckz_s e4) ⟨rfl, rfl, rfl⟩
def q_X10_points (K : Nat) (h : mm_H) (n : Nat) (l0 : Nat) (l1 : Int32) (l2 : Int32) (l3 : Int32) (l4 : Int32) (l5 : Int32) : Option (Int32 × mm_H) :=
  (ckq h n l0 9).bind fun u1 =>
  (q_X10_isFirm K h n l0 l1).bind fun v3 =>
  if v3 = 0 then
    some ((-1), h)
  else
  (q_X10_isHead K h n l2).bind fun v5 =>
  if v5 = 0 then
    some ((-1), h)
  else
  (q_X10_isReview K h n l3).bind fun v7 =>
  if v7 = 0 then
    some ((-1), h)
  else
  (q_X10_isDriver K h n l4).bind fun v9 =>
  if v9 = 0 then
    some ((-1), h)
  else
  (rdR h n l0 9 2).bind fun v11 =>
  v11.bind fun a13 =>
  (ckq h n a13 2).bind fun u15 =>
  (q_X2_gather K h n a13 l1 l2 l3 l4).bind fun v17 =>
  if l5 = 0 then
    (rdR v17 n l0 9 2).bind fun v19 =>
    v19.bind fun a21 =>
    (rdI v17 n a21 2 4).bind fun v23 =>
    some (v23, v17)
  else
  if l5 = 1 then
    (rdR v17 n l0 9 2).bind fun v25 =>
    v25.bind fun a27 =>
    (rdJ v17 n a27 2 6).bind fun v29 =>
    some (Int64.toInt32 v29, v17)
  else
  if l5 = 2 then
    (rdR v17 n l0 9 2).bind fun v31 =>
    v31.bind fun a33 =>
    (rdJ v17 n a33 2 7).bind fun v35 =>
    some (Int64.toInt32 v35, v17)
  else
  some ((-1), v17)
set_option maxRecDepth 100000 in
set_option maxHeartbeats 4000000 in
theorem c_X10_points {K : Nat} {G : mm_G} {l : Launch} {h : mm_H} {n : Nat} (l0 : Nat) (l1 : Int32) (l2 : Int32) (l3 : Int32) (l4 : Int32) (l5 : Int32) {r_ : Int32 × mm_H} (hn : 48 ≤ n) (hr : q_X10_points K h n l0 l1 l2 l3 l4 l5 = some r_) : Sp G l yX10_points cX10_points 6 (some .int) 3 0 0 [.ref l0, .int l1, .int l2, .int l3, .int l4, .int l5] h n (fun v h' n' => v = some (.int r_.1) ∧ h' = r_.2 ∧ n' = n) := by
  refine Sp_of (by decide +kernel) (Nat.le_of_ble_eq_true rfl) hn ?_
  intro W0 hwl C
  subst hwl
  unfold q_X10_points at hr
  show WW W0 G 6 0 0 _ 0 [some (.ref l0), some (.int l1), some (.int l2), some (.int l3), some (.int l4), some (.int l5)] [] h n 0 0
  refine rr_aload_n (i := 0) C dX10_points_0 rfl rfl ?_
  refine rr_iload_n (i := 1) C dX10_points_1 rfl rfl ?_
  replace hr := Option.bind_eq_some_iff.mp hr
  obtain ⟨u1, e2, hr⟩ := hr
  replace hr := Option.bind_eq_some_iff.mp hr
  obtain ⟨v3, e4, hr⟩ := hr
  refine rr_callVq (as := [.int l1]) (st := []) (mc' := 0) (ms' := 0) C dX10_points_2 iv_X10_187 (by decide) e2 rfl (Nat.le_of_ble_eq_true rfl) (c_X10_isFirm l0 l1 (by omega) e4) (fun v_ h_ n_ q_ => ?_)
  obtain ⟨q1_, q2_, q3_⟩ := q_
  subst v_; subst h_; subst n_
  show WW W0 G 6 _ _ _ 5 [some (.ref l0), some (.int l1), some (.int l2), some (.int l3), some (.int l4), some (.int l5)] [.int v3] h n _ _
  refine rr_if_eq (tgt := 30) C dX10_points_5 (by decide) (fun c5_ => ?_) (fun c5_ => ?_)
  · replace hr := (if_pos c5_).symm.trans hr
    refine rr_iconst (v := (-1)) C dX10_points_30 (by decide) ?_
    obtain rfl := Option.some.inj hr
    exact rr_iret (ty := .int) C dX10_points_31 rfl rfl ⟨rfl, rfl, rfl⟩
  · replace hr := (if_neg c5_).symm.trans hr
    refine rr_iload_n (i := 2) C dX10_points_8 rfl rfl ?_
    replace hr := Option.bind_eq_some_iff.mp hr
    obtain ⟨v5, e6, hr⟩ := hr
    refine rr_callS (as := [.int l2]) (st := []) (mc' := 0) (ms' := 0) C dX10_points_9 it_X10_106 (by decide) (Nat.le_of_ble_eq_true rfl) (c_X10_isHead l2 (by omega) e6) (fun v_ h_ n_ q_ => ?_)
    obtain ⟨q1_, q2_, q3_⟩ := q_
    subst v_; subst h_; subst n_
    show WW W0 G 6 _ _ _ 12 [some (.ref l0), some (.int l1), some (.int l2), some (.int l3), some (.int l4), some (.int l5)] [.int v5] h n _ _
    refine rr_if_eq (tgt := 30) C dX10_points_12 (by decide) (fun c12_ => ?_) (fun c12_ => ?_)
    · replace hr := (if_pos c12_).symm.trans hr
      refine rr_iconst (v := (-1)) C dX10_points_30 (by decide) ?_
      obtain rfl := Option.some.inj hr
      exact rr_iret (ty := .int) C dX10_points_31 rfl rfl ⟨rfl, rfl, rfl⟩
    · replace hr := (if_neg c12_).symm.trans hr
      refine rr_iload_n (i := 3) C dX10_points_15 rfl rfl ?_
      replace hr := Option.bind_eq_some_iff.mp hr
      obtain ⟨v7, e8, hr⟩ := hr
      refine rr_callS (as := [.int l3]) (st := []) (mc' := 0) (ms' := 0) C dX10_points_16 it_X10_126 (by decide) (Nat.le_of_ble_eq_true rfl) (c_X10_isReview l3 (by omega) e8) (fun v_ h_ n_ q_ => ?_)
      obtain ⟨q1_, q2_, q3_⟩ := q_
      subst v_; subst h_; subst n_
      show WW W0 G 6 _ _ _ 19 [some (.ref l0), some (.int l1), some (.int l2), some (.int l3), some (.int l4), some (.int l5)] [.int v7] h n _ _
      refine rr_if_eq (tgt := 30) C dX10_points_19 (by decide) (fun c19_ => ?_) (fun c19_ => ?_)
      · replace hr := (if_pos c19_).symm.trans hr
        refine rr_iconst (v := (-1)) C dX10_points_30 (by decide) ?_
        obtain rfl := Option.some.inj hr
        exact rr_iret (ty := .int) C dX10_points_31 rfl rfl ⟨rfl, rfl, rfl⟩
      · replace hr := (if_neg c19_).symm.trans hr
        refine rr_iload C dX10_points_22 rfl ?_
        replace hr := Option.bind_eq_some_iff.mp hr
        obtain ⟨v9, e10, hr⟩ := hr
        refine rr_callS (as := [.int l4]) (st := []) (mc' := 0) (ms' := 0) C dX10_points_24 it_X10_190 (by decide) (Nat.le_of_ble_eq_true rfl) (c_X10_isDriver l4 (by omega) e10) (fun v_ h_ n_ q_ => ?_)
        obtain ⟨q1_, q2_, q3_⟩ := q_
        subst v_; subst h_; subst n_
        show WW W0 G 6 _ _ _ 27 [some (.ref l0), some (.int l1), some (.int l2), some (.int l3), some (.int l4), some (.int l5)] [.int v9] h n _ _
        refine rr_if_ne (tgt := 32) C dX10_points_27 (by decide) (fun c27_ => ?_) (fun c27_ => ?_)
        · replace hr := (if_neg c27_).symm.trans hr
          refine rr_aload_n (i := 0) C dX10_points_32 rfl rfl ?_
          replace hr := Option.bind_eq_some_iff.mp hr
          obtain ⟨v11, e12, hr⟩ := hr
          refine rr_rdR C dX10_points_33 fl_X10_28 e12 ?_
          refine rr_iload_n (i := 1) C dX10_points_36 rfl rfl ?_
          refine rr_iload_n (i := 2) C dX10_points_37 rfl rfl ?_
          refine rr_iload_n (i := 3) C dX10_points_38 rfl rfl ?_
          refine rr_iload C dX10_points_39 rfl ?_
          replace hr := Option.bind_eq_some_iff.mp hr
          obtain ⟨a13, e14, hr⟩ := hr
          subst e14
          replace hr := Option.bind_eq_some_iff.mp hr
          obtain ⟨u15, e16, hr⟩ := hr
          replace hr := Option.bind_eq_some_iff.mp hr
          obtain ⟨v17, e18, hr⟩ := hr
          refine rr_callVq (as := [.int l1, .int l2, .int l3, .int l4]) (st := []) (mc' := 0) (ms' := 0) C dX10_points_41 iv_X10_193 (by decide) e16 rfl (Nat.le_of_ble_eq_true rfl) (c_X2_gather a13 l1 l2 l3 l4 (by omega) e18) (fun v_ h_ n_ q_ => ?_)
          obtain ⟨q1_, q2_, q3_⟩ := q_
          subst v_; subst h_; subst n_
          show WW W0 G 6 _ _ _ 44 [some (.ref l0), some (.int l1), some (.int l2), some (.int l3), some (.int l4), some (.int l5)] [] v17 n _ _
          refine rr_iload C dX10_points_44 rfl ?_
          by_cases s46_0 : l5 = 0
          · replace hr := (if_pos s46_0).symm.trans hr
            refine rr_tabIn (off := 26) (tgt := 72) C dX10_points_46 (by rw [s46_0]; decide) (by rw [s46_0]; decide) (by rw [s46_0]; rfl) (by decide) ?_
            refine rr_aload_n (i := 0) C dX10_points_72 rfl rfl ?_
            replace hr := Option.bind_eq_some_iff.mp hr
            obtain ⟨v19, e20, hr⟩ := hr
            refine rr_rdR C dX10_points_73 fl_X10_28 e20 ?_
            replace hr := Option.bind_eq_some_iff.mp hr
            obtain ⟨a21, e22, hr⟩ := hr
            subst e22
            replace hr := Option.bind_eq_some_iff.mp hr
            obtain ⟨v23, e24, hr⟩ := hr
            refine rr_rdI C dX10_points_76 fl_X10_197 e24 ?_
            obtain rfl := Option.some.inj hr
            exact rr_iret (ty := .int) C dX10_points_79 rfl rfl ⟨rfl, rfl, rfl⟩
          replace hr := (if_neg s46_0).symm.trans hr
          by_cases s46_1 : l5 = 1
          · replace hr := (if_pos s46_1).symm.trans hr
            refine rr_tabIn (off := 34) (tgt := 80) C dX10_points_46 (by rw [s46_1]; decide) (by rw [s46_1]; decide) (by rw [s46_1]; rfl) (by decide) ?_
            refine rr_aload_n (i := 0) C dX10_points_80 rfl rfl ?_
            replace hr := Option.bind_eq_some_iff.mp hr
            obtain ⟨v25, e26, hr⟩ := hr
            refine rr_rdR C dX10_points_81 fl_X10_28 e26 ?_
            replace hr := Option.bind_eq_some_iff.mp hr
            obtain ⟨a27, e28, hr⟩ := hr
            subst e28
            replace hr := Option.bind_eq_some_iff.mp hr
            obtain ⟨v29, e30, hr⟩ := hr
            refine rr_rdJ C dX10_points_84 fl_X10_198 e30 ?_
            refine rr_l2i C dX10_points_87 ?_
            obtain rfl := Option.some.inj hr
            exact rr_iret (ty := .int) C dX10_points_88 rfl rfl ⟨rfl, rfl, rfl⟩
          replace hr := (if_neg s46_1).symm.trans hr
          by_cases s46_2 : l5 = 2
          · replace hr := (if_pos s46_2).symm.trans hr
            refine rr_tabIn (off := 43) (tgt := 89) C dX10_points_46 (by rw [s46_2]; decide) (by rw [s46_2]; decide) (by rw [s46_2]; rfl) (by decide) ?_
            refine rr_aload_n (i := 0) C dX10_points_89 rfl rfl ?_
            replace hr := Option.bind_eq_some_iff.mp hr
            obtain ⟨v31, e32, hr⟩ := hr
            refine rr_rdR C dX10_points_90 fl_X10_28 e32 ?_
            replace hr := Option.bind_eq_some_iff.mp hr
            obtain ⟨a33, e34, hr⟩ := hr
            subst e34
            replace hr := Option.bind_eq_some_iff.mp hr
            obtain ⟨v35, e36, hr⟩ := hr
            refine rr_rdJ C dX10_points_93 fl_X10_202 e36 ?_
            refine rr_l2i C dX10_points_96 ?_
            obtain rfl := Option.some.inj hr
            exact rr_iret (ty := .int) C dX10_points_97 rfl rfl ⟨rfl, rfl, rfl⟩
          replace hr := (if_neg s46_2).symm.trans hr
          refine rr_tabOut (tgt := 98) C dX10_points_46 (by have t0 : ¬ Int32.toInt l5 = 0 := (fun q => s46_0 (Int32.toInt_inj.mp (show Int32.toInt l5 = (0 : Int32).toInt from q))); have t1 : ¬ Int32.toInt l5 = 1 := (fun q => s46_1 (Int32.toInt_inj.mp (show Int32.toInt l5 = (1 : Int32).toInt from q))); have t2 : ¬ Int32.toInt l5 = 2 := (fun q => s46_2 (Int32.toInt_inj.mp (show Int32.toInt l5 = (2 : Int32).toInt from q))); omega) (by decide) ?_
          refine rr_iconst (v := (-1)) C dX10_points_98 (by decide) ?_
          obtain rfl := Option.some.inj hr
          exact rr_iret (ty := .int) C dX10_points_99 rfl rfl ⟨rfl, rfl, rfl⟩
        · replace hr := (if_pos c27_).symm.trans hr
          refine rr_iconst (v := (-1)) C dX10_points_30 (by decide) ?_
          obtain rfl := Option.some.inj hr
          exact rr_iret (ty := .int) C dX10_points_31 rfl rfl ⟨rfl, rfl, rfl⟩
def q_X10_worth (K : Nat) (h : mm_H) (n : Nat) (l0 : Nat) (l1 : Int32) (l2 : Int32) : Option (Int64 × mm_H) :=
  (ckq h n l0 9).bind fun u1 =>
  (q_X10_isFirmsYear K h n l0 l1 l2).bind fun v3 =>
  if v3 = 0 then
    some ((-2000000000000), h)
  else
  (rdR h n l0 9 0).bind fun v5 =>
  v5.bind fun a7 =>
  (rdI h n a7 4 6).bind fun v9 =>
  (ckq h n l0 9).bind fun u11 =>
  (q_X10_openOwn K h n l0 l1 l2 v9).bind fun v13 =>
  (rdR v13 n l0 9 1).bind fun v15 =>
  v15.bind fun a17 =>
  (ckq v13 n a17 7).bind fun u19 =>
  (q_X7_worthAt K v13 n a17 l2).bind fun v21 =>
  some (v21, v13)
set_option maxRecDepth 100000 in
set_option maxHeartbeats 4000000 in
theorem c_X10_worth {K : Nat} {G : mm_G} {l : Launch} {h : mm_H} {n : Nat} (l0 : Nat) (l1 : Int32) (l2 : Int32) {r_ : Int64 × mm_H} (hn : 48 ≤ n) (hr : q_X10_worth K h n l0 l1 l2 = some r_) : Sp G l yX10_worth cX10_worth 3 (some .long) 7 0 0 [.ref l0, .int l1, .int l2] h n (fun v h' n' => v = some (.long r_.1) ∧ h' = r_.2 ∧ n' = n) := by
  refine Sp_of (by decide +kernel) (Nat.le_of_ble_eq_true rfl) hn ?_
  intro W0 hwl C
  subst hwl
  unfold q_X10_worth at hr
  show WW W0 G 3 0 0 _ 0 [some (.ref l0), some (.int l1), some (.int l2)] [] h n 0 0
  refine rr_aload_n (i := 0) C dX10_worth_0 rfl rfl ?_
  refine rr_iload_n (i := 1) C dX10_worth_1 rfl rfl ?_
  refine rr_iload_n (i := 2) C dX10_worth_2 rfl rfl ?_
  replace hr := Option.bind_eq_some_iff.mp hr
  obtain ⟨u1, e2, hr⟩ := hr
  replace hr := Option.bind_eq_some_iff.mp hr
  obtain ⟨v3, e4, hr⟩ := hr
  refine rr_callVq (as := [.int l1, .int l2]) (st := []) (mc' := 0) (ms' := 0) C dX10_worth_3 iv_X10_68 (by decide) e2 rfl (Nat.le_of_ble_eq_true rfl) (c_X10_isFirmsYear l0 l1 l2 (by omega) e4) (fun v_ h_ n_ q_ => ?_)
  obtain ⟨q1_, q2_, q3_⟩ := q_
  subst v_; subst h_; subst n_
  show WW W0 G 3 _ _ _ 6 [some (.ref l0), some (.int l1), some (.int l2)] [.int v3] h n _ _
  refine rr_if_ne (tgt := 13) C dX10_worth_6 (by decide) (fun c6_ => ?_) (fun c6_ => ?_)
  · replace hr := (if_neg c6_).symm.trans hr
    refine rr_aload_n (i := 0) C dX10_worth_13 rfl rfl ?_
    refine rr_iload_n (i := 1) C dX10_worth_14 rfl rfl ?_
    refine rr_iload_n (i := 2) C dX10_worth_15 rfl rfl ?_
    refine rr_aload_n (i := 0) C dX10_worth_16 rfl rfl ?_
    replace hr := Option.bind_eq_some_iff.mp hr
    obtain ⟨v5, e6, hr⟩ := hr
    refine rr_rdR C dX10_worth_17 fl_X10_12 e6 ?_
    replace hr := Option.bind_eq_some_iff.mp hr
    obtain ⟨a7, e8, hr⟩ := hr
    subst e8
    replace hr := Option.bind_eq_some_iff.mp hr
    obtain ⟨v9, e10, hr⟩ := hr
    refine rr_rdI C dX10_worth_20 fl_X10_55 e10 ?_
    replace hr := Option.bind_eq_some_iff.mp hr
    obtain ⟨u11, e12, hr⟩ := hr
    replace hr := Option.bind_eq_some_iff.mp hr
    obtain ⟨v13, e14, hr⟩ := hr
    refine rr_callVq (as := [.int l1, .int l2, .int v9]) (st := []) (mc' := 0) (ms' := 0) C dX10_worth_23 iv_X10_170 (by decide) e12 rfl (Nat.le_of_ble_eq_true rfl) (c_X10_openOwn l0 l1 l2 v9 (by omega) e14) (fun v_ h_ n_ q_ => ?_)
    obtain ⟨q1_, q2_, q3_⟩ := q_
    subst v_; subst h_; subst n_
    show WW W0 G 3 _ _ _ 26 [some (.ref l0), some (.int l1), some (.int l2)] [] v13 n _ _
    refine rr_aload_n (i := 0) C dX10_worth_26 rfl rfl ?_
    replace hr := Option.bind_eq_some_iff.mp hr
    obtain ⟨v15, e16, hr⟩ := hr
    refine rr_rdR C dX10_worth_27 fl_X10_21 e16 ?_
    refine rr_iload_n (i := 2) C dX10_worth_30 rfl rfl ?_
    replace hr := Option.bind_eq_some_iff.mp hr
    obtain ⟨a17, e18, hr⟩ := hr
    subst e18
    replace hr := Option.bind_eq_some_iff.mp hr
    obtain ⟨u19, e20, hr⟩ := hr
    replace hr := Option.bind_eq_some_iff.mp hr
    obtain ⟨v21, e22, hr⟩ := hr
    refine rr_callVq (as := [.int l2]) (st := []) (mc' := 0) (ms' := 0) C dX10_worth_31 iv_X10_207 (by decide) e20 rfl (Nat.le_of_ble_eq_true rfl) (c_X7_worthAt a17 l2 (by omega) e22) (fun v_ h_ n_ q_ => ?_)
    obtain ⟨q1_, q2_, q3_⟩ := q_
    subst v_; subst h_; subst n_
    show WW W0 G 3 _ _ _ 34 [some (.ref l0), some (.int l1), some (.int l2)] [.long v21] v13 n _ _
    obtain rfl := Option.some.inj hr
    exact rr_lret C dX10_worth_34 rfl ⟨rfl, rfl, rfl⟩
  · replace hr := (if_pos c6_).symm.trans hr
    refine rr_ldc2 C dX10_worth_9 ct_X10_205 ?_
    obtain rfl := Option.some.inj hr
    exact rr_lret C dX10_worth_12 rfl ⟨rfl, rfl, rfl⟩
def q_X10_line (K : Nat) (h : mm_H) (n : Nat) (l0 : Nat) (l1 : Int32) (l2 : Int32) (l3 : Int32) (l4 : Int32) : Option (Int64 × mm_H) :=
  (ckq h n l0 9).bind fun u1 =>
  (q_X10_isFirmsYear K h n l0 l1 l2).bind fun v3 =>
  if v3 = 0 then
    some ((-2000000000000), h)
  else
  (q_X10_isDay K h n l3).bind fun v5 =>
  if v5 = 0 then
    some ((-2000000000000), h)
  else
  (q_X10_isWithin K h n l4 0 14).bind fun v7 =>
  if v7 = 0 then
    some ((-2000000000000), h)
  else
  (ckq h n l0 9).bind fun u9 =>
  (q_X10_openOwn K h n l0 l1 l2 l3).bind fun v11 =>
  (rdR v11 n l0 9 1).bind fun v13 =>
  v13.bind fun a15 =>
  (ckq v11 n a15 7).bind fun u17 =>
  (q_X7_fillLines K v11 n a15 l2 l2).bind fun v19 =>
  (rdR v19 n l0 9 1).bind fun v21 =>
  v21.bind fun a23 =>
  (ckq v19 n a23 7).bind fun u25 =>
  (q_X7_lineAt K v19 n a23 l2 l4).bind fun v27 =>
  some (v27, v19)
set_option maxRecDepth 100000 in
set_option maxHeartbeats 4000000 in
theorem c_X10_line {K : Nat} {G : mm_G} {l : Launch} {h : mm_H} {n : Nat} (l0 : Nat) (l1 : Int32) (l2 : Int32) (l3 : Int32) (l4 : Int32) {r_ : Int64 × mm_H} (hn : 48 ≤ n) (hr : q_X10_line K h n l0 l1 l2 l3 l4 = some r_) : Sp G l yX10_line cX10_line 5 (some .long) 7 0 0 [.ref l0, .int l1, .int l2, .int l3, .int l4] h n (fun v h' n' => v = some (.long r_.1) ∧ h' = r_.2 ∧ n' = n) := by
  refine Sp_of (by decide +kernel) (Nat.le_of_ble_eq_true rfl) hn ?_
  intro W0 hwl C
  subst hwl
  unfold q_X10_line at hr
  show WW W0 G 5 0 0 _ 0 [some (.ref l0), some (.int l1), some (.int l2), some (.int l3), some (.int l4)] [] h n 0 0
  refine rr_aload_n (i := 0) C dX10_line_0 rfl rfl ?_
  refine rr_iload_n (i := 1) C dX10_line_1 rfl rfl ?_
  refine rr_iload_n (i := 2) C dX10_line_2 rfl rfl ?_
  replace hr := Option.bind_eq_some_iff.mp hr
  obtain ⟨u1, e2, hr⟩ := hr
  replace hr := Option.bind_eq_some_iff.mp hr
  obtain ⟨v3, e4, hr⟩ := hr
  refine rr_callVq (as := [.int l1, .int l2]) (st := []) (mc' := 0) (ms' := 0) C dX10_line_3 iv_X10_68 (by decide) e2 rfl (Nat.le_of_ble_eq_true rfl) (c_X10_isFirmsYear l0 l1 l2 (by omega) e4) (fun v_ h_ n_ q_ => ?_)
  obtain ⟨q1_, q2_, q3_⟩ := q_
  subst v_; subst h_; subst n_
  show WW W0 G 5 _ _ _ 6 [some (.ref l0), some (.int l1), some (.int l2), some (.int l3), some (.int l4)] [.int v3] h n _ _
  refine rr_if_eq (tgt := 27) C dX10_line_6 (by decide) (fun c6_ => ?_) (fun c6_ => ?_)
  · replace hr := (if_pos c6_).symm.trans hr
    refine rr_ldc2 C dX10_line_27 ct_X10_205 ?_
    obtain rfl := Option.some.inj hr
    exact rr_lret C dX10_line_30 rfl ⟨rfl, rfl, rfl⟩
  · replace hr := (if_neg c6_).symm.trans hr
    refine rr_iload_n (i := 3) C dX10_line_9 rfl rfl ?_
    replace hr := Option.bind_eq_some_iff.mp hr
    obtain ⟨v5, e6, hr⟩ := hr
    refine rr_callS (as := [.int l3]) (st := []) (mc' := 0) (ms' := 0) C dX10_line_10 it_X10_85 (by decide) (Nat.le_of_ble_eq_true rfl) (c_X10_isDay l3 (by omega) e6) (fun v_ h_ n_ q_ => ?_)
    obtain ⟨q1_, q2_, q3_⟩ := q_
    subst v_; subst h_; subst n_
    show WW W0 G 5 _ _ _ 13 [some (.ref l0), some (.int l1), some (.int l2), some (.int l3), some (.int l4)] [.int v5] h n _ _
    refine rr_if_eq (tgt := 27) C dX10_line_13 (by decide) (fun c13_ => ?_) (fun c13_ => ?_)
    · replace hr := (if_pos c13_).symm.trans hr
      refine rr_ldc2 C dX10_line_27 ct_X10_205 ?_
      obtain rfl := Option.some.inj hr
      exact rr_lret C dX10_line_30 rfl ⟨rfl, rfl, rfl⟩
    · replace hr := (if_neg c13_).symm.trans hr
      refine rr_iload C dX10_line_16 rfl ?_
      refine rr_iconst (v := 0) C dX10_line_18 (by decide) ?_
      refine rr_bipush (v := 14) C dX10_line_19 (by decide) ?_
      replace hr := Option.bind_eq_some_iff.mp hr
      obtain ⟨v7, e8, hr⟩ := hr
      refine rr_callS (as := [.int l4, .int 0, .int 14]) (st := []) (mc' := 0) (ms' := 0) C dX10_line_21 it_X10_60 (by decide) (Nat.le_of_ble_eq_true rfl) (c_X10_isWithin l4 0 14 (by omega) e8) (fun v_ h_ n_ q_ => ?_)
      obtain ⟨q1_, q2_, q3_⟩ := q_
      subst v_; subst h_; subst n_
      show WW W0 G 5 _ _ _ 24 [some (.ref l0), some (.int l1), some (.int l2), some (.int l3), some (.int l4)] [.int v7] h n _ _
      refine rr_if_ne (tgt := 31) C dX10_line_24 (by decide) (fun c24_ => ?_) (fun c24_ => ?_)
      · replace hr := (if_neg c24_).symm.trans hr
        refine rr_aload_n (i := 0) C dX10_line_31 rfl rfl ?_
        refine rr_iload_n (i := 1) C dX10_line_32 rfl rfl ?_
        refine rr_iload_n (i := 2) C dX10_line_33 rfl rfl ?_
        refine rr_iload_n (i := 3) C dX10_line_34 rfl rfl ?_
        replace hr := Option.bind_eq_some_iff.mp hr
        obtain ⟨u9, e10, hr⟩ := hr
        replace hr := Option.bind_eq_some_iff.mp hr
        obtain ⟨v11, e12, hr⟩ := hr
        refine rr_callVq (as := [.int l1, .int l2, .int l3]) (st := []) (mc' := 0) (ms' := 0) C dX10_line_35 iv_X10_170 (by decide) e10 rfl (Nat.le_of_ble_eq_true rfl) (c_X10_openOwn l0 l1 l2 l3 (by omega) e12) (fun v_ h_ n_ q_ => ?_)
        obtain ⟨q1_, q2_, q3_⟩ := q_
        subst v_; subst h_; subst n_
        show WW W0 G 5 _ _ _ 38 [some (.ref l0), some (.int l1), some (.int l2), some (.int l3), some (.int l4)] [] v11 n _ _
        refine rr_aload_n (i := 0) C dX10_line_38 rfl rfl ?_
        replace hr := Option.bind_eq_some_iff.mp hr
        obtain ⟨v13, e14, hr⟩ := hr
        refine rr_rdR C dX10_line_39 fl_X10_21 e14 ?_
        refine rr_iload_n (i := 2) C dX10_line_42 rfl rfl ?_
        refine rr_iload_n (i := 2) C dX10_line_43 rfl rfl ?_
        replace hr := Option.bind_eq_some_iff.mp hr
        obtain ⟨a15, e16, hr⟩ := hr
        subst e16
        replace hr := Option.bind_eq_some_iff.mp hr
        obtain ⟨u17, e18, hr⟩ := hr
        replace hr := Option.bind_eq_some_iff.mp hr
        obtain ⟨v19, e20, hr⟩ := hr
        refine rr_callVq (as := [.int l2, .int l2]) (st := []) (mc' := 0) (ms' := 0) C dX10_line_44 iv_X10_211 (by decide) e18 rfl (Nat.le_of_ble_eq_true rfl) (c_X7_fillLines a15 l2 l2 (by omega) e20) (fun v_ h_ n_ q_ => ?_)
        obtain ⟨q1_, q2_, q3_⟩ := q_
        subst v_; subst h_; subst n_
        show WW W0 G 5 _ _ _ 47 [some (.ref l0), some (.int l1), some (.int l2), some (.int l3), some (.int l4)] [] v19 n _ _
        refine rr_aload_n (i := 0) C dX10_line_47 rfl rfl ?_
        replace hr := Option.bind_eq_some_iff.mp hr
        obtain ⟨v21, e22, hr⟩ := hr
        refine rr_rdR C dX10_line_48 fl_X10_21 e22 ?_
        refine rr_iload_n (i := 2) C dX10_line_51 rfl rfl ?_
        refine rr_iload C dX10_line_52 rfl ?_
        replace hr := Option.bind_eq_some_iff.mp hr
        obtain ⟨a23, e24, hr⟩ := hr
        subst e24
        replace hr := Option.bind_eq_some_iff.mp hr
        obtain ⟨u25, e26, hr⟩ := hr
        replace hr := Option.bind_eq_some_iff.mp hr
        obtain ⟨v27, e28, hr⟩ := hr
        refine rr_callVq (as := [.int l2, .int l4]) (st := []) (mc' := 0) (ms' := 0) C dX10_line_54 iv_X10_215 (by decide) e26 rfl (Nat.le_of_ble_eq_true rfl) (c_X7_lineAt a23 l2 l4 (by omega) e28) (fun v_ h_ n_ q_ => ?_)
        obtain ⟨q1_, q2_, q3_⟩ := q_
        subst v_; subst h_; subst n_
        show WW W0 G 5 _ _ _ 57 [some (.ref l0), some (.int l1), some (.int l2), some (.int l3), some (.int l4)] [.long v27] v19 n _ _
        obtain rfl := Option.some.inj hr
        exact rr_lret C dX10_line_57 rfl ⟨rfl, rfl, rfl⟩
      · replace hr := (if_pos c24_).symm.trans hr
        refine rr_ldc2 C dX10_line_27 ct_X10_205 ?_
        obtain rfl := Option.some.inj hr
        exact rr_lret C dX10_line_30 rfl ⟨rfl, rfl, rfl⟩

def q_L_cell (K : Nat) (h : mm_H) (n : Nat) (l0 : Option Nat) (l1 : Int32) : Option (Int32) :=
  l0.bind fun a1 =>
  (lenA h n a1 0).bind fun v3 =>
  ((if v3 ≤ l1 then
    some (0)
  else
    (ldI h n a1 l1).bind fun v9 =>
    some (v9)
   : Option (Int32))).bind fun y6 =>
  some y6
set_option maxRecDepth 100000 in
set_option maxHeartbeats 4000000 in
theorem c_L_cell {K : Nat} {G : mm_G} {l : Launch} {h : mm_H} {n : Nat} (l0 : Option Nat) (l1 : Int32) {r_ : Int32} (hn : 48 ≤ n) (hr : q_L_cell K h n l0 l1 = some r_) : Sp G l yL_cell cL_cell 2 (some .int) 0 0 0 [va_rf l0, .int l1] h n (fun v h' n' => v = some (.int r_) ∧ h' = h ∧ n' = n) := by
  refine Sp_of (by decide +kernel) (by rcases l0 with _ | _ <;> exact Nat.le_of_ble_eq_true rfl) hn ?_
  intro W0 hwl C
  subst hwl
  unfold q_L_cell at hr
  rw [show mm_en 2 [va_rf l0, .int l1] = [some (va_rf l0), some (.int l1)] from by rcases l0 with _ | _ <;> rfl]
  show WW W0 G 2 0 0 _ 0 [some (va_rf l0), some (.int l1)] [] h n 0 0
  refine rr_iload_n (i := 1) C dL_cell_0 rfl rfl ?_
  refine rr_aload_nO (i := 0) C dL_cell_1 rfl rfl ?_
  replace hr := Option.bind_eq_some_iff.mp hr
  obtain ⟨a1, e2, hr⟩ := hr
  subst e2
  replace hr := Option.bind_eq_some_iff.mp hr
  obtain ⟨v3, e4, hr⟩ := hr
  refine rr_lenA C dL_cell_2 e4 ?_
  replace hr := Option.bind_eq_some_iff.mp hr
  obtain ⟨y6, er8, hr⟩ := hr
  suffices hj7 : WW W0 G 2 _ _ _ 13 [none, none] [.int y6] h n _ _ from by
    have hr := er8
    refine rr_icmp_ge (tgt := 12) C dL_cell_3 (by decide) (fun c5 => ?_) (fun c5 => ?_)
    · replace hr := (if_pos c5).symm.trans hr
      refine rr_iconst (v := 0) C dL_cell_12 (by decide) ?_
      cases hr
      exact rr_keep [false, false] hj7
    · replace hr := (if_neg c5).symm.trans hr
      refine rr_aload_n (i := 0) C dL_cell_6 rfl rfl ?_
      refine rr_iload_n (i := 1) C dL_cell_7 rfl rfl ?_
      replace hr := Option.bind_eq_some_iff.mp hr
      obtain ⟨v9, e10, hr⟩ := hr
      refine rr_ldI C dL_cell_8 e10 ?_
      refine rr_goto (tgt := 13) C dL_cell_9 (by decide) ?_
      cases hr
      exact rr_keep [false, false] hj7
  obtain rfl := Option.some.inj hr
  exact rr_iret (ty := .int) C dL_cell_13 rfl rfl ⟨rfl, rfl, rfl⟩
def lp_L_put_21 (K : Nat) (n : Nat) (l0 : Option Nat) (l1 : Nat) (l2 : Int32) (l3 : Int32) (l4 : Nat) : Nat → Int32 → mm_H → Option (mm_H)
  | 0, _, _ => none
  | k_ + 1, l5, h =>
    if 20 ≤ l5 then
      some (h)
    else
    (ldI h n l4 (l5 / 4)).bind fun v11 =>
    ((if l2 ≤ (l3 + l5) then
      some (32)
    else
      (ckS h n l1).bind fun u17 =>
      (q_J0_charAt_5068e K h n l1 (l3 + l5)).bind fun v19 =>
      some (v19)
     : Option (Int32))).bind fun y14 =>
    (stI h n l4 (l5 / 4) (v11 ||| (y14 <<< ((24 - (8 * (l5 - l5 / 4 * 4))) &&& 31)))).bind fun h21 =>
    lp_L_put_21 K n l0 l1 l2 l3 l4 k_ (l5 + 1) h21
def lp_L_put_7 (K : Nat) (l0 : Option Nat) (l1 : Nat) (l2 : Int32) : Nat → Int32 → mm_H → Nat → Option (mm_H × Nat)
  | 0, _, _, _ => none
  | k_ + 1, l3, h, n =>
    if l2 ≤ l3 then
      some (h, n)
    else
    (newI h n .int 64 64).bind fun h8 =>
    (lp_L_put_21 K (n + 1) l0 l1 l2 l3 n K 0 h8).bind fun v23 =>
    (ldI v23 (n + 1) n 0).bind fun v25 =>
    (ldI v23 (n + 1) n 1).bind fun v27 =>
    (ldI v23 (n + 1) n 2).bind fun v29 =>
    (ldI v23 (n + 1) n 3).bind fun v31 =>
    (ldI v23 (n + 1) n 4).bind fun v33 =>
    l0.bind fun a35 =>
    (ckq v23 (n + 1) a35 9).bind fun u37 =>
    (q_X10_feed K v23 (n + 1) a35 v25 v27 v29 v31 v33).bind fun v39 =>
    lp_L_put_7 K l0 l1 l2 k_ (l3 + 20) v39.2 (n + 1)
def q_L_put (K M : Nat) (h : mm_H) (n : Nat) (l0 : Option Nat) (l1 : Option Nat) : Option (Int32 × mm_H × Nat) :=
  l1.bind fun a1 =>
  (ckS h n a1).bind fun u3 =>
  (q_J0_length_8abf5 K h n a1).bind fun v5 =>
  (lp_L_put_7 K l0 a1 v5 M 0 h n).bind fun v41 =>
  some (v5, v41.1, v41.2)
set_option maxRecDepth 100000 in
set_option maxHeartbeats 4000000 in
theorem w_L_put_21 {K : Nat} {W0 : mm_X} {G : mm_G} {mc ms kc ks : Nat} {Q_ : State → Prop} {n : Nat} (C : mm_C W0 G cL_put yL_put.cls 6 mc ms (some .int) 4 yL_put.name) (hn : 48 ≤ n) (l0 : Option Nat) (l1 : Nat) (l2 : Int32) (l3 : Int32) (l4 : Nat) : ∀ (k_ : Nat) (l5 : Int32) (h : mm_H) {r_ : mm_H} (hr : lp_L_put_21 K n l0 l1 l2 l3 l4 k_ l5 h = some r_) (hx0 : WW W0 G 6 mc ms Q_ 76 [some (va_rf l0), some (.ref l1), some (.int l2), some (.int l3), some (.ref l4), none] [] r_ n kc ks), WW W0 G 6 mc ms Q_ 21 [some (va_rf l0), some (.ref l1), some (.int l2), some (.int l3), some (.ref l4), some (.int l5)] [] h n kc ks := by
  intro k_
  induction k_ with
  | zero =>
    intro l5 h r_ hr
    cases hr
  | succ k_ ih_ =>
    intro l5 h r_ hr hx0
    unfold lp_L_put_21 at hr
    refine rr_iload C dL_put_21 rfl ?_
    refine rr_bipush (v := 20) C dL_put_23 (by decide) ?_
    refine rr_icmp_ge (tgt := 76) C dL_put_25 (by decide) (fun c25_ => ?_) (fun c25_ => ?_)
    · replace hr := (if_pos c25_).symm.trans hr
      obtain rfl := Option.some.inj hr
      exact rr_keep [true, true, true, true, true, false] (hx0)
    · replace hr := (if_neg c25_).symm.trans hr
      refine rr_aload C dL_put_28 rfl ?_
      refine rr_iload C dL_put_30 rfl ?_
      refine rr_iconst (v := 4) C dL_put_32 (by decide) ?_
      refine rr_idiv C dL_put_33 (by decide) ?_
      refine rr_dup2 C dL_put_34 rfl rfl ?_
      replace hr := Option.bind_eq_some_iff.mp hr
      obtain ⟨v11, e12, hr⟩ := hr
      refine rr_ldI C dL_put_35 e12 ?_
      refine rr_iload_n (i := 3) C dL_put_36 rfl rfl ?_
      refine rr_iload C dL_put_37 rfl ?_
      refine rr_iadd C dL_put_39 ?_
      refine rr_iload_n (i := 2) C dL_put_40 rfl rfl ?_
      replace hr := Option.bind_eq_some_iff.mp hr
      obtain ⟨y14, er16, hr⟩ := hr
      suffices hj15 : WW W0 G 6 _ _ _ 57 [some (va_rf l0), some (.ref l1), some (.int l2), some (.int l3), some (.ref l4), some (.int l5)] [.int y14, .int v11, .int (l5 / 4), .ref l4] h n (0) (0) from by
        have hr := er16
        refine rr_icmp_ge (tgt := 55) C dL_put_41 (by decide) (fun c13 => ?_) (fun c13 => ?_)
        · replace hr := (if_pos c13).symm.trans hr
          refine rr_bipush (v := 32) C dL_put_55 (by decide) ?_
          cases hr
          exact rr_keep [true, true, true, true, true, true] hj15
        · replace hr := (if_neg c13).symm.trans hr
          refine rr_aload_n (i := 1) C dL_put_44 rfl rfl ?_
          refine rr_iload_n (i := 3) C dL_put_45 rfl rfl ?_
          refine rr_iload C dL_put_46 rfl ?_
          refine rr_iadd C dL_put_48 ?_
          replace hr := Option.bind_eq_some_iff.mp hr
          obtain ⟨u17, e18, hr⟩ := hr
          replace hr := Option.bind_eq_some_iff.mp hr
          obtain ⟨v19, e20, hr⟩ := hr
          refine rr_callVS (as := [.int (l3 + l5)]) (st := [.int v11, .int (l5 / 4), .ref l4]) (mc' := 0) (ms' := 0) C dL_put_49 iv_L_13 rfl (by decide) e18 (Nat.le_of_ble_eq_true rfl) (c_J0_charAt_5068e l1 (l3 + l5) (by omega) e20) (fun v_ h_ n_ q_ => ?_)
          obtain ⟨q1_, q2_, q3_⟩ := q_
          subst v_; subst h_; subst n_
          show WW W0 G 6 _ _ _ 52 [some (va_rf l0), some (.ref l1), some (.int l2), some (.int l3), some (.ref l4), some (.int l5)] [.int v19, .int v11, .int (l5 / 4), .ref l4] h n _ _
          refine rr_goto (tgt := 57) C dL_put_52 (by decide) ?_
          cases hr
          exact rr_keep [true, true, true, true, true, true] hj15
      refine rr_bipush (v := 24) C dL_put_57 (by decide) ?_
      refine rr_bipush (v := 8) C dL_put_59 (by decide) ?_
      refine rr_iload C dL_put_61 rfl ?_
      refine rr_iconst (v := 4) C dL_put_63 (by decide) ?_
      refine rr_irem C dL_put_64 (by decide) ?_
      refine rr_imul C dL_put_65 ?_
      refine rr_isub C dL_put_66 ?_
      refine rr_ishl C dL_put_67 ?_
      refine rr_ior C dL_put_68 ?_
      replace hr := Option.bind_eq_some_iff.mp hr
      obtain ⟨h21, e22, hr⟩ := hr
      refine rr_stI C dL_put_69 e22 ?_
      refine rr_iinc (v := l5 + 1) C dL_put_70 rfl rfl ?_
      show WW W0 G 6 _ _ _ 73 [some (va_rf l0), some (.ref l1), some (.int l2), some (.int l3), some (.ref l4), some (.int (l5 + 1))] [] h21 n _ _
      refine rr_goto (tgt := 21) C dL_put_73 (by decide) ?_
      exact rr_keep [true, true, true, true, true, true] (ih_ _ _ hr hx0)
set_option maxRecDepth 100000 in
set_option maxHeartbeats 4000000 in
theorem w_L_put_7 {K : Nat} {W0 : mm_X} {G : mm_G} {mc ms kc ks : Nat} {Q_ : State → Prop} (C : mm_C W0 G cL_put yL_put.cls 6 mc ms (some .int) 4 yL_put.name) (l0 : Option Nat) (l1 : Nat) (l2 : Int32) : ∀ (k_ : Nat) (l3 : Int32) (h : mm_H) (n : Nat) (hn : 48 ≤ n) {r_ : mm_H × Nat} (hr : lp_L_put_7 K l0 l1 l2 k_ l3 h n = some r_) (hx0 : n ≤ r_.2 → WW W0 G 6 mc ms Q_ 107 [none, none, some (.int l2), none, none, none] [] r_.1 r_.2 kc ks), WW W0 G 6 mc ms Q_ 7 [some (va_rf l0), some (.ref l1), some (.int l2), some (.int l3), none, none] [] h n (kc + 1 * k_) (ks + 64 * k_) := by
  intro k_
  induction k_ with
  | zero =>
    intro l3 h n hn r_ hr
    cases hr
  | succ k_ ih_ =>
    intro l3 h n hn r_ hr hx0
    unfold lp_L_put_7 at hr
    refine rr_cut C (kc' := kc + 1 * k_ + 1) (ks' := ks + 64 * k_ + 64) (by omega) (by omega) ?_
    refine rr_iload_n (i := 3) C dL_put_7 rfl rfl ?_
    refine rr_iload_n (i := 2) C dL_put_8 rfl rfl ?_
    refine rr_icmp_ge (tgt := 107) C dL_put_9 (by decide) (fun c9_ => ?_) (fun c9_ => ?_)
    · replace hr := (if_pos c9_).symm.trans hr
      obtain rfl := Option.some.inj hr
      refine rr_cut C (kc' := kc) (ks' := ks) (by omega) (by omega) ?_
      exact rr_keep [false, false, true, false, false, false] (hx0 (show n ≤ n from by omega))
    · replace hr := (if_neg c9_).symm.trans hr
      refine rr_bipush (v := 64) C dL_put_12 (by decide) ?_
      refine rr_cut C (kc' := kc + 1 * k_ + 0 + 1) (ks' := ks + 64 * k_ + 0 + 64) (by omega) (by omega) ?_
      replace hr := Option.bind_eq_some_iff.mp hr
      obtain ⟨h8, e9, hr⟩ := hr
      refine rr_newIq C dL_put_14 (t0 := 0) rfl rfl (by decide) rfl ac_int (N := 64) (by decide) e9 ?_
      show WW W0 G 6 _ _ _ 16 [some (va_rf l0), some (.ref l1), some (.int l2), some (.int l3), none, none] [.ref n] h8 (n + 1) _ _
      refine rr_astore C dL_put_16 (by decide) ?_
      show WW W0 G 6 _ _ _ 18 [some (va_rf l0), some (.ref l1), some (.int l2), some (.int l3), some (.ref n), none] [] h8 (n + 1) _ _
      refine rr_iconst (v := 0) C dL_put_18 (by decide) ?_
      refine rr_istore C dL_put_19 (by decide) ?_
      show WW W0 G 6 _ _ _ 21 [some (va_rf l0), some (.ref l1), some (.int l2), some (.int l3), some (.ref n), some (.int 0)] [] h8 (n + 1) _ _
      replace hr := Option.bind_eq_some_iff.mp hr
      obtain ⟨v23, e24, hr⟩ := hr
      refine rr_keep [true, true, true, true, true, true] (w_L_put_21 C (by omega) l0 l1 l2 l3 n K 0 h8 e24 ?_)
      show WW W0 G 6 _ _ _ 76 [some (va_rf l0), some (.ref l1), some (.int l2), some (.int l3), some (.ref n), none] [] v23 (n + 1) _ _
      refine rr_aload_nO (i := 0) C dL_put_76 rfl rfl ?_
      refine rr_aload C dL_put_77 rfl ?_
      refine rr_iconst (v := 0) C dL_put_79 (by decide) ?_
      replace hr := Option.bind_eq_some_iff.mp hr
      obtain ⟨v25, e26, hr⟩ := hr
      refine rr_ldI C dL_put_80 e26 ?_
      refine rr_aload C dL_put_81 rfl ?_
      refine rr_iconst (v := 1) C dL_put_83 (by decide) ?_
      replace hr := Option.bind_eq_some_iff.mp hr
      obtain ⟨v27, e28, hr⟩ := hr
      refine rr_ldI C dL_put_84 e28 ?_
      refine rr_aload C dL_put_85 rfl ?_
      refine rr_iconst (v := 2) C dL_put_87 (by decide) ?_
      replace hr := Option.bind_eq_some_iff.mp hr
      obtain ⟨v29, e30, hr⟩ := hr
      refine rr_ldI C dL_put_88 e30 ?_
      refine rr_aload C dL_put_89 rfl ?_
      refine rr_iconst (v := 3) C dL_put_91 (by decide) ?_
      replace hr := Option.bind_eq_some_iff.mp hr
      obtain ⟨v31, e32, hr⟩ := hr
      refine rr_ldI C dL_put_92 e32 ?_
      refine rr_aload C dL_put_93 rfl ?_
      refine rr_iconst (v := 4) C dL_put_95 (by decide) ?_
      replace hr := Option.bind_eq_some_iff.mp hr
      obtain ⟨v33, e34, hr⟩ := hr
      refine rr_ldI C dL_put_96 e34 ?_
      replace hr := Option.bind_eq_some_iff.mp hr
      obtain ⟨a35, e36, hr⟩ := hr
      subst e36
      replace hr := Option.bind_eq_some_iff.mp hr
      obtain ⟨u37, e38, hr⟩ := hr
      replace hr := Option.bind_eq_some_iff.mp hr
      obtain ⟨v39, e40, hr⟩ := hr
      refine rr_callVq (as := [.int v25, .int v27, .int v29, .int v31, .int v33]) (st := []) (mc' := 0) (ms' := 0) (kc := kc + 1 * k_ + 0) (ks := ks + 64 * k_ + 0) C dL_put_97 iv_L_17 (by decide) e38 rfl (Nat.le_of_ble_eq_true rfl) (c_X10_feed a35 v25 v27 v29 v31 v33 (by omega) e40) (fun v_ h_ n_ q_ => ?_)
      obtain ⟨q1_, q2_, q3_⟩ := q_
      subst v_; subst h_; subst n_
      show WW W0 G 6 _ _ _ 100 [some (.ref a35), some (.ref l1), some (.int l2), some (.int l3), some (.ref n), none] [.int v39.1] v39.2 (n + 1) _ _
      refine rr_pop C dL_put_100 rfl ?_
      refine rr_iinc (v := l3 + 20) C dL_put_101 rfl rfl ?_
      show WW W0 G 6 _ _ _ 104 [some (.ref a35), some (.ref l1), some (.int l2), some (.int (l3 + 20)), some (.ref n), none] [] v39.2 (n + 1) _ _
      refine rr_goto (tgt := 7) C dL_put_104 (by decide) ?_
      refine rr_cut C (kc' := kc + 1 * k_) (ks' := ks + 64 * k_) (by omega) (by omega) ?_
      exact rr_keep [true, true, true, true, false, false] (ih_ _ _ (n + 1) (by omega) hr (fun q_ => hx0 (by omega)))
set_option maxRecDepth 100000 in
set_option maxHeartbeats 4000000 in
theorem c_L_put {K M : Nat} {G : mm_G} {l : Launch} {h : mm_H} {n : Nat} (l0 : Option Nat) (l1 : Option Nat) {r_ : Int32 × mm_H × Nat} (hn : 48 ≤ n) (hr : q_L_put K M h n l0 l1 = some r_) : Sp G l yL_put cL_put 6 (some .int) 4 (1 * M + 0) (64 * M + 0) [va_rf l0, va_rf l1] h n (fun v h' n' => v = some (.int r_.1) ∧ h' = r_.2.1 ∧ n' = r_.2.2 ∧ n ≤ n') := by
  refine Sp_of (by decide +kernel) (by rcases l0 with _ | _ <;> rcases l1 with _ | _ <;> exact Nat.le_of_ble_eq_true rfl) hn ?_
  intro W0 hwl C
  subst hwl
  unfold q_L_put at hr
  rw [show mm_en 6 [va_rf l0, va_rf l1] = [some (va_rf l0), some (va_rf l1), none, none, none, none] from by rcases l0 with _ | _ <;> rcases l1 with _ | _ <;> rfl]
  show WW W0 G 6 (1 * M + 0) (64 * M + 0) _ 0 [some (va_rf l0), some (va_rf l1), none, none, none, none] [] h n (1 * M + 0) (64 * M + 0)
  refine rr_aload_nO (i := 1) C dL_put_0 rfl rfl ?_
  replace hr := Option.bind_eq_some_iff.mp hr
  obtain ⟨a1, e2, hr⟩ := hr
  subst e2
  replace hr := Option.bind_eq_some_iff.mp hr
  obtain ⟨u3, e4, hr⟩ := hr
  replace hr := Option.bind_eq_some_iff.mp hr
  obtain ⟨v5, e6, hr⟩ := hr
  refine rr_callVS (as := []) (st := []) (mc' := 0) (ms' := 0) C dL_put_1 iv_L_7 rfl (by decide) e4 (Nat.le_of_ble_eq_true rfl) (c_J0_length_8abf5 a1 (by omega) e6) (fun v_ h_ n_ q_ => ?_)
  obtain ⟨q1_, q2_, q3_⟩ := q_
  subst v_; subst h_; subst n_
  show WW W0 G 6 _ _ _ 4 [some (va_rf l0), some (.ref a1), none, none, none, none] [.int v5] h n _ _
  refine rr_istore_n (i := 2) C dL_put_4 rfl (by decide) ?_
  show WW W0 G 6 _ _ _ 5 [some (va_rf l0), some (.ref a1), some (.int v5), none, none, none] [] h n _ _
  refine rr_iconst (v := 0) C dL_put_5 (by decide) ?_
  refine rr_istore_n (i := 3) C dL_put_6 rfl (by decide) ?_
  show WW W0 G 6 _ _ _ 7 [some (va_rf l0), some (.ref a1), some (.int v5), some (.int 0), none, none] [] h n _ _
  replace hr := Option.bind_eq_some_iff.mp hr
  obtain ⟨v41, e42, hr⟩ := hr
  refine rr_cut C (kc' := 0 + 1 * M) (ks' := 0 + 64 * M) (by omega) (by omega) ?_
  refine rr_keep [true, true, true, true, false, false] (w_L_put_7 (kc := 0) (ks := 0) C l0 a1 v5 M 0 h n (by omega) e42 (fun b43 => ?_))
  show WW W0 G 6 _ _ _ 107 [none, none, some (.int v5), none, none, none] [] v41.1 v41.2 _ _
  refine rr_iload_n (i := 2) C dL_put_107 rfl rfl ?_
  obtain rfl := Option.some.inj hr
  exact rr_iret (ty := .int) C dL_put_108 rfl rfl ⟨rfl, rfl, rfl, by omega⟩
def lp_L_law_665 (K : Nat) (n : Nat) (l0 : Nat) (l1 : Nat) (l2 : Int32) (l3 : Int32) (l4 : Int32) (l5 : Int32) (l6 : Int32) (l7 : Int32) (l8 : Int32) (l9 : Int32) (l10 : Int32) (l11 : Int32) (l12 : Int32) (l13 : Int32) (l14 : Int32) (l15 : Int32) (l16 : Int32) (l17 : Int32) (l19 : Int64) (l21 : Nat) (l22 : Nat) (l23 : Nat) (l24 : Nat) (l25 : Int32) : Nat → Int32 → mm_H → Option (mm_H)
  | 0, _, _ => none
  | k_ + 1, l27, h =>
    if 3 ≤ l27 then
      some (h)
    else
    (q_L_cell K h n (some l0) (9 + l25)).bind fun v497 =>
    (stI h n l24 ((8 * l27) + l25) ((v497 >>> ((8 * l27) &&& 31)) &&& 255)).bind fun h499 =>
    (ldI h499 n l24 ((8 * l27) + l25)).bind fun v501 =>
    ((if v501 ≤ 0 then
      some (h499)
    else
      (ldI h499 n l24 ((8 * l27) + l25)).bind fun v507 =>
      (ckq h499 n l1 9).bind fun u509 =>
      (q_X10_fact K h499 n l1 0 l25 (11 + l27) v507).bind fun v511 =>
      if ¬ (0 ≤ v511.1) then none else
      some (v511.2)
     : Option (mm_H))).bind fun h504 =>
    lp_L_law_665 K n l0 l1 l2 l3 l4 l5 l6 l7 l8 l9 l10 l11 l12 l13 l14 l15 l16 l17 l19 l21 l22 l23 l24 l25 k_ (l27 + 1) h504
def lp_L_law_512 (K : Nat) (n : Nat) (l0 : Nat) (l1 : Nat) (l2 : Int32) (l3 : Int32) (l4 : Int32) (l5 : Int32) (l6 : Int32) (l7 : Int32) (l8 : Int32) (l9 : Int32) (l10 : Int32) (l11 : Int32) (l12 : Int32) (l13 : Int32) (l14 : Int32) (l15 : Int32) (l16 : Int32) (l17 : Int32) (l19 : Int64) (l21 : Nat) (l22 : Nat) (l23 : Nat) (l24 : Nat) : Nat → Int32 → mm_H → Option (mm_H)
  | 0, _, _ => none
  | k_ + 1, l25, h =>
    if 5 ≤ l25 then
      some (h)
    else
    (q_L_cell K h n (some l0) (4 + l25)).bind fun v447 =>
    (stI h n l22 l25 (v447 &&& 1023)).bind fun h449 =>
    ((if ((v447 >>> (10 &&& 31)) &&& 3) = 0 then
      some ((-1))
    else
      some ((v447 >>> (12 &&& 31)) &&& 1023)
     : Option (Int32))).bind fun y452 =>
    (stI h449 n l21 l25 y452).bind fun h455 =>
    ((if ((v447 >>> (22 &&& 31)) &&& 3) = 0 then
      some ((-1))
    else
      some ((v447 >>> (24 &&& 31)) &&& 127)
     : Option (Int32))).bind fun y458 =>
    (stI h455 n l23 l25 y458).bind fun h461 =>
    (ldI h461 n l22 l25).bind fun v463 =>
    (ckq h461 n l1 9).bind fun u465 =>
    (q_X10_fact K h461 n l1 0 l25 7 v463).bind fun v467 =>
    if v467.1 < 0 then none else
    (ldI v467.2 n l21 l25).bind fun v470 =>
    ((if v470 < 0 then
      some (v467.2)
    else
      (ldI v467.2 n l21 l25).bind fun v476 =>
      (ckq v467.2 n l1 9).bind fun u478 =>
      (q_X10_fact K v467.2 n l1 0 l25 3 v476).bind fun v480 =>
      if v480.1 < 0 then none else
      some (v480.2)
     : Option (mm_H))).bind fun h473 =>
    (ldI h473 n l23 l25).bind fun v483 =>
    ((if v483 < 0 then
      some (h473)
    else
      (ldI h473 n l23 l25).bind fun v489 =>
      (ckq h473 n l1 9).bind fun u491 =>
      (q_X10_fact K h473 n l1 0 l25 15 v489).bind fun v493 =>
      if ¬ (0 ≤ v493.1) then none else
      some (v493.2)
     : Option (mm_H))).bind fun h486 =>
    (lp_L_law_665 K n l0 l1 l2 l3 l4 l5 l6 l7 l8 l9 l10 l11 l12 l13 l14 l15 l16 l17 l19 l21 l22 l23 l24 l25 K 0 h486).bind fun v514 =>
    lp_L_law_512 K n l0 l1 l2 l3 l4 l5 l6 l7 l8 l9 l10 l11 l12 l13 l14 l15 l16 l17 l19 l21 l22 l23 l24 k_ (l25 + 1) v514
def lp_L_law_786 (K : Nat) (n : Nat) (l0 : Nat) (l1 : Nat) (l2 : Int32) (l3 : Int32) (l4 : Int32) (l5 : Int32) (l6 : Int32) (l7 : Int32) (l8 : Int32) (l9 : Int32) (l10 : Int32) (l11 : Int32) (l12 : Int32) (l13 : Int32) (l14 : Int32) (l15 : Int32) (l16 : Int32) (l17 : Int32) (l19 : Int64) (l21 : Nat) (l22 : Nat) (l23 : Nat) (l24 : Nat) (l25 : Nat) (l26 : Nat) (l27 : Nat) (l28 : Int32) : Nat → Int32 → mm_H → Option (mm_H)
  | 0, _, _ => none
  | k_ + 1, l29, h =>
    if l28 ≤ l29 then
      some (h)
    else
    (q_L_cell K h n (some l0) (15 + l29)).bind fun v529 =>
    (stI h n l25 l29 (1 + (v529 &&& 4095))).bind fun h531 =>
    (stI h531 n l26 l29 (((v529 >>> (12 &&& 31)) &&& 7) - ((v529 >>> (12 &&& 31)) &&& 7) / 5 * 5)).bind fun h533 =>
    (stI h533 n l27 l29 9999).bind fun h535 =>
    (ldI h535 n l25 l29).bind fun v537 =>
    (ldI h535 n l26 l29).bind fun v539 =>
    (ckq h535 n l1 9).bind fun u541 =>
    (q_X10_work K h535 n l1 0 v537 v539).bind fun v543 =>
    if ¬ (v543.1 = l29) then none else
    lp_L_law_786 K n l0 l1 l2 l3 l4 l5 l6 l7 l8 l9 l10 l11 l12 l13 l14 l15 l16 l17 l19 l21 l22 l23 l24 l25 l26 l27 l28 k_ (l29 + 1) v543.2
def lp_L_law_877 (K : Nat) (n : Nat) (l0 : Nat) (l1 : Nat) (l2 : Int32) (l3 : Int32) (l4 : Int32) (l5 : Int32) (l6 : Int32) (l7 : Int32) (l8 : Int32) (l9 : Int32) (l10 : Int32) (l11 : Int32) (l12 : Int32) (l13 : Int32) (l14 : Int32) (l15 : Int32) (l16 : Int32) (l17 : Int32) (l19 : Int64) (l21 : Nat) (l22 : Nat) (l23 : Nat) (l24 : Nat) (l25 : Nat) (l26 : Nat) (l27 : Nat) (l28 : Int32) (l29 : Nat) : Nat → Int32 → mm_H → Option (mm_H)
  | 0, _, _ => none
  | k_ + 1, l30, h =>
    if 2 ≤ l30 then
      some (h)
    else
    (q_L_cell K h n (some l0) 18).bind fun v551 =>
    (some (1 + ((v551 >>> ((2 * l30) &&& 31)) &&& 3))).bind fun x553 =>
    (q_L_cell K h n (some l0) 18).bind fun v555 =>
    (some (1 + ((v555 >>> ((4 + (10 * l30)) &&& 31)) &&& 1023))).bind fun x557 =>
    (ckq h n l1 9).bind fun u559 =>
    (q_X10_log K h n l1 0 x553 x557).bind fun v561 =>
    if ¬ (v561.1 = (l30 + 1)) then none else
    (ldI v561.2 n l29 x553).bind fun v564 =>
    (stI v561.2 n l29 x553 (v564 + x557)).bind fun h566 =>
    lp_L_law_877 K n l0 l1 l2 l3 l4 l5 l6 l7 l8 l9 l10 l11 l12 l13 l14 l15 l16 l17 l19 l21 l22 l23 l24 l25 l26 l27 l28 l29 k_ (l30 + 1) h566
def lp_L_law_959 (K : Nat) (n : Nat) (l0 : Nat) (l1 : Nat) (l2 : Int32) (l3 : Int32) (l4 : Int32) (l5 : Int32) (l6 : Int32) (l7 : Int32) (l8 : Int32) (l9 : Int32) (l10 : Int32) (l11 : Int32) (l12 : Int32) (l13 : Int32) (l14 : Int32) (l15 : Int32) (l16 : Int32) (l17 : Int32) (l19 : Int64) (l21 : Nat) (l22 : Nat) (l23 : Nat) (l24 : Nat) (l25 : Nat) (l26 : Nat) (l27 : Nat) (l28 : Int32) (l29 : Nat) : Nat → Int32 → mm_H → Option (mm_H)
  | 0, _, _ => none
  | k_ + 1, l30, h =>
    if l28 ≤ l30 then
      some (h)
    else
    (q_L_cell K h n (some l0) (15 + l30)).bind fun v571 =>
    (some ((v571 >>> (15 &&& 31)) &&& 511)).bind fun x573 =>
    (ckq h n l1 9).bind fun u575 =>
    (q_X10_count K h n l1 0).bind fun v577 =>
    ((if x573 ≤ v577 then
      some (h)
    else
      (q_L_cell K h n (some l0) (15 + l30)).bind fun v583 =>
      if ((v583 >>> (24 &&& 31)) &&& 3) = 0 then
        some (h)
      else
      (ckq h n l1 9).bind fun u586 =>
      (q_X10_day K h n l1 x573).bind fun v588 =>
      if v588.1 = 0 then none else
      (ckq v588.2 n l1 9).bind fun u591 =>
      (q_X10_done K v588.2 n l1 l30).bind fun v593 =>
      if v593.1 = 0 then none else
      (ckq v593.2 n l1 9).bind fun u596 =>
      (q_X10_done K v593.2 n l1 l30).bind fun v598 =>
      if ¬ (v598.1 = 0) then none else
      (stI v598.2 n l27 l30 x573).bind fun h601 =>
      some (h601)
     : Option (mm_H))).bind fun h580 =>
    lp_L_law_959 K n l0 l1 l2 l3 l4 l5 l6 l7 l8 l9 l10 l11 l12 l13 l14 l15 l16 l17 l19 l21 l22 l23 l24 l25 l26 l27 l28 l29 k_ (l30 + 1) h580
def lp_L_law_1076 (K : Nat) (n : Nat) (l1 : Nat) (l2 : Int32) (l3 : Int32) (l4 : Int32) (l5 : Int32) (l6 : Int32) (l7 : Int32) (l8 : Int32) (l9 : Int32) (l10 : Int32) (l11 : Int32) (l12 : Int32) (l13 : Int32) (l14 : Int32) (l15 : Int32) (l16 : Int32) (l17 : Int32) (l21 : Nat) (l22 : Nat) (l23 : Nat) (l24 : Nat) (l25 : Nat) (l26 : Nat) (l27 : Nat) (l28 : Int32) (l29 : Nat) (l30 : Int32) (l31 : Int64) (l33 : Nat) : Nat → Int32 → mm_H → Option (mm_H)
  | 0, _, _ => none
  | k_ + 1, l34, h =>
    if l28 ≤ l34 then
      some (h)
    else
    (ldI h n l25 l34).bind fun v612 =>
    (stJ h n l33 l34 (Int32.toInt64 v612)).bind fun h614 =>
    lp_L_law_1076 K n l1 l2 l3 l4 l5 l6 l7 l8 l9 l10 l11 l12 l13 l14 l15 l16 l17 l21 l22 l23 l24 l25 l26 l27 l28 l29 l30 l31 l33 k_ (l34 + 1) h614
def lp_L_law_1157 (K : Nat) (n : Nat) (l1 : Nat) (l2 : Int32) (l3 : Int32) (l4 : Int32) (l5 : Int32) (l6 : Int32) (l7 : Int32) (l8 : Int32) (l9 : Int32) (l10 : Int32) (l11 : Int32) (l12 : Int32) (l13 : Int32) (l14 : Int32) (l15 : Int32) (l16 : Int32) (l17 : Int32) (l21 : Nat) (l22 : Nat) (l23 : Nat) (l24 : Nat) (l25 : Nat) (l26 : Nat) (l27 : Nat) (l28 : Int32) (l29 : Nat) (l30 : Int32) (l31 : Int64) (l33 : Nat) (l34 : Int64) (l36 : Int64) (l38 : Int64) (l40 : Int64) (l42 : Int32) (l43 : Int64) (l45 : Int64) : Nat → Int64 → Int64 → Int32 → mm_H → Option (Int64 × Int64 × mm_H)
  | 0, _, _, _, _ => none
  | k_ + 1, l47, l49, l51, h =>
    if l28 ≤ l51 then
      some (l47, l49, h)
    else
    (ldI h n l26 l51).bind fun v626 =>
    ((if v626 = l42 then
      (ldI h n l25 l51).bind fun v632 =>
      (some (l47 + (Int32.toInt64 v632))).bind fun x634 =>
      some (x634)
    else
      some (l47)
     : Option (Int64))).bind fun y629 =>
    (ldI h n l26 l51).bind fun v636 =>
    ((if l42 ≤ v636 then
      some (l49, h)
    else
      (ldI h n l27 l51).bind fun v643 =>
      if (100 * l42) ≤ v643 then
        ((if l42 ≤ 3 then
          (ldI h n l25 l51).bind fun v650 =>
          some (((Int32.toInt64 v650) * (Int32.toInt64 l5)) / 100)
        else
          some (0)
         : Option (Int64))).bind fun y647 =>
        (ldJ h n l33 l51).bind fun v652 =>
        ((if (lg_cmp y647 v652) ≤ 0 then
          some (y647)
        else
          (ldJ h n l33 l51).bind fun v658 =>
          some (v658)
         : Option (Int64))).bind fun y655 =>
        (ldJ h n l33 l51).bind fun v660 =>
        (stJ h n l33 l51 (v660 - y655)).bind fun h662 =>
        (some (l49 + y655)).bind fun x664 =>
        some (x664, h662)
      else
      some (l49, h)
     : Option (Int64 × mm_H))).bind fun (y639, h640) =>
    lp_L_law_1157 K n l1 l2 l3 l4 l5 l6 l7 l8 l9 l10 l11 l12 l13 l14 l15 l16 l17 l21 l22 l23 l24 l25 l26 l27 l28 l29 l30 l31 l33 l34 l36 l38 l40 l42 l43 l45 k_ y629 y639 (l51 + 1) h640
def lp_L_law_1418 (K : Nat) (n : Nat) (l1 : Nat) (l2 : Int32) (l3 : Int32) (l4 : Int32) (l5 : Int32) (l6 : Int32) (l7 : Int32) (l8 : Int32) (l9 : Int32) (l10 : Int32) (l11 : Int32) (l12 : Int32) (l13 : Int32) (l14 : Int32) (l15 : Int32) (l16 : Int32) (l17 : Int32) (l21 : Nat) (l22 : Nat) (l23 : Nat) (l24 : Nat) (l25 : Nat) (l26 : Nat) (l27 : Nat) (l28 : Int32) (l29 : Nat) (l30 : Int32) (l31 : Int64) (l33 : Nat) (l38 : Int64) (l40 : Int64) (l42 : Int32) (l43 : Int64) (l45 : Int64) (l53 : Int64) (l55 : Nat) : Nat → Int32 → mm_H → Option (mm_H)
  | 0, _, _ => none
  | k_ + 1, l56, h =>
    if 15 ≤ l56 then
      some (h)
    else
    (ckq h n l1 9).bind fun u711 =>
    (q_X10_line K h n l1 0 l42 l30 l56).bind fun v713 =>
    (ldJ v713.2 n l55 l56).bind fun v715 =>
    if ¬ ((lg_cmp v713.1 v715) = 0) then none else
    lp_L_law_1418 K n l1 l2 l3 l4 l5 l6 l7 l8 l9 l10 l11 l12 l13 l14 l15 l16 l17 l21 l22 l23 l24 l25 l26 l27 l28 l29 l30 l31 l33 l38 l40 l42 l43 l45 l53 l55 k_ (l56 + 1) v713.2
def lp_L_law_1730 (K : Nat) (n : Nat) (l1 : Nat) (l2 : Int32) (l3 : Int32) (l4 : Int32) (l5 : Int32) (l6 : Int32) (l7 : Int32) (l8 : Int32) (l9 : Int32) (l10 : Int32) (l11 : Int32) (l12 : Int32) (l13 : Int32) (l14 : Int32) (l15 : Int32) (l16 : Int32) (l17 : Int32) (l21 : Nat) (l22 : Nat) (l23 : Nat) (l24 : Nat) (l25 : Nat) (l26 : Nat) (l27 : Nat) (l28 : Int32) (l29 : Nat) (l30 : Int32) (l31 : Int64) (l33 : Nat) (l38 : Int64) (l40 : Int64) (l42 : Int32) (l43 : Int64) (l45 : Int64) (l60 : Int64) (l62 : Nat) : Nat → Int64 → Int32 → mm_H → Option (Int64 × mm_H)
  | 0, _, _, _ => none
  | k_ + 1, l63, l65, h =>
    if 3 ≤ l65 then
      some (l63, h)
    else
    (ckq h n l1 9).bind fun u791 =>
    (q_X10_home K h n l1 0 l42 l30 l65).bind fun v793 =>
    (ldJ v793.2 n l62 l65).bind fun v795 =>
    if ¬ ((lg_cmp v793.1 v795) = 0) then none else
    (ldJ v793.2 n l62 l65).bind fun v798 =>
    (ldI v793.2 n l24 ((8 * l65) + l42)).bind fun v800 =>
    (some (l63 - (v798 * (Int32.toInt64 v800)))).bind fun x802 =>
    lp_L_law_1730 K n l1 l2 l3 l4 l5 l6 l7 l8 l9 l10 l11 l12 l13 l14 l15 l16 l17 l21 l22 l23 l24 l25 l26 l27 l28 l29 l30 l31 l33 l38 l40 l42 l43 l45 l60 l62 k_ x802 (l65 + 1) v793.2
def lp_L_law_2036 (K : Nat) (h : mm_H) (n : Nat) (l1 : Nat) (l2 : Int32) (l3 : Int32) (l4 : Int32) (l5 : Int32) (l6 : Int32) (l7 : Int32) (l8 : Int32) (l9 : Int32) (l10 : Int32) (l11 : Int32) (l12 : Int32) (l13 : Int32) (l14 : Int32) (l15 : Int32) (l16 : Int32) (l17 : Int32) (l21 : Nat) (l22 : Nat) (l23 : Nat) (l24 : Nat) (l25 : Nat) (l26 : Nat) (l27 : Nat) (l28 : Int32) (l29 : Nat) (l30 : Int32) (l33 : Nat) (l34 : Int64) (l36 : Int64) (l38 : Int64) (l40 : Int64) (l42 : Int32) : Nat → Int64 → Int32 → Option (Int64)
  | 0, _, _ => none
  | k_ + 1, l67, l69 =>
    if l28 ≤ l69 then
      some (l67)
    else
    (ldI h n l27 l69).bind fun v875 =>
    ((if (v875 / 100) = l42 then
      (ldI h n l25 l69).bind fun v881 =>
      (some (l67 + (Int32.toInt64 v881))).bind fun x883 =>
      some (x883)
    else
      some (l67)
     : Option (Int64))).bind fun y878 =>
    lp_L_law_2036 K h n l1 l2 l3 l4 l5 l6 l7 l8 l9 l10 l11 l12 l13 l14 l15 l16 l17 l21 l22 l23 l24 l25 l26 l27 l28 l29 l30 l33 l34 l36 l38 l40 l42 k_ y878 (l69 + 1)
def lp_L_law_1115 (K : Nat) (l1 : Nat) (l2 : Int32) (l3 : Int32) (l4 : Int32) (l5 : Int32) (l6 : Int32) (l7 : Int32) (l8 : Int32) (l9 : Int32) (l10 : Int32) (l11 : Int32) (l12 : Int32) (l13 : Int32) (l14 : Int32) (l15 : Int32) (l16 : Int32) (l17 : Int32) (l21 : Nat) (l22 : Nat) (l23 : Nat) (l24 : Nat) (l25 : Nat) (l26 : Nat) (l27 : Nat) (l28 : Int32) (l29 : Nat) (l30 : Int32) (l33 : Nat) : Nat → Int64 → Int64 → Int64 → Int64 → Int64 → Int32 → mm_H → Nat → Option (Int64 × mm_H × Nat)
  | 0, _, _, _, _, _, _, _, _ => none
  | k_ + 1, l31, l34, l36, l38, l40, l42, h, n =>
    if 5 ≤ l42 then
      some (l31, h, n)
    else
    (ldI h n l22 l42).bind fun v619 =>
    (some (((Int32.toInt64 v619) * (Int32.toInt64 l8)) / 100)).bind fun x621 =>
    (some ((l31 * (Int32.toInt64 l2)) / 1000)).bind fun x623 =>
    (lp_L_law_1157 K n l1 l2 l3 l4 l5 l6 l7 l8 l9 l10 l11 l12 l13 l14 l15 l16 l17 l21 l22 l23 l24 l25 l26 l27 l28 l29 l30 l31 l33 l34 l36 l38 l40 l42 x621 x623 K 0 0 0 h).bind fun v666 =>
    (ldI v666.2.2 n l29 l42).bind fun v668 =>
    ((if (lg_cmp (Int32.toInt64 v668) ((x621 * (Int32.toInt64 l7)) / 100)) < 0 then
      some (0)
    else
      (ldI v666.2.2 n l29 l42).bind fun v674 =>
      some (Int32.toInt64 v674)
     : Option (Int64))).bind fun y671 =>
    (some ((((((x621 + x623) + v666.1) - v666.2.1) + l36) + l34) + y671)).bind fun x676 =>
    (newJ v666.2.2 n 15 15).bind fun h678 =>
    (stJ h678 (n + 1) n 0 x621).bind fun h680 =>
    (stJ h680 (n + 1) n 1 0).bind fun h682 =>
    (stJ h682 (n + 1) n 2 0).bind fun h684 =>
    (stJ h684 (n + 1) n 3 0).bind fun h686 =>
    (stJ h686 (n + 1) n 4 x623).bind fun h688 =>
    (stJ h688 (n + 1) n 5 v666.1).bind fun h690 =>
    (stJ h690 (n + 1) n 6 (-v666.2.1)).bind fun h692 =>
    (stJ h692 (n + 1) n 7 0).bind fun h694 =>
    (stJ h694 (n + 1) n 8 l36).bind fun h696 =>
    (stJ h696 (n + 1) n 9 0).bind fun h698 =>
    (stJ h698 (n + 1) n 10 l34).bind fun h700 =>
    (stJ h700 (n + 1) n 11 0).bind fun h702 =>
    (stJ h702 (n + 1) n 12 0).bind fun h704 =>
    (stJ h704 (n + 1) n 13 0).bind fun h706 =>
    (stJ h706 (n + 1) n 14 y671).bind fun h708 =>
    (lp_L_law_1418 K (n + 1) l1 l2 l3 l4 l5 l6 l7 l8 l9 l10 l11 l12 l13 l14 l15 l16 l17 l21 l22 l23 l24 l25 l26 l27 l28 l29 l30 l31 l33 l38 l40 l42 x621 x623 x676 n K 0 h708).bind fun v718 =>
    (ckq v718 (n + 1) l1 9).bind fun u720 =>
    (q_X10_worth K v718 (n + 1) l1 0 l42).bind fun v722 =>
    if ¬ ((lg_cmp v722.1 l31) = 0) then none else
    (ckq v722.2 (n + 1) l1 9).bind fun u725 =>
    (q_X10_revenue K v722.2 (n + 1) l1 0 l42 l30).bind fun v727 =>
    if ¬ ((lg_cmp v727.1 x676) = 0) then none else
    (some (x676 + l40)).bind fun x730 =>
    ((if l42 ≤ 0 then
      some (x730)
    else
      if 4 ≤ l42 then
        some (x730)
      else
      if l17 = 0 then
        some (x730)
      else
      (some ((l38 * (Int32.toInt64 (100 + l6))) / 100)).bind fun x738 =>
      (some ((l38 * (Int32.toInt64 (100 - l6))) / 100)).bind fun x740 =>
      ((if (lg_cmp x730 x738) ≤ 0 then
        some (x730)
      else
        some (x738)
       : Option (Int64))).bind fun y743 =>
      if 0 ≤ (lg_cmp y743 x740) then
        some (y743)
      else
      some (x740)
     : Option (Int64))).bind fun y733 =>
    (some (x730 - y733)).bind fun x747 =>
    (ckq v727.2 (n + 1) l1 9).bind fun u749 =>
    (q_X10_bills K v727.2 (n + 1) l1 0 l42 l30 0).bind fun v751 =>
    if ¬ ((lg_cmp v751.1 y733) = 0) then none else
    (ckq v751.2 (n + 1) l1 9).bind fun u754 =>
    (q_X10_bills K v751.2 (n + 1) l1 0 l42 l30 1).bind fun v756 =>
    if ¬ ((lg_cmp v756.1 x747) = 0) then none else
    (ldI v756.2 (n + 1) l24 l42).bind fun v759 =>
    (ldI v756.2 (n + 1) l24 (8 + l42)).bind fun v761 =>
    (ldI v756.2 (n + 1) l24 (16 + l42)).bind fun v763 =>
    (some ((((Int32.toInt64 v759) * 2) + ((Int32.toInt64 v761) * 3)) + ((Int32.toInt64 v763) * 5))).bind fun x765 =>
    (newJ v756.2 (n + 1) 3 3).bind fun h767 =>
    ((if (lg_cmp x765 0) = 0 then
      some (0)
    else
      if x765 = 0 then none else
      some ((y733 * 2) / x765)
     : Option (Int64))).bind fun y770 =>
    (stJ h767 (n + 2) (n + 1) 0 y770).bind fun h774 =>
    ((if (lg_cmp x765 0) = 0 then
      some (0)
    else
      if x765 = 0 then none else
      some ((y733 * 3) / x765)
     : Option (Int64))).bind fun y777 =>
    (stJ h774 (n + 2) (n + 1) 1 y777).bind fun h781 =>
    ((if (lg_cmp x765 0) = 0 then
      some (0)
    else
      if x765 = 0 then none else
      some ((y733 * 5) / x765)
     : Option (Int64))).bind fun y784 =>
    (stJ h781 (n + 2) (n + 1) 2 y784).bind fun h788 =>
    (lp_L_law_1730 K (n + 2) l1 l2 l3 l4 l5 l6 l7 l8 l9 l10 l11 l12 l13 l14 l15 l16 l17 l21 l22 l23 l24 l25 l26 l27 l28 l29 l30 l31 l33 y733 x747 l42 x621 x623 x765 (n + 1) K y733 0 h788).bind fun v804 =>
    (ckq v804.2 (n + 2) l1 9).bind fun u806 =>
    (q_X10_home K v804.2 (n + 2) l1 0 l42 l30 3).bind fun v808 =>
    if ¬ ((lg_cmp v808.1 v804.1) = 0) then none else
    (ckq v808.2 (n + 2) l1 9).bind fun u811 =>
    (q_X10_who K v808.2 (n + 2) l1 0 l42 l30 1 4).bind fun v813 =>
    ((if (lg_cmp x765 0) = 0 then
      some (0)
    else
      if x765 = 0 then none else
      some ((x623 * 3) / x765)
     : Option (Int64))).bind fun y816 =>
    if ¬ ((lg_cmp v813.1 y816) = 0) then none else
    (ldI v813.2 (n + 2) l21 l42).bind fun v821 =>
    ((if 0 ≤ v821 then
      (ldI v813.2 (n + 2) l21 l42).bind fun v827 =>
      some ((Int32.toInt64 v827) - x621)
    else
      some (0)
     : Option (Int64))).bind fun y824 =>
    ((if (lg_cmp y824 0) ≤ 0 then
      some ((y824 * (Int32.toInt64 l10)) / 100)
    else
      some ((y824 * (Int32.toInt64 l9)) / 100)
     : Option (Int64))).bind fun y830 =>
    (some (y824 - y830)).bind fun x833 =>
    (ldI v813.2 (n + 2) l23 l42).bind fun v835 =>
    ((if v835 < 0 then
      some (0)
    else
      ((if l16 = 0 then
        (ldI v813.2 (n + 2) l23 l42).bind fun v845 =>
        some (Int32.toInt64 (v845 - l11))
      else
        (ldI v813.2 (n + 2) l23 l42).bind fun v847 =>
        some (Int32.toInt64 (l11 - v847))
       : Option (Int64))).bind fun y842 =>
      ((if 0 ≤ (lg_cmp y842 0) then
        some (y842)
      else
        some (-y842)
       : Option (Int64))).bind fun y850 =>
      (some (y850 - (Int32.toInt64 l14))).bind fun x853 =>
      ((if 0 ≤ (lg_cmp x853 0) then
        some (x853)
      else
        some (0)
       : Option (Int64))).bind fun y856 =>
      if (Int32.toInt64 l12) = 0 then none else
      (some ((y856 / (Int32.toInt64 l12)) * (Int32.toInt64 l13))).bind fun x860 =>
      ((if (lg_cmp x860 (Int32.toInt64 l15)) ≤ 0 then
        some (x860)
      else
        (some (Int32.toInt64 l15)).bind fun x866 =>
        some (x866)
       : Option (Int64))).bind fun y863 =>
      ((if 0 ≤ (lg_cmp y842 0) then
        some (y863)
      else
        some (-y863)
       : Option (Int64))).bind fun y869 =>
      some (y869)
     : Option (Int64))).bind fun y838 =>
    (some (((l31 * (Int32.toInt64 l3)) / 100) - ((l31 * (Int32.toInt64 l4)) / 100))).bind fun x872 =>
    (lp_L_law_2036 K v813.2 (n + 2) l1 l2 l3 l4 l5 l6 l7 l8 l9 l10 l11 l12 l13 l14 l15 l16 l17 l21 l22 l23 l24 l25 l26 l27 l28 l29 l30 l33 x833 y838 y733 x747 l42 K x872 0).bind fun v885 =>
    lp_L_law_1115 K l1 l2 l3 l4 l5 l6 l7 l8 l9 l10 l11 l12 l13 l14 l15 l16 l17 l21 l22 l23 l24 l25 l26 l27 l28 l29 l30 l33 k_ v885 x833 y838 y733 x747 (l42 + 1) v813.2 (n + 2)
def q_law (K : Nat) (h : mm_H) : Option Unit :=
  (newO h 48 9 [.null, .null, .null, .null, .null, .int 0, .null, .int 0, .null, .null, .int 0, .null]).bind fun h1 =>
  (q_X10_init K h1 (48 + 1) 48).bind fun (h3, n4) =>
  (q_L_cell K h3 n4 (some 0) 0).bind fun v8 =>
  (some (v8 &&& 127)).bind fun x10 =>
  (q_L_cell K h3 n4 (some 0) 0).bind fun v12 =>
  (some (80 + ((v12 >>> (7 &&& 31)) &&& 63))).bind fun x14 =>
  (q_L_cell K h3 n4 (some 0) 0).bind fun v16 =>
  (some ((v16 >>> (13 &&& 31)) &&& 31)).bind fun x18 =>
  (q_L_cell K h3 n4 (some 0) 0).bind fun v20 =>
  (some ((v20 >>> (18 &&& 31)) &&& 63)).bind fun x22 =>
  (q_L_cell K h3 n4 (some 0) 0).bind fun v24 =>
  (some ((v24 >>> (24 &&& 31)) &&& 63)).bind fun x26 =>
  (q_L_cell K h3 n4 (some 0) 1).bind fun v28 =>
  (some (v28 &&& 63)).bind fun x30 =>
  (q_L_cell K h3 n4 (some 0) 1).bind fun v32 =>
  (some ((v32 >>> (6 &&& 31)) &&& 127)).bind fun x34 =>
  (q_L_cell K h3 n4 (some 0) 1).bind fun v36 =>
  (some (((v36 >>> (13 &&& 31)) &&& 127) - ((v36 >>> (13 &&& 31)) &&& 127) / 101 * 101)).bind fun x38 =>
  (q_L_cell K h3 n4 (some 0) 1).bind fun v40 =>
  (some (((v40 >>> (20 &&& 31)) &&& 127) - ((v40 >>> (20 &&& 31)) &&& 127) / 101 * 101)).bind fun x42 =>
  (q_L_cell K h3 n4 (some 0) 2).bind fun v44 =>
  (some (v44 &&& 63)).bind fun x46 =>
  (q_L_cell K h3 n4 (some 0) 2).bind fun v48 =>
  (some (1 + ((v48 >>> (6 &&& 31)) &&& 7))).bind fun x50 =>
  (q_L_cell K h3 n4 (some 0) 2).bind fun v52 =>
  (some ((v52 >>> (9 &&& 31)) &&& 31)).bind fun x54 =>
  (q_L_cell K h3 n4 (some 0) 2).bind fun v56 =>
  (some ((v56 >>> (14 &&& 31)) &&& 7)).bind fun x58 =>
  (q_L_cell K h3 n4 (some 0) 2).bind fun v60 =>
  (some ((v60 >>> (17 &&& 31)) &&& 255)).bind fun x62 =>
  (q_L_cell K h3 n4 (some 0) 2).bind fun v64 =>
  ((if ((v64 >>> (25 &&& 31)) &&& 1) = 1 then
    some (1)
  else
    some (0)
   : Option (Int32))).bind fun y67 =>
  (q_L_cell K h3 n4 (some 0) 2).bind fun v70 =>
  ((if ((v70 >>> (26 &&& 31)) &&& 1) = 1 then
    some (1)
  else
    some (0)
   : Option (Int32))).bind fun y73 =>
  (newO h3 n4 11 [.null, .int 0, .int 0, .int 0]).bind fun h76 =>
  (q_J4_init_da8c8 K h76 (n4 + 1) n4).bind fun (h78, n79) =>
  (ckq h78 n79 n4 11).bind fun u83 =>
  (q_J4_append_15ec4 K h78 n79 n4 (some 1000000)).bind fun (v87, h85, n86) =>
  v87.bind fun a90 =>
  (ckq h85 n86 a90 11).bind fun u92 =>
  (q_J4_append_bf812 K h85 n86 a90 x10).bind fun (v96, h94, n95) =>
  v96.bind fun a99 =>
  (ckq h94 n95 a99 11).bind fun u101 =>
  (q_J4_append_15ec4 K h94 n95 a99 (some 1000001)).bind fun (v105, h103, n104) =>
  v105.bind fun a108 =>
  (ckq h103 n104 a108 11).bind fun u110 =>
  (q_J4_append_bf812 K h103 n104 a108 x14).bind fun (v114, h112, n113) =>
  v114.bind fun a117 =>
  (ckq h112 n113 a117 11).bind fun u119 =>
  (q_J4_append_15ec4 K h112 n113 a117 (some 1000002)).bind fun (v123, h121, n122) =>
  v123.bind fun a126 =>
  (ckq h121 n122 a126 11).bind fun u128 =>
  (q_J4_append_bf812 K h121 n122 a126 x18).bind fun (v132, h130, n131) =>
  v132.bind fun a135 =>
  (ckq h130 n131 a135 11).bind fun u137 =>
  (q_J4_append_15ec4 K h130 n131 a135 (some 1000003)).bind fun (v141, h139, n140) =>
  v141.bind fun a144 =>
  (ckq h139 n140 a144 11).bind fun u146 =>
  (q_J4_append_bf812 K h139 n140 a144 x22).bind fun (v150, h148, n149) =>
  v150.bind fun a153 =>
  (ckq h148 n149 a153 11).bind fun u155 =>
  (q_J4_append_15ec4 K h148 n149 a153 (some 1000004)).bind fun (v159, h157, n158) =>
  ((if y73 = 0 then
    some ((some 1000007), h157, n158)
  else
    (newO h157 n158 11 [.null, .int 0, .int 0, .int 0]).bind fun h168 =>
    (q_J4_init_da8c8 K h168 (n158 + 1) n158).bind fun (h170, n171) =>
    (ckq h170 n171 n158 11).bind fun u175 =>
    (q_J4_append_15ec4 K h170 n171 n158 (some 1000005)).bind fun (v179, h177, n178) =>
    v179.bind fun a182 =>
    (ckq h177 n178 a182 11).bind fun u184 =>
    (q_J4_append_bf812 K h177 n178 a182 x26).bind fun (v188, h186, n187) =>
    v188.bind fun a191 =>
    (ckq h186 n187 a191 11).bind fun u193 =>
    (q_J4_append_15ec4 K h186 n187 a191 (some 1000006)).bind fun (v197, h195, n196) =>
    v197.bind fun a200 =>
    (ckq h195 n196 a200 11).bind fun u202 =>
    (q_J4_toString_0e30d K h195 n196 a200).bind fun (v206, h204, n205) =>
    some (v206, h204, n205)
   : Option ((Option Nat) × mm_H × Nat))).bind fun (y163, h164, n165) =>
  v159.bind fun a209 =>
  (ckq h164 n165 a209 11).bind fun u211 =>
  (q_J4_append_15ec4 K h164 n165 a209 y163).bind fun (v215, h213, n214) =>
  v215.bind fun a218 =>
  (ckq h213 n214 a218 11).bind fun u220 =>
  (q_J4_append_15ec4 K h213 n214 a218 (some 1000008)).bind fun (v224, h222, n223) =>
  v224.bind fun a227 =>
  (ckq h222 n223 a227 11).bind fun u229 =>
  (q_J4_append_bf812 K h222 n223 a227 x30).bind fun (v233, h231, n232) =>
  v233.bind fun a236 =>
  (ckq h231 n232 a236 11).bind fun u238 =>
  (q_J4_append_15ec4 K h231 n232 a236 (some 1000009)).bind fun (v242, h240, n241) =>
  v242.bind fun a245 =>
  (ckq h240 n241 a245 11).bind fun u247 =>
  (q_J4_append_bf812 K h240 n241 a245 x34).bind fun (v251, h249, n250) =>
  v251.bind fun a254 =>
  (ckq h249 n250 a254 11).bind fun u256 =>
  (q_J4_append_15ec4 K h249 n250 a254 (some 1000010)).bind fun (v260, h258, n259) =>
  v260.bind fun a263 =>
  (ckq h258 n259 a263 11).bind fun u265 =>
  (q_J4_append_bf812 K h258 n259 a263 x38).bind fun (v269, h267, n268) =>
  v269.bind fun a272 =>
  (ckq h267 n268 a272 11).bind fun u274 =>
  (q_J4_append_15ec4 K h267 n268 a272 (some 1000011)).bind fun (v278, h276, n277) =>
  v278.bind fun a281 =>
  (ckq h276 n277 a281 11).bind fun u283 =>
  (q_J4_append_bf812 K h276 n277 a281 x42).bind fun (v287, h285, n286) =>
  v287.bind fun a290 =>
  (ckq h285 n286 a290 11).bind fun u292 =>
  (q_J4_append_15ec4 K h285 n286 a290 (some 1000012)).bind fun (v296, h294, n295) =>
  ((if y67 = 0 then
    some (1000014)
  else
    some (1000013)
   : Option (Nat))).bind fun y300 =>
  v296.bind fun a303 =>
  (ckq h294 n295 a303 11).bind fun u305 =>
  (q_J4_append_15ec4 K h294 n295 a303 (some y300)).bind fun (v309, h307, n308) =>
  v309.bind fun a312 =>
  (ckq h307 n308 a312 11).bind fun u314 =>
  (q_J4_append_bf812 K h307 n308 a312 x46).bind fun (v318, h316, n317) =>
  v318.bind fun a321 =>
  (ckq h316 n317 a321 11).bind fun u323 =>
  (q_J4_append_15ec4 K h316 n317 a321 (some 1000015)).bind fun (v327, h325, n326) =>
  v327.bind fun a330 =>
  (ckq h325 n326 a330 11).bind fun u332 =>
  (q_J4_append_bf812 K h325 n326 a330 x50).bind fun (v336, h334, n335) =>
  v336.bind fun a339 =>
  (ckq h334 n335 a339 11).bind fun u341 =>
  (q_J4_append_15ec4 K h334 n335 a339 (some 1000016)).bind fun (v345, h343, n344) =>
  v345.bind fun a348 =>
  (ckq h343 n344 a348 11).bind fun u350 =>
  (q_J4_append_bf812 K h343 n344 a348 x54).bind fun (v354, h352, n353) =>
  v354.bind fun a357 =>
  (ckq h352 n353 a357 11).bind fun u359 =>
  (q_J4_append_15ec4 K h352 n353 a357 (some 1000017)).bind fun (v363, h361, n362) =>
  v363.bind fun a366 =>
  (ckq h361 n362 a366 11).bind fun u368 =>
  (q_J4_append_bf812 K h361 n362 a366 x58).bind fun (v372, h370, n371) =>
  v372.bind fun a375 =>
  (ckq h370 n371 a375 11).bind fun u377 =>
  (q_J4_append_15ec4 K h370 n371 a375 (some 1000018)).bind fun (v381, h379, n380) =>
  v381.bind fun a384 =>
  (ckq h379 n380 a384 11).bind fun u386 =>
  (q_J4_append_bf812 K h379 n380 a384 x62).bind fun (v390, h388, n389) =>
  v390.bind fun a393 =>
  (ckq h388 n389 a393 11).bind fun u395 =>
  (q_J4_append_15ec4 K h388 n389 a393 (some 1000006)).bind fun (v399, h397, n398) =>
  v399.bind fun a402 =>
  (ckq h397 n398 a402 11).bind fun u404 =>
  (q_J4_toString_0e30d K h397 n398 a402).bind fun (v408, h406, n407) =>
  (q_L_put K 40 h406 n407 (some 48) v408).bind fun (v413, h411, n412) =>
  (ckq h411 n412 48 9).bind fun u416 =>
  (q_X10_rules K 40 h411 n412 48 v413 0).bind fun (v420, h418, n419) =>
  if ¬ (v420 = 0) then none else
  (q_L_cell K h418 n419 (some 0) 3).bind fun v424 =>
  (some (Int32.toInt64 (v424 &&& 131071))).bind fun x426 =>
  (ckq h418 n419 48 9).bind fun u428 =>
  (q_X10_firm K h418 n419 48 (Int64.toInt32 x426)).bind fun v430 =>
  if ¬ (v430.1 = 0) then none else
  (ckq v430.2 n419 48 9).bind fun u433 =>
  (q_X10_firm K v430.2 n419 48 7).bind fun v435 =>
  if ¬ (v435.1 = 1) then none else
  (newI v435.2 n419 .int 64 64).bind fun h438 =>
  (newI h438 (n419 + 1) .int 64 64).bind fun h440 =>
  (newI h440 (n419 + 2) .int 64 64).bind fun h442 =>
  (newI h442 (n419 + 3) .int 64 64).bind fun h444 =>
  (lp_L_law_512 K (n419 + 4) 0 48 x10 x14 x18 x22 x26 x30 x34 x38 x42 x46 x50 x54 x58 x62 y67 y73 x426 n419 (n419 + 1) (n419 + 2) (n419 + 3) K 0 h444).bind fun v516 =>
  (newI v516 (n419 + 4) .int 64 64).bind fun h518 =>
  (newI h518 (n419 + 5) .int 64 64).bind fun h520 =>
  (newI h520 (n419 + 6) .int 64 64).bind fun h522 =>
  (q_L_cell K h522 (n419 + 7) (some 0) 14).bind fun v524 =>
  (some (v524 &&& 3)).bind fun x526 =>
  (lp_L_law_786 K (n419 + 7) 0 48 x10 x14 x18 x22 x26 x30 x34 x38 x42 x46 x50 x54 x58 x62 y67 y73 x426 n419 (n419 + 1) (n419 + 2) (n419 + 3) (n419 + 4) (n419 + 5) (n419 + 6) x526 K 0 h522).bind fun v546 =>
  (newI v546 (n419 + 7) .int 64 64).bind fun h548 =>
  (lp_L_law_877 K (n419 + 8) 0 48 x10 x14 x18 x22 x26 x30 x34 x38 x42 x46 x50 x54 x58 x62 y67 y73 x426 n419 (n419 + 1) (n419 + 2) (n419 + 3) (n419 + 4) (n419 + 5) (n419 + 6) x526 (n419 + 7) K 0 h548).bind fun v568 =>
  (lp_L_law_959 K (n419 + 8) 0 48 x10 x14 x18 x22 x26 x30 x34 x38 x42 x46 x50 x54 x58 x62 y67 y73 x426 n419 (n419 + 1) (n419 + 2) (n419 + 3) (n419 + 4) (n419 + 5) (n419 + 6) x526 (n419 + 7) K 0 v568).bind fun v603 =>
  (ckq v603 (n419 + 8) 48 9).bind fun u605 =>
  (q_X10_count K v603 (n419 + 8) 48 0).bind fun v607 =>
  (newJ v603 (n419 + 8) 64 64).bind fun h609 =>
  (lp_L_law_1076 K (n419 + 9) 48 x10 x14 x18 x22 x26 x30 x34 x38 x42 x46 x50 x54 x58 x62 y67 y73 n419 (n419 + 1) (n419 + 2) (n419 + 3) (n419 + 4) (n419 + 5) (n419 + 6) x526 (n419 + 7) v607 x426 (n419 + 8) K 0 h609).bind fun v616 =>
  (lp_L_law_1115 K 48 x10 x14 x18 x22 x26 x30 x34 x38 x42 x46 x50 x54 x58 x62 y67 y73 n419 (n419 + 1) (n419 + 2) (n419 + 3) (n419 + 4) (n419 + 5) (n419 + 6) x526 (n419 + 7) v607 (n419 + 8) 40 x426 0 0 0 0 0 v616 (n419 + 9)).bind fun v887 =>
  (ckq v887.2.1 v887.2.2 48 9).bind fun u890 =>
  (q_X10_worth K v887.2.1 v887.2.2 48 0 5).bind fun v892 =>
  if ¬ ((lg_cmp v892.1 v887.1) = 0) then none else
  (ckq v892.2 v887.2.2 48 9).bind fun u895 =>
  (q_X10_revenue K v892.2 v887.2.2 48 1 0 v607).bind fun v897 =>
  if ¬ ((lg_cmp v897.1 ((7 * (Int32.toInt64 x10)) / 1000)) = 0) then none else
  some ()
set_option maxRecDepth 100000 in
set_option maxHeartbeats 4000000 in
theorem w_L_law_665 {K : Nat} {W0 : mm_X} {G : mm_G} {mc ms kc ks : Nat} {Q_ : State → Prop} {n : Nat} (C : mm_C W0 G cL_law yL_law.cls 73 mc ms (some .boolean) 300 yL_law.name) (hn : 48 ≤ n) (l0 : Nat) (l1 : Nat) (l2 : Int32) (l3 : Int32) (l4 : Int32) (l5 : Int32) (l6 : Int32) (l7 : Int32) (l8 : Int32) (l9 : Int32) (l10 : Int32) (l11 : Int32) (l12 : Int32) (l13 : Int32) (l14 : Int32) (l15 : Int32) (l16 : Int32) (l17 : Int32) (l19 : Int64) (l21 : Nat) (l22 : Nat) (l23 : Nat) (l24 : Nat) (l25 : Int32) : ∀ (k_ : Nat) (l27 : Int32) (h : mm_H) {r_ : mm_H} (hr : lp_L_law_665 K n l0 l1 l2 l3 l4 l5 l6 l7 l8 l9 l10 l11 l12 l13 l14 l15 l16 l17 l19 l21 l22 l23 l24 l25 k_ l27 h = some r_) (hx0 : WW W0 G 73 mc ms Q_ 749 [some (.ref l0), some (.ref l1), some (.int l2), some (.int l3), some (.int l4), some (.int l5), some (.int l6), some (.int l7), some (.int l8), some (.int l9), some (.int l10), some (.int l11), some (.int l12), some (.int l13), some (.int l14), some (.int l15), some (.int l16), some (.int l17), none, some (.long l19), none, some (.ref l21), some (.ref l22), some (.ref l23), some (.ref l24), some (.int l25), none, none, none, none, none, none, none, none, none, none, none, none, none, none, none, none, none, none, none, none, none, none, none, none, none, none, none, none, none, none, none, none, none, none, none, none, none, none, none, none, none, none, none, none, none, none, none] [] r_ n kc ks), WW W0 G 73 mc ms Q_ 665 [some (.ref l0), some (.ref l1), some (.int l2), some (.int l3), some (.int l4), some (.int l5), some (.int l6), some (.int l7), some (.int l8), some (.int l9), some (.int l10), some (.int l11), some (.int l12), some (.int l13), some (.int l14), some (.int l15), some (.int l16), some (.int l17), none, some (.long l19), none, some (.ref l21), some (.ref l22), some (.ref l23), some (.ref l24), some (.int l25), none, some (.int l27), none, none, none, none, none, none, none, none, none, none, none, none, none, none, none, none, none, none, none, none, none, none, none, none, none, none, none, none, none, none, none, none, none, none, none, none, none, none, none, none, none, none, none, none, none] [] h n kc ks := by
  intro k_
  induction k_ with
  | zero =>
    intro l27 h r_ hr
    cases hr
  | succ k_ ih_ =>
    intro l27 h r_ hr hx0
    unfold lp_L_law_665 at hr
    refine rr_iload C dL_law_665 rfl ?_
    refine rr_iconst (v := 3) C dL_law_667 (by decide) ?_
    refine rr_icmp_ge (tgt := 749) C dL_law_668 (by decide) (fun c668_ => ?_) (fun c668_ => ?_)
    · replace hr := (if_pos c668_).symm.trans hr
      obtain rfl := Option.some.inj hr
      exact rr_keep [true, true, true, true, true, true, true, true, true, true, true, true, true, true, true, true, true, true, false, true, false, true, true, true, true, true, false, false, false, false, false, false, false, false, false, false, false, false, false, false, false, false, false, false, false, false, false, false, false, false, false, false, false, false, false, false, false, false, false, false, false, false, false, false, false, false, false, false, false, false, false, false, false] (hx0)
    · replace hr := (if_neg c668_).symm.trans hr
      refine rr_aload C dL_law_671 rfl ?_
      refine rr_bipush (v := 8) C dL_law_673 (by decide) ?_
      refine rr_iload C dL_law_675 rfl ?_
      refine rr_imul C dL_law_677 ?_
      refine rr_iload C dL_law_678 rfl ?_
      refine rr_iadd C dL_law_680 ?_
      refine rr_aload_n (i := 0) C dL_law_681 rfl rfl ?_
      refine rr_bipush (v := 9) C dL_law_682 (by decide) ?_
      refine rr_iload C dL_law_684 rfl ?_
      refine rr_iadd C dL_law_686 ?_
      replace hr := Option.bind_eq_some_iff.mp hr
      obtain ⟨v497, e498, hr⟩ := hr
      refine rr_callS (as := [.ref l0, .int (9 + l25)]) (st := [.int ((8 * l27) + l25), .ref l24]) (mc' := 0) (ms' := 0) C dL_law_687 it_L_24 (by decide) (Nat.le_of_ble_eq_true rfl) (c_L_cell (some l0) (9 + l25) (by omega) e498) (fun v_ h_ n_ q_ => ?_)
      obtain ⟨q1_, q2_, q3_⟩ := q_
      subst v_; subst h_; subst n_
      show WW W0 G 73 _ _ _ 690 [some (.ref l0), some (.ref l1), some (.int l2), some (.int l3), some (.int l4), some (.int l5), some (.int l6), some (.int l7), some (.int l8), some (.int l9), some (.int l10), some (.int l11), some (.int l12), some (.int l13), some (.int l14), some (.int l15), some (.int l16), some (.int l17), none, some (.long l19), none, some (.ref l21), some (.ref l22), some (.ref l23), some (.ref l24), some (.int l25), none, some (.int l27), none, none, none, none, none, none, none, none, none, none, none, none, none, none, none, none, none, none, none, none, none, none, none, none, none, none, none, none, none, none, none, none, none, none, none, none, none, none, none, none, none, none, none, none, none] [.int v497, .int ((8 * l27) + l25), .ref l24] h n _ _
      refine rr_bipush (v := 8) C dL_law_690 (by decide) ?_
      refine rr_iload C dL_law_692 rfl ?_
      refine rr_imul C dL_law_694 ?_
      refine rr_ishr C dL_law_695 ?_
      refine rr_sipush (v := 255) C dL_law_696 (by decide) ?_
      refine rr_iand C dL_law_699 ?_
      replace hr := Option.bind_eq_some_iff.mp hr
      obtain ⟨h499, e500, hr⟩ := hr
      refine rr_stI C dL_law_700 e500 ?_
      refine rr_aload C dL_law_701 rfl ?_
      refine rr_bipush (v := 8) C dL_law_703 (by decide) ?_
      refine rr_iload C dL_law_705 rfl ?_
      refine rr_imul C dL_law_707 ?_
      refine rr_iload C dL_law_708 rfl ?_
      refine rr_iadd C dL_law_710 ?_
      replace hr := Option.bind_eq_some_iff.mp hr
      obtain ⟨v501, e502, hr⟩ := hr
      refine rr_ldI C dL_law_711 e502 ?_
      replace hr := Option.bind_eq_some_iff.mp hr
      obtain ⟨h504, er506, hr⟩ := hr
      suffices hj505 : WW W0 G 73 _ _ _ 743 [some (.ref l0), some (.ref l1), some (.int l2), some (.int l3), some (.int l4), some (.int l5), some (.int l6), some (.int l7), some (.int l8), some (.int l9), some (.int l10), some (.int l11), some (.int l12), some (.int l13), some (.int l14), some (.int l15), some (.int l16), some (.int l17), none, some (.long l19), none, some (.ref l21), some (.ref l22), some (.ref l23), some (.ref l24), some (.int l25), none, some (.int l27), none, none, none, none, none, none, none, none, none, none, none, none, none, none, none, none, none, none, none, none, none, none, none, none, none, none, none, none, none, none, none, none, none, none, none, none, none, none, none, none, none, none, none, none, none] [] h504 n (0) (0) from by
        have hr := er506
        refine rr_if_le (tgt := 743) C dL_law_712 (by decide) (fun c503 => ?_) (fun c503 => ?_)
        · replace hr := (if_pos c503).symm.trans hr
          cases hr
          exact rr_keep [true, true, true, true, true, true, true, true, true, true, true, true, true, true, true, true, true, true, false, true, false, true, true, true, true, true, false, true, false, false, false, false, false, false, false, false, false, false, false, false, false, false, false, false, false, false, false, false, false, false, false, false, false, false, false, false, false, false, false, false, false, false, false, false, false, false, false, false, false, false, false, false, false] hj505
        · replace hr := (if_neg c503).symm.trans hr
          refine rr_aload_n (i := 1) C dL_law_715 rfl rfl ?_
          refine rr_iconst (v := 0) C dL_law_716 (by decide) ?_
          refine rr_iload C dL_law_717 rfl ?_
          refine rr_bipush (v := 11) C dL_law_719 (by decide) ?_
          refine rr_iload C dL_law_721 rfl ?_
          refine rr_iadd C dL_law_723 ?_
          refine rr_aload C dL_law_724 rfl ?_
          refine rr_bipush (v := 8) C dL_law_726 (by decide) ?_
          refine rr_iload C dL_law_728 rfl ?_
          refine rr_imul C dL_law_730 ?_
          refine rr_iload C dL_law_731 rfl ?_
          refine rr_iadd C dL_law_733 ?_
          replace hr := Option.bind_eq_some_iff.mp hr
          obtain ⟨v507, e508, hr⟩ := hr
          refine rr_ldI C dL_law_734 e508 ?_
          replace hr := Option.bind_eq_some_iff.mp hr
          obtain ⟨u509, e510, hr⟩ := hr
          replace hr := Option.bind_eq_some_iff.mp hr
          obtain ⟨v511, e512, hr⟩ := hr
          refine rr_callVq (as := [.int 0, .int l25, .int (11 + l27), .int v507]) (st := []) (mc' := 0) (ms' := 0) C dL_law_735 iv_L_95 (by decide) e510 rfl (Nat.le_of_ble_eq_true rfl) (c_X10_fact l1 0 l25 (11 + l27) v507 (by omega) e512) (fun v_ h_ n_ q_ => ?_)
          obtain ⟨q1_, q2_, q3_⟩ := q_
          subst v_; subst h_; subst n_
          show WW W0 G 73 _ _ _ 738 [some (.ref l0), some (.ref l1), some (.int l2), some (.int l3), some (.int l4), some (.int l5), some (.int l6), some (.int l7), some (.int l8), some (.int l9), some (.int l10), some (.int l11), some (.int l12), some (.int l13), some (.int l14), some (.int l15), some (.int l16), some (.int l17), none, some (.long l19), none, some (.ref l21), some (.ref l22), some (.ref l23), some (.ref l24), some (.int l25), none, some (.int l27), none, none, none, none, none, none, none, none, none, none, none, none, none, none, none, none, none, none, none, none, none, none, none, none, none, none, none, none, none, none, none, none, none, none, none, none, none, none, none, none, none, none, none, none, none] [.int v511.1] v511.2 n _ _
          obtain ⟨c513, hr⟩ := ite_nn hr
          refine rr_if_ge (tgt := 743) C dL_law_738 (by decide) (fun _ => ?_) (fun q_ => absurd c513 q_)
          cases hr
          exact rr_keep [true, true, true, true, true, true, true, true, true, true, true, true, true, true, true, true, true, true, false, true, false, true, true, true, true, true, false, true, false, false, false, false, false, false, false, false, false, false, false, false, false, false, false, false, false, false, false, false, false, false, false, false, false, false, false, false, false, false, false, false, false, false, false, false, false, false, false, false, false, false, false, false, false] hj505
      refine rr_iinc (v := l27 + 1) C dL_law_743 rfl rfl ?_
      show WW W0 G 73 _ _ _ 746 [some (.ref l0), some (.ref l1), some (.int l2), some (.int l3), some (.int l4), some (.int l5), some (.int l6), some (.int l7), some (.int l8), some (.int l9), some (.int l10), some (.int l11), some (.int l12), some (.int l13), some (.int l14), some (.int l15), some (.int l16), some (.int l17), none, some (.long l19), none, some (.ref l21), some (.ref l22), some (.ref l23), some (.ref l24), some (.int l25), none, some (.int (l27 + 1)), none, none, none, none, none, none, none, none, none, none, none, none, none, none, none, none, none, none, none, none, none, none, none, none, none, none, none, none, none, none, none, none, none, none, none, none, none, none, none, none, none, none, none, none, none] [] h504 n _ _
      refine rr_goto (tgt := 665) C dL_law_746 (by decide) ?_
      exact rr_keep [true, true, true, true, true, true, true, true, true, true, true, true, true, true, true, true, true, true, false, true, false, true, true, true, true, true, false, true, false, false, false, false, false, false, false, false, false, false, false, false, false, false, false, false, false, false, false, false, false, false, false, false, false, false, false, false, false, false, false, false, false, false, false, false, false, false, false, false, false, false, false, false, false] (ih_ _ _ hr hx0)
set_option maxRecDepth 100000 in
set_option maxHeartbeats 4000000 in
theorem w_L_law_512 {K : Nat} {W0 : mm_X} {G : mm_G} {mc ms kc ks : Nat} {Q_ : State → Prop} {n : Nat} (C : mm_C W0 G cL_law yL_law.cls 73 mc ms (some .boolean) 300 yL_law.name) (hn : 48 ≤ n) (l0 : Nat) (l1 : Nat) (l2 : Int32) (l3 : Int32) (l4 : Int32) (l5 : Int32) (l6 : Int32) (l7 : Int32) (l8 : Int32) (l9 : Int32) (l10 : Int32) (l11 : Int32) (l12 : Int32) (l13 : Int32) (l14 : Int32) (l15 : Int32) (l16 : Int32) (l17 : Int32) (l19 : Int64) (l21 : Nat) (l22 : Nat) (l23 : Nat) (l24 : Nat) : ∀ (k_ : Nat) (l25 : Int32) (h : mm_H) {r_ : mm_H} (hr : lp_L_law_512 K n l0 l1 l2 l3 l4 l5 l6 l7 l8 l9 l10 l11 l12 l13 l14 l15 l16 l17 l19 l21 l22 l23 l24 k_ l25 h = some r_) (hx0 : WW W0 G 73 mc ms Q_ 755 [some (.ref l0), some (.ref l1), some (.int l2), some (.int l3), some (.int l4), some (.int l5), some (.int l6), some (.int l7), some (.int l8), some (.int l9), some (.int l10), some (.int l11), some (.int l12), some (.int l13), some (.int l14), some (.int l15), some (.int l16), some (.int l17), none, some (.long l19), none, some (.ref l21), some (.ref l22), some (.ref l23), some (.ref l24), none, none, none, none, none, none, none, none, none, none, none, none, none, none, none, none, none, none, none, none, none, none, none, none, none, none, none, none, none, none, none, none, none, none, none, none, none, none, none, none, none, none, none, none, none, none, none, none] [] r_ n kc ks), WW W0 G 73 mc ms Q_ 512 [some (.ref l0), some (.ref l1), some (.int l2), some (.int l3), some (.int l4), some (.int l5), some (.int l6), some (.int l7), some (.int l8), some (.int l9), some (.int l10), some (.int l11), some (.int l12), some (.int l13), some (.int l14), some (.int l15), some (.int l16), some (.int l17), none, some (.long l19), none, some (.ref l21), some (.ref l22), some (.ref l23), some (.ref l24), some (.int l25), none, none, none, none, none, none, none, none, none, none, none, none, none, none, none, none, none, none, none, none, none, none, none, none, none, none, none, none, none, none, none, none, none, none, none, none, none, none, none, none, none, none, none, none, none, none, none] [] h n kc ks := by
  intro k_
  induction k_ with
  | zero =>
    intro l25 h r_ hr
    cases hr
  | succ k_ ih_ =>
    intro l25 h r_ hr hx0
    unfold lp_L_law_512 at hr
    refine rr_iload C dL_law_512 rfl ?_
    refine rr_iconst (v := 5) C dL_law_514 (by decide) ?_
    refine rr_icmp_ge (tgt := 755) C dL_law_515 (by decide) (fun c515_ => ?_) (fun c515_ => ?_)
    · replace hr := (if_pos c515_).symm.trans hr
      obtain rfl := Option.some.inj hr
      exact rr_keep [true, true, true, true, true, true, true, true, true, true, true, true, true, true, true, true, true, true, false, true, false, true, true, true, true, false, false, false, false, false, false, false, false, false, false, false, false, false, false, false, false, false, false, false, false, false, false, false, false, false, false, false, false, false, false, false, false, false, false, false, false, false, false, false, false, false, false, false, false, false, false, false, false] (hx0)
    · replace hr := (if_neg c515_).symm.trans hr
      refine rr_aload_n (i := 0) C dL_law_518 rfl rfl ?_
      refine rr_iconst (v := 4) C dL_law_519 (by decide) ?_
      refine rr_iload C dL_law_520 rfl ?_
      refine rr_iadd C dL_law_522 ?_
      replace hr := Option.bind_eq_some_iff.mp hr
      obtain ⟨v447, e448, hr⟩ := hr
      refine rr_callS (as := [.ref l0, .int (4 + l25)]) (st := []) (mc' := 0) (ms' := 0) C dL_law_523 it_L_24 (by decide) (Nat.le_of_ble_eq_true rfl) (c_L_cell (some l0) (4 + l25) (by omega) e448) (fun v_ h_ n_ q_ => ?_)
      obtain ⟨q1_, q2_, q3_⟩ := q_
      subst v_; subst h_; subst n_
      show WW W0 G 73 _ _ _ 526 [some (.ref l0), some (.ref l1), some (.int l2), some (.int l3), some (.int l4), some (.int l5), some (.int l6), some (.int l7), some (.int l8), some (.int l9), some (.int l10), some (.int l11), some (.int l12), some (.int l13), some (.int l14), some (.int l15), some (.int l16), some (.int l17), none, some (.long l19), none, some (.ref l21), some (.ref l22), some (.ref l23), some (.ref l24), some (.int l25), none, none, none, none, none, none, none, none, none, none, none, none, none, none, none, none, none, none, none, none, none, none, none, none, none, none, none, none, none, none, none, none, none, none, none, none, none, none, none, none, none, none, none, none, none, none, none] [.int v447] h n _ _
      refine rr_istore C dL_law_526 (by decide) ?_
      show WW W0 G 73 _ _ _ 528 [some (.ref l0), some (.ref l1), some (.int l2), some (.int l3), some (.int l4), some (.int l5), some (.int l6), some (.int l7), some (.int l8), some (.int l9), some (.int l10), some (.int l11), some (.int l12), some (.int l13), some (.int l14), some (.int l15), some (.int l16), some (.int l17), none, some (.long l19), none, some (.ref l21), some (.ref l22), some (.ref l23), some (.ref l24), some (.int l25), some (.int v447), none, none, none, none, none, none, none, none, none, none, none, none, none, none, none, none, none, none, none, none, none, none, none, none, none, none, none, none, none, none, none, none, none, none, none, none, none, none, none, none, none, none, none, none, none, none] [] h n _ _
      refine rr_aload C dL_law_528 rfl ?_
      refine rr_iload C dL_law_530 rfl ?_
      refine rr_iload C dL_law_532 rfl ?_
      refine rr_sipush (v := 1023) C dL_law_534 (by decide) ?_
      refine rr_iand C dL_law_537 ?_
      replace hr := Option.bind_eq_some_iff.mp hr
      obtain ⟨h449, e450, hr⟩ := hr
      refine rr_stI C dL_law_538 e450 ?_
      refine rr_aload C dL_law_539 rfl ?_
      refine rr_iload C dL_law_541 rfl ?_
      refine rr_iload C dL_law_543 rfl ?_
      refine rr_bipush (v := 10) C dL_law_545 (by decide) ?_
      refine rr_ishr C dL_law_547 ?_
      refine rr_iconst (v := 3) C dL_law_548 (by decide) ?_
      refine rr_iand C dL_law_549 ?_
      replace hr := Option.bind_eq_some_iff.mp hr
      obtain ⟨y452, er454, hr⟩ := hr
      suffices hj453 : WW W0 G 73 _ _ _ 566 [some (.ref l0), some (.ref l1), some (.int l2), some (.int l3), some (.int l4), some (.int l5), some (.int l6), some (.int l7), some (.int l8), some (.int l9), some (.int l10), some (.int l11), some (.int l12), some (.int l13), some (.int l14), some (.int l15), some (.int l16), some (.int l17), none, some (.long l19), none, some (.ref l21), some (.ref l22), some (.ref l23), some (.ref l24), some (.int l25), some (.int v447), none, none, none, none, none, none, none, none, none, none, none, none, none, none, none, none, none, none, none, none, none, none, none, none, none, none, none, none, none, none, none, none, none, none, none, none, none, none, none, none, none, none, none, none, none, none] [.int y452, .int l25, .ref l21] h449 n (0) (0) from by
        have hr := er454
        refine rr_if_ne (tgt := 557) C dL_law_550 (by decide) (fun c451 => ?_) (fun c451 => ?_)
        · replace hr := (if_neg c451).symm.trans hr
          refine rr_iload C dL_law_557 rfl ?_
          refine rr_bipush (v := 12) C dL_law_559 (by decide) ?_
          refine rr_ishr C dL_law_561 ?_
          refine rr_sipush (v := 1023) C dL_law_562 (by decide) ?_
          refine rr_iand C dL_law_565 ?_
          cases hr
          exact rr_keep [true, true, true, true, true, true, true, true, true, true, true, true, true, true, true, true, true, true, false, true, false, true, true, true, true, true, true, false, false, false, false, false, false, false, false, false, false, false, false, false, false, false, false, false, false, false, false, false, false, false, false, false, false, false, false, false, false, false, false, false, false, false, false, false, false, false, false, false, false, false, false, false, false] hj453
        · replace hr := (if_pos c451).symm.trans hr
          refine rr_iconst (v := (-1)) C dL_law_553 (by decide) ?_
          refine rr_goto (tgt := 566) C dL_law_554 (by decide) ?_
          cases hr
          exact rr_keep [true, true, true, true, true, true, true, true, true, true, true, true, true, true, true, true, true, true, false, true, false, true, true, true, true, true, true, false, false, false, false, false, false, false, false, false, false, false, false, false, false, false, false, false, false, false, false, false, false, false, false, false, false, false, false, false, false, false, false, false, false, false, false, false, false, false, false, false, false, false, false, false, false] hj453
      replace hr := Option.bind_eq_some_iff.mp hr
      obtain ⟨h455, e456, hr⟩ := hr
      refine rr_stI C dL_law_566 e456 ?_
      refine rr_aload C dL_law_567 rfl ?_
      refine rr_iload C dL_law_569 rfl ?_
      refine rr_iload C dL_law_571 rfl ?_
      refine rr_bipush (v := 22) C dL_law_573 (by decide) ?_
      refine rr_ishr C dL_law_575 ?_
      refine rr_iconst (v := 3) C dL_law_576 (by decide) ?_
      refine rr_iand C dL_law_577 ?_
      replace hr := Option.bind_eq_some_iff.mp hr
      obtain ⟨y458, er460, hr⟩ := hr
      suffices hj459 : WW W0 G 73 _ _ _ 593 [some (.ref l0), some (.ref l1), some (.int l2), some (.int l3), some (.int l4), some (.int l5), some (.int l6), some (.int l7), some (.int l8), some (.int l9), some (.int l10), some (.int l11), some (.int l12), some (.int l13), some (.int l14), some (.int l15), some (.int l16), some (.int l17), none, some (.long l19), none, some (.ref l21), some (.ref l22), some (.ref l23), some (.ref l24), some (.int l25), none, none, none, none, none, none, none, none, none, none, none, none, none, none, none, none, none, none, none, none, none, none, none, none, none, none, none, none, none, none, none, none, none, none, none, none, none, none, none, none, none, none, none, none, none, none, none] [.int y458, .int l25, .ref l23] h455 n (0) (0) from by
        have hr := er460
        refine rr_if_ne (tgt := 585) C dL_law_578 (by decide) (fun c457 => ?_) (fun c457 => ?_)
        · replace hr := (if_neg c457).symm.trans hr
          refine rr_iload C dL_law_585 rfl ?_
          refine rr_bipush (v := 24) C dL_law_587 (by decide) ?_
          refine rr_ishr C dL_law_589 ?_
          refine rr_bipush (v := 127) C dL_law_590 (by decide) ?_
          refine rr_iand C dL_law_592 ?_
          cases hr
          exact rr_keep [true, true, true, true, true, true, true, true, true, true, true, true, true, true, true, true, true, true, false, true, false, true, true, true, true, true, false, false, false, false, false, false, false, false, false, false, false, false, false, false, false, false, false, false, false, false, false, false, false, false, false, false, false, false, false, false, false, false, false, false, false, false, false, false, false, false, false, false, false, false, false, false, false] hj459
        · replace hr := (if_pos c457).symm.trans hr
          refine rr_iconst (v := (-1)) C dL_law_581 (by decide) ?_
          refine rr_goto (tgt := 593) C dL_law_582 (by decide) ?_
          cases hr
          exact rr_keep [true, true, true, true, true, true, true, true, true, true, true, true, true, true, true, true, true, true, false, true, false, true, true, true, true, true, false, false, false, false, false, false, false, false, false, false, false, false, false, false, false, false, false, false, false, false, false, false, false, false, false, false, false, false, false, false, false, false, false, false, false, false, false, false, false, false, false, false, false, false, false, false, false] hj459
      replace hr := Option.bind_eq_some_iff.mp hr
      obtain ⟨h461, e462, hr⟩ := hr
      refine rr_stI C dL_law_593 e462 ?_
      refine rr_aload_n (i := 1) C dL_law_594 rfl rfl ?_
      refine rr_iconst (v := 0) C dL_law_595 (by decide) ?_
      refine rr_iload C dL_law_596 rfl ?_
      refine rr_bipush (v := 7) C dL_law_598 (by decide) ?_
      refine rr_aload C dL_law_600 rfl ?_
      refine rr_iload C dL_law_602 rfl ?_
      replace hr := Option.bind_eq_some_iff.mp hr
      obtain ⟨v463, e464, hr⟩ := hr
      refine rr_ldI C dL_law_604 e464 ?_
      replace hr := Option.bind_eq_some_iff.mp hr
      obtain ⟨u465, e466, hr⟩ := hr
      replace hr := Option.bind_eq_some_iff.mp hr
      obtain ⟨v467, e468, hr⟩ := hr
      refine rr_callVq (as := [.int 0, .int l25, .int 7, .int v463]) (st := []) (mc' := 0) (ms' := 0) C dL_law_605 iv_L_95 (by decide) e466 rfl (Nat.le_of_ble_eq_true rfl) (c_X10_fact l1 0 l25 7 v463 (by omega) e468) (fun v_ h_ n_ q_ => ?_)
      obtain ⟨q1_, q2_, q3_⟩ := q_
      subst v_; subst h_; subst n_
      show WW W0 G 73 _ _ _ 608 [some (.ref l0), some (.ref l1), some (.int l2), some (.int l3), some (.int l4), some (.int l5), some (.int l6), some (.int l7), some (.int l8), some (.int l9), some (.int l10), some (.int l11), some (.int l12), some (.int l13), some (.int l14), some (.int l15), some (.int l16), some (.int l17), none, some (.long l19), none, some (.ref l21), some (.ref l22), some (.ref l23), some (.ref l24), some (.int l25), none, none, none, none, none, none, none, none, none, none, none, none, none, none, none, none, none, none, none, none, none, none, none, none, none, none, none, none, none, none, none, none, none, none, none, none, none, none, none, none, none, none, none, none, none, none, none] [.int v467.1] v467.2 n _ _
      obtain ⟨c469, hr⟩ := ite_n hr
      refine rr_if_lt (tgt := 660) C dL_law_608 (by decide) (fun q_ => absurd q_ c469) (fun _ => ?_)
      refine rr_aload C dL_law_611 rfl ?_
      refine rr_iload C dL_law_613 rfl ?_
      replace hr := Option.bind_eq_some_iff.mp hr
      obtain ⟨v470, e471, hr⟩ := hr
      refine rr_ldI C dL_law_615 e471 ?_
      replace hr := Option.bind_eq_some_iff.mp hr
      obtain ⟨h473, er475, hr⟩ := hr
      suffices hj474 : WW W0 G 73 _ _ _ 635 [some (.ref l0), some (.ref l1), some (.int l2), some (.int l3), some (.int l4), some (.int l5), some (.int l6), some (.int l7), some (.int l8), some (.int l9), some (.int l10), some (.int l11), some (.int l12), some (.int l13), some (.int l14), some (.int l15), some (.int l16), some (.int l17), none, some (.long l19), none, some (.ref l21), some (.ref l22), some (.ref l23), some (.ref l24), some (.int l25), none, none, none, none, none, none, none, none, none, none, none, none, none, none, none, none, none, none, none, none, none, none, none, none, none, none, none, none, none, none, none, none, none, none, none, none, none, none, none, none, none, none, none, none, none, none, none] [] h473 n (0) (0) from by
        have hr := er475
        refine rr_if_lt (tgt := 635) C dL_law_616 (by decide) (fun c472 => ?_) (fun c472 => ?_)
        · replace hr := (if_pos c472).symm.trans hr
          cases hr
          exact rr_keep [true, true, true, true, true, true, true, true, true, true, true, true, true, true, true, true, true, true, false, true, false, true, true, true, true, true, false, false, false, false, false, false, false, false, false, false, false, false, false, false, false, false, false, false, false, false, false, false, false, false, false, false, false, false, false, false, false, false, false, false, false, false, false, false, false, false, false, false, false, false, false, false, false] hj474
        · replace hr := (if_neg c472).symm.trans hr
          refine rr_aload_n (i := 1) C dL_law_619 rfl rfl ?_
          refine rr_iconst (v := 0) C dL_law_620 (by decide) ?_
          refine rr_iload C dL_law_621 rfl ?_
          refine rr_iconst (v := 3) C dL_law_623 (by decide) ?_
          refine rr_aload C dL_law_624 rfl ?_
          refine rr_iload C dL_law_626 rfl ?_
          replace hr := Option.bind_eq_some_iff.mp hr
          obtain ⟨v476, e477, hr⟩ := hr
          refine rr_ldI C dL_law_628 e477 ?_
          replace hr := Option.bind_eq_some_iff.mp hr
          obtain ⟨u478, e479, hr⟩ := hr
          replace hr := Option.bind_eq_some_iff.mp hr
          obtain ⟨v480, e481, hr⟩ := hr
          refine rr_callVq (as := [.int 0, .int l25, .int 3, .int v476]) (st := []) (mc' := 0) (ms' := 0) C dL_law_629 iv_L_95 (by decide) e479 rfl (Nat.le_of_ble_eq_true rfl) (c_X10_fact l1 0 l25 3 v476 (by omega) e481) (fun v_ h_ n_ q_ => ?_)
          obtain ⟨q1_, q2_, q3_⟩ := q_
          subst v_; subst h_; subst n_
          show WW W0 G 73 _ _ _ 632 [some (.ref l0), some (.ref l1), some (.int l2), some (.int l3), some (.int l4), some (.int l5), some (.int l6), some (.int l7), some (.int l8), some (.int l9), some (.int l10), some (.int l11), some (.int l12), some (.int l13), some (.int l14), some (.int l15), some (.int l16), some (.int l17), none, some (.long l19), none, some (.ref l21), some (.ref l22), some (.ref l23), some (.ref l24), some (.int l25), none, none, none, none, none, none, none, none, none, none, none, none, none, none, none, none, none, none, none, none, none, none, none, none, none, none, none, none, none, none, none, none, none, none, none, none, none, none, none, none, none, none, none, none, none, none, none] [.int v480.1] v480.2 n _ _
          obtain ⟨c482, hr⟩ := ite_n hr
          refine rr_if_lt (tgt := 660) C dL_law_632 (by decide) (fun q_ => absurd q_ c482) (fun _ => ?_)
          cases hr
          exact rr_keep [true, true, true, true, true, true, true, true, true, true, true, true, true, true, true, true, true, true, false, true, false, true, true, true, true, true, false, false, false, false, false, false, false, false, false, false, false, false, false, false, false, false, false, false, false, false, false, false, false, false, false, false, false, false, false, false, false, false, false, false, false, false, false, false, false, false, false, false, false, false, false, false, false] hj474
      refine rr_aload C dL_law_635 rfl ?_
      refine rr_iload C dL_law_637 rfl ?_
      replace hr := Option.bind_eq_some_iff.mp hr
      obtain ⟨v483, e484, hr⟩ := hr
      refine rr_ldI C dL_law_639 e484 ?_
      replace hr := Option.bind_eq_some_iff.mp hr
      obtain ⟨h486, er488, hr⟩ := hr
      suffices hj487 : WW W0 G 73 _ _ _ 662 [some (.ref l0), some (.ref l1), some (.int l2), some (.int l3), some (.int l4), some (.int l5), some (.int l6), some (.int l7), some (.int l8), some (.int l9), some (.int l10), some (.int l11), some (.int l12), some (.int l13), some (.int l14), some (.int l15), some (.int l16), some (.int l17), none, some (.long l19), none, some (.ref l21), some (.ref l22), some (.ref l23), some (.ref l24), some (.int l25), none, none, none, none, none, none, none, none, none, none, none, none, none, none, none, none, none, none, none, none, none, none, none, none, none, none, none, none, none, none, none, none, none, none, none, none, none, none, none, none, none, none, none, none, none, none, none] [] h486 n (0) (0) from by
        have hr := er488
        refine rr_if_lt (tgt := 662) C dL_law_640 (by decide) (fun c485 => ?_) (fun c485 => ?_)
        · replace hr := (if_pos c485).symm.trans hr
          cases hr
          exact rr_keep [true, true, true, true, true, true, true, true, true, true, true, true, true, true, true, true, true, true, false, true, false, true, true, true, true, true, false, false, false, false, false, false, false, false, false, false, false, false, false, false, false, false, false, false, false, false, false, false, false, false, false, false, false, false, false, false, false, false, false, false, false, false, false, false, false, false, false, false, false, false, false, false, false] hj487
        · replace hr := (if_neg c485).symm.trans hr
          refine rr_aload_n (i := 1) C dL_law_643 rfl rfl ?_
          refine rr_iconst (v := 0) C dL_law_644 (by decide) ?_
          refine rr_iload C dL_law_645 rfl ?_
          refine rr_bipush (v := 15) C dL_law_647 (by decide) ?_
          refine rr_aload C dL_law_649 rfl ?_
          refine rr_iload C dL_law_651 rfl ?_
          replace hr := Option.bind_eq_some_iff.mp hr
          obtain ⟨v489, e490, hr⟩ := hr
          refine rr_ldI C dL_law_653 e490 ?_
          replace hr := Option.bind_eq_some_iff.mp hr
          obtain ⟨u491, e492, hr⟩ := hr
          replace hr := Option.bind_eq_some_iff.mp hr
          obtain ⟨v493, e494, hr⟩ := hr
          refine rr_callVq (as := [.int 0, .int l25, .int 15, .int v489]) (st := []) (mc' := 0) (ms' := 0) C dL_law_654 iv_L_95 (by decide) e492 rfl (Nat.le_of_ble_eq_true rfl) (c_X10_fact l1 0 l25 15 v489 (by omega) e494) (fun v_ h_ n_ q_ => ?_)
          obtain ⟨q1_, q2_, q3_⟩ := q_
          subst v_; subst h_; subst n_
          show WW W0 G 73 _ _ _ 657 [some (.ref l0), some (.ref l1), some (.int l2), some (.int l3), some (.int l4), some (.int l5), some (.int l6), some (.int l7), some (.int l8), some (.int l9), some (.int l10), some (.int l11), some (.int l12), some (.int l13), some (.int l14), some (.int l15), some (.int l16), some (.int l17), none, some (.long l19), none, some (.ref l21), some (.ref l22), some (.ref l23), some (.ref l24), some (.int l25), none, none, none, none, none, none, none, none, none, none, none, none, none, none, none, none, none, none, none, none, none, none, none, none, none, none, none, none, none, none, none, none, none, none, none, none, none, none, none, none, none, none, none, none, none, none, none] [.int v493.1] v493.2 n _ _
          obtain ⟨c495, hr⟩ := ite_nn hr
          refine rr_if_ge (tgt := 662) C dL_law_657 (by decide) (fun _ => ?_) (fun q_ => absurd c495 q_)
          cases hr
          exact rr_keep [true, true, true, true, true, true, true, true, true, true, true, true, true, true, true, true, true, true, false, true, false, true, true, true, true, true, false, false, false, false, false, false, false, false, false, false, false, false, false, false, false, false, false, false, false, false, false, false, false, false, false, false, false, false, false, false, false, false, false, false, false, false, false, false, false, false, false, false, false, false, false, false, false] hj487
      refine rr_iconst (v := 0) C dL_law_662 (by decide) ?_
      refine rr_istore C dL_law_663 (by decide) ?_
      show WW W0 G 73 _ _ _ 665 [some (.ref l0), some (.ref l1), some (.int l2), some (.int l3), some (.int l4), some (.int l5), some (.int l6), some (.int l7), some (.int l8), some (.int l9), some (.int l10), some (.int l11), some (.int l12), some (.int l13), some (.int l14), some (.int l15), some (.int l16), some (.int l17), none, some (.long l19), none, some (.ref l21), some (.ref l22), some (.ref l23), some (.ref l24), some (.int l25), none, some (.int 0), none, none, none, none, none, none, none, none, none, none, none, none, none, none, none, none, none, none, none, none, none, none, none, none, none, none, none, none, none, none, none, none, none, none, none, none, none, none, none, none, none, none, none, none, none] [] h486 n _ _
      replace hr := Option.bind_eq_some_iff.mp hr
      obtain ⟨v514, e515, hr⟩ := hr
      refine rr_keep [true, true, true, true, true, true, true, true, true, true, true, true, true, true, true, true, true, true, false, true, false, true, true, true, true, true, false, true, false, false, false, false, false, false, false, false, false, false, false, false, false, false, false, false, false, false, false, false, false, false, false, false, false, false, false, false, false, false, false, false, false, false, false, false, false, false, false, false, false, false, false, false, false] (w_L_law_665 C (by omega) l0 l1 l2 l3 l4 l5 l6 l7 l8 l9 l10 l11 l12 l13 l14 l15 l16 l17 l19 l21 l22 l23 l24 l25 K 0 h486 e515 ?_)
      show WW W0 G 73 _ _ _ 749 [some (.ref l0), some (.ref l1), some (.int l2), some (.int l3), some (.int l4), some (.int l5), some (.int l6), some (.int l7), some (.int l8), some (.int l9), some (.int l10), some (.int l11), some (.int l12), some (.int l13), some (.int l14), some (.int l15), some (.int l16), some (.int l17), none, some (.long l19), none, some (.ref l21), some (.ref l22), some (.ref l23), some (.ref l24), some (.int l25), none, none, none, none, none, none, none, none, none, none, none, none, none, none, none, none, none, none, none, none, none, none, none, none, none, none, none, none, none, none, none, none, none, none, none, none, none, none, none, none, none, none, none, none, none, none, none] [] v514 n _ _
      refine rr_iinc (v := l25 + 1) C dL_law_749 rfl rfl ?_
      show WW W0 G 73 _ _ _ 752 [some (.ref l0), some (.ref l1), some (.int l2), some (.int l3), some (.int l4), some (.int l5), some (.int l6), some (.int l7), some (.int l8), some (.int l9), some (.int l10), some (.int l11), some (.int l12), some (.int l13), some (.int l14), some (.int l15), some (.int l16), some (.int l17), none, some (.long l19), none, some (.ref l21), some (.ref l22), some (.ref l23), some (.ref l24), some (.int (l25 + 1)), none, none, none, none, none, none, none, none, none, none, none, none, none, none, none, none, none, none, none, none, none, none, none, none, none, none, none, none, none, none, none, none, none, none, none, none, none, none, none, none, none, none, none, none, none, none, none] [] v514 n _ _
      refine rr_goto (tgt := 512) C dL_law_752 (by decide) ?_
      exact rr_keep [true, true, true, true, true, true, true, true, true, true, true, true, true, true, true, true, true, true, false, true, false, true, true, true, true, true, false, false, false, false, false, false, false, false, false, false, false, false, false, false, false, false, false, false, false, false, false, false, false, false, false, false, false, false, false, false, false, false, false, false, false, false, false, false, false, false, false, false, false, false, false, false, false] (ih_ _ _ hr hx0)
set_option maxRecDepth 100000 in
set_option maxHeartbeats 4000000 in
theorem w_L_law_786 {K : Nat} {W0 : mm_X} {G : mm_G} {mc ms kc ks : Nat} {Q_ : State → Prop} {n : Nat} (C : mm_C W0 G cL_law yL_law.cls 73 mc ms (some .boolean) 300 yL_law.name) (hn : 48 ≤ n) (l0 : Nat) (l1 : Nat) (l2 : Int32) (l3 : Int32) (l4 : Int32) (l5 : Int32) (l6 : Int32) (l7 : Int32) (l8 : Int32) (l9 : Int32) (l10 : Int32) (l11 : Int32) (l12 : Int32) (l13 : Int32) (l14 : Int32) (l15 : Int32) (l16 : Int32) (l17 : Int32) (l19 : Int64) (l21 : Nat) (l22 : Nat) (l23 : Nat) (l24 : Nat) (l25 : Nat) (l26 : Nat) (l27 : Nat) (l28 : Int32) : ∀ (k_ : Nat) (l29 : Int32) (h : mm_H) {r_ : mm_H} (hr : lp_L_law_786 K n l0 l1 l2 l3 l4 l5 l6 l7 l8 l9 l10 l11 l12 l13 l14 l15 l16 l17 l19 l21 l22 l23 l24 l25 l26 l27 l28 k_ l29 h = some r_) (hx0 : WW W0 G 73 mc ms Q_ 868 [some (.ref l0), some (.ref l1), some (.int l2), some (.int l3), some (.int l4), some (.int l5), some (.int l6), some (.int l7), some (.int l8), some (.int l9), some (.int l10), some (.int l11), some (.int l12), some (.int l13), some (.int l14), some (.int l15), some (.int l16), some (.int l17), none, some (.long l19), none, some (.ref l21), some (.ref l22), some (.ref l23), some (.ref l24), some (.ref l25), some (.ref l26), some (.ref l27), some (.int l28), none, none, none, none, none, none, none, none, none, none, none, none, none, none, none, none, none, none, none, none, none, none, none, none, none, none, none, none, none, none, none, none, none, none, none, none, none, none, none, none, none, none, none, none] [] r_ n kc ks), WW W0 G 73 mc ms Q_ 786 [some (.ref l0), some (.ref l1), some (.int l2), some (.int l3), some (.int l4), some (.int l5), some (.int l6), some (.int l7), some (.int l8), some (.int l9), some (.int l10), some (.int l11), some (.int l12), some (.int l13), some (.int l14), some (.int l15), some (.int l16), some (.int l17), none, some (.long l19), none, some (.ref l21), some (.ref l22), some (.ref l23), some (.ref l24), some (.ref l25), some (.ref l26), some (.ref l27), some (.int l28), some (.int l29), none, none, none, none, none, none, none, none, none, none, none, none, none, none, none, none, none, none, none, none, none, none, none, none, none, none, none, none, none, none, none, none, none, none, none, none, none, none, none, none, none, none, none] [] h n kc ks := by
  intro k_
  induction k_ with
  | zero =>
    intro l29 h r_ hr
    cases hr
  | succ k_ ih_ =>
    intro l29 h r_ hr hx0
    unfold lp_L_law_786 at hr
    refine rr_iload C dL_law_786 rfl ?_
    refine rr_iload C dL_law_788 rfl ?_
    refine rr_icmp_ge (tgt := 868) C dL_law_790 (by decide) (fun c790_ => ?_) (fun c790_ => ?_)
    · replace hr := (if_pos c790_).symm.trans hr
      obtain rfl := Option.some.inj hr
      exact rr_keep [true, true, true, true, true, true, true, true, true, true, true, true, true, true, true, true, true, true, false, true, false, true, true, true, true, true, true, true, true, false, false, false, false, false, false, false, false, false, false, false, false, false, false, false, false, false, false, false, false, false, false, false, false, false, false, false, false, false, false, false, false, false, false, false, false, false, false, false, false, false, false, false, false] (hx0)
    · replace hr := (if_neg c790_).symm.trans hr
      refine rr_aload_n (i := 0) C dL_law_793 rfl rfl ?_
      refine rr_bipush (v := 15) C dL_law_794 (by decide) ?_
      refine rr_iload C dL_law_796 rfl ?_
      refine rr_iadd C dL_law_798 ?_
      replace hr := Option.bind_eq_some_iff.mp hr
      obtain ⟨v529, e530, hr⟩ := hr
      refine rr_callS (as := [.ref l0, .int (15 + l29)]) (st := []) (mc' := 0) (ms' := 0) C dL_law_799 it_L_24 (by decide) (Nat.le_of_ble_eq_true rfl) (c_L_cell (some l0) (15 + l29) (by omega) e530) (fun v_ h_ n_ q_ => ?_)
      obtain ⟨q1_, q2_, q3_⟩ := q_
      subst v_; subst h_; subst n_
      show WW W0 G 73 _ _ _ 802 [some (.ref l0), some (.ref l1), some (.int l2), some (.int l3), some (.int l4), some (.int l5), some (.int l6), some (.int l7), some (.int l8), some (.int l9), some (.int l10), some (.int l11), some (.int l12), some (.int l13), some (.int l14), some (.int l15), some (.int l16), some (.int l17), none, some (.long l19), none, some (.ref l21), some (.ref l22), some (.ref l23), some (.ref l24), some (.ref l25), some (.ref l26), some (.ref l27), some (.int l28), some (.int l29), none, none, none, none, none, none, none, none, none, none, none, none, none, none, none, none, none, none, none, none, none, none, none, none, none, none, none, none, none, none, none, none, none, none, none, none, none, none, none, none, none, none, none] [.int v529] h n _ _
      refine rr_istore C dL_law_802 (by decide) ?_
      show WW W0 G 73 _ _ _ 804 [some (.ref l0), some (.ref l1), some (.int l2), some (.int l3), some (.int l4), some (.int l5), some (.int l6), some (.int l7), some (.int l8), some (.int l9), some (.int l10), some (.int l11), some (.int l12), some (.int l13), some (.int l14), some (.int l15), some (.int l16), some (.int l17), none, some (.long l19), none, some (.ref l21), some (.ref l22), some (.ref l23), some (.ref l24), some (.ref l25), some (.ref l26), some (.ref l27), some (.int l28), some (.int l29), some (.int v529), none, none, none, none, none, none, none, none, none, none, none, none, none, none, none, none, none, none, none, none, none, none, none, none, none, none, none, none, none, none, none, none, none, none, none, none, none, none, none, none, none, none] [] h n _ _
      refine rr_aload C dL_law_804 rfl ?_
      refine rr_iload C dL_law_806 rfl ?_
      refine rr_iconst (v := 1) C dL_law_808 (by decide) ?_
      refine rr_iload C dL_law_809 rfl ?_
      refine rr_sipush (v := 4095) C dL_law_811 (by decide) ?_
      refine rr_iand C dL_law_814 ?_
      refine rr_iadd C dL_law_815 ?_
      replace hr := Option.bind_eq_some_iff.mp hr
      obtain ⟨h531, e532, hr⟩ := hr
      refine rr_stI C dL_law_816 e532 ?_
      refine rr_aload C dL_law_817 rfl ?_
      refine rr_iload C dL_law_819 rfl ?_
      refine rr_iload C dL_law_821 rfl ?_
      refine rr_bipush (v := 12) C dL_law_823 (by decide) ?_
      refine rr_ishr C dL_law_825 ?_
      refine rr_bipush (v := 7) C dL_law_826 (by decide) ?_
      refine rr_iand C dL_law_828 ?_
      refine rr_iconst (v := 5) C dL_law_829 (by decide) ?_
      refine rr_irem C dL_law_830 (by decide) ?_
      replace hr := Option.bind_eq_some_iff.mp hr
      obtain ⟨h533, e534, hr⟩ := hr
      refine rr_stI C dL_law_831 e534 ?_
      refine rr_aload C dL_law_832 rfl ?_
      refine rr_iload C dL_law_834 rfl ?_
      refine rr_sipush (v := 9999) C dL_law_836 (by decide) ?_
      replace hr := Option.bind_eq_some_iff.mp hr
      obtain ⟨h535, e536, hr⟩ := hr
      refine rr_stI C dL_law_839 e536 ?_
      refine rr_aload_n (i := 1) C dL_law_840 rfl rfl ?_
      refine rr_iconst (v := 0) C dL_law_841 (by decide) ?_
      refine rr_aload C dL_law_842 rfl ?_
      refine rr_iload C dL_law_844 rfl ?_
      replace hr := Option.bind_eq_some_iff.mp hr
      obtain ⟨v537, e538, hr⟩ := hr
      refine rr_ldI C dL_law_846 e538 ?_
      refine rr_aload C dL_law_847 rfl ?_
      refine rr_iload C dL_law_849 rfl ?_
      replace hr := Option.bind_eq_some_iff.mp hr
      obtain ⟨v539, e540, hr⟩ := hr
      refine rr_ldI C dL_law_851 e540 ?_
      replace hr := Option.bind_eq_some_iff.mp hr
      obtain ⟨u541, e542, hr⟩ := hr
      replace hr := Option.bind_eq_some_iff.mp hr
      obtain ⟨v543, e544, hr⟩ := hr
      refine rr_callVq (as := [.int 0, .int v537, .int v539]) (st := []) (mc' := 0) (ms' := 0) C dL_law_852 iv_L_99 (by decide) e542 rfl (Nat.le_of_ble_eq_true rfl) (c_X10_work l1 0 v537 v539 (by omega) e544) (fun v_ h_ n_ q_ => ?_)
      obtain ⟨q1_, q2_, q3_⟩ := q_
      subst v_; subst h_; subst n_
      show WW W0 G 73 _ _ _ 855 [some (.ref l0), some (.ref l1), some (.int l2), some (.int l3), some (.int l4), some (.int l5), some (.int l6), some (.int l7), some (.int l8), some (.int l9), some (.int l10), some (.int l11), some (.int l12), some (.int l13), some (.int l14), some (.int l15), some (.int l16), some (.int l17), none, some (.long l19), none, some (.ref l21), some (.ref l22), some (.ref l23), some (.ref l24), some (.ref l25), some (.ref l26), some (.ref l27), some (.int l28), some (.int l29), some (.int v529), none, none, none, none, none, none, none, none, none, none, none, none, none, none, none, none, none, none, none, none, none, none, none, none, none, none, none, none, none, none, none, none, none, none, none, none, none, none, none, none, none, none] [.int v543.1] v543.2 n _ _
      refine rr_iload C dL_law_855 rfl ?_
      obtain ⟨c545, hr⟩ := ite_nn hr
      refine rr_icmp_eq (tgt := 862) C dL_law_857 (by decide) (fun _ => ?_) (fun q_ => absurd c545 q_)
      refine rr_iinc (v := l29 + 1) C dL_law_862 rfl rfl ?_
      show WW W0 G 73 _ _ _ 865 [some (.ref l0), some (.ref l1), some (.int l2), some (.int l3), some (.int l4), some (.int l5), some (.int l6), some (.int l7), some (.int l8), some (.int l9), some (.int l10), some (.int l11), some (.int l12), some (.int l13), some (.int l14), some (.int l15), some (.int l16), some (.int l17), none, some (.long l19), none, some (.ref l21), some (.ref l22), some (.ref l23), some (.ref l24), some (.ref l25), some (.ref l26), some (.ref l27), some (.int l28), some (.int (l29 + 1)), some (.int v529), none, none, none, none, none, none, none, none, none, none, none, none, none, none, none, none, none, none, none, none, none, none, none, none, none, none, none, none, none, none, none, none, none, none, none, none, none, none, none, none, none, none] [] v543.2 n _ _
      refine rr_goto (tgt := 786) C dL_law_865 (by decide) ?_
      exact rr_keep [true, true, true, true, true, true, true, true, true, true, true, true, true, true, true, true, true, true, false, true, false, true, true, true, true, true, true, true, true, true, false, false, false, false, false, false, false, false, false, false, false, false, false, false, false, false, false, false, false, false, false, false, false, false, false, false, false, false, false, false, false, false, false, false, false, false, false, false, false, false, false, false, false] (ih_ _ _ hr hx0)
set_option maxRecDepth 100000 in
set_option maxHeartbeats 4000000 in
theorem w_L_law_877 {K : Nat} {W0 : mm_X} {G : mm_G} {mc ms kc ks : Nat} {Q_ : State → Prop} {n : Nat} (C : mm_C W0 G cL_law yL_law.cls 73 mc ms (some .boolean) 300 yL_law.name) (hn : 48 ≤ n) (l0 : Nat) (l1 : Nat) (l2 : Int32) (l3 : Int32) (l4 : Int32) (l5 : Int32) (l6 : Int32) (l7 : Int32) (l8 : Int32) (l9 : Int32) (l10 : Int32) (l11 : Int32) (l12 : Int32) (l13 : Int32) (l14 : Int32) (l15 : Int32) (l16 : Int32) (l17 : Int32) (l19 : Int64) (l21 : Nat) (l22 : Nat) (l23 : Nat) (l24 : Nat) (l25 : Nat) (l26 : Nat) (l27 : Nat) (l28 : Int32) (l29 : Nat) : ∀ (k_ : Nat) (l30 : Int32) (h : mm_H) {r_ : mm_H} (hr : lp_L_law_877 K n l0 l1 l2 l3 l4 l5 l6 l7 l8 l9 l10 l11 l12 l13 l14 l15 l16 l17 l19 l21 l22 l23 l24 l25 l26 l27 l28 l29 k_ l30 h = some r_) (hx0 : WW W0 G 73 mc ms Q_ 956 [some (.ref l0), some (.ref l1), some (.int l2), some (.int l3), some (.int l4), some (.int l5), some (.int l6), some (.int l7), some (.int l8), some (.int l9), some (.int l10), some (.int l11), some (.int l12), some (.int l13), some (.int l14), some (.int l15), some (.int l16), some (.int l17), none, some (.long l19), none, some (.ref l21), some (.ref l22), some (.ref l23), some (.ref l24), some (.ref l25), some (.ref l26), some (.ref l27), some (.int l28), some (.ref l29), none, none, none, none, none, none, none, none, none, none, none, none, none, none, none, none, none, none, none, none, none, none, none, none, none, none, none, none, none, none, none, none, none, none, none, none, none, none, none, none, none, none, none] [] r_ n kc ks), WW W0 G 73 mc ms Q_ 877 [some (.ref l0), some (.ref l1), some (.int l2), some (.int l3), some (.int l4), some (.int l5), some (.int l6), some (.int l7), some (.int l8), some (.int l9), some (.int l10), some (.int l11), some (.int l12), some (.int l13), some (.int l14), some (.int l15), some (.int l16), some (.int l17), none, some (.long l19), none, some (.ref l21), some (.ref l22), some (.ref l23), some (.ref l24), some (.ref l25), some (.ref l26), some (.ref l27), some (.int l28), some (.ref l29), some (.int l30), none, none, none, none, none, none, none, none, none, none, none, none, none, none, none, none, none, none, none, none, none, none, none, none, none, none, none, none, none, none, none, none, none, none, none, none, none, none, none, none, none, none] [] h n kc ks := by
  intro k_
  induction k_ with
  | zero =>
    intro l30 h r_ hr
    cases hr
  | succ k_ ih_ =>
    intro l30 h r_ hr hx0
    unfold lp_L_law_877 at hr
    refine rr_iload C dL_law_877 rfl ?_
    refine rr_iconst (v := 2) C dL_law_879 (by decide) ?_
    refine rr_icmp_ge (tgt := 956) C dL_law_880 (by decide) (fun c880_ => ?_) (fun c880_ => ?_)
    · replace hr := (if_pos c880_).symm.trans hr
      obtain rfl := Option.some.inj hr
      exact rr_keep [true, true, true, true, true, true, true, true, true, true, true, true, true, true, true, true, true, true, false, true, false, true, true, true, true, true, true, true, true, true, false, false, false, false, false, false, false, false, false, false, false, false, false, false, false, false, false, false, false, false, false, false, false, false, false, false, false, false, false, false, false, false, false, false, false, false, false, false, false, false, false, false, false] (hx0)
    · replace hr := (if_neg c880_).symm.trans hr
      refine rr_iconst (v := 1) C dL_law_883 (by decide) ?_
      refine rr_aload_n (i := 0) C dL_law_884 rfl rfl ?_
      refine rr_bipush (v := 18) C dL_law_885 (by decide) ?_
      replace hr := Option.bind_eq_some_iff.mp hr
      obtain ⟨v551, e552, hr⟩ := hr
      refine rr_callS (as := [.ref l0, .int 18]) (st := [.int 1]) (mc' := 0) (ms' := 0) C dL_law_887 it_L_24 (by decide) (Nat.le_of_ble_eq_true rfl) (c_L_cell (some l0) 18 (by omega) e552) (fun v_ h_ n_ q_ => ?_)
      obtain ⟨q1_, q2_, q3_⟩ := q_
      subst v_; subst h_; subst n_
      show WW W0 G 73 _ _ _ 890 [some (.ref l0), some (.ref l1), some (.int l2), some (.int l3), some (.int l4), some (.int l5), some (.int l6), some (.int l7), some (.int l8), some (.int l9), some (.int l10), some (.int l11), some (.int l12), some (.int l13), some (.int l14), some (.int l15), some (.int l16), some (.int l17), none, some (.long l19), none, some (.ref l21), some (.ref l22), some (.ref l23), some (.ref l24), some (.ref l25), some (.ref l26), some (.ref l27), some (.int l28), some (.ref l29), some (.int l30), none, none, none, none, none, none, none, none, none, none, none, none, none, none, none, none, none, none, none, none, none, none, none, none, none, none, none, none, none, none, none, none, none, none, none, none, none, none, none, none, none, none] [.int v551, .int 1] h n _ _
      refine rr_iconst (v := 2) C dL_law_890 (by decide) ?_
      refine rr_iload C dL_law_891 rfl ?_
      refine rr_imul C dL_law_893 ?_
      refine rr_ishr C dL_law_894 ?_
      refine rr_iconst (v := 3) C dL_law_895 (by decide) ?_
      refine rr_iand C dL_law_896 ?_
      refine rr_iadd C dL_law_897 ?_
      replace hr := Option.bind_eq_some_iff.mp hr
      obtain ⟨x553, e554, hr⟩ := hr
      refine rr_asI C e554 ?_
      refine rr_istore C dL_law_898 (by decide) ?_
      show WW W0 G 73 _ _ _ 900 [some (.ref l0), some (.ref l1), some (.int l2), some (.int l3), some (.int l4), some (.int l5), some (.int l6), some (.int l7), some (.int l8), some (.int l9), some (.int l10), some (.int l11), some (.int l12), some (.int l13), some (.int l14), some (.int l15), some (.int l16), some (.int l17), none, some (.long l19), none, some (.ref l21), some (.ref l22), some (.ref l23), some (.ref l24), some (.ref l25), some (.ref l26), some (.ref l27), some (.int l28), some (.ref l29), some (.int l30), some (.int x553), none, none, none, none, none, none, none, none, none, none, none, none, none, none, none, none, none, none, none, none, none, none, none, none, none, none, none, none, none, none, none, none, none, none, none, none, none, none, none, none, none] [] h n _ _
      refine rr_iconst (v := 1) C dL_law_900 (by decide) ?_
      refine rr_aload_n (i := 0) C dL_law_901 rfl rfl ?_
      refine rr_bipush (v := 18) C dL_law_902 (by decide) ?_
      replace hr := Option.bind_eq_some_iff.mp hr
      obtain ⟨v555, e556, hr⟩ := hr
      refine rr_callS (as := [.ref l0, .int 18]) (st := [.int 1]) (mc' := 0) (ms' := 0) C dL_law_904 it_L_24 (by decide) (Nat.le_of_ble_eq_true rfl) (c_L_cell (some l0) 18 (by omega) e556) (fun v_ h_ n_ q_ => ?_)
      obtain ⟨q1_, q2_, q3_⟩ := q_
      subst v_; subst h_; subst n_
      show WW W0 G 73 _ _ _ 907 [some (.ref l0), some (.ref l1), some (.int l2), some (.int l3), some (.int l4), some (.int l5), some (.int l6), some (.int l7), some (.int l8), some (.int l9), some (.int l10), some (.int l11), some (.int l12), some (.int l13), some (.int l14), some (.int l15), some (.int l16), some (.int l17), none, some (.long l19), none, some (.ref l21), some (.ref l22), some (.ref l23), some (.ref l24), some (.ref l25), some (.ref l26), some (.ref l27), some (.int l28), some (.ref l29), some (.int l30), some (.int x553), none, none, none, none, none, none, none, none, none, none, none, none, none, none, none, none, none, none, none, none, none, none, none, none, none, none, none, none, none, none, none, none, none, none, none, none, none, none, none, none, none] [.int v555, .int 1] h n _ _
      refine rr_iconst (v := 4) C dL_law_907 (by decide) ?_
      refine rr_bipush (v := 10) C dL_law_908 (by decide) ?_
      refine rr_iload C dL_law_910 rfl ?_
      refine rr_imul C dL_law_912 ?_
      refine rr_iadd C dL_law_913 ?_
      refine rr_ishr C dL_law_914 ?_
      refine rr_sipush (v := 1023) C dL_law_915 (by decide) ?_
      refine rr_iand C dL_law_918 ?_
      refine rr_iadd C dL_law_919 ?_
      replace hr := Option.bind_eq_some_iff.mp hr
      obtain ⟨x557, e558, hr⟩ := hr
      refine rr_asI C e558 ?_
      refine rr_istore C dL_law_920 (by decide) ?_
      show WW W0 G 73 _ _ _ 922 [some (.ref l0), some (.ref l1), some (.int l2), some (.int l3), some (.int l4), some (.int l5), some (.int l6), some (.int l7), some (.int l8), some (.int l9), some (.int l10), some (.int l11), some (.int l12), some (.int l13), some (.int l14), some (.int l15), some (.int l16), some (.int l17), none, some (.long l19), none, some (.ref l21), some (.ref l22), some (.ref l23), some (.ref l24), some (.ref l25), some (.ref l26), some (.ref l27), some (.int l28), some (.ref l29), some (.int l30), some (.int x553), some (.int x557), none, none, none, none, none, none, none, none, none, none, none, none, none, none, none, none, none, none, none, none, none, none, none, none, none, none, none, none, none, none, none, none, none, none, none, none, none, none, none, none] [] h n _ _
      refine rr_aload_n (i := 1) C dL_law_922 rfl rfl ?_
      refine rr_iconst (v := 0) C dL_law_923 (by decide) ?_
      refine rr_iload C dL_law_924 rfl ?_
      refine rr_iload C dL_law_926 rfl ?_
      replace hr := Option.bind_eq_some_iff.mp hr
      obtain ⟨u559, e560, hr⟩ := hr
      replace hr := Option.bind_eq_some_iff.mp hr
      obtain ⟨v561, e562, hr⟩ := hr
      refine rr_callVq (as := [.int 0, .int x553, .int x557]) (st := []) (mc' := 0) (ms' := 0) C dL_law_928 iv_L_103 (by decide) e560 rfl (Nat.le_of_ble_eq_true rfl) (c_X10_log l1 0 x553 x557 (by omega) e562) (fun v_ h_ n_ q_ => ?_)
      obtain ⟨q1_, q2_, q3_⟩ := q_
      subst v_; subst h_; subst n_
      show WW W0 G 73 _ _ _ 931 [some (.ref l0), some (.ref l1), some (.int l2), some (.int l3), some (.int l4), some (.int l5), some (.int l6), some (.int l7), some (.int l8), some (.int l9), some (.int l10), some (.int l11), some (.int l12), some (.int l13), some (.int l14), some (.int l15), some (.int l16), some (.int l17), none, some (.long l19), none, some (.ref l21), some (.ref l22), some (.ref l23), some (.ref l24), some (.ref l25), some (.ref l26), some (.ref l27), some (.int l28), some (.ref l29), some (.int l30), some (.int x553), some (.int x557), none, none, none, none, none, none, none, none, none, none, none, none, none, none, none, none, none, none, none, none, none, none, none, none, none, none, none, none, none, none, none, none, none, none, none, none, none, none, none, none] [.int v561.1] v561.2 n _ _
      refine rr_iload C dL_law_931 rfl ?_
      refine rr_iconst (v := 1) C dL_law_933 (by decide) ?_
      refine rr_iadd C dL_law_934 ?_
      obtain ⟨c563, hr⟩ := ite_nn hr
      refine rr_icmp_eq (tgt := 940) C dL_law_935 (by decide) (fun _ => ?_) (fun q_ => absurd c563 q_)
      refine rr_aload C dL_law_940 rfl ?_
      refine rr_iload C dL_law_942 rfl ?_
      refine rr_dup2 C dL_law_944 rfl rfl ?_
      replace hr := Option.bind_eq_some_iff.mp hr
      obtain ⟨v564, e565, hr⟩ := hr
      refine rr_ldI C dL_law_945 e565 ?_
      refine rr_iload C dL_law_946 rfl ?_
      refine rr_iadd C dL_law_948 ?_
      replace hr := Option.bind_eq_some_iff.mp hr
      obtain ⟨h566, e567, hr⟩ := hr
      refine rr_stI C dL_law_949 e567 ?_
      refine rr_iinc (v := l30 + 1) C dL_law_950 rfl rfl ?_
      show WW W0 G 73 _ _ _ 953 [some (.ref l0), some (.ref l1), some (.int l2), some (.int l3), some (.int l4), some (.int l5), some (.int l6), some (.int l7), some (.int l8), some (.int l9), some (.int l10), some (.int l11), some (.int l12), some (.int l13), some (.int l14), some (.int l15), some (.int l16), some (.int l17), none, some (.long l19), none, some (.ref l21), some (.ref l22), some (.ref l23), some (.ref l24), some (.ref l25), some (.ref l26), some (.ref l27), some (.int l28), some (.ref l29), some (.int (l30 + 1)), some (.int x553), some (.int x557), none, none, none, none, none, none, none, none, none, none, none, none, none, none, none, none, none, none, none, none, none, none, none, none, none, none, none, none, none, none, none, none, none, none, none, none, none, none, none, none] [] h566 n _ _
      refine rr_goto (tgt := 877) C dL_law_953 (by decide) ?_
      exact rr_keep [true, true, true, true, true, true, true, true, true, true, true, true, true, true, true, true, true, true, false, true, false, true, true, true, true, true, true, true, true, true, true, false, false, false, false, false, false, false, false, false, false, false, false, false, false, false, false, false, false, false, false, false, false, false, false, false, false, false, false, false, false, false, false, false, false, false, false, false, false, false, false, false, false] (ih_ _ _ hr hx0)
set_option maxRecDepth 100000 in
set_option maxHeartbeats 4000000 in
theorem w_L_law_959 {K : Nat} {W0 : mm_X} {G : mm_G} {mc ms kc ks : Nat} {Q_ : State → Prop} {n : Nat} (C : mm_C W0 G cL_law yL_law.cls 73 mc ms (some .boolean) 300 yL_law.name) (hn : 48 ≤ n) (l0 : Nat) (l1 : Nat) (l2 : Int32) (l3 : Int32) (l4 : Int32) (l5 : Int32) (l6 : Int32) (l7 : Int32) (l8 : Int32) (l9 : Int32) (l10 : Int32) (l11 : Int32) (l12 : Int32) (l13 : Int32) (l14 : Int32) (l15 : Int32) (l16 : Int32) (l17 : Int32) (l19 : Int64) (l21 : Nat) (l22 : Nat) (l23 : Nat) (l24 : Nat) (l25 : Nat) (l26 : Nat) (l27 : Nat) (l28 : Int32) (l29 : Nat) : ∀ (k_ : Nat) (l30 : Int32) (h : mm_H) {r_ : mm_H} (hr : lp_L_law_959 K n l0 l1 l2 l3 l4 l5 l6 l7 l8 l9 l10 l11 l12 l13 l14 l15 l16 l17 l19 l21 l22 l23 l24 l25 l26 l27 l28 l29 k_ l30 h = some r_) (hx0 : WW W0 G 73 mc ms Q_ 1056 [none, some (.ref l1), some (.int l2), some (.int l3), some (.int l4), some (.int l5), some (.int l6), some (.int l7), some (.int l8), some (.int l9), some (.int l10), some (.int l11), some (.int l12), some (.int l13), some (.int l14), some (.int l15), some (.int l16), some (.int l17), none, some (.long l19), none, some (.ref l21), some (.ref l22), some (.ref l23), some (.ref l24), some (.ref l25), some (.ref l26), some (.ref l27), some (.int l28), some (.ref l29), none, none, none, none, none, none, none, none, none, none, none, none, none, none, none, none, none, none, none, none, none, none, none, none, none, none, none, none, none, none, none, none, none, none, none, none, none, none, none, none, none, none, none] [] r_ n kc ks), WW W0 G 73 mc ms Q_ 959 [some (.ref l0), some (.ref l1), some (.int l2), some (.int l3), some (.int l4), some (.int l5), some (.int l6), some (.int l7), some (.int l8), some (.int l9), some (.int l10), some (.int l11), some (.int l12), some (.int l13), some (.int l14), some (.int l15), some (.int l16), some (.int l17), none, some (.long l19), none, some (.ref l21), some (.ref l22), some (.ref l23), some (.ref l24), some (.ref l25), some (.ref l26), some (.ref l27), some (.int l28), some (.ref l29), some (.int l30), none, none, none, none, none, none, none, none, none, none, none, none, none, none, none, none, none, none, none, none, none, none, none, none, none, none, none, none, none, none, none, none, none, none, none, none, none, none, none, none, none, none] [] h n kc ks := by
  intro k_
  induction k_ with
  | zero =>
    intro l30 h r_ hr
    cases hr
  | succ k_ ih_ =>
    intro l30 h r_ hr hx0
    unfold lp_L_law_959 at hr
    refine rr_iload C dL_law_959 rfl ?_
    refine rr_iload C dL_law_961 rfl ?_
    refine rr_icmp_ge (tgt := 1056) C dL_law_963 (by decide) (fun c963_ => ?_) (fun c963_ => ?_)
    · replace hr := (if_pos c963_).symm.trans hr
      obtain rfl := Option.some.inj hr
      exact rr_keep [false, true, true, true, true, true, true, true, true, true, true, true, true, true, true, true, true, true, false, true, false, true, true, true, true, true, true, true, true, true, false, false, false, false, false, false, false, false, false, false, false, false, false, false, false, false, false, false, false, false, false, false, false, false, false, false, false, false, false, false, false, false, false, false, false, false, false, false, false, false, false, false, false] (hx0)
    · replace hr := (if_neg c963_).symm.trans hr
      refine rr_aload_n (i := 0) C dL_law_966 rfl rfl ?_
      refine rr_bipush (v := 15) C dL_law_967 (by decide) ?_
      refine rr_iload C dL_law_969 rfl ?_
      refine rr_iadd C dL_law_971 ?_
      replace hr := Option.bind_eq_some_iff.mp hr
      obtain ⟨v571, e572, hr⟩ := hr
      refine rr_callS (as := [.ref l0, .int (15 + l30)]) (st := []) (mc' := 0) (ms' := 0) C dL_law_972 it_L_24 (by decide) (Nat.le_of_ble_eq_true rfl) (c_L_cell (some l0) (15 + l30) (by omega) e572) (fun v_ h_ n_ q_ => ?_)
      obtain ⟨q1_, q2_, q3_⟩ := q_
      subst v_; subst h_; subst n_
      show WW W0 G 73 _ _ _ 975 [some (.ref l0), some (.ref l1), some (.int l2), some (.int l3), some (.int l4), some (.int l5), some (.int l6), some (.int l7), some (.int l8), some (.int l9), some (.int l10), some (.int l11), some (.int l12), some (.int l13), some (.int l14), some (.int l15), some (.int l16), some (.int l17), none, some (.long l19), none, some (.ref l21), some (.ref l22), some (.ref l23), some (.ref l24), some (.ref l25), some (.ref l26), some (.ref l27), some (.int l28), some (.ref l29), some (.int l30), none, none, none, none, none, none, none, none, none, none, none, none, none, none, none, none, none, none, none, none, none, none, none, none, none, none, none, none, none, none, none, none, none, none, none, none, none, none, none, none, none, none] [.int v571] h n _ _
      refine rr_bipush (v := 15) C dL_law_975 (by decide) ?_
      refine rr_ishr C dL_law_977 ?_
      refine rr_sipush (v := 511) C dL_law_978 (by decide) ?_
      refine rr_iand C dL_law_981 ?_
      replace hr := Option.bind_eq_some_iff.mp hr
      obtain ⟨x573, e574, hr⟩ := hr
      refine rr_asI C e574 ?_
      refine rr_istore C dL_law_982 (by decide) ?_
      show WW W0 G 73 _ _ _ 984 [some (.ref l0), some (.ref l1), some (.int l2), some (.int l3), some (.int l4), some (.int l5), some (.int l6), some (.int l7), some (.int l8), some (.int l9), some (.int l10), some (.int l11), some (.int l12), some (.int l13), some (.int l14), some (.int l15), some (.int l16), some (.int l17), none, some (.long l19), none, some (.ref l21), some (.ref l22), some (.ref l23), some (.ref l24), some (.ref l25), some (.ref l26), some (.ref l27), some (.int l28), some (.ref l29), some (.int l30), some (.int x573), none, none, none, none, none, none, none, none, none, none, none, none, none, none, none, none, none, none, none, none, none, none, none, none, none, none, none, none, none, none, none, none, none, none, none, none, none, none, none, none, none] [] h n _ _
      refine rr_iload C dL_law_984 rfl ?_
      refine rr_aload_n (i := 1) C dL_law_986 rfl rfl ?_
      refine rr_iconst (v := 0) C dL_law_987 (by decide) ?_
      replace hr := Option.bind_eq_some_iff.mp hr
      obtain ⟨u575, e576, hr⟩ := hr
      replace hr := Option.bind_eq_some_iff.mp hr
      obtain ⟨v577, e578, hr⟩ := hr
      refine rr_callVq (as := [.int 0]) (st := [.int x573]) (mc' := 0) (ms' := 0) C dL_law_988 iv_L_106 (by decide) e576 rfl (Nat.le_of_ble_eq_true rfl) (c_X10_count l1 0 (by omega) e578) (fun v_ h_ n_ q_ => ?_)
      obtain ⟨q1_, q2_, q3_⟩ := q_
      subst v_; subst h_; subst n_
      show WW W0 G 73 _ _ _ 991 [some (.ref l0), some (.ref l1), some (.int l2), some (.int l3), some (.int l4), some (.int l5), some (.int l6), some (.int l7), some (.int l8), some (.int l9), some (.int l10), some (.int l11), some (.int l12), some (.int l13), some (.int l14), some (.int l15), some (.int l16), some (.int l17), none, some (.long l19), none, some (.ref l21), some (.ref l22), some (.ref l23), some (.ref l24), some (.ref l25), some (.ref l26), some (.ref l27), some (.int l28), some (.ref l29), some (.int l30), some (.int x573), none, none, none, none, none, none, none, none, none, none, none, none, none, none, none, none, none, none, none, none, none, none, none, none, none, none, none, none, none, none, none, none, none, none, none, none, none, none, none, none, none] [.int v577, .int x573] h n _ _
      replace hr := Option.bind_eq_some_iff.mp hr
      obtain ⟨h580, er582, hr⟩ := hr
      suffices hj581 : WW W0 G 73 _ _ _ 1050 [some (.ref l0), some (.ref l1), some (.int l2), some (.int l3), some (.int l4), some (.int l5), some (.int l6), some (.int l7), some (.int l8), some (.int l9), some (.int l10), some (.int l11), some (.int l12), some (.int l13), some (.int l14), some (.int l15), some (.int l16), some (.int l17), none, some (.long l19), none, some (.ref l21), some (.ref l22), some (.ref l23), some (.ref l24), some (.ref l25), some (.ref l26), some (.ref l27), some (.int l28), some (.ref l29), some (.int l30), none, none, none, none, none, none, none, none, none, none, none, none, none, none, none, none, none, none, none, none, none, none, none, none, none, none, none, none, none, none, none, none, none, none, none, none, none, none, none, none, none, none] [] h580 n (0) (0) from by
        have hr := er582
        refine rr_icmp_le (tgt := 1050) C dL_law_991 (by decide) (fun c579 => ?_) (fun c579 => ?_)
        · replace hr := (if_pos c579).symm.trans hr
          cases hr
          exact rr_keep [true, true, true, true, true, true, true, true, true, true, true, true, true, true, true, true, true, true, false, true, false, true, true, true, true, true, true, true, true, true, true, false, false, false, false, false, false, false, false, false, false, false, false, false, false, false, false, false, false, false, false, false, false, false, false, false, false, false, false, false, false, false, false, false, false, false, false, false, false, false, false, false, false] hj581
        · replace hr := (if_neg c579).symm.trans hr
          refine rr_aload_n (i := 0) C dL_law_994 rfl rfl ?_
          refine rr_bipush (v := 15) C dL_law_995 (by decide) ?_
          refine rr_iload C dL_law_997 rfl ?_
          refine rr_iadd C dL_law_999 ?_
          replace hr := Option.bind_eq_some_iff.mp hr
          obtain ⟨v583, e584, hr⟩ := hr
          refine rr_callS (as := [.ref l0, .int (15 + l30)]) (st := []) (mc' := 0) (ms' := 0) C dL_law_1000 it_L_24 (by decide) (Nat.le_of_ble_eq_true rfl) (c_L_cell (some l0) (15 + l30) (by omega) e584) (fun v_ h_ n_ q_ => ?_)
          obtain ⟨q1_, q2_, q3_⟩ := q_
          subst v_; subst h_; subst n_
          show WW W0 G 73 _ _ _ 1003 [some (.ref l0), some (.ref l1), some (.int l2), some (.int l3), some (.int l4), some (.int l5), some (.int l6), some (.int l7), some (.int l8), some (.int l9), some (.int l10), some (.int l11), some (.int l12), some (.int l13), some (.int l14), some (.int l15), some (.int l16), some (.int l17), none, some (.long l19), none, some (.ref l21), some (.ref l22), some (.ref l23), some (.ref l24), some (.ref l25), some (.ref l26), some (.ref l27), some (.int l28), some (.ref l29), some (.int l30), some (.int x573), none, none, none, none, none, none, none, none, none, none, none, none, none, none, none, none, none, none, none, none, none, none, none, none, none, none, none, none, none, none, none, none, none, none, none, none, none, none, none, none, none] [.int v583] h n _ _
          refine rr_bipush (v := 24) C dL_law_1003 (by decide) ?_
          refine rr_ishr C dL_law_1005 ?_
          refine rr_iconst (v := 3) C dL_law_1006 (by decide) ?_
          refine rr_iand C dL_law_1007 ?_
          refine rr_if_ne (tgt := 1014) C dL_law_1008 (by decide) (fun c1008_ => ?_) (fun c1008_ => ?_)
          · replace hr := (if_neg c1008_).symm.trans hr
            refine rr_aload_n (i := 1) C dL_law_1014 rfl rfl ?_
            refine rr_iload C dL_law_1015 rfl ?_
            replace hr := Option.bind_eq_some_iff.mp hr
            obtain ⟨u586, e587, hr⟩ := hr
            replace hr := Option.bind_eq_some_iff.mp hr
            obtain ⟨v588, e589, hr⟩ := hr
            refine rr_callVq (as := [.int x573]) (st := []) (mc' := 0) (ms' := 0) C dL_law_1017 iv_L_109 (by decide) e587 rfl (Nat.le_of_ble_eq_true rfl) (c_X10_day l1 x573 (by omega) e589) (fun v_ h_ n_ q_ => ?_)
            obtain ⟨q1_, q2_, q3_⟩ := q_
            subst v_; subst h_; subst n_
            show WW W0 G 73 _ _ _ 1020 [some (.ref l0), some (.ref l1), some (.int l2), some (.int l3), some (.int l4), some (.int l5), some (.int l6), some (.int l7), some (.int l8), some (.int l9), some (.int l10), some (.int l11), some (.int l12), some (.int l13), some (.int l14), some (.int l15), some (.int l16), some (.int l17), none, some (.long l19), none, some (.ref l21), some (.ref l22), some (.ref l23), some (.ref l24), some (.ref l25), some (.ref l26), some (.ref l27), some (.int l28), some (.ref l29), some (.int l30), some (.int x573), none, none, none, none, none, none, none, none, none, none, none, none, none, none, none, none, none, none, none, none, none, none, none, none, none, none, none, none, none, none, none, none, none, none, none, none, none, none, none, none, none] [.int v588.1] v588.2 n _ _
            obtain ⟨c590, hr⟩ := ite_n hr
            refine rr_if_eq (tgt := 1041) C dL_law_1020 (by decide) (fun q_ => absurd q_ c590) (fun _ => ?_)
            refine rr_aload_n (i := 1) C dL_law_1023 rfl rfl ?_
            refine rr_iload C dL_law_1024 rfl ?_
            replace hr := Option.bind_eq_some_iff.mp hr
            obtain ⟨u591, e592, hr⟩ := hr
            replace hr := Option.bind_eq_some_iff.mp hr
            obtain ⟨v593, e594, hr⟩ := hr
            refine rr_callVq (as := [.int l30]) (st := []) (mc' := 0) (ms' := 0) C dL_law_1026 iv_L_113 (by decide) e592 rfl (Nat.le_of_ble_eq_true rfl) (c_X10_done l1 l30 (by omega) e594) (fun v_ h_ n_ q_ => ?_)
            obtain ⟨q1_, q2_, q3_⟩ := q_
            subst v_; subst h_; subst n_
            show WW W0 G 73 _ _ _ 1029 [some (.ref l0), some (.ref l1), some (.int l2), some (.int l3), some (.int l4), some (.int l5), some (.int l6), some (.int l7), some (.int l8), some (.int l9), some (.int l10), some (.int l11), some (.int l12), some (.int l13), some (.int l14), some (.int l15), some (.int l16), some (.int l17), none, some (.long l19), none, some (.ref l21), some (.ref l22), some (.ref l23), some (.ref l24), some (.ref l25), some (.ref l26), some (.ref l27), some (.int l28), some (.ref l29), some (.int l30), some (.int x573), none, none, none, none, none, none, none, none, none, none, none, none, none, none, none, none, none, none, none, none, none, none, none, none, none, none, none, none, none, none, none, none, none, none, none, none, none, none, none, none, none] [.int v593.1] v593.2 n _ _
            obtain ⟨c595, hr⟩ := ite_n hr
            refine rr_if_eq (tgt := 1041) C dL_law_1029 (by decide) (fun q_ => absurd q_ c595) (fun _ => ?_)
            refine rr_aload_n (i := 1) C dL_law_1032 rfl rfl ?_
            refine rr_iload C dL_law_1033 rfl ?_
            replace hr := Option.bind_eq_some_iff.mp hr
            obtain ⟨u596, e597, hr⟩ := hr
            replace hr := Option.bind_eq_some_iff.mp hr
            obtain ⟨v598, e599, hr⟩ := hr
            refine rr_callVq (as := [.int l30]) (st := []) (mc' := 0) (ms' := 0) C dL_law_1035 iv_L_113 (by decide) e597 rfl (Nat.le_of_ble_eq_true rfl) (c_X10_done l1 l30 (by omega) e599) (fun v_ h_ n_ q_ => ?_)
            obtain ⟨q1_, q2_, q3_⟩ := q_
            subst v_; subst h_; subst n_
            show WW W0 G 73 _ _ _ 1038 [some (.ref l0), some (.ref l1), some (.int l2), some (.int l3), some (.int l4), some (.int l5), some (.int l6), some (.int l7), some (.int l8), some (.int l9), some (.int l10), some (.int l11), some (.int l12), some (.int l13), some (.int l14), some (.int l15), some (.int l16), some (.int l17), none, some (.long l19), none, some (.ref l21), some (.ref l22), some (.ref l23), some (.ref l24), some (.ref l25), some (.ref l26), some (.ref l27), some (.int l28), some (.ref l29), some (.int l30), some (.int x573), none, none, none, none, none, none, none, none, none, none, none, none, none, none, none, none, none, none, none, none, none, none, none, none, none, none, none, none, none, none, none, none, none, none, none, none, none, none, none, none, none] [.int v598.1] v598.2 n _ _
            obtain ⟨c600, hr⟩ := ite_nn hr
            refine rr_if_eq (tgt := 1043) C dL_law_1038 (by decide) (fun _ => ?_) (fun q_ => absurd c600 q_)
            refine rr_aload C dL_law_1043 rfl ?_
            refine rr_iload C dL_law_1045 rfl ?_
            refine rr_iload C dL_law_1047 rfl ?_
            replace hr := Option.bind_eq_some_iff.mp hr
            obtain ⟨h601, e602, hr⟩ := hr
            refine rr_stI C dL_law_1049 e602 ?_
            cases hr
            exact rr_keep [true, true, true, true, true, true, true, true, true, true, true, true, true, true, true, true, true, true, false, true, false, true, true, true, true, true, true, true, true, true, true, false, false, false, false, false, false, false, false, false, false, false, false, false, false, false, false, false, false, false, false, false, false, false, false, false, false, false, false, false, false, false, false, false, false, false, false, false, false, false, false, false, false] hj581
          · replace hr := (if_pos c1008_).symm.trans hr
            refine rr_goto (tgt := 1050) C dL_law_1011 (by decide) ?_
            cases hr
            exact rr_keep [true, true, true, true, true, true, true, true, true, true, true, true, true, true, true, true, true, true, false, true, false, true, true, true, true, true, true, true, true, true, true, false, false, false, false, false, false, false, false, false, false, false, false, false, false, false, false, false, false, false, false, false, false, false, false, false, false, false, false, false, false, false, false, false, false, false, false, false, false, false, false, false, false] hj581
      refine rr_iinc (v := l30 + 1) C dL_law_1050 rfl rfl ?_
      show WW W0 G 73 _ _ _ 1053 [some (.ref l0), some (.ref l1), some (.int l2), some (.int l3), some (.int l4), some (.int l5), some (.int l6), some (.int l7), some (.int l8), some (.int l9), some (.int l10), some (.int l11), some (.int l12), some (.int l13), some (.int l14), some (.int l15), some (.int l16), some (.int l17), none, some (.long l19), none, some (.ref l21), some (.ref l22), some (.ref l23), some (.ref l24), some (.ref l25), some (.ref l26), some (.ref l27), some (.int l28), some (.ref l29), some (.int (l30 + 1)), none, none, none, none, none, none, none, none, none, none, none, none, none, none, none, none, none, none, none, none, none, none, none, none, none, none, none, none, none, none, none, none, none, none, none, none, none, none, none, none, none, none] [] h580 n _ _
      refine rr_goto (tgt := 959) C dL_law_1053 (by decide) ?_
      exact rr_keep [true, true, true, true, true, true, true, true, true, true, true, true, true, true, true, true, true, true, false, true, false, true, true, true, true, true, true, true, true, true, true, false, false, false, false, false, false, false, false, false, false, false, false, false, false, false, false, false, false, false, false, false, false, false, false, false, false, false, false, false, false, false, false, false, false, false, false, false, false, false, false, false, false] (ih_ _ _ hr hx0)
set_option maxRecDepth 100000 in
set_option maxHeartbeats 4000000 in
theorem w_L_law_1076 {K : Nat} {W0 : mm_X} {G : mm_G} {mc ms kc ks : Nat} {Q_ : State → Prop} {n : Nat} (C : mm_C W0 G cL_law yL_law.cls 73 mc ms (some .boolean) 300 yL_law.name) (hn : 48 ≤ n) (l1 : Nat) (l2 : Int32) (l3 : Int32) (l4 : Int32) (l5 : Int32) (l6 : Int32) (l7 : Int32) (l8 : Int32) (l9 : Int32) (l10 : Int32) (l11 : Int32) (l12 : Int32) (l13 : Int32) (l14 : Int32) (l15 : Int32) (l16 : Int32) (l17 : Int32) (l21 : Nat) (l22 : Nat) (l23 : Nat) (l24 : Nat) (l25 : Nat) (l26 : Nat) (l27 : Nat) (l28 : Int32) (l29 : Nat) (l30 : Int32) (l31 : Int64) (l33 : Nat) : ∀ (k_ : Nat) (l34 : Int32) (h : mm_H) {r_ : mm_H} (hr : lp_L_law_1076 K n l1 l2 l3 l4 l5 l6 l7 l8 l9 l10 l11 l12 l13 l14 l15 l16 l17 l21 l22 l23 l24 l25 l26 l27 l28 l29 l30 l31 l33 k_ l34 h = some r_) (hx0 : WW W0 G 73 mc ms Q_ 1100 [none, some (.ref l1), some (.int l2), some (.int l3), some (.int l4), some (.int l5), some (.int l6), some (.int l7), some (.int l8), some (.int l9), some (.int l10), some (.int l11), some (.int l12), some (.int l13), some (.int l14), some (.int l15), some (.int l16), some (.int l17), none, none, none, some (.ref l21), some (.ref l22), some (.ref l23), some (.ref l24), some (.ref l25), some (.ref l26), some (.ref l27), some (.int l28), some (.ref l29), some (.int l30), some (.long l31), none, some (.ref l33), none, none, none, none, none, none, none, none, none, none, none, none, none, none, none, none, none, none, none, none, none, none, none, none, none, none, none, none, none, none, none, none, none, none, none, none, none, none, none] [] r_ n kc ks), WW W0 G 73 mc ms Q_ 1076 [none, some (.ref l1), some (.int l2), some (.int l3), some (.int l4), some (.int l5), some (.int l6), some (.int l7), some (.int l8), some (.int l9), some (.int l10), some (.int l11), some (.int l12), some (.int l13), some (.int l14), some (.int l15), some (.int l16), some (.int l17), none, none, none, some (.ref l21), some (.ref l22), some (.ref l23), some (.ref l24), some (.ref l25), some (.ref l26), some (.ref l27), some (.int l28), some (.ref l29), some (.int l30), some (.long l31), none, some (.ref l33), some (.int l34), none, none, none, none, none, none, none, none, none, none, none, none, none, none, none, none, none, none, none, none, none, none, none, none, none, none, none, none, none, none, none, none, none, none, none, none, none, none] [] h n kc ks := by
  intro k_
  induction k_ with
  | zero =>
    intro l34 h r_ hr
    cases hr
  | succ k_ ih_ =>
    intro l34 h r_ hr hx0
    unfold lp_L_law_1076 at hr
    refine rr_iload C dL_law_1076 rfl ?_
    refine rr_iload C dL_law_1078 rfl ?_
    refine rr_icmp_ge (tgt := 1100) C dL_law_1080 (by decide) (fun c1080_ => ?_) (fun c1080_ => ?_)
    · replace hr := (if_pos c1080_).symm.trans hr
      obtain rfl := Option.some.inj hr
      exact rr_keep [false, true, true, true, true, true, true, true, true, true, true, true, true, true, true, true, true, true, false, false, false, true, true, true, true, true, true, true, true, true, true, true, false, true, false, false, false, false, false, false, false, false, false, false, false, false, false, false, false, false, false, false, false, false, false, false, false, false, false, false, false, false, false, false, false, false, false, false, false, false, false, false, false] (hx0)
    · replace hr := (if_neg c1080_).symm.trans hr
      refine rr_aload C dL_law_1083 rfl ?_
      refine rr_iload C dL_law_1085 rfl ?_
      refine rr_aload C dL_law_1087 rfl ?_
      refine rr_iload C dL_law_1089 rfl ?_
      replace hr := Option.bind_eq_some_iff.mp hr
      obtain ⟨v612, e613, hr⟩ := hr
      refine rr_ldI C dL_law_1091 e613 ?_
      refine rr_i2l C dL_law_1092 ?_
      replace hr := Option.bind_eq_some_iff.mp hr
      obtain ⟨h614, e615, hr⟩ := hr
      refine rr_stJ C dL_law_1093 e615 ?_
      refine rr_iinc (v := l34 + 1) C dL_law_1094 rfl rfl ?_
      show WW W0 G 73 _ _ _ 1097 [none, some (.ref l1), some (.int l2), some (.int l3), some (.int l4), some (.int l5), some (.int l6), some (.int l7), some (.int l8), some (.int l9), some (.int l10), some (.int l11), some (.int l12), some (.int l13), some (.int l14), some (.int l15), some (.int l16), some (.int l17), none, none, none, some (.ref l21), some (.ref l22), some (.ref l23), some (.ref l24), some (.ref l25), some (.ref l26), some (.ref l27), some (.int l28), some (.ref l29), some (.int l30), some (.long l31), none, some (.ref l33), some (.int (l34 + 1)), none, none, none, none, none, none, none, none, none, none, none, none, none, none, none, none, none, none, none, none, none, none, none, none, none, none, none, none, none, none, none, none, none, none, none, none, none, none] [] h614 n _ _
      refine rr_goto (tgt := 1076) C dL_law_1097 (by decide) ?_
      exact rr_keep [false, true, true, true, true, true, true, true, true, true, true, true, true, true, true, true, true, true, false, false, false, true, true, true, true, true, true, true, true, true, true, true, false, true, true, false, false, false, false, false, false, false, false, false, false, false, false, false, false, false, false, false, false, false, false, false, false, false, false, false, false, false, false, false, false, false, false, false, false, false, false, false, false] (ih_ _ _ hr hx0)
set_option maxRecDepth 100000 in
set_option maxHeartbeats 4000000 in
theorem w_L_law_1157 {K : Nat} {W0 : mm_X} {G : mm_G} {mc ms kc ks : Nat} {Q_ : State → Prop} {n : Nat} (C : mm_C W0 G cL_law yL_law.cls 73 mc ms (some .boolean) 300 yL_law.name) (hn : 48 ≤ n) (l1 : Nat) (l2 : Int32) (l3 : Int32) (l4 : Int32) (l5 : Int32) (l6 : Int32) (l7 : Int32) (l8 : Int32) (l9 : Int32) (l10 : Int32) (l11 : Int32) (l12 : Int32) (l13 : Int32) (l14 : Int32) (l15 : Int32) (l16 : Int32) (l17 : Int32) (l21 : Nat) (l22 : Nat) (l23 : Nat) (l24 : Nat) (l25 : Nat) (l26 : Nat) (l27 : Nat) (l28 : Int32) (l29 : Nat) (l30 : Int32) (l31 : Int64) (l33 : Nat) (l34 : Int64) (l36 : Int64) (l38 : Int64) (l40 : Int64) (l42 : Int32) (l43 : Int64) (l45 : Int64) : ∀ (k_ : Nat) (l47 : Int64) (l49 : Int64) (l51 : Int32) (h : mm_H) {r_ : Int64 × Int64 × mm_H} (hr : lp_L_law_1157 K n l1 l2 l3 l4 l5 l6 l7 l8 l9 l10 l11 l12 l13 l14 l15 l16 l17 l21 l22 l23 l24 l25 l26 l27 l28 l29 l30 l31 l33 l34 l36 l38 l40 l42 l43 l45 k_ l47 l49 l51 h = some r_) (hx0 : WW W0 G 73 mc ms Q_ 1278 [none, some (.ref l1), some (.int l2), some (.int l3), some (.int l4), some (.int l5), some (.int l6), some (.int l7), some (.int l8), some (.int l9), some (.int l10), some (.int l11), some (.int l12), some (.int l13), some (.int l14), some (.int l15), some (.int l16), some (.int l17), none, none, none, some (.ref l21), some (.ref l22), some (.ref l23), some (.ref l24), some (.ref l25), some (.ref l26), some (.ref l27), some (.int l28), some (.ref l29), some (.int l30), some (.long l31), none, some (.ref l33), some (.long l34), none, some (.long l36), none, some (.long l38), none, some (.long l40), none, some (.int l42), some (.long l43), none, some (.long l45), none, some (.long r_.1), none, some (.long r_.2.1), none, none, none, none, none, none, none, none, none, none, none, none, none, none, none, none, none, none, none, none, none, none, none] [] r_.2.2 n kc ks), WW W0 G 73 mc ms Q_ 1157 [none, some (.ref l1), some (.int l2), some (.int l3), some (.int l4), some (.int l5), some (.int l6), some (.int l7), some (.int l8), some (.int l9), some (.int l10), some (.int l11), some (.int l12), some (.int l13), some (.int l14), some (.int l15), some (.int l16), some (.int l17), none, none, none, some (.ref l21), some (.ref l22), some (.ref l23), some (.ref l24), some (.ref l25), some (.ref l26), some (.ref l27), some (.int l28), some (.ref l29), some (.int l30), some (.long l31), none, some (.ref l33), some (.long l34), none, some (.long l36), none, some (.long l38), none, some (.long l40), none, some (.int l42), some (.long l43), none, some (.long l45), none, some (.long l47), none, some (.long l49), none, some (.int l51), none, none, none, none, none, none, none, none, none, none, none, none, none, none, none, none, none, none, none, none, none] [] h n kc ks := by
  intro k_
  induction k_ with
  | zero =>
    intro l47 l49 l51 h r_ hr
    cases hr
  | succ k_ ih_ =>
    intro l47 l49 l51 h r_ hr hx0
    unfold lp_L_law_1157 at hr
    refine rr_iload C dL_law_1157 rfl ?_
    refine rr_iload C dL_law_1159 rfl ?_
    refine rr_icmp_ge (tgt := 1278) C dL_law_1161 (by decide) (fun c1161_ => ?_) (fun c1161_ => ?_)
    · replace hr := (if_pos c1161_).symm.trans hr
      obtain rfl := Option.some.inj hr
      exact rr_keep [false, true, true, true, true, true, true, true, true, true, true, true, true, true, true, true, true, true, false, false, false, true, true, true, true, true, true, true, true, true, true, true, false, true, true, false, true, false, true, false, true, false, true, true, false, true, false, true, false, true, false, false, false, false, false, false, false, false, false, false, false, false, false, false, false, false, false, false, false, false, false, false, false] (hx0)
    · replace hr := (if_neg c1161_).symm.trans hr
      refine rr_aload C dL_law_1164 rfl ?_
      refine rr_iload C dL_law_1166 rfl ?_
      replace hr := Option.bind_eq_some_iff.mp hr
      obtain ⟨v626, e627, hr⟩ := hr
      refine rr_ldI C dL_law_1168 e627 ?_
      refine rr_iload C dL_law_1169 rfl ?_
      replace hr := Option.bind_eq_some_iff.mp hr
      obtain ⟨y629, er631, hr⟩ := hr
      suffices hj630 : WW W0 G 73 _ _ _ 1185 [none, some (.ref l1), some (.int l2), some (.int l3), some (.int l4), some (.int l5), some (.int l6), some (.int l7), some (.int l8), some (.int l9), some (.int l10), some (.int l11), some (.int l12), some (.int l13), some (.int l14), some (.int l15), some (.int l16), some (.int l17), none, none, none, some (.ref l21), some (.ref l22), some (.ref l23), some (.ref l24), some (.ref l25), some (.ref l26), some (.ref l27), some (.int l28), some (.ref l29), some (.int l30), some (.long l31), none, some (.ref l33), some (.long l34), none, some (.long l36), none, some (.long l38), none, some (.long l40), none, some (.int l42), some (.long l43), none, some (.long l45), none, some (.long y629), none, some (.long l49), none, some (.int l51), none, none, none, none, none, none, none, none, none, none, none, none, none, none, none, none, none, none, none, none, none] [] h n (0) (0) from by
        have hr := er631
        refine rr_icmp_ne (tgt := 1185) C dL_law_1171 (by decide) (fun c628 => ?_) (fun c628 => ?_)
        · replace hr := (if_neg c628).symm.trans hr
          cases hr
          exact rr_keep [false, true, true, true, true, true, true, true, true, true, true, true, true, true, true, true, true, true, false, false, false, true, true, true, true, true, true, true, true, true, true, true, false, true, true, false, true, false, true, false, true, false, true, true, false, true, false, true, false, true, false, true, false, false, false, false, false, false, false, false, false, false, false, false, false, false, false, false, false, false, false, false, false] hj630
        · replace hr := (if_pos c628).symm.trans hr
          refine rr_lload C dL_law_1174 rfl ?_
          refine rr_aload C dL_law_1176 rfl ?_
          refine rr_iload C dL_law_1178 rfl ?_
          replace hr := Option.bind_eq_some_iff.mp hr
          obtain ⟨v632, e633, hr⟩ := hr
          refine rr_ldI C dL_law_1180 e633 ?_
          refine rr_i2l C dL_law_1181 ?_
          refine rr_ladd C dL_law_1182 ?_
          replace hr := Option.bind_eq_some_iff.mp hr
          obtain ⟨x634, e635, hr⟩ := hr
          refine rr_asJ C e635 ?_
          refine rr_lstore C dL_law_1183 (by decide) ?_
          show WW W0 G 73 _ _ _ 1185 [none, some (.ref l1), some (.int l2), some (.int l3), some (.int l4), some (.int l5), some (.int l6), some (.int l7), some (.int l8), some (.int l9), some (.int l10), some (.int l11), some (.int l12), some (.int l13), some (.int l14), some (.int l15), some (.int l16), some (.int l17), none, none, none, some (.ref l21), some (.ref l22), some (.ref l23), some (.ref l24), some (.ref l25), some (.ref l26), some (.ref l27), some (.int l28), some (.ref l29), some (.int l30), some (.long l31), none, some (.ref l33), some (.long l34), none, some (.long l36), none, some (.long l38), none, some (.long l40), none, some (.int l42), some (.long l43), none, some (.long l45), none, some (.long x634), none, some (.long l49), none, some (.int l51), none, none, none, none, none, none, none, none, none, none, none, none, none, none, none, none, none, none, none, none, none] [] h n _ _
          cases hr
          exact rr_keep [false, true, true, true, true, true, true, true, true, true, true, true, true, true, true, true, true, true, false, false, false, true, true, true, true, true, true, true, true, true, true, true, false, true, true, false, true, false, true, false, true, false, true, true, false, true, false, true, false, true, false, true, false, false, false, false, false, false, false, false, false, false, false, false, false, false, false, false, false, false, false, false, false] hj630
      refine rr_aload C dL_law_1185 rfl ?_
      refine rr_iload C dL_law_1187 rfl ?_
      replace hr := Option.bind_eq_some_iff.mp hr
      obtain ⟨v636, e637, hr⟩ := hr
      refine rr_ldI C dL_law_1189 e637 ?_
      refine rr_iload C dL_law_1190 rfl ?_
      replace hr := Option.bind_eq_some_iff.mp hr
      obtain ⟨⟨y639, h640⟩, er642, hr⟩ := hr
      dsimp only at hr
      suffices hj641 : WW W0 G 73 _ _ _ 1272 [none, some (.ref l1), some (.int l2), some (.int l3), some (.int l4), some (.int l5), some (.int l6), some (.int l7), some (.int l8), some (.int l9), some (.int l10), some (.int l11), some (.int l12), some (.int l13), some (.int l14), some (.int l15), some (.int l16), some (.int l17), none, none, none, some (.ref l21), some (.ref l22), some (.ref l23), some (.ref l24), some (.ref l25), some (.ref l26), some (.ref l27), some (.int l28), some (.ref l29), some (.int l30), some (.long l31), none, some (.ref l33), some (.long l34), none, some (.long l36), none, some (.long l38), none, some (.long l40), none, some (.int l42), some (.long l43), none, some (.long l45), none, some (.long y629), none, some (.long y639), none, some (.int l51), none, none, none, none, none, none, none, none, none, none, none, none, none, none, none, none, none, none, none, none, none] [] h640 n (0) (0) from by
        have hr := er642
        refine rr_icmp_ge (tgt := 1272) C dL_law_1192 (by decide) (fun c638 => ?_) (fun c638 => ?_)
        · replace hr := (if_pos c638).symm.trans hr
          cases hr
          exact rr_keep [false, true, true, true, true, true, true, true, true, true, true, true, true, true, true, true, true, true, false, false, false, true, true, true, true, true, true, true, true, true, true, true, false, true, true, false, true, false, true, false, true, false, true, true, false, true, false, true, false, true, false, true, false, false, false, false, false, false, false, false, false, false, false, false, false, false, false, false, false, false, false, false, false] hj641
        · replace hr := (if_neg c638).symm.trans hr
          refine rr_aload C dL_law_1195 rfl ?_
          refine rr_iload C dL_law_1197 rfl ?_
          replace hr := Option.bind_eq_some_iff.mp hr
          obtain ⟨v643, e644, hr⟩ := hr
          refine rr_ldI C dL_law_1199 e644 ?_
          refine rr_bipush (v := 100) C dL_law_1200 (by decide) ?_
          refine rr_iload C dL_law_1202 rfl ?_
          refine rr_imul C dL_law_1204 ?_
          refine rr_icmp_ge (tgt := 1211) C dL_law_1205 (by decide) (fun c1205_ => ?_) (fun c1205_ => ?_)
          · replace hr := (if_pos c1205_).symm.trans hr
            refine rr_iload C dL_law_1211 rfl ?_
            refine rr_iconst (v := 3) C dL_law_1213 (by decide) ?_
            replace hr := Option.bind_eq_some_iff.mp hr
            obtain ⟨y647, er649, hr⟩ := hr
            suffices hj648 : WW W0 G 73 _ _ _ 1235 [none, some (.ref l1), some (.int l2), some (.int l3), some (.int l4), some (.int l5), some (.int l6), some (.int l7), some (.int l8), some (.int l9), some (.int l10), some (.int l11), some (.int l12), some (.int l13), some (.int l14), some (.int l15), some (.int l16), some (.int l17), none, none, none, some (.ref l21), some (.ref l22), some (.ref l23), some (.ref l24), some (.ref l25), some (.ref l26), some (.ref l27), some (.int l28), some (.ref l29), some (.int l30), some (.long l31), none, some (.ref l33), some (.long l34), none, some (.long l36), none, some (.long l38), none, some (.long l40), none, some (.int l42), some (.long l43), none, some (.long l45), none, some (.long y629), none, some (.long l49), none, some (.int l51), none, none, none, none, none, none, none, none, none, none, none, none, none, none, none, none, none, none, none, none, none] [.long y647] h n (0) (0) from by
              have hr := er649
              refine rr_icmp_le (tgt := 1221) C dL_law_1214 (by decide) (fun c646 => ?_) (fun c646 => ?_)
              · replace hr := (if_pos c646).symm.trans hr
                refine rr_aload C dL_law_1221 rfl ?_
                refine rr_iload C dL_law_1223 rfl ?_
                replace hr := Option.bind_eq_some_iff.mp hr
                obtain ⟨v650, e651, hr⟩ := hr
                refine rr_ldI C dL_law_1225 e651 ?_
                refine rr_i2l C dL_law_1226 ?_
                refine rr_iload C dL_law_1227 rfl ?_
                refine rr_i2l C dL_law_1229 ?_
                refine rr_lmul C dL_law_1230 ?_
                refine rr_ldc2 C dL_law_1231 ct_L_116 ?_
                refine rr_ldiv C dL_law_1234 (by decide) ?_
                cases hr
                exact rr_keep [false, true, true, true, true, true, true, true, true, true, true, true, true, true, true, true, true, true, false, false, false, true, true, true, true, true, true, true, true, true, true, true, false, true, true, false, true, false, true, false, true, false, true, true, false, true, false, true, false, true, false, true, false, false, false, false, false, false, false, false, false, false, false, false, false, false, false, false, false, false, false, false, false] hj648
              · replace hr := (if_neg c646).symm.trans hr
                refine rr_lconst (v := 0) C dL_law_1217 (by decide) ?_
                refine rr_goto (tgt := 1235) C dL_law_1218 (by decide) ?_
                cases hr
                exact rr_keep [false, true, true, true, true, true, true, true, true, true, true, true, true, true, true, true, true, true, false, false, false, true, true, true, true, true, true, true, true, true, true, true, false, true, true, false, true, false, true, false, true, false, true, true, false, true, false, true, false, true, false, true, false, false, false, false, false, false, false, false, false, false, false, false, false, false, false, false, false, false, false, false, false] hj648
            refine rr_lstore C dL_law_1235 (by decide) ?_
            show WW W0 G 73 _ _ _ 1237 [none, some (.ref l1), some (.int l2), some (.int l3), some (.int l4), some (.int l5), some (.int l6), some (.int l7), some (.int l8), some (.int l9), some (.int l10), some (.int l11), some (.int l12), some (.int l13), some (.int l14), some (.int l15), some (.int l16), some (.int l17), none, none, none, some (.ref l21), some (.ref l22), some (.ref l23), some (.ref l24), some (.ref l25), some (.ref l26), some (.ref l27), some (.int l28), some (.ref l29), some (.int l30), some (.long l31), none, some (.ref l33), some (.long l34), none, some (.long l36), none, some (.long l38), none, some (.long l40), none, some (.int l42), some (.long l43), none, some (.long l45), none, some (.long y629), none, some (.long l49), none, some (.int l51), some (.long y647), none, none, none, none, none, none, none, none, none, none, none, none, none, none, none, none, none, none, none, none] [] h n _ _
            refine rr_lload C dL_law_1237 rfl ?_
            refine rr_aload C dL_law_1239 rfl ?_
            refine rr_iload C dL_law_1241 rfl ?_
            replace hr := Option.bind_eq_some_iff.mp hr
            obtain ⟨v652, e653, hr⟩ := hr
            refine rr_ldJ C dL_law_1243 e653 ?_
            refine rr_lcmp C dL_law_1244 ?_
            replace hr := Option.bind_eq_some_iff.mp hr
            obtain ⟨y655, er657, hr⟩ := hr
            suffices hj656 : WW W0 G 73 _ _ _ 1255 [none, some (.ref l1), some (.int l2), some (.int l3), some (.int l4), some (.int l5), some (.int l6), some (.int l7), some (.int l8), some (.int l9), some (.int l10), some (.int l11), some (.int l12), some (.int l13), some (.int l14), some (.int l15), some (.int l16), some (.int l17), none, none, none, some (.ref l21), some (.ref l22), some (.ref l23), some (.ref l24), some (.ref l25), some (.ref l26), some (.ref l27), some (.int l28), some (.ref l29), some (.int l30), some (.long l31), none, some (.ref l33), some (.long l34), none, some (.long l36), none, some (.long l38), none, some (.long l40), none, some (.int l42), some (.long l43), none, some (.long l45), none, some (.long y629), none, some (.long l49), none, some (.int l51), some (.long y655), none, none, none, none, none, none, none, none, none, none, none, none, none, none, none, none, none, none, none, none] [] h n (0) (0) from by
              have hr := er657
              refine rr_if_le (tgt := 1255) C dL_law_1245 (by decide) (fun c654 => ?_) (fun c654 => ?_)
              · replace hr := (if_pos c654).symm.trans hr
                cases hr
                exact rr_keep [false, true, true, true, true, true, true, true, true, true, true, true, true, true, true, true, true, true, false, false, false, true, true, true, true, true, true, true, true, true, true, true, false, true, true, false, true, false, true, false, true, false, true, true, false, true, false, true, false, true, false, true, true, false, false, false, false, false, false, false, false, false, false, false, false, false, false, false, false, false, false, false, false] hj656
              · replace hr := (if_neg c654).symm.trans hr
                refine rr_aload C dL_law_1248 rfl ?_
                refine rr_iload C dL_law_1250 rfl ?_
                replace hr := Option.bind_eq_some_iff.mp hr
                obtain ⟨v658, e659, hr⟩ := hr
                refine rr_ldJ C dL_law_1252 e659 ?_
                refine rr_lstore C dL_law_1253 (by decide) ?_
                show WW W0 G 73 _ _ _ 1255 [none, some (.ref l1), some (.int l2), some (.int l3), some (.int l4), some (.int l5), some (.int l6), some (.int l7), some (.int l8), some (.int l9), some (.int l10), some (.int l11), some (.int l12), some (.int l13), some (.int l14), some (.int l15), some (.int l16), some (.int l17), none, none, none, some (.ref l21), some (.ref l22), some (.ref l23), some (.ref l24), some (.ref l25), some (.ref l26), some (.ref l27), some (.int l28), some (.ref l29), some (.int l30), some (.long l31), none, some (.ref l33), some (.long l34), none, some (.long l36), none, some (.long l38), none, some (.long l40), none, some (.int l42), some (.long l43), none, some (.long l45), none, some (.long y629), none, some (.long l49), none, some (.int l51), some (.long v658), none, none, none, none, none, none, none, none, none, none, none, none, none, none, none, none, none, none, none, none] [] h n _ _
                cases hr
                exact rr_keep [false, true, true, true, true, true, true, true, true, true, true, true, true, true, true, true, true, true, false, false, false, true, true, true, true, true, true, true, true, true, true, true, false, true, true, false, true, false, true, false, true, false, true, true, false, true, false, true, false, true, false, true, true, false, false, false, false, false, false, false, false, false, false, false, false, false, false, false, false, false, false, false, false] hj656
            refine rr_aload C dL_law_1255 rfl ?_
            refine rr_iload C dL_law_1257 rfl ?_
            refine rr_dup2 C dL_law_1259 rfl rfl ?_
            replace hr := Option.bind_eq_some_iff.mp hr
            obtain ⟨v660, e661, hr⟩ := hr
            refine rr_ldJ C dL_law_1260 e661 ?_
            refine rr_lload C dL_law_1261 rfl ?_
            refine rr_lsub C dL_law_1263 ?_
            replace hr := Option.bind_eq_some_iff.mp hr
            obtain ⟨h662, e663, hr⟩ := hr
            refine rr_stJ C dL_law_1264 e663 ?_
            refine rr_lload C dL_law_1265 rfl ?_
            refine rr_lload C dL_law_1267 rfl ?_
            refine rr_ladd C dL_law_1269 ?_
            replace hr := Option.bind_eq_some_iff.mp hr
            obtain ⟨x664, e665, hr⟩ := hr
            refine rr_asJ C e665 ?_
            refine rr_lstore C dL_law_1270 (by decide) ?_
            show WW W0 G 73 _ _ _ 1272 [none, some (.ref l1), some (.int l2), some (.int l3), some (.int l4), some (.int l5), some (.int l6), some (.int l7), some (.int l8), some (.int l9), some (.int l10), some (.int l11), some (.int l12), some (.int l13), some (.int l14), some (.int l15), some (.int l16), some (.int l17), none, none, none, some (.ref l21), some (.ref l22), some (.ref l23), some (.ref l24), some (.ref l25), some (.ref l26), some (.ref l27), some (.int l28), some (.ref l29), some (.int l30), some (.long l31), none, some (.ref l33), some (.long l34), none, some (.long l36), none, some (.long l38), none, some (.long l40), none, some (.int l42), some (.long l43), none, some (.long l45), none, some (.long y629), none, some (.long x664), none, some (.int l51), some (.long y655), none, none, none, none, none, none, none, none, none, none, none, none, none, none, none, none, none, none, none, none] [] h662 n _ _
            cases hr
            exact rr_keep [false, true, true, true, true, true, true, true, true, true, true, true, true, true, true, true, true, true, false, false, false, true, true, true, true, true, true, true, true, true, true, true, false, true, true, false, true, false, true, false, true, false, true, true, false, true, false, true, false, true, false, true, false, false, false, false, false, false, false, false, false, false, false, false, false, false, false, false, false, false, false, false, false] hj641
          · replace hr := (if_neg c1205_).symm.trans hr
            refine rr_goto (tgt := 1272) C dL_law_1208 (by decide) ?_
            cases hr
            exact rr_keep [false, true, true, true, true, true, true, true, true, true, true, true, true, true, true, true, true, true, false, false, false, true, true, true, true, true, true, true, true, true, true, true, false, true, true, false, true, false, true, false, true, false, true, true, false, true, false, true, false, true, false, true, false, false, false, false, false, false, false, false, false, false, false, false, false, false, false, false, false, false, false, false, false] hj641
      refine rr_iinc (v := l51 + 1) C dL_law_1272 rfl rfl ?_
      show WW W0 G 73 _ _ _ 1275 [none, some (.ref l1), some (.int l2), some (.int l3), some (.int l4), some (.int l5), some (.int l6), some (.int l7), some (.int l8), some (.int l9), some (.int l10), some (.int l11), some (.int l12), some (.int l13), some (.int l14), some (.int l15), some (.int l16), some (.int l17), none, none, none, some (.ref l21), some (.ref l22), some (.ref l23), some (.ref l24), some (.ref l25), some (.ref l26), some (.ref l27), some (.int l28), some (.ref l29), some (.int l30), some (.long l31), none, some (.ref l33), some (.long l34), none, some (.long l36), none, some (.long l38), none, some (.long l40), none, some (.int l42), some (.long l43), none, some (.long l45), none, some (.long y629), none, some (.long y639), none, some (.int (l51 + 1)), none, none, none, none, none, none, none, none, none, none, none, none, none, none, none, none, none, none, none, none, none] [] h640 n _ _
      refine rr_goto (tgt := 1157) C dL_law_1275 (by decide) ?_
      exact rr_keep [false, true, true, true, true, true, true, true, true, true, true, true, true, true, true, true, true, true, false, false, false, true, true, true, true, true, true, true, true, true, true, true, false, true, true, false, true, false, true, false, true, false, true, true, false, true, false, true, false, true, false, true, false, false, false, false, false, false, false, false, false, false, false, false, false, false, false, false, false, false, false, false, false] (ih_ _ _ _ _ hr hx0)
set_option maxRecDepth 100000 in
set_option maxHeartbeats 4000000 in
theorem w_L_law_1418 {K : Nat} {W0 : mm_X} {G : mm_G} {mc ms kc ks : Nat} {Q_ : State → Prop} {n : Nat} (C : mm_C W0 G cL_law yL_law.cls 73 mc ms (some .boolean) 300 yL_law.name) (hn : 48 ≤ n) (l1 : Nat) (l2 : Int32) (l3 : Int32) (l4 : Int32) (l5 : Int32) (l6 : Int32) (l7 : Int32) (l8 : Int32) (l9 : Int32) (l10 : Int32) (l11 : Int32) (l12 : Int32) (l13 : Int32) (l14 : Int32) (l15 : Int32) (l16 : Int32) (l17 : Int32) (l21 : Nat) (l22 : Nat) (l23 : Nat) (l24 : Nat) (l25 : Nat) (l26 : Nat) (l27 : Nat) (l28 : Int32) (l29 : Nat) (l30 : Int32) (l31 : Int64) (l33 : Nat) (l38 : Int64) (l40 : Int64) (l42 : Int32) (l43 : Int64) (l45 : Int64) (l53 : Int64) (l55 : Nat) : ∀ (k_ : Nat) (l56 : Int32) (h : mm_H) {r_ : mm_H} (hr : lp_L_law_1418 K n l1 l2 l3 l4 l5 l6 l7 l8 l9 l10 l11 l12 l13 l14 l15 l16 l17 l21 l22 l23 l24 l25 l26 l27 l28 l29 l30 l31 l33 l38 l40 l42 l43 l45 l53 l55 k_ l56 h = some r_) (hx0 : WW W0 G 73 mc ms Q_ 1453 [none, some (.ref l1), some (.int l2), some (.int l3), some (.int l4), some (.int l5), some (.int l6), some (.int l7), some (.int l8), some (.int l9), some (.int l10), some (.int l11), some (.int l12), some (.int l13), some (.int l14), some (.int l15), some (.int l16), some (.int l17), none, none, none, some (.ref l21), some (.ref l22), some (.ref l23), some (.ref l24), some (.ref l25), some (.ref l26), some (.ref l27), some (.int l28), some (.ref l29), some (.int l30), some (.long l31), none, some (.ref l33), none, none, none, none, some (.long l38), none, some (.long l40), none, some (.int l42), some (.long l43), none, some (.long l45), none, none, none, none, none, none, none, some (.long l53), none, none, none, none, none, none, none, none, none, none, none, none, none, none, none, none, none, none, none] [] r_ n kc ks), WW W0 G 73 mc ms Q_ 1418 [none, some (.ref l1), some (.int l2), some (.int l3), some (.int l4), some (.int l5), some (.int l6), some (.int l7), some (.int l8), some (.int l9), some (.int l10), some (.int l11), some (.int l12), some (.int l13), some (.int l14), some (.int l15), some (.int l16), some (.int l17), none, none, none, some (.ref l21), some (.ref l22), some (.ref l23), some (.ref l24), some (.ref l25), some (.ref l26), some (.ref l27), some (.int l28), some (.ref l29), some (.int l30), some (.long l31), none, some (.ref l33), none, none, none, none, some (.long l38), none, some (.long l40), none, some (.int l42), some (.long l43), none, some (.long l45), none, none, none, none, none, none, none, some (.long l53), none, some (.ref l55), some (.int l56), none, none, none, none, none, none, none, none, none, none, none, none, none, none, none, none] [] h n kc ks := by
  intro k_
  induction k_ with
  | zero =>
    intro l56 h r_ hr
    cases hr
  | succ k_ ih_ =>
    intro l56 h r_ hr hx0
    unfold lp_L_law_1418 at hr
    refine rr_iload C dL_law_1418 rfl ?_
    refine rr_bipush (v := 15) C dL_law_1420 (by decide) ?_
    refine rr_icmp_ge (tgt := 1453) C dL_law_1422 (by decide) (fun c1422_ => ?_) (fun c1422_ => ?_)
    · replace hr := (if_pos c1422_).symm.trans hr
      obtain rfl := Option.some.inj hr
      exact rr_keep [false, true, true, true, true, true, true, true, true, true, true, true, true, true, true, true, true, true, false, false, false, true, true, true, true, true, true, true, true, true, true, true, false, true, false, false, false, false, true, false, true, false, true, true, false, true, false, false, false, false, false, false, false, true, false, false, false, false, false, false, false, false, false, false, false, false, false, false, false, false, false, false, false] (hx0)
    · replace hr := (if_neg c1422_).symm.trans hr
      refine rr_aload_n (i := 1) C dL_law_1425 rfl rfl ?_
      refine rr_iconst (v := 0) C dL_law_1426 (by decide) ?_
      refine rr_iload C dL_law_1427 rfl ?_
      refine rr_iload C dL_law_1429 rfl ?_
      refine rr_iload C dL_law_1431 rfl ?_
      replace hr := Option.bind_eq_some_iff.mp hr
      obtain ⟨u711, e712, hr⟩ := hr
      replace hr := Option.bind_eq_some_iff.mp hr
      obtain ⟨v713, e714, hr⟩ := hr
      refine rr_callVq (as := [.int 0, .int l42, .int l30, .int l56]) (st := []) (mc' := 0) (ms' := 0) C dL_law_1433 iv_L_120 (by decide) e712 rfl (Nat.le_of_ble_eq_true rfl) (c_X10_line l1 0 l42 l30 l56 (by omega) e714) (fun v_ h_ n_ q_ => ?_)
      obtain ⟨q1_, q2_, q3_⟩ := q_
      subst v_; subst h_; subst n_
      show WW W0 G 73 _ _ _ 1436 [none, some (.ref l1), some (.int l2), some (.int l3), some (.int l4), some (.int l5), some (.int l6), some (.int l7), some (.int l8), some (.int l9), some (.int l10), some (.int l11), some (.int l12), some (.int l13), some (.int l14), some (.int l15), some (.int l16), some (.int l17), none, none, none, some (.ref l21), some (.ref l22), some (.ref l23), some (.ref l24), some (.ref l25), some (.ref l26), some (.ref l27), some (.int l28), some (.ref l29), some (.int l30), some (.long l31), none, some (.ref l33), none, none, none, none, some (.long l38), none, some (.long l40), none, some (.int l42), some (.long l43), none, some (.long l45), none, none, none, none, none, none, none, some (.long l53), none, some (.ref l55), some (.int l56), none, none, none, none, none, none, none, none, none, none, none, none, none, none, none, none] [.long v713.1] v713.2 n _ _
      refine rr_aload C dL_law_1436 rfl ?_
      refine rr_iload C dL_law_1438 rfl ?_
      replace hr := Option.bind_eq_some_iff.mp hr
      obtain ⟨v715, e716, hr⟩ := hr
      refine rr_ldJ C dL_law_1440 e716 ?_
      refine rr_lcmp C dL_law_1441 ?_
      obtain ⟨c717, hr⟩ := ite_nn hr
      refine rr_if_eq (tgt := 1447) C dL_law_1442 (by decide) (fun _ => ?_) (fun q_ => absurd c717 q_)
      refine rr_iinc (v := l56 + 1) C dL_law_1447 rfl rfl ?_
      show WW W0 G 73 _ _ _ 1450 [none, some (.ref l1), some (.int l2), some (.int l3), some (.int l4), some (.int l5), some (.int l6), some (.int l7), some (.int l8), some (.int l9), some (.int l10), some (.int l11), some (.int l12), some (.int l13), some (.int l14), some (.int l15), some (.int l16), some (.int l17), none, none, none, some (.ref l21), some (.ref l22), some (.ref l23), some (.ref l24), some (.ref l25), some (.ref l26), some (.ref l27), some (.int l28), some (.ref l29), some (.int l30), some (.long l31), none, some (.ref l33), none, none, none, none, some (.long l38), none, some (.long l40), none, some (.int l42), some (.long l43), none, some (.long l45), none, none, none, none, none, none, none, some (.long l53), none, some (.ref l55), some (.int (l56 + 1)), none, none, none, none, none, none, none, none, none, none, none, none, none, none, none, none] [] v713.2 n _ _
      refine rr_goto (tgt := 1418) C dL_law_1450 (by decide) ?_
      exact rr_keep [false, true, true, true, true, true, true, true, true, true, true, true, true, true, true, true, true, true, false, false, false, true, true, true, true, true, true, true, true, true, true, true, false, true, false, false, false, false, true, false, true, false, true, true, false, true, false, false, false, false, false, false, false, true, false, true, true, false, false, false, false, false, false, false, false, false, false, false, false, false, false, false, false] (ih_ _ _ hr hx0)
set_option maxRecDepth 100000 in
set_option maxHeartbeats 4000000 in
theorem w_L_law_1730 {K : Nat} {W0 : mm_X} {G : mm_G} {mc ms kc ks : Nat} {Q_ : State → Prop} {n : Nat} (C : mm_C W0 G cL_law yL_law.cls 73 mc ms (some .boolean) 300 yL_law.name) (hn : 48 ≤ n) (l1 : Nat) (l2 : Int32) (l3 : Int32) (l4 : Int32) (l5 : Int32) (l6 : Int32) (l7 : Int32) (l8 : Int32) (l9 : Int32) (l10 : Int32) (l11 : Int32) (l12 : Int32) (l13 : Int32) (l14 : Int32) (l15 : Int32) (l16 : Int32) (l17 : Int32) (l21 : Nat) (l22 : Nat) (l23 : Nat) (l24 : Nat) (l25 : Nat) (l26 : Nat) (l27 : Nat) (l28 : Int32) (l29 : Nat) (l30 : Int32) (l31 : Int64) (l33 : Nat) (l38 : Int64) (l40 : Int64) (l42 : Int32) (l43 : Int64) (l45 : Int64) (l60 : Int64) (l62 : Nat) : ∀ (k_ : Nat) (l63 : Int64) (l65 : Int32) (h : mm_H) {r_ : Int64 × mm_H} (hr : lp_L_law_1730 K n l1 l2 l3 l4 l5 l6 l7 l8 l9 l10 l11 l12 l13 l14 l15 l16 l17 l21 l22 l23 l24 l25 l26 l27 l28 l29 l30 l31 l33 l38 l40 l42 l43 l45 l60 l62 k_ l63 l65 h = some r_) (hx0 : WW W0 G 73 mc ms Q_ 1787 [none, some (.ref l1), some (.int l2), some (.int l3), some (.int l4), some (.int l5), some (.int l6), some (.int l7), some (.int l8), some (.int l9), some (.int l10), some (.int l11), some (.int l12), some (.int l13), some (.int l14), some (.int l15), some (.int l16), some (.int l17), none, none, none, some (.ref l21), some (.ref l22), some (.ref l23), some (.ref l24), some (.ref l25), some (.ref l26), some (.ref l27), some (.int l28), some (.ref l29), some (.int l30), some (.long l31), none, some (.ref l33), none, none, none, none, some (.long l38), none, some (.long l40), none, some (.int l42), some (.long l43), none, some (.long l45), none, none, none, none, none, none, none, none, none, none, none, none, none, none, some (.long l60), none, none, some (.long r_.1), none, none, none, none, none, none, none, none, none] [] r_.2 n kc ks), WW W0 G 73 mc ms Q_ 1730 [none, some (.ref l1), some (.int l2), some (.int l3), some (.int l4), some (.int l5), some (.int l6), some (.int l7), some (.int l8), some (.int l9), some (.int l10), some (.int l11), some (.int l12), some (.int l13), some (.int l14), some (.int l15), some (.int l16), some (.int l17), none, none, none, some (.ref l21), some (.ref l22), some (.ref l23), some (.ref l24), some (.ref l25), some (.ref l26), some (.ref l27), some (.int l28), some (.ref l29), some (.int l30), some (.long l31), none, some (.ref l33), none, none, none, none, some (.long l38), none, some (.long l40), none, some (.int l42), some (.long l43), none, some (.long l45), none, none, none, none, none, none, none, none, none, none, none, none, none, none, some (.long l60), none, some (.ref l62), some (.long l63), none, some (.int l65), none, none, none, none, none, none, none] [] h n kc ks := by
  intro k_
  induction k_ with
  | zero =>
    intro l63 l65 h r_ hr
    cases hr
  | succ k_ ih_ =>
    intro l63 l65 h r_ hr hx0
    unfold lp_L_law_1730 at hr
    refine rr_iload C dL_law_1730 rfl ?_
    refine rr_iconst (v := 3) C dL_law_1732 (by decide) ?_
    refine rr_icmp_ge (tgt := 1787) C dL_law_1733 (by decide) (fun c1733_ => ?_) (fun c1733_ => ?_)
    · replace hr := (if_pos c1733_).symm.trans hr
      obtain rfl := Option.some.inj hr
      exact rr_keep [false, true, true, true, true, true, true, true, true, true, true, true, true, true, true, true, true, true, false, false, false, true, true, true, true, true, true, true, true, true, true, true, false, true, false, false, false, false, true, false, true, false, true, true, false, true, false, false, false, false, false, false, false, false, false, false, false, false, false, false, true, false, false, true, false, false, false, false, false, false, false, false, false] (hx0)
    · replace hr := (if_neg c1733_).symm.trans hr
      refine rr_aload_n (i := 1) C dL_law_1736 rfl rfl ?_
      refine rr_iconst (v := 0) C dL_law_1737 (by decide) ?_
      refine rr_iload C dL_law_1738 rfl ?_
      refine rr_iload C dL_law_1740 rfl ?_
      refine rr_iload C dL_law_1742 rfl ?_
      replace hr := Option.bind_eq_some_iff.mp hr
      obtain ⟨u791, e792, hr⟩ := hr
      replace hr := Option.bind_eq_some_iff.mp hr
      obtain ⟨v793, e794, hr⟩ := hr
      refine rr_callVq (as := [.int 0, .int l42, .int l30, .int l65]) (st := []) (mc' := 0) (ms' := 0) C dL_law_1744 iv_L_141 (by decide) e792 rfl (Nat.le_of_ble_eq_true rfl) (c_X10_home l1 0 l42 l30 l65 (by omega) e794) (fun v_ h_ n_ q_ => ?_)
      obtain ⟨q1_, q2_, q3_⟩ := q_
      subst v_; subst h_; subst n_
      show WW W0 G 73 _ _ _ 1747 [none, some (.ref l1), some (.int l2), some (.int l3), some (.int l4), some (.int l5), some (.int l6), some (.int l7), some (.int l8), some (.int l9), some (.int l10), some (.int l11), some (.int l12), some (.int l13), some (.int l14), some (.int l15), some (.int l16), some (.int l17), none, none, none, some (.ref l21), some (.ref l22), some (.ref l23), some (.ref l24), some (.ref l25), some (.ref l26), some (.ref l27), some (.int l28), some (.ref l29), some (.int l30), some (.long l31), none, some (.ref l33), none, none, none, none, some (.long l38), none, some (.long l40), none, some (.int l42), some (.long l43), none, some (.long l45), none, none, none, none, none, none, none, none, none, none, none, none, none, none, some (.long l60), none, some (.ref l62), some (.long l63), none, some (.int l65), none, none, none, none, none, none, none] [.long v793.1] v793.2 n _ _
      refine rr_aload C dL_law_1747 rfl ?_
      refine rr_iload C dL_law_1749 rfl ?_
      replace hr := Option.bind_eq_some_iff.mp hr
      obtain ⟨v795, e796, hr⟩ := hr
      refine rr_ldJ C dL_law_1751 e796 ?_
      refine rr_lcmp C dL_law_1752 ?_
      obtain ⟨c797, hr⟩ := ite_nn hr
      refine rr_if_eq (tgt := 1758) C dL_law_1753 (by decide) (fun _ => ?_) (fun q_ => absurd c797 q_)
      refine rr_lload C dL_law_1758 rfl ?_
      refine rr_aload C dL_law_1760 rfl ?_
      refine rr_iload C dL_law_1762 rfl ?_
      replace hr := Option.bind_eq_some_iff.mp hr
      obtain ⟨v798, e799, hr⟩ := hr
      refine rr_ldJ C dL_law_1764 e799 ?_
      refine rr_aload C dL_law_1765 rfl ?_
      refine rr_bipush (v := 8) C dL_law_1767 (by decide) ?_
      refine rr_iload C dL_law_1769 rfl ?_
      refine rr_imul C dL_law_1771 ?_
      refine rr_iload C dL_law_1772 rfl ?_
      refine rr_iadd C dL_law_1774 ?_
      replace hr := Option.bind_eq_some_iff.mp hr
      obtain ⟨v800, e801, hr⟩ := hr
      refine rr_ldI C dL_law_1775 e801 ?_
      refine rr_i2l C dL_law_1776 ?_
      refine rr_lmul C dL_law_1777 ?_
      refine rr_lsub C dL_law_1778 ?_
      replace hr := Option.bind_eq_some_iff.mp hr
      obtain ⟨x802, e803, hr⟩ := hr
      refine rr_asJ C e803 ?_
      refine rr_lstore C dL_law_1779 (by decide) ?_
      show WW W0 G 73 _ _ _ 1781 [none, some (.ref l1), some (.int l2), some (.int l3), some (.int l4), some (.int l5), some (.int l6), some (.int l7), some (.int l8), some (.int l9), some (.int l10), some (.int l11), some (.int l12), some (.int l13), some (.int l14), some (.int l15), some (.int l16), some (.int l17), none, none, none, some (.ref l21), some (.ref l22), some (.ref l23), some (.ref l24), some (.ref l25), some (.ref l26), some (.ref l27), some (.int l28), some (.ref l29), some (.int l30), some (.long l31), none, some (.ref l33), none, none, none, none, some (.long l38), none, some (.long l40), none, some (.int l42), some (.long l43), none, some (.long l45), none, none, none, none, none, none, none, none, none, none, none, none, none, none, some (.long l60), none, some (.ref l62), some (.long x802), none, some (.int l65), none, none, none, none, none, none, none] [] v793.2 n _ _
      refine rr_iinc (v := l65 + 1) C dL_law_1781 rfl rfl ?_
      show WW W0 G 73 _ _ _ 1784 [none, some (.ref l1), some (.int l2), some (.int l3), some (.int l4), some (.int l5), some (.int l6), some (.int l7), some (.int l8), some (.int l9), some (.int l10), some (.int l11), some (.int l12), some (.int l13), some (.int l14), some (.int l15), some (.int l16), some (.int l17), none, none, none, some (.ref l21), some (.ref l22), some (.ref l23), some (.ref l24), some (.ref l25), some (.ref l26), some (.ref l27), some (.int l28), some (.ref l29), some (.int l30), some (.long l31), none, some (.ref l33), none, none, none, none, some (.long l38), none, some (.long l40), none, some (.int l42), some (.long l43), none, some (.long l45), none, none, none, none, none, none, none, none, none, none, none, none, none, none, some (.long l60), none, some (.ref l62), some (.long x802), none, some (.int (l65 + 1)), none, none, none, none, none, none, none] [] v793.2 n _ _
      refine rr_goto (tgt := 1730) C dL_law_1784 (by decide) ?_
      exact rr_keep [false, true, true, true, true, true, true, true, true, true, true, true, true, true, true, true, true, true, false, false, false, true, true, true, true, true, true, true, true, true, true, true, false, true, false, false, false, false, true, false, true, false, true, true, false, true, false, false, false, false, false, false, false, false, false, false, false, false, false, false, true, false, true, true, false, true, false, false, false, false, false, false, false] (ih_ _ _ _ hr hx0)
set_option maxRecDepth 100000 in
set_option maxHeartbeats 4000000 in
theorem w_L_law_2036 {K : Nat} {W0 : mm_X} {G : mm_G} {mc ms kc ks : Nat} {Q_ : State → Prop} {h : mm_H} {n : Nat} (C : mm_C W0 G cL_law yL_law.cls 73 mc ms (some .boolean) 300 yL_law.name) (hn : 48 ≤ n) (l1 : Nat) (l2 : Int32) (l3 : Int32) (l4 : Int32) (l5 : Int32) (l6 : Int32) (l7 : Int32) (l8 : Int32) (l9 : Int32) (l10 : Int32) (l11 : Int32) (l12 : Int32) (l13 : Int32) (l14 : Int32) (l15 : Int32) (l16 : Int32) (l17 : Int32) (l21 : Nat) (l22 : Nat) (l23 : Nat) (l24 : Nat) (l25 : Nat) (l26 : Nat) (l27 : Nat) (l28 : Int32) (l29 : Nat) (l30 : Int32) (l33 : Nat) (l34 : Int64) (l36 : Int64) (l38 : Int64) (l40 : Int64) (l42 : Int32) : ∀ (k_ : Nat) (l67 : Int64) (l69 : Int32) {r_ : Int64} (hr : lp_L_law_2036 K h n l1 l2 l3 l4 l5 l6 l7 l8 l9 l10 l11 l12 l13 l14 l15 l16 l17 l21 l22 l23 l24 l25 l26 l27 l28 l29 l30 l33 l34 l36 l38 l40 l42 k_ l67 l69 = some r_) (hx0 : WW W0 G 73 mc ms Q_ 2073 [none, some (.ref l1), some (.int l2), some (.int l3), some (.int l4), some (.int l5), some (.int l6), some (.int l7), some (.int l8), some (.int l9), some (.int l10), some (.int l11), some (.int l12), some (.int l13), some (.int l14), some (.int l15), some (.int l16), some (.int l17), none, none, none, some (.ref l21), some (.ref l22), some (.ref l23), some (.ref l24), some (.ref l25), some (.ref l26), some (.ref l27), some (.int l28), some (.ref l29), some (.int l30), none, none, some (.ref l33), some (.long l34), none, some (.long l36), none, some (.long l38), none, some (.long l40), none, some (.int l42), none, none, none, none, none, none, none, none, none, none, none, none, none, none, none, none, none, none, none, none, none, none, none, none, some (.long r_), none, none, none, none, none] [] h n kc ks), WW W0 G 73 mc ms Q_ 2036 [none, some (.ref l1), some (.int l2), some (.int l3), some (.int l4), some (.int l5), some (.int l6), some (.int l7), some (.int l8), some (.int l9), some (.int l10), some (.int l11), some (.int l12), some (.int l13), some (.int l14), some (.int l15), some (.int l16), some (.int l17), none, none, none, some (.ref l21), some (.ref l22), some (.ref l23), some (.ref l24), some (.ref l25), some (.ref l26), some (.ref l27), some (.int l28), some (.ref l29), some (.int l30), none, none, some (.ref l33), some (.long l34), none, some (.long l36), none, some (.long l38), none, some (.long l40), none, some (.int l42), none, none, none, none, none, none, none, none, none, none, none, none, none, none, none, none, none, none, none, none, none, none, none, none, some (.long l67), none, some (.int l69), none, none, none] [] h n kc ks := by
  intro k_
  induction k_ with
  | zero =>
    intro l67 l69 r_ hr
    cases hr
  | succ k_ ih_ =>
    intro l67 l69 r_ hr hx0
    unfold lp_L_law_2036 at hr
    refine rr_iload C dL_law_2036 rfl ?_
    refine rr_iload C dL_law_2038 rfl ?_
    refine rr_icmp_ge (tgt := 2073) C dL_law_2040 (by decide) (fun c2040_ => ?_) (fun c2040_ => ?_)
    · replace hr := (if_pos c2040_).symm.trans hr
      obtain rfl := Option.some.inj hr
      exact rr_keep [false, true, true, true, true, true, true, true, true, true, true, true, true, true, true, true, true, true, false, false, false, true, true, true, true, true, true, true, true, true, true, false, false, true, true, false, true, false, true, false, true, false, true, false, false, false, false, false, false, false, false, false, false, false, false, false, false, false, false, false, false, false, false, false, false, false, false, true, false, false, false, false, false] (hx0)
    · replace hr := (if_neg c2040_).symm.trans hr
      refine rr_aload C dL_law_2043 rfl ?_
      refine rr_iload C dL_law_2045 rfl ?_
      replace hr := Option.bind_eq_some_iff.mp hr
      obtain ⟨v875, e876, hr⟩ := hr
      refine rr_ldI C dL_law_2047 e876 ?_
      refine rr_bipush (v := 100) C dL_law_2048 (by decide) ?_
      refine rr_idiv C dL_law_2050 (by decide) ?_
      refine rr_iload C dL_law_2051 rfl ?_
      replace hr := Option.bind_eq_some_iff.mp hr
      obtain ⟨y878, er880, hr⟩ := hr
      suffices hj879 : WW W0 G 73 _ _ _ 2067 [none, some (.ref l1), some (.int l2), some (.int l3), some (.int l4), some (.int l5), some (.int l6), some (.int l7), some (.int l8), some (.int l9), some (.int l10), some (.int l11), some (.int l12), some (.int l13), some (.int l14), some (.int l15), some (.int l16), some (.int l17), none, none, none, some (.ref l21), some (.ref l22), some (.ref l23), some (.ref l24), some (.ref l25), some (.ref l26), some (.ref l27), some (.int l28), some (.ref l29), some (.int l30), none, none, some (.ref l33), some (.long l34), none, some (.long l36), none, some (.long l38), none, some (.long l40), none, some (.int l42), none, none, none, none, none, none, none, none, none, none, none, none, none, none, none, none, none, none, none, none, none, none, none, none, some (.long y878), none, some (.int l69), none, none, none] [] h n (0) (0) from by
        have hr := er880
        refine rr_icmp_ne (tgt := 2067) C dL_law_2053 (by decide) (fun c877 => ?_) (fun c877 => ?_)
        · replace hr := (if_neg c877).symm.trans hr
          cases hr
          exact rr_keep [false, true, true, true, true, true, true, true, true, true, true, true, true, true, true, true, true, true, false, false, false, true, true, true, true, true, true, true, true, true, true, false, false, true, true, false, true, false, true, false, true, false, true, false, false, false, false, false, false, false, false, false, false, false, false, false, false, false, false, false, false, false, false, false, false, false, false, true, false, true, false, false, false] hj879
        · replace hr := (if_pos c877).symm.trans hr
          refine rr_lload C dL_law_2056 rfl ?_
          refine rr_aload C dL_law_2058 rfl ?_
          refine rr_iload C dL_law_2060 rfl ?_
          replace hr := Option.bind_eq_some_iff.mp hr
          obtain ⟨v881, e882, hr⟩ := hr
          refine rr_ldI C dL_law_2062 e882 ?_
          refine rr_i2l C dL_law_2063 ?_
          refine rr_ladd C dL_law_2064 ?_
          replace hr := Option.bind_eq_some_iff.mp hr
          obtain ⟨x883, e884, hr⟩ := hr
          refine rr_asJ C e884 ?_
          refine rr_lstore C dL_law_2065 (by decide) ?_
          show WW W0 G 73 _ _ _ 2067 [none, some (.ref l1), some (.int l2), some (.int l3), some (.int l4), some (.int l5), some (.int l6), some (.int l7), some (.int l8), some (.int l9), some (.int l10), some (.int l11), some (.int l12), some (.int l13), some (.int l14), some (.int l15), some (.int l16), some (.int l17), none, none, none, some (.ref l21), some (.ref l22), some (.ref l23), some (.ref l24), some (.ref l25), some (.ref l26), some (.ref l27), some (.int l28), some (.ref l29), some (.int l30), none, none, some (.ref l33), some (.long l34), none, some (.long l36), none, some (.long l38), none, some (.long l40), none, some (.int l42), none, none, none, none, none, none, none, none, none, none, none, none, none, none, none, none, none, none, none, none, none, none, none, none, some (.long x883), none, some (.int l69), none, none, none] [] h n _ _
          cases hr
          exact rr_keep [false, true, true, true, true, true, true, true, true, true, true, true, true, true, true, true, true, true, false, false, false, true, true, true, true, true, true, true, true, true, true, false, false, true, true, false, true, false, true, false, true, false, true, false, false, false, false, false, false, false, false, false, false, false, false, false, false, false, false, false, false, false, false, false, false, false, false, true, false, true, false, false, false] hj879
      refine rr_iinc (v := l69 + 1) C dL_law_2067 rfl rfl ?_
      show WW W0 G 73 _ _ _ 2070 [none, some (.ref l1), some (.int l2), some (.int l3), some (.int l4), some (.int l5), some (.int l6), some (.int l7), some (.int l8), some (.int l9), some (.int l10), some (.int l11), some (.int l12), some (.int l13), some (.int l14), some (.int l15), some (.int l16), some (.int l17), none, none, none, some (.ref l21), some (.ref l22), some (.ref l23), some (.ref l24), some (.ref l25), some (.ref l26), some (.ref l27), some (.int l28), some (.ref l29), some (.int l30), none, none, some (.ref l33), some (.long l34), none, some (.long l36), none, some (.long l38), none, some (.long l40), none, some (.int l42), none, none, none, none, none, none, none, none, none, none, none, none, none, none, none, none, none, none, none, none, none, none, none, none, some (.long y878), none, some (.int (l69 + 1)), none, none, none] [] h n _ _
      refine rr_goto (tgt := 2036) C dL_law_2070 (by decide) ?_
      exact rr_keep [false, true, true, true, true, true, true, true, true, true, true, true, true, true, true, true, true, true, false, false, false, true, true, true, true, true, true, true, true, true, true, false, false, true, true, false, true, false, true, false, true, false, true, false, false, false, false, false, false, false, false, false, false, false, false, false, false, false, false, false, false, false, false, false, false, false, false, true, false, true, false, false, false] (ih_ _ _ hr hx0)
set_option maxRecDepth 100000 in
set_option maxHeartbeats 4000000 in
theorem w_L_law_1115 {K : Nat} {W0 : mm_X} {G : mm_G} {mc ms kc ks : Nat} {Q_ : State → Prop} (C : mm_C W0 G cL_law yL_law.cls 73 mc ms (some .boolean) 300 yL_law.name) (l1 : Nat) (l2 : Int32) (l3 : Int32) (l4 : Int32) (l5 : Int32) (l6 : Int32) (l7 : Int32) (l8 : Int32) (l9 : Int32) (l10 : Int32) (l11 : Int32) (l12 : Int32) (l13 : Int32) (l14 : Int32) (l15 : Int32) (l16 : Int32) (l17 : Int32) (l21 : Nat) (l22 : Nat) (l23 : Nat) (l24 : Nat) (l25 : Nat) (l26 : Nat) (l27 : Nat) (l28 : Int32) (l29 : Nat) (l30 : Int32) (l33 : Nat) : ∀ (k_ : Nat) (l31 : Int64) (l34 : Int64) (l36 : Int64) (l38 : Int64) (l40 : Int64) (l42 : Int32) (h : mm_H) (n : Nat) (hn : 48 ≤ n) {r_ : Int64 × mm_H × Nat} (hr : lp_L_law_1115 K l1 l2 l3 l4 l5 l6 l7 l8 l9 l10 l11 l12 l13 l14 l15 l16 l17 l21 l22 l23 l24 l25 l26 l27 l28 l29 l30 l33 k_ l31 l34 l36 l38 l40 l42 h n = some r_) (hx0 : n ≤ r_.2.2 → WW W0 G 73 mc ms Q_ 2083 [none, some (.ref l1), some (.int l2), none, none, none, none, none, none, none, none, none, none, none, none, none, none, none, none, none, none, none, none, none, none, none, none, none, none, none, some (.int l30), some (.long r_.1), none, none, none, none, none, none, none, none, none, none, none, none, none, none, none, none, none, none, none, none, none, none, none, none, none, none, none, none, none, none, none, none, none, none, none, none, none, none, none, none, none] [] r_.2.1 r_.2.2 kc ks), WW W0 G 73 mc ms Q_ 1115 [none, some (.ref l1), some (.int l2), some (.int l3), some (.int l4), some (.int l5), some (.int l6), some (.int l7), some (.int l8), some (.int l9), some (.int l10), some (.int l11), some (.int l12), some (.int l13), some (.int l14), some (.int l15), some (.int l16), some (.int l17), none, none, none, some (.ref l21), some (.ref l22), some (.ref l23), some (.ref l24), some (.ref l25), some (.ref l26), some (.ref l27), some (.int l28), some (.ref l29), some (.int l30), some (.long l31), none, some (.ref l33), some (.long l34), none, some (.long l36), none, some (.long l38), none, some (.long l40), none, some (.int l42), none, none, none, none, none, none, none, none, none, none, none, none, none, none, none, none, none, none, none, none, none, none, none, none, none, none, none, none, none, none] [] h n (kc + 5 * k_) (ks + 993 * k_) := by
  intro k_
  induction k_ with
  | zero =>
    intro l31 l34 l36 l38 l40 l42 h n hn r_ hr
    cases hr
  | succ k_ ih_ =>
    intro l31 l34 l36 l38 l40 l42 h n hn r_ hr hx0
    unfold lp_L_law_1115 at hr
    refine rr_cut C (kc' := kc + 5 * k_ + 5) (ks' := ks + 993 * k_ + 993) (by omega) (by omega) ?_
    refine rr_iload C dL_law_1115 rfl ?_
    refine rr_iconst (v := 5) C dL_law_1117 (by decide) ?_
    refine rr_icmp_ge (tgt := 2083) C dL_law_1118 (by decide) (fun c1118_ => ?_) (fun c1118_ => ?_)
    · replace hr := (if_pos c1118_).symm.trans hr
      obtain rfl := Option.some.inj hr
      refine rr_cut C (kc' := kc) (ks' := ks) (by omega) (by omega) ?_
      exact rr_keep [false, true, true, false, false, false, false, false, false, false, false, false, false, false, false, false, false, false, false, false, false, false, false, false, false, false, false, false, false, false, true, true, false, false, false, false, false, false, false, false, false, false, false, false, false, false, false, false, false, false, false, false, false, false, false, false, false, false, false, false, false, false, false, false, false, false, false, false, false, false, false, false, false] (hx0 (show n ≤ n from by omega))
    · replace hr := (if_neg c1118_).symm.trans hr
      refine rr_aload C dL_law_1121 rfl ?_
      refine rr_iload C dL_law_1123 rfl ?_
      replace hr := Option.bind_eq_some_iff.mp hr
      obtain ⟨v619, e620, hr⟩ := hr
      refine rr_ldI C dL_law_1125 e620 ?_
      refine rr_i2l C dL_law_1126 ?_
      refine rr_iload C dL_law_1127 rfl ?_
      refine rr_i2l C dL_law_1129 ?_
      refine rr_lmul C dL_law_1130 ?_
      refine rr_ldc2 C dL_law_1131 ct_L_116 ?_
      refine rr_ldiv C dL_law_1134 (by decide) ?_
      replace hr := Option.bind_eq_some_iff.mp hr
      obtain ⟨x621, e622, hr⟩ := hr
      refine rr_asJ C e622 ?_
      refine rr_lstore C dL_law_1135 (by decide) ?_
      show WW W0 G 73 _ _ _ 1137 [none, some (.ref l1), some (.int l2), some (.int l3), some (.int l4), some (.int l5), some (.int l6), some (.int l7), some (.int l8), some (.int l9), some (.int l10), some (.int l11), some (.int l12), some (.int l13), some (.int l14), some (.int l15), some (.int l16), some (.int l17), none, none, none, some (.ref l21), some (.ref l22), some (.ref l23), some (.ref l24), some (.ref l25), some (.ref l26), some (.ref l27), some (.int l28), some (.ref l29), some (.int l30), some (.long l31), none, some (.ref l33), some (.long l34), none, some (.long l36), none, some (.long l38), none, some (.long l40), none, some (.int l42), some (.long x621), none, none, none, none, none, none, none, none, none, none, none, none, none, none, none, none, none, none, none, none, none, none, none, none, none, none, none, none, none] [] h n _ _
      refine rr_lload C dL_law_1137 rfl ?_
      refine rr_iload_n (i := 2) C dL_law_1139 rfl rfl ?_
      refine rr_i2l C dL_law_1140 ?_
      refine rr_lmul C dL_law_1141 ?_
      refine rr_ldc2 C dL_law_1142 ct_L_118 ?_
      refine rr_ldiv C dL_law_1145 (by decide) ?_
      replace hr := Option.bind_eq_some_iff.mp hr
      obtain ⟨x623, e624, hr⟩ := hr
      refine rr_asJ C e624 ?_
      refine rr_lstore C dL_law_1146 (by decide) ?_
      show WW W0 G 73 _ _ _ 1148 [none, some (.ref l1), some (.int l2), some (.int l3), some (.int l4), some (.int l5), some (.int l6), some (.int l7), some (.int l8), some (.int l9), some (.int l10), some (.int l11), some (.int l12), some (.int l13), some (.int l14), some (.int l15), some (.int l16), some (.int l17), none, none, none, some (.ref l21), some (.ref l22), some (.ref l23), some (.ref l24), some (.ref l25), some (.ref l26), some (.ref l27), some (.int l28), some (.ref l29), some (.int l30), some (.long l31), none, some (.ref l33), some (.long l34), none, some (.long l36), none, some (.long l38), none, some (.long l40), none, some (.int l42), some (.long x621), none, some (.long x623), none, none, none, none, none, none, none, none, none, none, none, none, none, none, none, none, none, none, none, none, none, none, none, none, none, none, none] [] h n _ _
      refine rr_lconst (v := 0) C dL_law_1148 (by decide) ?_
      refine rr_lstore C dL_law_1149 (by decide) ?_
      show WW W0 G 73 _ _ _ 1151 [none, some (.ref l1), some (.int l2), some (.int l3), some (.int l4), some (.int l5), some (.int l6), some (.int l7), some (.int l8), some (.int l9), some (.int l10), some (.int l11), some (.int l12), some (.int l13), some (.int l14), some (.int l15), some (.int l16), some (.int l17), none, none, none, some (.ref l21), some (.ref l22), some (.ref l23), some (.ref l24), some (.ref l25), some (.ref l26), some (.ref l27), some (.int l28), some (.ref l29), some (.int l30), some (.long l31), none, some (.ref l33), some (.long l34), none, some (.long l36), none, some (.long l38), none, some (.long l40), none, some (.int l42), some (.long x621), none, some (.long x623), none, some (.long 0), none, none, none, none, none, none, none, none, none, none, none, none, none, none, none, none, none, none, none, none, none, none, none, none, none] [] h n _ _
      refine rr_lconst (v := 0) C dL_law_1151 (by decide) ?_
      refine rr_lstore C dL_law_1152 (by decide) ?_
      show WW W0 G 73 _ _ _ 1154 [none, some (.ref l1), some (.int l2), some (.int l3), some (.int l4), some (.int l5), some (.int l6), some (.int l7), some (.int l8), some (.int l9), some (.int l10), some (.int l11), some (.int l12), some (.int l13), some (.int l14), some (.int l15), some (.int l16), some (.int l17), none, none, none, some (.ref l21), some (.ref l22), some (.ref l23), some (.ref l24), some (.ref l25), some (.ref l26), some (.ref l27), some (.int l28), some (.ref l29), some (.int l30), some (.long l31), none, some (.ref l33), some (.long l34), none, some (.long l36), none, some (.long l38), none, some (.long l40), none, some (.int l42), some (.long x621), none, some (.long x623), none, some (.long 0), none, some (.long 0), none, none, none, none, none, none, none, none, none, none, none, none, none, none, none, none, none, none, none, none, none, none, none] [] h n _ _
      refine rr_iconst (v := 0) C dL_law_1154 (by decide) ?_
      refine rr_istore C dL_law_1155 (by decide) ?_
      show WW W0 G 73 _ _ _ 1157 [none, some (.ref l1), some (.int l2), some (.int l3), some (.int l4), some (.int l5), some (.int l6), some (.int l7), some (.int l8), some (.int l9), some (.int l10), some (.int l11), some (.int l12), some (.int l13), some (.int l14), some (.int l15), some (.int l16), some (.int l17), none, none, none, some (.ref l21), some (.ref l22), some (.ref l23), some (.ref l24), some (.ref l25), some (.ref l26), some (.ref l27), some (.int l28), some (.ref l29), some (.int l30), some (.long l31), none, some (.ref l33), some (.long l34), none, some (.long l36), none, some (.long l38), none, some (.long l40), none, some (.int l42), some (.long x621), none, some (.long x623), none, some (.long 0), none, some (.long 0), none, some (.int 0), none, none, none, none, none, none, none, none, none, none, none, none, none, none, none, none, none, none, none, none, none] [] h n _ _
      replace hr := Option.bind_eq_some_iff.mp hr
      obtain ⟨v666, e667, hr⟩ := hr
      refine rr_keep [false, true, true, true, true, true, true, true, true, true, true, true, true, true, true, true, true, true, false, false, false, true, true, true, true, true, true, true, true, true, true, true, false, true, true, false, true, false, true, false, true, false, true, true, false, true, false, true, false, true, false, true, false, false, false, false, false, false, false, false, false, false, false, false, false, false, false, false, false, false, false, false, false] (w_L_law_1157 C (by omega) l1 l2 l3 l4 l5 l6 l7 l8 l9 l10 l11 l12 l13 l14 l15 l16 l17 l21 l22 l23 l24 l25 l26 l27 l28 l29 l30 l31 l33 l34 l36 l38 l40 l42 x621 x623 K 0 0 0 h e667 ?_)
      show WW W0 G 73 _ _ _ 1278 [none, some (.ref l1), some (.int l2), some (.int l3), some (.int l4), some (.int l5), some (.int l6), some (.int l7), some (.int l8), some (.int l9), some (.int l10), some (.int l11), some (.int l12), some (.int l13), some (.int l14), some (.int l15), some (.int l16), some (.int l17), none, none, none, some (.ref l21), some (.ref l22), some (.ref l23), some (.ref l24), some (.ref l25), some (.ref l26), some (.ref l27), some (.int l28), some (.ref l29), some (.int l30), some (.long l31), none, some (.ref l33), some (.long l34), none, some (.long l36), none, some (.long l38), none, some (.long l40), none, some (.int l42), some (.long x621), none, some (.long x623), none, some (.long v666.1), none, some (.long v666.2.1), none, none, none, none, none, none, none, none, none, none, none, none, none, none, none, none, none, none, none, none, none, none, none] [] v666.2.2 n _ _
      refine rr_aload C dL_law_1278 rfl ?_
      refine rr_iload C dL_law_1280 rfl ?_
      replace hr := Option.bind_eq_some_iff.mp hr
      obtain ⟨v668, e669, hr⟩ := hr
      refine rr_ldI C dL_law_1282 e669 ?_
      refine rr_i2l C dL_law_1283 ?_
      refine rr_lload C dL_law_1284 rfl ?_
      refine rr_iload C dL_law_1286 rfl ?_
      refine rr_i2l C dL_law_1288 ?_
      refine rr_lmul C dL_law_1289 ?_
      refine rr_ldc2 C dL_law_1290 ct_L_116 ?_
      refine rr_ldiv C dL_law_1293 (by decide) ?_
      refine rr_lcmp C dL_law_1294 ?_
      replace hr := Option.bind_eq_some_iff.mp hr
      obtain ⟨y671, er673, hr⟩ := hr
      suffices hj672 : WW W0 G 73 _ _ _ 1308 [none, some (.ref l1), some (.int l2), some (.int l3), some (.int l4), some (.int l5), some (.int l6), some (.int l7), some (.int l8), some (.int l9), some (.int l10), some (.int l11), some (.int l12), some (.int l13), some (.int l14), some (.int l15), some (.int l16), some (.int l17), none, none, none, some (.ref l21), some (.ref l22), some (.ref l23), some (.ref l24), some (.ref l25), some (.ref l26), some (.ref l27), some (.int l28), some (.ref l29), some (.int l30), some (.long l31), none, some (.ref l33), some (.long l34), none, some (.long l36), none, some (.long l38), none, some (.long l40), none, some (.int l42), some (.long x621), none, some (.long x623), none, some (.long v666.1), none, some (.long v666.2.1), none, none, none, none, none, none, none, none, none, none, none, none, none, none, none, none, none, none, none, none, none, none, none] [.long y671] v666.2.2 n (kc + 5 * k_ + 5) (ks + 993 * k_ + 993) from by
        have hr := er673
        refine rr_if_lt (tgt := 1307) C dL_law_1295 (by decide) (fun c670 => ?_) (fun c670 => ?_)
        · replace hr := (if_pos c670).symm.trans hr
          refine rr_lconst (v := 0) C dL_law_1307 (by decide) ?_
          cases hr
          exact rr_keep [false, true, true, true, true, true, true, true, true, true, true, true, true, true, true, true, true, true, false, false, false, true, true, true, true, true, true, true, true, true, true, true, false, true, true, false, true, false, true, false, true, false, true, true, false, true, false, true, false, true, false, false, false, false, false, false, false, false, false, false, false, false, false, false, false, false, false, false, false, false, false, false, false] hj672
        · replace hr := (if_neg c670).symm.trans hr
          refine rr_aload C dL_law_1298 rfl ?_
          refine rr_iload C dL_law_1300 rfl ?_
          replace hr := Option.bind_eq_some_iff.mp hr
          obtain ⟨v674, e675, hr⟩ := hr
          refine rr_ldI C dL_law_1302 e675 ?_
          refine rr_i2l C dL_law_1303 ?_
          refine rr_goto (tgt := 1308) C dL_law_1304 (by decide) ?_
          cases hr
          exact rr_keep [false, true, true, true, true, true, true, true, true, true, true, true, true, true, true, true, true, true, false, false, false, true, true, true, true, true, true, true, true, true, true, true, false, true, true, false, true, false, true, false, true, false, true, true, false, true, false, true, false, true, false, false, false, false, false, false, false, false, false, false, false, false, false, false, false, false, false, false, false, false, false, false, false] hj672
      refine rr_lstore C dL_law_1308 (by decide) ?_
      show WW W0 G 73 _ _ _ 1310 [none, some (.ref l1), some (.int l2), some (.int l3), some (.int l4), some (.int l5), some (.int l6), some (.int l7), some (.int l8), some (.int l9), some (.int l10), some (.int l11), some (.int l12), some (.int l13), some (.int l14), some (.int l15), some (.int l16), some (.int l17), none, none, none, some (.ref l21), some (.ref l22), some (.ref l23), some (.ref l24), some (.ref l25), some (.ref l26), some (.ref l27), some (.int l28), some (.ref l29), some (.int l30), some (.long l31), none, some (.ref l33), some (.long l34), none, some (.long l36), none, some (.long l38), none, some (.long l40), none, some (.int l42), some (.long x621), none, some (.long x623), none, some (.long v666.1), none, some (.long v666.2.1), none, some (.long y671), none, none, none, none, none, none, none, none, none, none, none, none, none, none, none, none, none, none, none, none, none] [] v666.2.2 n _ _
      refine rr_lload C dL_law_1310 rfl ?_
      refine rr_lload C dL_law_1312 rfl ?_
      refine rr_ladd C dL_law_1314 ?_
      refine rr_lload C dL_law_1315 rfl ?_
      refine rr_ladd C dL_law_1317 ?_
      refine rr_lload C dL_law_1318 rfl ?_
      refine rr_lsub C dL_law_1320 ?_
      refine rr_lload C dL_law_1321 rfl ?_
      refine rr_ladd C dL_law_1323 ?_
      refine rr_lload C dL_law_1324 rfl ?_
      refine rr_ladd C dL_law_1326 ?_
      refine rr_lload C dL_law_1327 rfl ?_
      refine rr_ladd C dL_law_1329 ?_
      replace hr := Option.bind_eq_some_iff.mp hr
      obtain ⟨x676, e677, hr⟩ := hr
      refine rr_asJ C e677 ?_
      refine rr_lstore C dL_law_1330 (by decide) ?_
      show WW W0 G 73 _ _ _ 1332 [none, some (.ref l1), some (.int l2), some (.int l3), some (.int l4), some (.int l5), some (.int l6), some (.int l7), some (.int l8), some (.int l9), some (.int l10), some (.int l11), some (.int l12), some (.int l13), some (.int l14), some (.int l15), some (.int l16), some (.int l17), none, none, none, some (.ref l21), some (.ref l22), some (.ref l23), some (.ref l24), some (.ref l25), some (.ref l26), some (.ref l27), some (.int l28), some (.ref l29), some (.int l30), some (.long l31), none, some (.ref l33), some (.long l34), none, some (.long l36), none, some (.long l38), none, some (.long l40), none, some (.int l42), some (.long x621), none, some (.long x623), none, some (.long v666.1), none, some (.long v666.2.1), none, some (.long y671), none, some (.long x676), none, none, none, none, none, none, none, none, none, none, none, none, none, none, none, none, none, none, none] [] v666.2.2 n _ _
      refine rr_bipush (v := 15) C dL_law_1332 (by decide) ?_
      refine rr_cut C (kc' := kc + 5 * k_ + 4 + 1) (ks' := ks + 993 * k_ + 978 + 15) (by omega) (by omega) ?_
      replace hr := Option.bind_eq_some_iff.mp hr
      obtain ⟨h678, e679, hr⟩ := hr
      refine rr_newJq C dL_law_1334 ac_long (N := 15) (by decide) e679 ?_
      show WW W0 G 73 _ _ _ 1336 [none, some (.ref l1), some (.int l2), some (.int l3), some (.int l4), some (.int l5), some (.int l6), some (.int l7), some (.int l8), some (.int l9), some (.int l10), some (.int l11), some (.int l12), some (.int l13), some (.int l14), some (.int l15), some (.int l16), some (.int l17), none, none, none, some (.ref l21), some (.ref l22), some (.ref l23), some (.ref l24), some (.ref l25), some (.ref l26), some (.ref l27), some (.int l28), some (.ref l29), some (.int l30), some (.long l31), none, some (.ref l33), some (.long l34), none, some (.long l36), none, some (.long l38), none, some (.long l40), none, some (.int l42), some (.long x621), none, some (.long x623), none, some (.long v666.1), none, some (.long v666.2.1), none, some (.long y671), none, some (.long x676), none, none, none, none, none, none, none, none, none, none, none, none, none, none, none, none, none, none, none] [.ref n] h678 (n + 1) _ _
      refine rr_dup C dL_law_1336 rfl ?_
      refine rr_iconst (v := 0) C dL_law_1337 (by decide) ?_
      refine rr_lload C dL_law_1338 rfl ?_
      replace hr := Option.bind_eq_some_iff.mp hr
      obtain ⟨h680, e681, hr⟩ := hr
      refine rr_stJ C dL_law_1340 e681 ?_
      refine rr_dup C dL_law_1341 rfl ?_
      refine rr_iconst (v := 1) C dL_law_1342 (by decide) ?_
      refine rr_lconst (v := 0) C dL_law_1343 (by decide) ?_
      replace hr := Option.bind_eq_some_iff.mp hr
      obtain ⟨h682, e683, hr⟩ := hr
      refine rr_stJ C dL_law_1344 e683 ?_
      refine rr_dup C dL_law_1345 rfl ?_
      refine rr_iconst (v := 2) C dL_law_1346 (by decide) ?_
      refine rr_lconst (v := 0) C dL_law_1347 (by decide) ?_
      replace hr := Option.bind_eq_some_iff.mp hr
      obtain ⟨h684, e685, hr⟩ := hr
      refine rr_stJ C dL_law_1348 e685 ?_
      refine rr_dup C dL_law_1349 rfl ?_
      refine rr_iconst (v := 3) C dL_law_1350 (by decide) ?_
      refine rr_lconst (v := 0) C dL_law_1351 (by decide) ?_
      replace hr := Option.bind_eq_some_iff.mp hr
      obtain ⟨h686, e687, hr⟩ := hr
      refine rr_stJ C dL_law_1352 e687 ?_
      refine rr_dup C dL_law_1353 rfl ?_
      refine rr_iconst (v := 4) C dL_law_1354 (by decide) ?_
      refine rr_lload C dL_law_1355 rfl ?_
      replace hr := Option.bind_eq_some_iff.mp hr
      obtain ⟨h688, e689, hr⟩ := hr
      refine rr_stJ C dL_law_1357 e689 ?_
      refine rr_dup C dL_law_1358 rfl ?_
      refine rr_iconst (v := 5) C dL_law_1359 (by decide) ?_
      refine rr_lload C dL_law_1360 rfl ?_
      replace hr := Option.bind_eq_some_iff.mp hr
      obtain ⟨h690, e691, hr⟩ := hr
      refine rr_stJ C dL_law_1362 e691 ?_
      refine rr_dup C dL_law_1363 rfl ?_
      refine rr_bipush (v := 6) C dL_law_1364 (by decide) ?_
      refine rr_lload C dL_law_1366 rfl ?_
      refine rr_lneg C dL_law_1368 ?_
      replace hr := Option.bind_eq_some_iff.mp hr
      obtain ⟨h692, e693, hr⟩ := hr
      refine rr_stJ C dL_law_1369 e693 ?_
      refine rr_dup C dL_law_1370 rfl ?_
      refine rr_bipush (v := 7) C dL_law_1371 (by decide) ?_
      refine rr_lconst (v := 0) C dL_law_1373 (by decide) ?_
      replace hr := Option.bind_eq_some_iff.mp hr
      obtain ⟨h694, e695, hr⟩ := hr
      refine rr_stJ C dL_law_1374 e695 ?_
      refine rr_dup C dL_law_1375 rfl ?_
      refine rr_bipush (v := 8) C dL_law_1376 (by decide) ?_
      refine rr_lload C dL_law_1378 rfl ?_
      replace hr := Option.bind_eq_some_iff.mp hr
      obtain ⟨h696, e697, hr⟩ := hr
      refine rr_stJ C dL_law_1380 e697 ?_
      refine rr_dup C dL_law_1381 rfl ?_
      refine rr_bipush (v := 9) C dL_law_1382 (by decide) ?_
      refine rr_lconst (v := 0) C dL_law_1384 (by decide) ?_
      replace hr := Option.bind_eq_some_iff.mp hr
      obtain ⟨h698, e699, hr⟩ := hr
      refine rr_stJ C dL_law_1385 e699 ?_
      refine rr_dup C dL_law_1386 rfl ?_
      refine rr_bipush (v := 10) C dL_law_1387 (by decide) ?_
      refine rr_lload C dL_law_1389 rfl ?_
      replace hr := Option.bind_eq_some_iff.mp hr
      obtain ⟨h700, e701, hr⟩ := hr
      refine rr_stJ C dL_law_1391 e701 ?_
      refine rr_dup C dL_law_1392 rfl ?_
      refine rr_bipush (v := 11) C dL_law_1393 (by decide) ?_
      refine rr_lconst (v := 0) C dL_law_1395 (by decide) ?_
      replace hr := Option.bind_eq_some_iff.mp hr
      obtain ⟨h702, e703, hr⟩ := hr
      refine rr_stJ C dL_law_1396 e703 ?_
      refine rr_dup C dL_law_1397 rfl ?_
      refine rr_bipush (v := 12) C dL_law_1398 (by decide) ?_
      refine rr_lconst (v := 0) C dL_law_1400 (by decide) ?_
      replace hr := Option.bind_eq_some_iff.mp hr
      obtain ⟨h704, e705, hr⟩ := hr
      refine rr_stJ C dL_law_1401 e705 ?_
      refine rr_dup C dL_law_1402 rfl ?_
      refine rr_bipush (v := 13) C dL_law_1403 (by decide) ?_
      refine rr_lconst (v := 0) C dL_law_1405 (by decide) ?_
      replace hr := Option.bind_eq_some_iff.mp hr
      obtain ⟨h706, e707, hr⟩ := hr
      refine rr_stJ C dL_law_1406 e707 ?_
      refine rr_dup C dL_law_1407 rfl ?_
      refine rr_bipush (v := 14) C dL_law_1408 (by decide) ?_
      refine rr_lload C dL_law_1410 rfl ?_
      replace hr := Option.bind_eq_some_iff.mp hr
      obtain ⟨h708, e709, hr⟩ := hr
      refine rr_stJ C dL_law_1412 e709 ?_
      refine rr_astore C dL_law_1413 (by decide) ?_
      show WW W0 G 73 _ _ _ 1415 [none, some (.ref l1), some (.int l2), some (.int l3), some (.int l4), some (.int l5), some (.int l6), some (.int l7), some (.int l8), some (.int l9), some (.int l10), some (.int l11), some (.int l12), some (.int l13), some (.int l14), some (.int l15), some (.int l16), some (.int l17), none, none, none, some (.ref l21), some (.ref l22), some (.ref l23), some (.ref l24), some (.ref l25), some (.ref l26), some (.ref l27), some (.int l28), some (.ref l29), some (.int l30), some (.long l31), none, some (.ref l33), some (.long l34), none, some (.long l36), none, some (.long l38), none, some (.long l40), none, some (.int l42), some (.long x621), none, some (.long x623), none, some (.long v666.1), none, some (.long v666.2.1), none, some (.long y671), none, some (.long x676), none, some (.ref n), none, none, none, none, none, none, none, none, none, none, none, none, none, none, none, none, none] [] h708 (n + 1) _ _
      refine rr_iconst (v := 0) C dL_law_1415 (by decide) ?_
      refine rr_istore C dL_law_1416 (by decide) ?_
      show WW W0 G 73 _ _ _ 1418 [none, some (.ref l1), some (.int l2), some (.int l3), some (.int l4), some (.int l5), some (.int l6), some (.int l7), some (.int l8), some (.int l9), some (.int l10), some (.int l11), some (.int l12), some (.int l13), some (.int l14), some (.int l15), some (.int l16), some (.int l17), none, none, none, some (.ref l21), some (.ref l22), some (.ref l23), some (.ref l24), some (.ref l25), some (.ref l26), some (.ref l27), some (.int l28), some (.ref l29), some (.int l30), some (.long l31), none, some (.ref l33), some (.long l34), none, some (.long l36), none, some (.long l38), none, some (.long l40), none, some (.int l42), some (.long x621), none, some (.long x623), none, some (.long v666.1), none, some (.long v666.2.1), none, some (.long y671), none, some (.long x676), none, some (.ref n), some (.int 0), none, none, none, none, none, none, none, none, none, none, none, none, none, none, none, none] [] h708 (n + 1) _ _
      replace hr := Option.bind_eq_some_iff.mp hr
      obtain ⟨v718, e719, hr⟩ := hr
      refine rr_keep [false, true, true, true, true, true, true, true, true, true, true, true, true, true, true, true, true, true, false, false, false, true, true, true, true, true, true, true, true, true, true, true, false, true, false, false, false, false, true, false, true, false, true, true, false, true, false, false, false, false, false, false, false, true, false, true, true, false, false, false, false, false, false, false, false, false, false, false, false, false, false, false, false] (w_L_law_1418 C (by omega) l1 l2 l3 l4 l5 l6 l7 l8 l9 l10 l11 l12 l13 l14 l15 l16 l17 l21 l22 l23 l24 l25 l26 l27 l28 l29 l30 l31 l33 l38 l40 l42 x621 x623 x676 n K 0 h708 e719 ?_)
      show WW W0 G 73 _ _ _ 1453 [none, some (.ref l1), some (.int l2), some (.int l3), some (.int l4), some (.int l5), some (.int l6), some (.int l7), some (.int l8), some (.int l9), some (.int l10), some (.int l11), some (.int l12), some (.int l13), some (.int l14), some (.int l15), some (.int l16), some (.int l17), none, none, none, some (.ref l21), some (.ref l22), some (.ref l23), some (.ref l24), some (.ref l25), some (.ref l26), some (.ref l27), some (.int l28), some (.ref l29), some (.int l30), some (.long l31), none, some (.ref l33), none, none, none, none, some (.long l38), none, some (.long l40), none, some (.int l42), some (.long x621), none, some (.long x623), none, none, none, none, none, none, none, some (.long x676), none, none, none, none, none, none, none, none, none, none, none, none, none, none, none, none, none, none, none] [] v718 (n + 1) _ _
      refine rr_aload_n (i := 1) C dL_law_1453 rfl rfl ?_
      refine rr_iconst (v := 0) C dL_law_1454 (by decide) ?_
      refine rr_iload C dL_law_1455 rfl ?_
      replace hr := Option.bind_eq_some_iff.mp hr
      obtain ⟨u720, e721, hr⟩ := hr
      replace hr := Option.bind_eq_some_iff.mp hr
      obtain ⟨v722, e723, hr⟩ := hr
      refine rr_callVq (as := [.int 0, .int l42]) (st := []) (mc' := 0) (ms' := 0) (kc := kc + 5 * k_ + 4) (ks := ks + 993 * k_ + 978) C dL_law_1457 iv_L_124 (by decide) e721 rfl (Nat.le_of_ble_eq_true rfl) (c_X10_worth l1 0 l42 (by omega) e723) (fun v_ h_ n_ q_ => ?_)
      obtain ⟨q1_, q2_, q3_⟩ := q_
      subst v_; subst h_; subst n_
      show WW W0 G 73 _ _ _ 1460 [none, some (.ref l1), some (.int l2), some (.int l3), some (.int l4), some (.int l5), some (.int l6), some (.int l7), some (.int l8), some (.int l9), some (.int l10), some (.int l11), some (.int l12), some (.int l13), some (.int l14), some (.int l15), some (.int l16), some (.int l17), none, none, none, some (.ref l21), some (.ref l22), some (.ref l23), some (.ref l24), some (.ref l25), some (.ref l26), some (.ref l27), some (.int l28), some (.ref l29), some (.int l30), some (.long l31), none, some (.ref l33), none, none, none, none, some (.long l38), none, some (.long l40), none, some (.int l42), some (.long x621), none, some (.long x623), none, none, none, none, none, none, none, some (.long x676), none, none, none, none, none, none, none, none, none, none, none, none, none, none, none, none, none, none, none] [.long v722.1] v722.2 (n + 1) _ _
      refine rr_lload C dL_law_1460 rfl ?_
      refine rr_lcmp C dL_law_1462 ?_
      obtain ⟨c724, hr⟩ := ite_nn hr
      refine rr_if_ne (tgt := 1481) C dL_law_1463 (by decide) (fun q_ => absurd c724 q_) (fun _ => ?_)
      refine rr_aload_n (i := 1) C dL_law_1466 rfl rfl ?_
      refine rr_iconst (v := 0) C dL_law_1467 (by decide) ?_
      refine rr_iload C dL_law_1468 rfl ?_
      refine rr_iload C dL_law_1470 rfl ?_
      replace hr := Option.bind_eq_some_iff.mp hr
      obtain ⟨u725, e726, hr⟩ := hr
      replace hr := Option.bind_eq_some_iff.mp hr
      obtain ⟨v727, e728, hr⟩ := hr
      refine rr_callVq (as := [.int 0, .int l42, .int l30]) (st := []) (mc' := 0) (ms' := 0) (kc := kc + 5 * k_ + 4) (ks := ks + 993 * k_ + 978) C dL_law_1472 iv_L_128 (by decide) e726 rfl (Nat.le_of_ble_eq_true rfl) (c_X10_revenue l1 0 l42 l30 (by omega) e728) (fun v_ h_ n_ q_ => ?_)
      obtain ⟨q1_, q2_, q3_⟩ := q_
      subst v_; subst h_; subst n_
      show WW W0 G 73 _ _ _ 1475 [none, some (.ref l1), some (.int l2), some (.int l3), some (.int l4), some (.int l5), some (.int l6), some (.int l7), some (.int l8), some (.int l9), some (.int l10), some (.int l11), some (.int l12), some (.int l13), some (.int l14), some (.int l15), some (.int l16), some (.int l17), none, none, none, some (.ref l21), some (.ref l22), some (.ref l23), some (.ref l24), some (.ref l25), some (.ref l26), some (.ref l27), some (.int l28), some (.ref l29), some (.int l30), some (.long l31), none, some (.ref l33), none, none, none, none, some (.long l38), none, some (.long l40), none, some (.int l42), some (.long x621), none, some (.long x623), none, none, none, none, none, none, none, some (.long x676), none, none, none, none, none, none, none, none, none, none, none, none, none, none, none, none, none, none, none] [.long v727.1] v727.2 (n + 1) _ _
      refine rr_lload C dL_law_1475 rfl ?_
      refine rr_lcmp C dL_law_1477 ?_
      obtain ⟨c729, hr⟩ := ite_nn hr
      refine rr_if_eq (tgt := 1483) C dL_law_1478 (by decide) (fun _ => ?_) (fun q_ => absurd c729 q_)
      refine rr_lload C dL_law_1483 rfl ?_
      refine rr_lload C dL_law_1485 rfl ?_
      refine rr_ladd C dL_law_1487 ?_
      replace hr := Option.bind_eq_some_iff.mp hr
      obtain ⟨x730, e731, hr⟩ := hr
      refine rr_asJ C e731 ?_
      refine rr_lstore C dL_law_1488 (by decide) ?_
      show WW W0 G 73 _ _ _ 1490 [none, some (.ref l1), some (.int l2), some (.int l3), some (.int l4), some (.int l5), some (.int l6), some (.int l7), some (.int l8), some (.int l9), some (.int l10), some (.int l11), some (.int l12), some (.int l13), some (.int l14), some (.int l15), some (.int l16), some (.int l17), none, none, none, some (.ref l21), some (.ref l22), some (.ref l23), some (.ref l24), some (.ref l25), some (.ref l26), some (.ref l27), some (.int l28), some (.ref l29), some (.int l30), some (.long l31), none, some (.ref l33), none, none, none, none, some (.long l38), none, some (.long l40), none, some (.int l42), some (.long x621), none, some (.long x623), none, none, none, none, none, none, none, some (.long x676), none, none, some (.long x730), none, none, none, none, none, none, none, none, none, none, none, none, none, none, none, none] [] v727.2 (n + 1) _ _
      refine rr_lload C dL_law_1490 rfl ?_
      refine rr_lstore C dL_law_1492 (by decide) ?_
      show WW W0 G 73 _ _ _ 1494 [none, some (.ref l1), some (.int l2), some (.int l3), some (.int l4), some (.int l5), some (.int l6), some (.int l7), some (.int l8), some (.int l9), some (.int l10), some (.int l11), some (.int l12), some (.int l13), some (.int l14), some (.int l15), some (.int l16), some (.int l17), none, none, none, some (.ref l21), some (.ref l22), some (.ref l23), some (.ref l24), some (.ref l25), some (.ref l26), some (.ref l27), some (.int l28), some (.ref l29), some (.int l30), some (.long l31), none, some (.ref l33), none, none, none, none, some (.long l38), none, some (.long l40), none, some (.int l42), some (.long x621), none, some (.long x623), none, none, none, none, none, none, none, some (.long x676), none, none, some (.long x730), none, some (.long x730), none, none, none, none, none, none, none, none, none, none, none, none, none, none] [] v727.2 (n + 1) _ _
      refine rr_iload C dL_law_1494 rfl ?_
      replace hr := Option.bind_eq_some_iff.mp hr
      obtain ⟨y733, er735, hr⟩ := hr
      suffices hj734 : WW W0 G 73 _ _ _ 1564 [none, some (.ref l1), some (.int l2), some (.int l3), some (.int l4), some (.int l5), some (.int l6), some (.int l7), some (.int l8), some (.int l9), some (.int l10), some (.int l11), some (.int l12), some (.int l13), some (.int l14), some (.int l15), some (.int l16), some (.int l17), none, none, none, some (.ref l21), some (.ref l22), some (.ref l23), some (.ref l24), some (.ref l25), some (.ref l26), some (.ref l27), some (.int l28), some (.ref l29), some (.int l30), some (.long l31), none, some (.ref l33), none, none, none, none, none, none, none, none, some (.int l42), some (.long x621), none, some (.long x623), none, none, none, none, none, none, none, none, none, none, some (.long x730), none, some (.long y733), none, none, none, none, none, none, none, none, none, none, none, none, none, none] [] v727.2 (n + 1) (kc + 5 * k_ + 4) (ks + 993 * k_ + 978) from by
        have hr := er735
        refine rr_if_le (tgt := 1564) C dL_law_1496 (by decide) (fun c732 => ?_) (fun c732 => ?_)
        · replace hr := (if_pos c732).symm.trans hr
          cases hr
          exact rr_keep [false, true, true, true, true, true, true, true, true, true, true, true, true, true, true, true, true, true, false, false, false, true, true, true, true, true, true, true, true, true, true, true, false, true, false, false, false, false, false, false, false, false, true, true, false, true, false, false, false, false, false, false, false, false, false, false, true, false, true, false, false, false, false, false, false, false, false, false, false, false, false, false, false] hj734
        · replace hr := (if_neg c732).symm.trans hr
          refine rr_iload C dL_law_1499 rfl ?_
          refine rr_iconst (v := 4) C dL_law_1501 (by decide) ?_
          refine rr_icmp_ge (tgt := 1564) C dL_law_1502 (by decide) (fun c1502_ => ?_) (fun c1502_ => ?_)
          · replace hr := (if_pos c1502_).symm.trans hr
            cases hr
            exact rr_keep [false, true, true, true, true, true, true, true, true, true, true, true, true, true, true, true, true, true, false, false, false, true, true, true, true, true, true, true, true, true, true, true, false, true, false, false, false, false, false, false, false, false, true, true, false, true, false, false, false, false, false, false, false, false, false, false, true, false, true, false, false, false, false, false, false, false, false, false, false, false, false, false, false] hj734
          · replace hr := (if_neg c1502_).symm.trans hr
            refine rr_iload C dL_law_1505 rfl ?_
            refine rr_if_eq (tgt := 1564) C dL_law_1507 (by decide) (fun c1507_ => ?_) (fun c1507_ => ?_)
            · replace hr := (if_pos c1507_).symm.trans hr
              cases hr
              exact rr_keep [false, true, true, true, true, true, true, true, true, true, true, true, true, true, true, true, true, true, false, false, false, true, true, true, true, true, true, true, true, true, true, true, false, true, false, false, false, false, false, false, false, false, true, true, false, true, false, false, false, false, false, false, false, false, false, false, true, false, true, false, false, false, false, false, false, false, false, false, false, false, false, false, false] hj734
            · replace hr := (if_neg c1507_).symm.trans hr
              refine rr_lload C dL_law_1510 rfl ?_
              refine rr_bipush (v := 100) C dL_law_1512 (by decide) ?_
              refine rr_iload C dL_law_1514 rfl ?_
              refine rr_iadd C dL_law_1516 ?_
              refine rr_i2l C dL_law_1517 ?_
              refine rr_lmul C dL_law_1518 ?_
              refine rr_ldc2 C dL_law_1519 ct_L_116 ?_
              refine rr_ldiv C dL_law_1522 (by decide) ?_
              replace hr := Option.bind_eq_some_iff.mp hr
              obtain ⟨x738, e739, hr⟩ := hr
              refine rr_asJ C e739 ?_
              refine rr_lstore C dL_law_1523 (by decide) ?_
              show WW W0 G 73 _ _ _ 1525 [none, some (.ref l1), some (.int l2), some (.int l3), some (.int l4), some (.int l5), some (.int l6), some (.int l7), some (.int l8), some (.int l9), some (.int l10), some (.int l11), some (.int l12), some (.int l13), some (.int l14), some (.int l15), some (.int l16), some (.int l17), none, none, none, some (.ref l21), some (.ref l22), some (.ref l23), some (.ref l24), some (.ref l25), some (.ref l26), some (.ref l27), some (.int l28), some (.ref l29), some (.int l30), some (.long l31), none, some (.ref l33), none, none, none, none, some (.long l38), none, some (.long l40), none, some (.int l42), some (.long x621), none, some (.long x623), none, none, none, none, none, none, none, some (.long x676), none, none, some (.long x730), none, some (.long x730), none, some (.long x738), none, none, none, none, none, none, none, none, none, none, none, none] [] v727.2 (n + 1) _ _
              refine rr_lload C dL_law_1525 rfl ?_
              refine rr_bipush (v := 100) C dL_law_1527 (by decide) ?_
              refine rr_iload C dL_law_1529 rfl ?_
              refine rr_isub C dL_law_1531 ?_
              refine rr_i2l C dL_law_1532 ?_
              refine rr_lmul C dL_law_1533 ?_
              refine rr_ldc2 C dL_law_1534 ct_L_116 ?_
              refine rr_ldiv C dL_law_1537 (by decide) ?_
              replace hr := Option.bind_eq_some_iff.mp hr
              obtain ⟨x740, e741, hr⟩ := hr
              refine rr_asJ C e741 ?_
              refine rr_lstore C dL_law_1538 (by decide) ?_
              show WW W0 G 73 _ _ _ 1540 [none, some (.ref l1), some (.int l2), some (.int l3), some (.int l4), some (.int l5), some (.int l6), some (.int l7), some (.int l8), some (.int l9), some (.int l10), some (.int l11), some (.int l12), some (.int l13), some (.int l14), some (.int l15), some (.int l16), some (.int l17), none, none, none, some (.ref l21), some (.ref l22), some (.ref l23), some (.ref l24), some (.ref l25), some (.ref l26), some (.ref l27), some (.int l28), some (.ref l29), some (.int l30), some (.long l31), none, some (.ref l33), none, none, none, none, some (.long l38), none, some (.long l40), none, some (.int l42), some (.long x621), none, some (.long x623), none, none, none, none, none, none, none, some (.long x676), none, none, some (.long x730), none, some (.long x730), none, some (.long x738), none, some (.long x740), none, none, none, none, none, none, none, none, none, none] [] v727.2 (n + 1) _ _
              refine rr_lload C dL_law_1540 rfl ?_
              refine rr_lload C dL_law_1542 rfl ?_
              refine rr_lcmp C dL_law_1544 ?_
              replace hr := Option.bind_eq_some_iff.mp hr
              obtain ⟨y743, er745, hr⟩ := hr
              suffices hj744 : WW W0 G 73 _ _ _ 1552 [none, some (.ref l1), some (.int l2), some (.int l3), some (.int l4), some (.int l5), some (.int l6), some (.int l7), some (.int l8), some (.int l9), some (.int l10), some (.int l11), some (.int l12), some (.int l13), some (.int l14), some (.int l15), some (.int l16), some (.int l17), none, none, none, some (.ref l21), some (.ref l22), some (.ref l23), some (.ref l24), some (.ref l25), some (.ref l26), some (.ref l27), some (.int l28), some (.ref l29), some (.int l30), some (.long l31), none, some (.ref l33), none, none, none, none, none, none, none, none, some (.int l42), some (.long x621), none, some (.long x623), none, none, none, none, none, none, none, none, none, none, some (.long x730), none, some (.long y743), none, none, none, some (.long x740), none, none, none, none, none, none, none, none, none, none] [] v727.2 (n + 1) (kc + 5 * k_ + 4) (ks + 993 * k_ + 978) from by
                have hr := er745
                refine rr_if_le (tgt := 1552) C dL_law_1545 (by decide) (fun c742 => ?_) (fun c742 => ?_)
                · replace hr := (if_pos c742).symm.trans hr
                  cases hr
                  exact rr_keep [false, true, true, true, true, true, true, true, true, true, true, true, true, true, true, true, true, true, false, false, false, true, true, true, true, true, true, true, true, true, true, true, false, true, false, false, false, false, false, false, false, false, true, true, false, true, false, false, false, false, false, false, false, false, false, false, true, false, true, false, false, false, true, false, false, false, false, false, false, false, false, false, false] hj744
                · replace hr := (if_neg c742).symm.trans hr
                  refine rr_lload C dL_law_1548 rfl ?_
                  refine rr_lstore C dL_law_1550 (by decide) ?_
                  show WW W0 G 73 _ _ _ 1552 [none, some (.ref l1), some (.int l2), some (.int l3), some (.int l4), some (.int l5), some (.int l6), some (.int l7), some (.int l8), some (.int l9), some (.int l10), some (.int l11), some (.int l12), some (.int l13), some (.int l14), some (.int l15), some (.int l16), some (.int l17), none, none, none, some (.ref l21), some (.ref l22), some (.ref l23), some (.ref l24), some (.ref l25), some (.ref l26), some (.ref l27), some (.int l28), some (.ref l29), some (.int l30), some (.long l31), none, some (.ref l33), none, none, none, none, some (.long l38), none, some (.long l40), none, some (.int l42), some (.long x621), none, some (.long x623), none, none, none, none, none, none, none, some (.long x676), none, none, some (.long x730), none, some (.long x738), none, some (.long x738), none, some (.long x740), none, none, none, none, none, none, none, none, none, none] [] v727.2 (n + 1) _ _
                  cases hr
                  exact rr_keep [false, true, true, true, true, true, true, true, true, true, true, true, true, true, true, true, true, true, false, false, false, true, true, true, true, true, true, true, true, true, true, true, false, true, false, false, false, false, false, false, false, false, true, true, false, true, false, false, false, false, false, false, false, false, false, false, true, false, true, false, false, false, true, false, false, false, false, false, false, false, false, false, false] hj744
              refine rr_lload C dL_law_1552 rfl ?_
              refine rr_lload C dL_law_1554 rfl ?_
              refine rr_lcmp C dL_law_1556 ?_
              refine rr_if_ge (tgt := 1564) C dL_law_1557 (by decide) (fun c1557_ => ?_) (fun c1557_ => ?_)
              · replace hr := (if_pos c1557_).symm.trans hr
                cases hr
                exact rr_keep [false, true, true, true, true, true, true, true, true, true, true, true, true, true, true, true, true, true, false, false, false, true, true, true, true, true, true, true, true, true, true, true, false, true, false, false, false, false, false, false, false, false, true, true, false, true, false, false, false, false, false, false, false, false, false, false, true, false, true, false, false, false, false, false, false, false, false, false, false, false, false, false, false] hj734
              · replace hr := (if_neg c1557_).symm.trans hr
                refine rr_lload C dL_law_1560 rfl ?_
                refine rr_lstore C dL_law_1562 (by decide) ?_
                show WW W0 G 73 _ _ _ 1564 [none, some (.ref l1), some (.int l2), some (.int l3), some (.int l4), some (.int l5), some (.int l6), some (.int l7), some (.int l8), some (.int l9), some (.int l10), some (.int l11), some (.int l12), some (.int l13), some (.int l14), some (.int l15), some (.int l16), some (.int l17), none, none, none, some (.ref l21), some (.ref l22), some (.ref l23), some (.ref l24), some (.ref l25), some (.ref l26), some (.ref l27), some (.int l28), some (.ref l29), some (.int l30), some (.long l31), none, some (.ref l33), none, none, none, none, none, none, none, none, some (.int l42), some (.long x621), none, some (.long x623), none, none, none, none, none, none, none, none, none, none, some (.long x730), none, some (.long x740), none, none, none, some (.long x740), none, none, none, none, none, none, none, none, none, none] [] v727.2 (n + 1) _ _
                cases hr
                exact rr_keep [false, true, true, true, true, true, true, true, true, true, true, true, true, true, true, true, true, true, false, false, false, true, true, true, true, true, true, true, true, true, true, true, false, true, false, false, false, false, false, false, false, false, true, true, false, true, false, false, false, false, false, false, false, false, false, false, true, false, true, false, false, false, false, false, false, false, false, false, false, false, false, false, false] hj734
      refine rr_lload C dL_law_1564 rfl ?_
      refine rr_lstore C dL_law_1566 (by decide) ?_
      show WW W0 G 73 _ _ _ 1568 [none, some (.ref l1), some (.int l2), some (.int l3), some (.int l4), some (.int l5), some (.int l6), some (.int l7), some (.int l8), some (.int l9), some (.int l10), some (.int l11), some (.int l12), some (.int l13), some (.int l14), some (.int l15), some (.int l16), some (.int l17), none, none, none, some (.ref l21), some (.ref l22), some (.ref l23), some (.ref l24), some (.ref l25), some (.ref l26), some (.ref l27), some (.int l28), some (.ref l29), some (.int l30), some (.long l31), none, some (.ref l33), none, none, none, none, some (.long y733), none, none, none, some (.int l42), some (.long x621), none, some (.long x623), none, none, none, none, none, none, none, none, none, none, some (.long x730), none, some (.long y733), none, none, none, none, none, none, none, none, none, none, none, none, none, none] [] v727.2 (n + 1) _ _
      refine rr_lload C dL_law_1568 rfl ?_
      refine rr_lload C dL_law_1570 rfl ?_
      refine rr_lsub C dL_law_1572 ?_
      replace hr := Option.bind_eq_some_iff.mp hr
      obtain ⟨x747, e748, hr⟩ := hr
      refine rr_asJ C e748 ?_
      refine rr_lstore C dL_law_1573 (by decide) ?_
      show WW W0 G 73 _ _ _ 1575 [none, some (.ref l1), some (.int l2), some (.int l3), some (.int l4), some (.int l5), some (.int l6), some (.int l7), some (.int l8), some (.int l9), some (.int l10), some (.int l11), some (.int l12), some (.int l13), some (.int l14), some (.int l15), some (.int l16), some (.int l17), none, none, none, some (.ref l21), some (.ref l22), some (.ref l23), some (.ref l24), some (.ref l25), some (.ref l26), some (.ref l27), some (.int l28), some (.ref l29), some (.int l30), some (.long l31), none, some (.ref l33), none, none, none, none, some (.long y733), none, some (.long x747), none, some (.int l42), some (.long x621), none, some (.long x623), none, none, none, none, none, none, none, none, none, none, some (.long x730), none, some (.long y733), none, none, none, none, none, none, none, none, none, none, none, none, none, none] [] v727.2 (n + 1) _ _
      refine rr_aload_n (i := 1) C dL_law_1575 rfl rfl ?_
      refine rr_iconst (v := 0) C dL_law_1576 (by decide) ?_
      refine rr_iload C dL_law_1577 rfl ?_
      refine rr_iload C dL_law_1579 rfl ?_
      refine rr_iconst (v := 0) C dL_law_1581 (by decide) ?_
      replace hr := Option.bind_eq_some_iff.mp hr
      obtain ⟨u749, e750, hr⟩ := hr
      replace hr := Option.bind_eq_some_iff.mp hr
      obtain ⟨v751, e752, hr⟩ := hr
      refine rr_callVq (as := [.int 0, .int l42, .int l30, .int 0]) (st := []) (mc' := 0) (ms' := 0) (kc := kc + 5 * k_ + 4) (ks := ks + 993 * k_ + 978) C dL_law_1582 iv_L_132 (by decide) e750 rfl (Nat.le_of_ble_eq_true rfl) (c_X10_bills l1 0 l42 l30 0 (by omega) e752) (fun v_ h_ n_ q_ => ?_)
      obtain ⟨q1_, q2_, q3_⟩ := q_
      subst v_; subst h_; subst n_
      show WW W0 G 73 _ _ _ 1585 [none, some (.ref l1), some (.int l2), some (.int l3), some (.int l4), some (.int l5), some (.int l6), some (.int l7), some (.int l8), some (.int l9), some (.int l10), some (.int l11), some (.int l12), some (.int l13), some (.int l14), some (.int l15), some (.int l16), some (.int l17), none, none, none, some (.ref l21), some (.ref l22), some (.ref l23), some (.ref l24), some (.ref l25), some (.ref l26), some (.ref l27), some (.int l28), some (.ref l29), some (.int l30), some (.long l31), none, some (.ref l33), none, none, none, none, some (.long y733), none, some (.long x747), none, some (.int l42), some (.long x621), none, some (.long x623), none, none, none, none, none, none, none, none, none, none, some (.long x730), none, some (.long y733), none, none, none, none, none, none, none, none, none, none, none, none, none, none] [.long v751.1] v751.2 (n + 1) _ _
      refine rr_lload C dL_law_1585 rfl ?_
      refine rr_lcmp C dL_law_1587 ?_
      obtain ⟨c753, hr⟩ := ite_nn hr
      refine rr_if_ne (tgt := 1607) C dL_law_1588 (by decide) (fun q_ => absurd c753 q_) (fun _ => ?_)
      refine rr_aload_n (i := 1) C dL_law_1591 rfl rfl ?_
      refine rr_iconst (v := 0) C dL_law_1592 (by decide) ?_
      refine rr_iload C dL_law_1593 rfl ?_
      refine rr_iload C dL_law_1595 rfl ?_
      refine rr_iconst (v := 1) C dL_law_1597 (by decide) ?_
      replace hr := Option.bind_eq_some_iff.mp hr
      obtain ⟨u754, e755, hr⟩ := hr
      replace hr := Option.bind_eq_some_iff.mp hr
      obtain ⟨v756, e757, hr⟩ := hr
      refine rr_callVq (as := [.int 0, .int l42, .int l30, .int 1]) (st := []) (mc' := 0) (ms' := 0) (kc := kc + 5 * k_ + 4) (ks := ks + 993 * k_ + 978) C dL_law_1598 iv_L_132 (by decide) e755 rfl (Nat.le_of_ble_eq_true rfl) (c_X10_bills l1 0 l42 l30 1 (by omega) e757) (fun v_ h_ n_ q_ => ?_)
      obtain ⟨q1_, q2_, q3_⟩ := q_
      subst v_; subst h_; subst n_
      show WW W0 G 73 _ _ _ 1601 [none, some (.ref l1), some (.int l2), some (.int l3), some (.int l4), some (.int l5), some (.int l6), some (.int l7), some (.int l8), some (.int l9), some (.int l10), some (.int l11), some (.int l12), some (.int l13), some (.int l14), some (.int l15), some (.int l16), some (.int l17), none, none, none, some (.ref l21), some (.ref l22), some (.ref l23), some (.ref l24), some (.ref l25), some (.ref l26), some (.ref l27), some (.int l28), some (.ref l29), some (.int l30), some (.long l31), none, some (.ref l33), none, none, none, none, some (.long y733), none, some (.long x747), none, some (.int l42), some (.long x621), none, some (.long x623), none, none, none, none, none, none, none, none, none, none, some (.long x730), none, some (.long y733), none, none, none, none, none, none, none, none, none, none, none, none, none, none] [.long v756.1] v756.2 (n + 1) _ _
      refine rr_lload C dL_law_1601 rfl ?_
      refine rr_lcmp C dL_law_1603 ?_
      obtain ⟨c758, hr⟩ := ite_nn hr
      refine rr_if_eq (tgt := 1609) C dL_law_1604 (by decide) (fun _ => ?_) (fun q_ => absurd c758 q_)
      refine rr_aload C dL_law_1609 rfl ?_
      refine rr_iload C dL_law_1611 rfl ?_
      replace hr := Option.bind_eq_some_iff.mp hr
      obtain ⟨v759, e760, hr⟩ := hr
      refine rr_ldI C dL_law_1613 e760 ?_
      refine rr_i2l C dL_law_1614 ?_
      refine rr_ldc2 C dL_law_1615 ct_L_135 ?_
      refine rr_lmul C dL_law_1618 ?_
      refine rr_aload C dL_law_1619 rfl ?_
      refine rr_bipush (v := 8) C dL_law_1621 (by decide) ?_
      refine rr_iload C dL_law_1623 rfl ?_
      refine rr_iadd C dL_law_1625 ?_
      replace hr := Option.bind_eq_some_iff.mp hr
      obtain ⟨v761, e762, hr⟩ := hr
      refine rr_ldI C dL_law_1626 e762 ?_
      refine rr_i2l C dL_law_1627 ?_
      refine rr_ldc2 C dL_law_1628 ct_L_137 ?_
      refine rr_lmul C dL_law_1631 ?_
      refine rr_ladd C dL_law_1632 ?_
      refine rr_aload C dL_law_1633 rfl ?_
      refine rr_bipush (v := 16) C dL_law_1635 (by decide) ?_
      refine rr_iload C dL_law_1637 rfl ?_
      refine rr_iadd C dL_law_1639 ?_
      replace hr := Option.bind_eq_some_iff.mp hr
      obtain ⟨v763, e764, hr⟩ := hr
      refine rr_ldI C dL_law_1640 e764 ?_
      refine rr_i2l C dL_law_1641 ?_
      refine rr_ldc2 C dL_law_1642 ct_L_139 ?_
      refine rr_lmul C dL_law_1645 ?_
      refine rr_ladd C dL_law_1646 ?_
      replace hr := Option.bind_eq_some_iff.mp hr
      obtain ⟨x765, e766, hr⟩ := hr
      refine rr_asJ C e766 ?_
      refine rr_lstore C dL_law_1647 (by decide) ?_
      show WW W0 G 73 _ _ _ 1649 [none, some (.ref l1), some (.int l2), some (.int l3), some (.int l4), some (.int l5), some (.int l6), some (.int l7), some (.int l8), some (.int l9), some (.int l10), some (.int l11), some (.int l12), some (.int l13), some (.int l14), some (.int l15), some (.int l16), some (.int l17), none, none, none, some (.ref l21), some (.ref l22), some (.ref l23), some (.ref l24), some (.ref l25), some (.ref l26), some (.ref l27), some (.int l28), some (.ref l29), some (.int l30), some (.long l31), none, some (.ref l33), none, none, none, none, some (.long y733), none, some (.long x747), none, some (.int l42), some (.long x621), none, some (.long x623), none, none, none, none, none, none, none, none, none, none, some (.long x730), none, some (.long y733), none, some (.long x765), none, none, none, none, none, none, none, none, none, none, none, none] [] v756.2 (n + 1) _ _
      refine rr_iconst (v := 3) C dL_law_1649 (by decide) ?_
      refine rr_cut C (kc' := kc + 5 * k_ + 3 + 1) (ks' := ks + 993 * k_ + 975 + 3) (by omega) (by omega) ?_
      replace hr := Option.bind_eq_some_iff.mp hr
      obtain ⟨h767, e768, hr⟩ := hr
      refine rr_newJq C dL_law_1650 ac_long (N := 3) (by decide) e768 ?_
      show WW W0 G 73 _ _ _ 1652 [none, some (.ref l1), some (.int l2), some (.int l3), some (.int l4), some (.int l5), some (.int l6), some (.int l7), some (.int l8), some (.int l9), some (.int l10), some (.int l11), some (.int l12), some (.int l13), some (.int l14), some (.int l15), some (.int l16), some (.int l17), none, none, none, some (.ref l21), some (.ref l22), some (.ref l23), some (.ref l24), some (.ref l25), some (.ref l26), some (.ref l27), some (.int l28), some (.ref l29), some (.int l30), some (.long l31), none, some (.ref l33), none, none, none, none, some (.long y733), none, some (.long x747), none, some (.int l42), some (.long x621), none, some (.long x623), none, none, none, none, none, none, none, none, none, none, some (.long x730), none, some (.long y733), none, some (.long x765), none, none, none, none, none, none, none, none, none, none, none, none] [.ref (n + 1)] h767 (n + 2) _ _
      refine rr_dup C dL_law_1652 rfl ?_
      refine rr_iconst (v := 0) C dL_law_1653 (by decide) ?_
      refine rr_lload C dL_law_1654 rfl ?_
      refine rr_lconst (v := 0) C dL_law_1656 (by decide) ?_
      refine rr_lcmp C dL_law_1657 ?_
      replace hr := Option.bind_eq_some_iff.mp hr
      obtain ⟨y770, er772, hr⟩ := hr
      suffices hj771 : WW W0 G 73 _ _ _ 1674 [none, some (.ref l1), some (.int l2), some (.int l3), some (.int l4), some (.int l5), some (.int l6), some (.int l7), some (.int l8), some (.int l9), some (.int l10), some (.int l11), some (.int l12), some (.int l13), some (.int l14), some (.int l15), some (.int l16), some (.int l17), none, none, none, some (.ref l21), some (.ref l22), some (.ref l23), some (.ref l24), some (.ref l25), some (.ref l26), some (.ref l27), some (.int l28), some (.ref l29), some (.int l30), some (.long l31), none, some (.ref l33), none, none, none, none, some (.long y733), none, some (.long x747), none, some (.int l42), some (.long x621), none, some (.long x623), none, none, none, none, none, none, none, none, none, none, none, none, none, none, some (.long x765), none, none, none, none, none, none, none, none, none, none, none, none] [.long y770, .int 0, .ref (n + 1), .ref (n + 1)] h767 (n + 2) (kc + 5 * k_ + 3) (ks + 993 * k_ + 975) from by
        have hr := er772
        refine rr_if_ne (tgt := 1665) C dL_law_1658 (by decide) (fun c769 => ?_) (fun c769 => ?_)
        · replace hr := (if_neg c769).symm.trans hr
          refine rr_lload C dL_law_1665 rfl ?_
          refine rr_ldc2 C dL_law_1667 ct_L_135 ?_
          refine rr_lmul C dL_law_1670 ?_
          refine rr_lload C dL_law_1671 rfl ?_
          by_cases z773 : x765 = 0
          · replace hr := (if_pos z773).symm.trans hr
            cases hr
          replace hr := (if_neg z773).symm.trans hr
          refine rr_ldiv C dL_law_1673 z773 ?_
          cases hr
          exact rr_keep [false, true, true, true, true, true, true, true, true, true, true, true, true, true, true, true, true, true, false, false, false, true, true, true, true, true, true, true, true, true, true, true, false, true, false, false, false, false, true, false, true, false, true, true, false, true, false, false, false, false, false, false, false, false, false, false, false, false, false, false, true, false, false, false, false, false, false, false, false, false, false, false, false] hj771
        · replace hr := (if_pos c769).symm.trans hr
          refine rr_lconst (v := 0) C dL_law_1661 (by decide) ?_
          refine rr_goto (tgt := 1674) C dL_law_1662 (by decide) ?_
          cases hr
          exact rr_keep [false, true, true, true, true, true, true, true, true, true, true, true, true, true, true, true, true, true, false, false, false, true, true, true, true, true, true, true, true, true, true, true, false, true, false, false, false, false, true, false, true, false, true, true, false, true, false, false, false, false, false, false, false, false, false, false, false, false, false, false, true, false, false, false, false, false, false, false, false, false, false, false, false] hj771
      replace hr := Option.bind_eq_some_iff.mp hr
      obtain ⟨h774, e775, hr⟩ := hr
      refine rr_stJ C dL_law_1674 e775 ?_
      refine rr_dup C dL_law_1675 rfl ?_
      refine rr_iconst (v := 1) C dL_law_1676 (by decide) ?_
      refine rr_lload C dL_law_1677 rfl ?_
      refine rr_lconst (v := 0) C dL_law_1679 (by decide) ?_
      refine rr_lcmp C dL_law_1680 ?_
      replace hr := Option.bind_eq_some_iff.mp hr
      obtain ⟨y777, er779, hr⟩ := hr
      suffices hj778 : WW W0 G 73 _ _ _ 1697 [none, some (.ref l1), some (.int l2), some (.int l3), some (.int l4), some (.int l5), some (.int l6), some (.int l7), some (.int l8), some (.int l9), some (.int l10), some (.int l11), some (.int l12), some (.int l13), some (.int l14), some (.int l15), some (.int l16), some (.int l17), none, none, none, some (.ref l21), some (.ref l22), some (.ref l23), some (.ref l24), some (.ref l25), some (.ref l26), some (.ref l27), some (.int l28), some (.ref l29), some (.int l30), some (.long l31), none, some (.ref l33), none, none, none, none, some (.long y733), none, some (.long x747), none, some (.int l42), some (.long x621), none, some (.long x623), none, none, none, none, none, none, none, none, none, none, none, none, none, none, some (.long x765), none, none, none, none, none, none, none, none, none, none, none, none] [.long y777, .int 1, .ref (n + 1), .ref (n + 1)] h774 (n + 2) (kc + 5 * k_ + 3) (ks + 993 * k_ + 975) from by
        have hr := er779
        refine rr_if_ne (tgt := 1688) C dL_law_1681 (by decide) (fun c776 => ?_) (fun c776 => ?_)
        · replace hr := (if_neg c776).symm.trans hr
          refine rr_lload C dL_law_1688 rfl ?_
          refine rr_ldc2 C dL_law_1690 ct_L_137 ?_
          refine rr_lmul C dL_law_1693 ?_
          refine rr_lload C dL_law_1694 rfl ?_
          by_cases z780 : x765 = 0
          · replace hr := (if_pos z780).symm.trans hr
            cases hr
          replace hr := (if_neg z780).symm.trans hr
          refine rr_ldiv C dL_law_1696 z780 ?_
          cases hr
          exact rr_keep [false, true, true, true, true, true, true, true, true, true, true, true, true, true, true, true, true, true, false, false, false, true, true, true, true, true, true, true, true, true, true, true, false, true, false, false, false, false, true, false, true, false, true, true, false, true, false, false, false, false, false, false, false, false, false, false, false, false, false, false, true, false, false, false, false, false, false, false, false, false, false, false, false] hj778
        · replace hr := (if_pos c776).symm.trans hr
          refine rr_lconst (v := 0) C dL_law_1684 (by decide) ?_
          refine rr_goto (tgt := 1697) C dL_law_1685 (by decide) ?_
          cases hr
          exact rr_keep [false, true, true, true, true, true, true, true, true, true, true, true, true, true, true, true, true, true, false, false, false, true, true, true, true, true, true, true, true, true, true, true, false, true, false, false, false, false, true, false, true, false, true, true, false, true, false, false, false, false, false, false, false, false, false, false, false, false, false, false, true, false, false, false, false, false, false, false, false, false, false, false, false] hj778
      replace hr := Option.bind_eq_some_iff.mp hr
      obtain ⟨h781, e782, hr⟩ := hr
      refine rr_stJ C dL_law_1697 e782 ?_
      refine rr_dup C dL_law_1698 rfl ?_
      refine rr_iconst (v := 2) C dL_law_1699 (by decide) ?_
      refine rr_lload C dL_law_1700 rfl ?_
      refine rr_lconst (v := 0) C dL_law_1702 (by decide) ?_
      refine rr_lcmp C dL_law_1703 ?_
      replace hr := Option.bind_eq_some_iff.mp hr
      obtain ⟨y784, er786, hr⟩ := hr
      suffices hj785 : WW W0 G 73 _ _ _ 1720 [none, some (.ref l1), some (.int l2), some (.int l3), some (.int l4), some (.int l5), some (.int l6), some (.int l7), some (.int l8), some (.int l9), some (.int l10), some (.int l11), some (.int l12), some (.int l13), some (.int l14), some (.int l15), some (.int l16), some (.int l17), none, none, none, some (.ref l21), some (.ref l22), some (.ref l23), some (.ref l24), some (.ref l25), some (.ref l26), some (.ref l27), some (.int l28), some (.ref l29), some (.int l30), some (.long l31), none, some (.ref l33), none, none, none, none, some (.long y733), none, some (.long x747), none, some (.int l42), some (.long x621), none, some (.long x623), none, none, none, none, none, none, none, none, none, none, none, none, none, none, some (.long x765), none, none, none, none, none, none, none, none, none, none, none, none] [.long y784, .int 2, .ref (n + 1), .ref (n + 1)] h781 (n + 2) (kc + 5 * k_ + 3) (ks + 993 * k_ + 975) from by
        have hr := er786
        refine rr_if_ne (tgt := 1711) C dL_law_1704 (by decide) (fun c783 => ?_) (fun c783 => ?_)
        · replace hr := (if_neg c783).symm.trans hr
          refine rr_lload C dL_law_1711 rfl ?_
          refine rr_ldc2 C dL_law_1713 ct_L_139 ?_
          refine rr_lmul C dL_law_1716 ?_
          refine rr_lload C dL_law_1717 rfl ?_
          by_cases z787 : x765 = 0
          · replace hr := (if_pos z787).symm.trans hr
            cases hr
          replace hr := (if_neg z787).symm.trans hr
          refine rr_ldiv C dL_law_1719 z787 ?_
          cases hr
          exact rr_keep [false, true, true, true, true, true, true, true, true, true, true, true, true, true, true, true, true, true, false, false, false, true, true, true, true, true, true, true, true, true, true, true, false, true, false, false, false, false, true, false, true, false, true, true, false, true, false, false, false, false, false, false, false, false, false, false, false, false, false, false, true, false, false, false, false, false, false, false, false, false, false, false, false] hj785
        · replace hr := (if_pos c783).symm.trans hr
          refine rr_lconst (v := 0) C dL_law_1707 (by decide) ?_
          refine rr_goto (tgt := 1720) C dL_law_1708 (by decide) ?_
          cases hr
          exact rr_keep [false, true, true, true, true, true, true, true, true, true, true, true, true, true, true, true, true, true, false, false, false, true, true, true, true, true, true, true, true, true, true, true, false, true, false, false, false, false, true, false, true, false, true, true, false, true, false, false, false, false, false, false, false, false, false, false, false, false, false, false, true, false, false, false, false, false, false, false, false, false, false, false, false] hj785
      replace hr := Option.bind_eq_some_iff.mp hr
      obtain ⟨h788, e789, hr⟩ := hr
      refine rr_stJ C dL_law_1720 e789 ?_
      refine rr_astore C dL_law_1721 (by decide) ?_
      show WW W0 G 73 _ _ _ 1723 [none, some (.ref l1), some (.int l2), some (.int l3), some (.int l4), some (.int l5), some (.int l6), some (.int l7), some (.int l8), some (.int l9), some (.int l10), some (.int l11), some (.int l12), some (.int l13), some (.int l14), some (.int l15), some (.int l16), some (.int l17), none, none, none, some (.ref l21), some (.ref l22), some (.ref l23), some (.ref l24), some (.ref l25), some (.ref l26), some (.ref l27), some (.int l28), some (.ref l29), some (.int l30), some (.long l31), none, some (.ref l33), none, none, none, none, some (.long y733), none, some (.long x747), none, some (.int l42), some (.long x621), none, some (.long x623), none, none, none, none, none, none, none, none, none, none, none, none, none, none, some (.long x765), none, some (.ref (n + 1)), none, none, none, none, none, none, none, none, none, none] [] h788 (n + 2) _ _
      refine rr_lload C dL_law_1723 rfl ?_
      refine rr_lstore C dL_law_1725 (by decide) ?_
      show WW W0 G 73 _ _ _ 1727 [none, some (.ref l1), some (.int l2), some (.int l3), some (.int l4), some (.int l5), some (.int l6), some (.int l7), some (.int l8), some (.int l9), some (.int l10), some (.int l11), some (.int l12), some (.int l13), some (.int l14), some (.int l15), some (.int l16), some (.int l17), none, none, none, some (.ref l21), some (.ref l22), some (.ref l23), some (.ref l24), some (.ref l25), some (.ref l26), some (.ref l27), some (.int l28), some (.ref l29), some (.int l30), some (.long l31), none, some (.ref l33), none, none, none, none, some (.long y733), none, some (.long x747), none, some (.int l42), some (.long x621), none, some (.long x623), none, none, none, none, none, none, none, none, none, none, none, none, none, none, some (.long x765), none, some (.ref (n + 1)), some (.long y733), none, none, none, none, none, none, none, none, none] [] h788 (n + 2) _ _
      refine rr_iconst (v := 0) C dL_law_1727 (by decide) ?_
      refine rr_istore C dL_law_1728 (by decide) ?_
      show WW W0 G 73 _ _ _ 1730 [none, some (.ref l1), some (.int l2), some (.int l3), some (.int l4), some (.int l5), some (.int l6), some (.int l7), some (.int l8), some (.int l9), some (.int l10), some (.int l11), some (.int l12), some (.int l13), some (.int l14), some (.int l15), some (.int l16), some (.int l17), none, none, none, some (.ref l21), some (.ref l22), some (.ref l23), some (.ref l24), some (.ref l25), some (.ref l26), some (.ref l27), some (.int l28), some (.ref l29), some (.int l30), some (.long l31), none, some (.ref l33), none, none, none, none, some (.long y733), none, some (.long x747), none, some (.int l42), some (.long x621), none, some (.long x623), none, none, none, none, none, none, none, none, none, none, none, none, none, none, some (.long x765), none, some (.ref (n + 1)), some (.long y733), none, some (.int 0), none, none, none, none, none, none, none] [] h788 (n + 2) _ _
      replace hr := Option.bind_eq_some_iff.mp hr
      obtain ⟨v804, e805, hr⟩ := hr
      refine rr_keep [false, true, true, true, true, true, true, true, true, true, true, true, true, true, true, true, true, true, false, false, false, true, true, true, true, true, true, true, true, true, true, true, false, true, false, false, false, false, true, false, true, false, true, true, false, true, false, false, false, false, false, false, false, false, false, false, false, false, false, false, true, false, true, true, false, true, false, false, false, false, false, false, false] (w_L_law_1730 C (by omega) l1 l2 l3 l4 l5 l6 l7 l8 l9 l10 l11 l12 l13 l14 l15 l16 l17 l21 l22 l23 l24 l25 l26 l27 l28 l29 l30 l31 l33 y733 x747 l42 x621 x623 x765 (n + 1) K y733 0 h788 e805 ?_)
      show WW W0 G 73 _ _ _ 1787 [none, some (.ref l1), some (.int l2), some (.int l3), some (.int l4), some (.int l5), some (.int l6), some (.int l7), some (.int l8), some (.int l9), some (.int l10), some (.int l11), some (.int l12), some (.int l13), some (.int l14), some (.int l15), some (.int l16), some (.int l17), none, none, none, some (.ref l21), some (.ref l22), some (.ref l23), some (.ref l24), some (.ref l25), some (.ref l26), some (.ref l27), some (.int l28), some (.ref l29), some (.int l30), some (.long l31), none, some (.ref l33), none, none, none, none, some (.long y733), none, some (.long x747), none, some (.int l42), some (.long x621), none, some (.long x623), none, none, none, none, none, none, none, none, none, none, none, none, none, none, some (.long x765), none, none, some (.long v804.1), none, none, none, none, none, none, none, none, none] [] v804.2 (n + 2) _ _
      refine rr_aload_n (i := 1) C dL_law_1787 rfl rfl ?_
      refine rr_iconst (v := 0) C dL_law_1788 (by decide) ?_
      refine rr_iload C dL_law_1789 rfl ?_
      refine rr_iload C dL_law_1791 rfl ?_
      refine rr_iconst (v := 3) C dL_law_1793 (by decide) ?_
      replace hr := Option.bind_eq_some_iff.mp hr
      obtain ⟨u806, e807, hr⟩ := hr
      replace hr := Option.bind_eq_some_iff.mp hr
      obtain ⟨v808, e809, hr⟩ := hr
      refine rr_callVq (as := [.int 0, .int l42, .int l30, .int 3]) (st := []) (mc' := 0) (ms' := 0) (kc := kc + 5 * k_ + 3) (ks := ks + 993 * k_ + 975) C dL_law_1794 iv_L_141 (by decide) e807 rfl (Nat.le_of_ble_eq_true rfl) (c_X10_home l1 0 l42 l30 3 (by omega) e809) (fun v_ h_ n_ q_ => ?_)
      obtain ⟨q1_, q2_, q3_⟩ := q_
      subst v_; subst h_; subst n_
      show WW W0 G 73 _ _ _ 1797 [none, some (.ref l1), some (.int l2), some (.int l3), some (.int l4), some (.int l5), some (.int l6), some (.int l7), some (.int l8), some (.int l9), some (.int l10), some (.int l11), some (.int l12), some (.int l13), some (.int l14), some (.int l15), some (.int l16), some (.int l17), none, none, none, some (.ref l21), some (.ref l22), some (.ref l23), some (.ref l24), some (.ref l25), some (.ref l26), some (.ref l27), some (.int l28), some (.ref l29), some (.int l30), some (.long l31), none, some (.ref l33), none, none, none, none, some (.long y733), none, some (.long x747), none, some (.int l42), some (.long x621), none, some (.long x623), none, none, none, none, none, none, none, none, none, none, none, none, none, none, some (.long x765), none, none, some (.long v804.1), none, none, none, none, none, none, none, none, none] [.long v808.1] v808.2 (n + 2) _ _
      refine rr_lload C dL_law_1797 rfl ?_
      refine rr_lcmp C dL_law_1799 ?_
      obtain ⟨c810, hr⟩ := ite_nn hr
      refine rr_if_ne (tgt := 1838) C dL_law_1800 (by decide) (fun q_ => absurd c810 q_) (fun _ => ?_)
      refine rr_aload_n (i := 1) C dL_law_1803 rfl rfl ?_
      refine rr_iconst (v := 0) C dL_law_1804 (by decide) ?_
      refine rr_iload C dL_law_1805 rfl ?_
      refine rr_iload C dL_law_1807 rfl ?_
      refine rr_iconst (v := 1) C dL_law_1809 (by decide) ?_
      refine rr_iconst (v := 4) C dL_law_1810 (by decide) ?_
      replace hr := Option.bind_eq_some_iff.mp hr
      obtain ⟨u811, e812, hr⟩ := hr
      replace hr := Option.bind_eq_some_iff.mp hr
      obtain ⟨v813, e814, hr⟩ := hr
      refine rr_callVq (as := [.int 0, .int l42, .int l30, .int 1, .int 4]) (st := []) (mc' := 0) (ms' := 0) (kc := kc + 5 * k_ + 3) (ks := ks + 993 * k_ + 975) C dL_law_1811 iv_L_144 (by decide) e812 rfl (Nat.le_of_ble_eq_true rfl) (c_X10_who l1 0 l42 l30 1 4 (by omega) e814) (fun v_ h_ n_ q_ => ?_)
      obtain ⟨q1_, q2_, q3_⟩ := q_
      subst v_; subst h_; subst n_
      show WW W0 G 73 _ _ _ 1814 [none, some (.ref l1), some (.int l2), some (.int l3), some (.int l4), some (.int l5), some (.int l6), some (.int l7), some (.int l8), some (.int l9), some (.int l10), some (.int l11), some (.int l12), some (.int l13), some (.int l14), some (.int l15), some (.int l16), some (.int l17), none, none, none, some (.ref l21), some (.ref l22), some (.ref l23), some (.ref l24), some (.ref l25), some (.ref l26), some (.ref l27), some (.int l28), some (.ref l29), some (.int l30), some (.long l31), none, some (.ref l33), none, none, none, none, some (.long y733), none, some (.long x747), none, some (.int l42), some (.long x621), none, some (.long x623), none, none, none, none, none, none, none, none, none, none, none, none, none, none, some (.long x765), none, none, some (.long v804.1), none, none, none, none, none, none, none, none, none] [.long v813.1] v813.2 (n + 2) _ _
      refine rr_lload C dL_law_1814 rfl ?_
      refine rr_lconst (v := 0) C dL_law_1816 (by decide) ?_
      refine rr_lcmp C dL_law_1817 ?_
      replace hr := Option.bind_eq_some_iff.mp hr
      obtain ⟨y816, er818, hr⟩ := hr
      suffices hj817 : WW W0 G 73 _ _ _ 1834 [none, some (.ref l1), some (.int l2), some (.int l3), some (.int l4), some (.int l5), some (.int l6), some (.int l7), some (.int l8), some (.int l9), some (.int l10), some (.int l11), some (.int l12), some (.int l13), some (.int l14), some (.int l15), some (.int l16), some (.int l17), none, none, none, some (.ref l21), some (.ref l22), some (.ref l23), some (.ref l24), some (.ref l25), some (.ref l26), some (.ref l27), some (.int l28), some (.ref l29), some (.int l30), some (.long l31), none, some (.ref l33), none, none, none, none, some (.long y733), none, some (.long x747), none, some (.int l42), some (.long x621), none, none, none, none, none, none, none, none, none, none, none, none, none, none, none, none, none, none, none, none, none, none, none, none, none, none, none, none, none] [.long y816, .long v813.1] v813.2 (n + 2) (kc + 5 * k_ + 3) (ks + 993 * k_ + 975) from by
        have hr := er818
        refine rr_if_ne (tgt := 1825) C dL_law_1818 (by decide) (fun c815 => ?_) (fun c815 => ?_)
        · replace hr := (if_neg c815).symm.trans hr
          refine rr_lload C dL_law_1825 rfl ?_
          refine rr_ldc2 C dL_law_1827 ct_L_137 ?_
          refine rr_lmul C dL_law_1830 ?_
          refine rr_lload C dL_law_1831 rfl ?_
          by_cases z819 : x765 = 0
          · replace hr := (if_pos z819).symm.trans hr
            cases hr
          replace hr := (if_neg z819).symm.trans hr
          refine rr_ldiv C dL_law_1833 z819 ?_
          cases hr
          exact rr_keep [false, true, true, true, true, true, true, true, true, true, true, true, true, true, true, true, true, true, false, false, false, true, true, true, true, true, true, true, true, true, true, true, false, true, false, false, false, false, true, false, true, false, true, true, false, false, false, false, false, false, false, false, false, false, false, false, false, false, false, false, false, false, false, false, false, false, false, false, false, false, false, false, false] hj817
        · replace hr := (if_pos c815).symm.trans hr
          refine rr_lconst (v := 0) C dL_law_1821 (by decide) ?_
          refine rr_goto (tgt := 1834) C dL_law_1822 (by decide) ?_
          cases hr
          exact rr_keep [false, true, true, true, true, true, true, true, true, true, true, true, true, true, true, true, true, true, false, false, false, true, true, true, true, true, true, true, true, true, true, true, false, true, false, false, false, false, true, false, true, false, true, true, false, false, false, false, false, false, false, false, false, false, false, false, false, false, false, false, false, false, false, false, false, false, false, false, false, false, false, false, false] hj817
      refine rr_lcmp C dL_law_1834 ?_
      obtain ⟨c820, hr⟩ := ite_nn hr
      refine rr_if_eq (tgt := 1840) C dL_law_1835 (by decide) (fun _ => ?_) (fun q_ => absurd c820 q_)
      refine rr_aload C dL_law_1840 rfl ?_
      refine rr_iload C dL_law_1842 rfl ?_
      replace hr := Option.bind_eq_some_iff.mp hr
      obtain ⟨v821, e822, hr⟩ := hr
      refine rr_ldI C dL_law_1844 e822 ?_
      replace hr := Option.bind_eq_some_iff.mp hr
      obtain ⟨y824, er826, hr⟩ := hr
      suffices hj825 : WW W0 G 73 _ _ _ 1861 [none, some (.ref l1), some (.int l2), some (.int l3), some (.int l4), some (.int l5), some (.int l6), some (.int l7), some (.int l8), some (.int l9), some (.int l10), some (.int l11), some (.int l12), some (.int l13), some (.int l14), some (.int l15), some (.int l16), some (.int l17), none, none, none, some (.ref l21), some (.ref l22), some (.ref l23), some (.ref l24), some (.ref l25), some (.ref l26), some (.ref l27), some (.int l28), some (.ref l29), some (.int l30), some (.long l31), none, some (.ref l33), none, none, none, none, some (.long y733), none, some (.long x747), none, some (.int l42), none, none, none, none, none, none, none, none, none, none, none, none, none, none, none, none, none, none, none, none, none, none, none, none, none, none, none, none, none, none] [.long y824] v813.2 (n + 2) (kc + 5 * k_ + 3) (ks + 993 * k_ + 975) from by
        have hr := er826
        refine rr_if_ge (tgt := 1852) C dL_law_1845 (by decide) (fun c823 => ?_) (fun c823 => ?_)
        · replace hr := (if_pos c823).symm.trans hr
          refine rr_aload C dL_law_1852 rfl ?_
          refine rr_iload C dL_law_1854 rfl ?_
          replace hr := Option.bind_eq_some_iff.mp hr
          obtain ⟨v827, e828, hr⟩ := hr
          refine rr_ldI C dL_law_1856 e828 ?_
          refine rr_i2l C dL_law_1857 ?_
          refine rr_lload C dL_law_1858 rfl ?_
          refine rr_lsub C dL_law_1860 ?_
          cases hr
          exact rr_keep [false, true, true, true, true, true, true, true, true, true, true, true, true, true, true, true, true, true, false, false, false, true, true, true, true, true, true, true, true, true, true, true, false, true, false, false, false, false, true, false, true, false, true, false, false, false, false, false, false, false, false, false, false, false, false, false, false, false, false, false, false, false, false, false, false, false, false, false, false, false, false, false, false] hj825
        · replace hr := (if_neg c823).symm.trans hr
          refine rr_lconst (v := 0) C dL_law_1848 (by decide) ?_
          refine rr_goto (tgt := 1861) C dL_law_1849 (by decide) ?_
          cases hr
          exact rr_keep [false, true, true, true, true, true, true, true, true, true, true, true, true, true, true, true, true, true, false, false, false, true, true, true, true, true, true, true, true, true, true, true, false, true, false, false, false, false, true, false, true, false, true, false, false, false, false, false, false, false, false, false, false, false, false, false, false, false, false, false, false, false, false, false, false, false, false, false, false, false, false, false, false] hj825
      refine rr_lstore C dL_law_1861 (by decide) ?_
      show WW W0 G 73 _ _ _ 1863 [none, some (.ref l1), some (.int l2), some (.int l3), some (.int l4), some (.int l5), some (.int l6), some (.int l7), some (.int l8), some (.int l9), some (.int l10), some (.int l11), some (.int l12), some (.int l13), some (.int l14), some (.int l15), some (.int l16), some (.int l17), none, none, none, some (.ref l21), some (.ref l22), some (.ref l23), some (.ref l24), some (.ref l25), some (.ref l26), some (.ref l27), some (.int l28), some (.ref l29), some (.int l30), some (.long l31), none, some (.ref l33), none, none, none, none, some (.long y733), none, some (.long x747), none, some (.int l42), none, none, none, none, none, none, none, none, none, none, none, none, none, none, none, none, none, none, none, none, none, none, some (.long y824), none, none, none, none, none, none, none] [] v813.2 (n + 2) _ _
      refine rr_lload C dL_law_1863 rfl ?_
      refine rr_lload C dL_law_1865 rfl ?_
      refine rr_lconst (v := 0) C dL_law_1867 (by decide) ?_
      refine rr_lcmp C dL_law_1868 ?_
      replace hr := Option.bind_eq_some_iff.mp hr
      obtain ⟨y830, er832, hr⟩ := hr
      suffices hj831 : WW W0 G 73 _ _ _ 1895 [none, some (.ref l1), some (.int l2), some (.int l3), some (.int l4), some (.int l5), some (.int l6), some (.int l7), some (.int l8), some (.int l9), some (.int l10), some (.int l11), some (.int l12), some (.int l13), some (.int l14), some (.int l15), some (.int l16), some (.int l17), none, none, none, some (.ref l21), some (.ref l22), some (.ref l23), some (.ref l24), some (.ref l25), some (.ref l26), some (.ref l27), some (.int l28), some (.ref l29), some (.int l30), some (.long l31), none, some (.ref l33), none, none, none, none, some (.long y733), none, some (.long x747), none, some (.int l42), none, none, none, none, none, none, none, none, none, none, none, none, none, none, none, none, none, none, none, none, none, none, none, none, none, none, none, none, none, none] [.long y830, .long y824] v813.2 (n + 2) (kc + 5 * k_ + 3) (ks + 993 * k_ + 975) from by
        have hr := er832
        refine rr_if_le (tgt := 1885) C dL_law_1869 (by decide) (fun c829 => ?_) (fun c829 => ?_)
        · replace hr := (if_pos c829).symm.trans hr
          refine rr_lload C dL_law_1885 rfl ?_
          refine rr_iload C dL_law_1887 rfl ?_
          refine rr_i2l C dL_law_1889 ?_
          refine rr_lmul C dL_law_1890 ?_
          refine rr_ldc2 C dL_law_1891 ct_L_116 ?_
          refine rr_ldiv C dL_law_1894 (by decide) ?_
          cases hr
          exact rr_keep [false, true, true, true, true, true, true, true, true, true, true, true, true, true, true, true, true, true, false, false, false, true, true, true, true, true, true, true, true, true, true, true, false, true, false, false, false, false, true, false, true, false, true, false, false, false, false, false, false, false, false, false, false, false, false, false, false, false, false, false, false, false, false, false, false, false, false, false, false, false, false, false, false] hj831
        · replace hr := (if_neg c829).symm.trans hr
          refine rr_lload C dL_law_1872 rfl ?_
          refine rr_iload C dL_law_1874 rfl ?_
          refine rr_i2l C dL_law_1876 ?_
          refine rr_lmul C dL_law_1877 ?_
          refine rr_ldc2 C dL_law_1878 ct_L_116 ?_
          refine rr_ldiv C dL_law_1881 (by decide) ?_
          refine rr_goto (tgt := 1895) C dL_law_1882 (by decide) ?_
          cases hr
          exact rr_keep [false, true, true, true, true, true, true, true, true, true, true, true, true, true, true, true, true, true, false, false, false, true, true, true, true, true, true, true, true, true, true, true, false, true, false, false, false, false, true, false, true, false, true, false, false, false, false, false, false, false, false, false, false, false, false, false, false, false, false, false, false, false, false, false, false, false, false, false, false, false, false, false, false] hj831
      refine rr_lsub C dL_law_1895 ?_
      replace hr := Option.bind_eq_some_iff.mp hr
      obtain ⟨x833, e834, hr⟩ := hr
      refine rr_asJ C e834 ?_
      refine rr_lstore C dL_law_1896 (by decide) ?_
      show WW W0 G 73 _ _ _ 1898 [none, some (.ref l1), some (.int l2), some (.int l3), some (.int l4), some (.int l5), some (.int l6), some (.int l7), some (.int l8), some (.int l9), some (.int l10), some (.int l11), some (.int l12), some (.int l13), some (.int l14), some (.int l15), some (.int l16), some (.int l17), none, none, none, some (.ref l21), some (.ref l22), some (.ref l23), some (.ref l24), some (.ref l25), some (.ref l26), some (.ref l27), some (.int l28), some (.ref l29), some (.int l30), some (.long l31), none, some (.ref l33), some (.long x833), none, none, none, some (.long y733), none, some (.long x747), none, some (.int l42), none, none, none, none, none, none, none, none, none, none, none, none, none, none, none, none, none, none, none, none, none, none, none, none, none, none, none, none, none, none] [] v813.2 (n + 2) _ _
      refine rr_lconst (v := 0) C dL_law_1898 (by decide) ?_
      refine rr_lstore C dL_law_1899 (by decide) ?_
      show WW W0 G 73 _ _ _ 1901 [none, some (.ref l1), some (.int l2), some (.int l3), some (.int l4), some (.int l5), some (.int l6), some (.int l7), some (.int l8), some (.int l9), some (.int l10), some (.int l11), some (.int l12), some (.int l13), some (.int l14), some (.int l15), some (.int l16), some (.int l17), none, none, none, some (.ref l21), some (.ref l22), some (.ref l23), some (.ref l24), some (.ref l25), some (.ref l26), some (.ref l27), some (.int l28), some (.ref l29), some (.int l30), some (.long l31), none, some (.ref l33), some (.long x833), none, some (.long 0), none, some (.long y733), none, some (.long x747), none, some (.int l42), none, none, none, none, none, none, none, none, none, none, none, none, none, none, none, none, none, none, none, none, none, none, none, none, none, none, none, none, none, none] [] v813.2 (n + 2) _ _
      refine rr_aload C dL_law_1901 rfl ?_
      refine rr_iload C dL_law_1903 rfl ?_
      replace hr := Option.bind_eq_some_iff.mp hr
      obtain ⟨v835, e836, hr⟩ := hr
      refine rr_ldI C dL_law_1905 e836 ?_
      replace hr := Option.bind_eq_some_iff.mp hr
      obtain ⟨y838, er840, hr⟩ := hr
      suffices hj839 : WW W0 G 73 _ _ _ 2011 [none, some (.ref l1), some (.int l2), some (.int l3), some (.int l4), some (.int l5), some (.int l6), some (.int l7), some (.int l8), some (.int l9), some (.int l10), some (.int l11), some (.int l12), some (.int l13), some (.int l14), some (.int l15), some (.int l16), some (.int l17), none, none, none, some (.ref l21), some (.ref l22), some (.ref l23), some (.ref l24), some (.ref l25), some (.ref l26), some (.ref l27), some (.int l28), some (.ref l29), some (.int l30), some (.long l31), none, some (.ref l33), some (.long x833), none, some (.long y838), none, some (.long y733), none, some (.long x747), none, some (.int l42), none, none, none, none, none, none, none, none, none, none, none, none, none, none, none, none, none, none, none, none, none, none, none, none, none, none, none, none, none, none] [] v813.2 (n + 2) (kc + 5 * k_ + 3) (ks + 993 * k_ + 975) from by
        have hr := er840
        refine rr_if_lt (tgt := 2011) C dL_law_1906 (by decide) (fun c837 => ?_) (fun c837 => ?_)
        · replace hr := (if_pos c837).symm.trans hr
          cases hr
          exact rr_keep [false, true, true, true, true, true, true, true, true, true, true, true, true, true, true, true, true, true, false, false, false, true, true, true, true, true, true, true, true, true, true, true, false, true, true, false, true, false, true, false, true, false, true, false, false, false, false, false, false, false, false, false, false, false, false, false, false, false, false, false, false, false, false, false, false, false, false, false, false, false, false, false, false] hj839
        · replace hr := (if_neg c837).symm.trans hr
          refine rr_iload C dL_law_1909 rfl ?_
          replace hr := Option.bind_eq_some_iff.mp hr
          obtain ⟨y842, er844, hr⟩ := hr
          suffices hj843 : WW W0 G 73 _ _ _ 1935 [none, some (.ref l1), some (.int l2), some (.int l3), some (.int l4), some (.int l5), some (.int l6), some (.int l7), some (.int l8), some (.int l9), some (.int l10), some (.int l11), some (.int l12), some (.int l13), some (.int l14), some (.int l15), some (.int l16), some (.int l17), none, none, none, some (.ref l21), some (.ref l22), some (.ref l23), some (.ref l24), some (.ref l25), some (.ref l26), some (.ref l27), some (.int l28), some (.ref l29), some (.int l30), some (.long l31), none, some (.ref l33), some (.long x833), none, none, none, some (.long y733), none, some (.long x747), none, some (.int l42), none, none, none, none, none, none, none, none, none, none, none, none, none, none, none, none, none, none, none, none, none, none, none, none, none, none, none, none, none, none] [.long y842] v813.2 (n + 2) (kc + 5 * k_ + 3) (ks + 993 * k_ + 975) from by
            have hr := er844
            refine rr_if_eq (tgt := 1926) C dL_law_1911 (by decide) (fun c841 => ?_) (fun c841 => ?_)
            · replace hr := (if_pos c841).symm.trans hr
              refine rr_aload C dL_law_1926 rfl ?_
              refine rr_iload C dL_law_1928 rfl ?_
              replace hr := Option.bind_eq_some_iff.mp hr
              obtain ⟨v845, e846, hr⟩ := hr
              refine rr_ldI C dL_law_1930 e846 ?_
              refine rr_iload C dL_law_1931 rfl ?_
              refine rr_isub C dL_law_1933 ?_
              refine rr_i2l C dL_law_1934 ?_
              cases hr
              exact rr_keep [false, true, true, true, true, true, true, true, true, true, true, true, true, true, true, true, true, true, false, false, false, true, true, true, true, true, true, true, true, true, true, true, false, true, true, false, false, false, true, false, true, false, true, false, false, false, false, false, false, false, false, false, false, false, false, false, false, false, false, false, false, false, false, false, false, false, false, false, false, false, false, false, false] hj843
            · replace hr := (if_neg c841).symm.trans hr
              refine rr_iload C dL_law_1914 rfl ?_
              refine rr_aload C dL_law_1916 rfl ?_
              refine rr_iload C dL_law_1918 rfl ?_
              replace hr := Option.bind_eq_some_iff.mp hr
              obtain ⟨v847, e848, hr⟩ := hr
              refine rr_ldI C dL_law_1920 e848 ?_
              refine rr_isub C dL_law_1921 ?_
              refine rr_i2l C dL_law_1922 ?_
              refine rr_goto (tgt := 1935) C dL_law_1923 (by decide) ?_
              cases hr
              exact rr_keep [false, true, true, true, true, true, true, true, true, true, true, true, true, true, true, true, true, true, false, false, false, true, true, true, true, true, true, true, true, true, true, true, false, true, true, false, false, false, true, false, true, false, true, false, false, false, false, false, false, false, false, false, false, false, false, false, false, false, false, false, false, false, false, false, false, false, false, false, false, false, false, false, false] hj843
          refine rr_lstore C dL_law_1935 (by decide) ?_
          show WW W0 G 73 _ _ _ 1937 [none, some (.ref l1), some (.int l2), some (.int l3), some (.int l4), some (.int l5), some (.int l6), some (.int l7), some (.int l8), some (.int l9), some (.int l10), some (.int l11), some (.int l12), some (.int l13), some (.int l14), some (.int l15), some (.int l16), some (.int l17), none, none, none, some (.ref l21), some (.ref l22), some (.ref l23), some (.ref l24), some (.ref l25), some (.ref l26), some (.ref l27), some (.int l28), some (.ref l29), some (.int l30), some (.long l31), none, some (.ref l33), some (.long x833), none, none, none, some (.long y733), none, some (.long x747), none, some (.int l42), none, none, none, none, none, none, none, none, none, none, none, none, none, none, none, none, none, none, none, none, none, none, none, none, some (.long y842), none, none, none, none, none] [] v813.2 (n + 2) _ _
          refine rr_lload C dL_law_1937 rfl ?_
          refine rr_lconst (v := 0) C dL_law_1939 (by decide) ?_
          refine rr_lcmp C dL_law_1940 ?_
          replace hr := Option.bind_eq_some_iff.mp hr
          obtain ⟨y850, er852, hr⟩ := hr
          suffices hj851 : WW W0 G 73 _ _ _ 1952 [none, some (.ref l1), some (.int l2), some (.int l3), some (.int l4), some (.int l5), some (.int l6), some (.int l7), some (.int l8), some (.int l9), some (.int l10), some (.int l11), some (.int l12), some (.int l13), some (.int l14), some (.int l15), some (.int l16), some (.int l17), none, none, none, some (.ref l21), some (.ref l22), some (.ref l23), some (.ref l24), some (.ref l25), some (.ref l26), some (.ref l27), some (.int l28), some (.ref l29), some (.int l30), some (.long l31), none, some (.ref l33), some (.long x833), none, none, none, some (.long y733), none, some (.long x747), none, some (.int l42), none, none, none, none, none, none, none, none, none, none, none, none, none, none, none, none, none, none, none, none, none, none, none, none, some (.long y842), none, none, none, none, none] [.long y850] v813.2 (n + 2) (kc + 5 * k_ + 3) (ks + 993 * k_ + 975) from by
            have hr := er852
            refine rr_if_ge (tgt := 1950) C dL_law_1941 (by decide) (fun c849 => ?_) (fun c849 => ?_)
            · replace hr := (if_pos c849).symm.trans hr
              refine rr_lload C dL_law_1950 rfl ?_
              cases hr
              exact rr_keep [false, true, true, true, true, true, true, true, true, true, true, true, true, true, true, true, true, true, false, false, false, true, true, true, true, true, true, true, true, true, true, true, false, true, true, false, false, false, true, false, true, false, true, false, false, false, false, false, false, false, false, false, false, false, false, false, false, false, false, false, false, false, false, false, false, false, false, true, false, false, false, false, false] hj851
            · replace hr := (if_neg c849).symm.trans hr
              refine rr_lload C dL_law_1944 rfl ?_
              refine rr_lneg C dL_law_1946 ?_
              refine rr_goto (tgt := 1952) C dL_law_1947 (by decide) ?_
              cases hr
              exact rr_keep [false, true, true, true, true, true, true, true, true, true, true, true, true, true, true, true, true, true, false, false, false, true, true, true, true, true, true, true, true, true, true, true, false, true, true, false, false, false, true, false, true, false, true, false, false, false, false, false, false, false, false, false, false, false, false, false, false, false, false, false, false, false, false, false, false, false, false, true, false, false, false, false, false] hj851
          refine rr_iload C dL_law_1952 rfl ?_
          refine rr_i2l C dL_law_1954 ?_
          refine rr_lsub C dL_law_1955 ?_
          replace hr := Option.bind_eq_some_iff.mp hr
          obtain ⟨x853, e854, hr⟩ := hr
          refine rr_asJ C e854 ?_
          refine rr_lstore C dL_law_1956 (by decide) ?_
          show WW W0 G 73 _ _ _ 1958 [none, some (.ref l1), some (.int l2), some (.int l3), some (.int l4), some (.int l5), some (.int l6), some (.int l7), some (.int l8), some (.int l9), some (.int l10), some (.int l11), some (.int l12), some (.int l13), some (.int l14), some (.int l15), some (.int l16), some (.int l17), none, none, none, some (.ref l21), some (.ref l22), some (.ref l23), some (.ref l24), some (.ref l25), some (.ref l26), some (.ref l27), some (.int l28), some (.ref l29), some (.int l30), some (.long l31), none, some (.ref l33), some (.long x833), none, none, none, some (.long y733), none, some (.long x747), none, some (.int l42), none, none, none, none, none, none, none, none, none, none, none, none, none, none, none, none, none, none, none, none, none, none, none, none, some (.long y842), none, some (.long x853), none, none, none] [] v813.2 (n + 2) _ _
          refine rr_lload C dL_law_1958 rfl ?_
          refine rr_lconst (v := 0) C dL_law_1960 (by decide) ?_
          refine rr_lcmp C dL_law_1961 ?_
          replace hr := Option.bind_eq_some_iff.mp hr
          obtain ⟨y856, er858, hr⟩ := hr
          suffices hj857 : WW W0 G 73 _ _ _ 1968 [none, some (.ref l1), some (.int l2), some (.int l3), some (.int l4), some (.int l5), some (.int l6), some (.int l7), some (.int l8), some (.int l9), some (.int l10), some (.int l11), some (.int l12), some (.int l13), some (.int l14), some (.int l15), some (.int l16), some (.int l17), none, none, none, some (.ref l21), some (.ref l22), some (.ref l23), some (.ref l24), some (.ref l25), some (.ref l26), some (.ref l27), some (.int l28), some (.ref l29), some (.int l30), some (.long l31), none, some (.ref l33), some (.long x833), none, none, none, some (.long y733), none, some (.long x747), none, some (.int l42), none, none, none, none, none, none, none, none, none, none, none, none, none, none, none, none, none, none, none, none, none, none, none, none, some (.long y842), none, some (.long y856), none, none, none] [] v813.2 (n + 2) (kc + 5 * k_ + 3) (ks + 993 * k_ + 975) from by
            have hr := er858
            refine rr_if_ge (tgt := 1968) C dL_law_1962 (by decide) (fun c855 => ?_) (fun c855 => ?_)
            · replace hr := (if_pos c855).symm.trans hr
              cases hr
              exact rr_keep [false, true, true, true, true, true, true, true, true, true, true, true, true, true, true, true, true, true, false, false, false, true, true, true, true, true, true, true, true, true, true, true, false, true, true, false, false, false, true, false, true, false, true, false, false, false, false, false, false, false, false, false, false, false, false, false, false, false, false, false, false, false, false, false, false, false, false, true, false, true, false, false, false] hj857
            · replace hr := (if_neg c855).symm.trans hr
              refine rr_lconst (v := 0) C dL_law_1965 (by decide) ?_
              refine rr_lstore C dL_law_1966 (by decide) ?_
              show WW W0 G 73 _ _ _ 1968 [none, some (.ref l1), some (.int l2), some (.int l3), some (.int l4), some (.int l5), some (.int l6), some (.int l7), some (.int l8), some (.int l9), some (.int l10), some (.int l11), some (.int l12), some (.int l13), some (.int l14), some (.int l15), some (.int l16), some (.int l17), none, none, none, some (.ref l21), some (.ref l22), some (.ref l23), some (.ref l24), some (.ref l25), some (.ref l26), some (.ref l27), some (.int l28), some (.ref l29), some (.int l30), some (.long l31), none, some (.ref l33), some (.long x833), none, none, none, some (.long y733), none, some (.long x747), none, some (.int l42), none, none, none, none, none, none, none, none, none, none, none, none, none, none, none, none, none, none, none, none, none, none, none, none, some (.long y842), none, some (.long 0), none, none, none] [] v813.2 (n + 2) _ _
              cases hr
              exact rr_keep [false, true, true, true, true, true, true, true, true, true, true, true, true, true, true, true, true, true, false, false, false, true, true, true, true, true, true, true, true, true, true, true, false, true, true, false, false, false, true, false, true, false, true, false, false, false, false, false, false, false, false, false, false, false, false, false, false, false, false, false, false, false, false, false, false, false, false, true, false, true, false, false, false] hj857
          refine rr_lload C dL_law_1968 rfl ?_
          refine rr_iload C dL_law_1970 rfl ?_
          refine rr_i2l C dL_law_1972 ?_
          by_cases z859 : (Int32.toInt64 l12) = 0
          · replace hr := (if_pos z859).symm.trans hr
            cases hr
          replace hr := (if_neg z859).symm.trans hr
          refine rr_ldiv C dL_law_1973 z859 ?_
          refine rr_iload C dL_law_1974 rfl ?_
          refine rr_i2l C dL_law_1976 ?_
          refine rr_lmul C dL_law_1977 ?_
          replace hr := Option.bind_eq_some_iff.mp hr
          obtain ⟨x860, e861, hr⟩ := hr
          refine rr_asJ C e861 ?_
          refine rr_lstore C dL_law_1978 (by decide) ?_
          show WW W0 G 73 _ _ _ 1980 [none, some (.ref l1), some (.int l2), some (.int l3), some (.int l4), some (.int l5), some (.int l6), some (.int l7), some (.int l8), some (.int l9), some (.int l10), some (.int l11), some (.int l12), some (.int l13), some (.int l14), some (.int l15), some (.int l16), some (.int l17), none, none, none, some (.ref l21), some (.ref l22), some (.ref l23), some (.ref l24), some (.ref l25), some (.ref l26), some (.ref l27), some (.int l28), some (.ref l29), some (.int l30), some (.long l31), none, some (.ref l33), some (.long x833), none, none, none, some (.long y733), none, some (.long x747), none, some (.int l42), none, none, none, none, none, none, none, none, none, none, none, none, none, none, none, none, none, none, none, none, none, none, none, none, some (.long y842), none, some (.long y856), none, some (.long x860), none] [] v813.2 (n + 2) _ _
          refine rr_lload C dL_law_1980 rfl ?_
          refine rr_iload C dL_law_1982 rfl ?_
          refine rr_i2l C dL_law_1984 ?_
          refine rr_lcmp C dL_law_1985 ?_
          replace hr := Option.bind_eq_some_iff.mp hr
          obtain ⟨y863, er865, hr⟩ := hr
          suffices hj864 : WW W0 G 73 _ _ _ 1994 [none, some (.ref l1), some (.int l2), some (.int l3), some (.int l4), some (.int l5), some (.int l6), some (.int l7), some (.int l8), some (.int l9), some (.int l10), some (.int l11), some (.int l12), some (.int l13), some (.int l14), some (.int l15), some (.int l16), some (.int l17), none, none, none, some (.ref l21), some (.ref l22), some (.ref l23), some (.ref l24), some (.ref l25), some (.ref l26), some (.ref l27), some (.int l28), some (.ref l29), some (.int l30), some (.long l31), none, some (.ref l33), some (.long x833), none, none, none, some (.long y733), none, some (.long x747), none, some (.int l42), none, none, none, none, none, none, none, none, none, none, none, none, none, none, none, none, none, none, none, none, none, none, none, none, some (.long y842), none, none, none, some (.long y863), none] [] v813.2 (n + 2) (kc + 5 * k_ + 3) (ks + 993 * k_ + 975) from by
            have hr := er865
            refine rr_if_le (tgt := 1994) C dL_law_1986 (by decide) (fun c862 => ?_) (fun c862 => ?_)
            · replace hr := (if_pos c862).symm.trans hr
              cases hr
              exact rr_keep [false, true, true, true, true, true, true, true, true, true, true, true, true, true, true, true, true, true, false, false, false, true, true, true, true, true, true, true, true, true, true, true, false, true, true, false, false, false, true, false, true, false, true, false, false, false, false, false, false, false, false, false, false, false, false, false, false, false, false, false, false, false, false, false, false, false, false, true, false, false, false, true, false] hj864
            · replace hr := (if_neg c862).symm.trans hr
              refine rr_iload C dL_law_1989 rfl ?_
              refine rr_i2l C dL_law_1991 ?_
              replace hr := Option.bind_eq_some_iff.mp hr
              obtain ⟨x866, e867, hr⟩ := hr
              refine rr_asJ C e867 ?_
              refine rr_lstore C dL_law_1992 (by decide) ?_
              show WW W0 G 73 _ _ _ 1994 [none, some (.ref l1), some (.int l2), some (.int l3), some (.int l4), some (.int l5), some (.int l6), some (.int l7), some (.int l8), some (.int l9), some (.int l10), some (.int l11), some (.int l12), some (.int l13), some (.int l14), some (.int l15), some (.int l16), some (.int l17), none, none, none, some (.ref l21), some (.ref l22), some (.ref l23), some (.ref l24), some (.ref l25), some (.ref l26), some (.ref l27), some (.int l28), some (.ref l29), some (.int l30), some (.long l31), none, some (.ref l33), some (.long x833), none, none, none, some (.long y733), none, some (.long x747), none, some (.int l42), none, none, none, none, none, none, none, none, none, none, none, none, none, none, none, none, none, none, none, none, none, none, none, none, some (.long y842), none, some (.long y856), none, some (.long x866), none] [] v813.2 (n + 2) _ _
              cases hr
              exact rr_keep [false, true, true, true, true, true, true, true, true, true, true, true, true, true, true, true, true, true, false, false, false, true, true, true, true, true, true, true, true, true, true, true, false, true, true, false, false, false, true, false, true, false, true, false, false, false, false, false, false, false, false, false, false, false, false, false, false, false, false, false, false, false, false, false, false, false, false, true, false, false, false, true, false] hj864
          refine rr_lload C dL_law_1994 rfl ?_
          refine rr_lconst (v := 0) C dL_law_1996 (by decide) ?_
          refine rr_lcmp C dL_law_1997 ?_
          replace hr := Option.bind_eq_some_iff.mp hr
          obtain ⟨y869, er871, hr⟩ := hr
          suffices hj870 : WW W0 G 73 _ _ _ 2009 [none, some (.ref l1), some (.int l2), some (.int l3), some (.int l4), some (.int l5), some (.int l6), some (.int l7), some (.int l8), some (.int l9), some (.int l10), some (.int l11), some (.int l12), some (.int l13), some (.int l14), some (.int l15), some (.int l16), some (.int l17), none, none, none, some (.ref l21), some (.ref l22), some (.ref l23), some (.ref l24), some (.ref l25), some (.ref l26), some (.ref l27), some (.int l28), some (.ref l29), some (.int l30), some (.long l31), none, some (.ref l33), some (.long x833), none, none, none, some (.long y733), none, some (.long x747), none, some (.int l42), none, none, none, none, none, none, none, none, none, none, none, none, none, none, none, none, none, none, none, none, none, none, none, none, none, none, none, none, none, none] [.long y869] v813.2 (n + 2) (kc + 5 * k_ + 3) (ks + 993 * k_ + 975) from by
            have hr := er871
            refine rr_if_ge (tgt := 2007) C dL_law_1998 (by decide) (fun c868 => ?_) (fun c868 => ?_)
            · replace hr := (if_pos c868).symm.trans hr
              refine rr_lload C dL_law_2007 rfl ?_
              cases hr
              exact rr_keep [false, true, true, true, true, true, true, true, true, true, true, true, true, true, true, true, true, true, false, false, false, true, true, true, true, true, true, true, true, true, true, true, false, true, true, false, false, false, true, false, true, false, true, false, false, false, false, false, false, false, false, false, false, false, false, false, false, false, false, false, false, false, false, false, false, false, false, false, false, false, false, false, false] hj870
            · replace hr := (if_neg c868).symm.trans hr
              refine rr_lload C dL_law_2001 rfl ?_
              refine rr_lneg C dL_law_2003 ?_
              refine rr_goto (tgt := 2009) C dL_law_2004 (by decide) ?_
              cases hr
              exact rr_keep [false, true, true, true, true, true, true, true, true, true, true, true, true, true, true, true, true, true, false, false, false, true, true, true, true, true, true, true, true, true, true, true, false, true, true, false, false, false, true, false, true, false, true, false, false, false, false, false, false, false, false, false, false, false, false, false, false, false, false, false, false, false, false, false, false, false, false, false, false, false, false, false, false] hj870
          refine rr_lstore C dL_law_2009 (by decide) ?_
          show WW W0 G 73 _ _ _ 2011 [none, some (.ref l1), some (.int l2), some (.int l3), some (.int l4), some (.int l5), some (.int l6), some (.int l7), some (.int l8), some (.int l9), some (.int l10), some (.int l11), some (.int l12), some (.int l13), some (.int l14), some (.int l15), some (.int l16), some (.int l17), none, none, none, some (.ref l21), some (.ref l22), some (.ref l23), some (.ref l24), some (.ref l25), some (.ref l26), some (.ref l27), some (.int l28), some (.ref l29), some (.int l30), some (.long l31), none, some (.ref l33), some (.long x833), none, some (.long y869), none, some (.long y733), none, some (.long x747), none, some (.int l42), none, none, none, none, none, none, none, none, none, none, none, none, none, none, none, none, none, none, none, none, none, none, none, none, none, none, none, none, none, none] [] v813.2 (n + 2) _ _
          cases hr
          exact rr_keep [false, true, true, true, true, true, true, true, true, true, true, true, true, true, true, true, true, true, false, false, false, true, true, true, true, true, true, true, true, true, true, true, false, true, true, false, true, false, true, false, true, false, true, false, false, false, false, false, false, false, false, false, false, false, false, false, false, false, false, false, false, false, false, false, false, false, false, false, false, false, false, false, false] hj839
      refine rr_lload C dL_law_2011 rfl ?_
      refine rr_iload_n (i := 3) C dL_law_2013 rfl rfl ?_
      refine rr_i2l C dL_law_2014 ?_
      refine rr_lmul C dL_law_2015 ?_
      refine rr_ldc2 C dL_law_2016 ct_L_116 ?_
      refine rr_ldiv C dL_law_2019 (by decide) ?_
      refine rr_lload C dL_law_2020 rfl ?_
      refine rr_iload C dL_law_2022 rfl ?_
      refine rr_i2l C dL_law_2024 ?_
      refine rr_lmul C dL_law_2025 ?_
      refine rr_ldc2 C dL_law_2026 ct_L_116 ?_
      refine rr_ldiv C dL_law_2029 (by decide) ?_
      refine rr_lsub C dL_law_2030 ?_
      replace hr := Option.bind_eq_some_iff.mp hr
      obtain ⟨x872, e873, hr⟩ := hr
      refine rr_asJ C e873 ?_
      refine rr_lstore C dL_law_2031 (by decide) ?_
      show WW W0 G 73 _ _ _ 2033 [none, some (.ref l1), some (.int l2), some (.int l3), some (.int l4), some (.int l5), some (.int l6), some (.int l7), some (.int l8), some (.int l9), some (.int l10), some (.int l11), some (.int l12), some (.int l13), some (.int l14), some (.int l15), some (.int l16), some (.int l17), none, none, none, some (.ref l21), some (.ref l22), some (.ref l23), some (.ref l24), some (.ref l25), some (.ref l26), some (.ref l27), some (.int l28), some (.ref l29), some (.int l30), some (.long l31), none, some (.ref l33), some (.long x833), none, some (.long y838), none, some (.long y733), none, some (.long x747), none, some (.int l42), none, none, none, none, none, none, none, none, none, none, none, none, none, none, none, none, none, none, none, none, none, none, none, none, some (.long x872), none, none, none, none, none] [] v813.2 (n + 2) _ _
      refine rr_iconst (v := 0) C dL_law_2033 (by decide) ?_
      refine rr_istore C dL_law_2034 (by decide) ?_
      show WW W0 G 73 _ _ _ 2036 [none, some (.ref l1), some (.int l2), some (.int l3), some (.int l4), some (.int l5), some (.int l6), some (.int l7), some (.int l8), some (.int l9), some (.int l10), some (.int l11), some (.int l12), some (.int l13), some (.int l14), some (.int l15), some (.int l16), some (.int l17), none, none, none, some (.ref l21), some (.ref l22), some (.ref l23), some (.ref l24), some (.ref l25), some (.ref l26), some (.ref l27), some (.int l28), some (.ref l29), some (.int l30), some (.long l31), none, some (.ref l33), some (.long x833), none, some (.long y838), none, some (.long y733), none, some (.long x747), none, some (.int l42), none, none, none, none, none, none, none, none, none, none, none, none, none, none, none, none, none, none, none, none, none, none, none, none, some (.long x872), none, some (.int 0), none, none, none] [] v813.2 (n + 2) _ _
      replace hr := Option.bind_eq_some_iff.mp hr
      obtain ⟨v885, e886, hr⟩ := hr
      refine rr_keep [false, true, true, true, true, true, true, true, true, true, true, true, true, true, true, true, true, true, false, false, false, true, true, true, true, true, true, true, true, true, true, false, false, true, true, false, true, false, true, false, true, false, true, false, false, false, false, false, false, false, false, false, false, false, false, false, false, false, false, false, false, false, false, false, false, false, false, true, false, true, false, false, false] (w_L_law_2036 C (by omega) l1 l2 l3 l4 l5 l6 l7 l8 l9 l10 l11 l12 l13 l14 l15 l16 l17 l21 l22 l23 l24 l25 l26 l27 l28 l29 l30 l33 x833 y838 y733 x747 l42 K x872 0 e886 ?_)
      show WW W0 G 73 _ _ _ 2073 [none, some (.ref l1), some (.int l2), some (.int l3), some (.int l4), some (.int l5), some (.int l6), some (.int l7), some (.int l8), some (.int l9), some (.int l10), some (.int l11), some (.int l12), some (.int l13), some (.int l14), some (.int l15), some (.int l16), some (.int l17), none, none, none, some (.ref l21), some (.ref l22), some (.ref l23), some (.ref l24), some (.ref l25), some (.ref l26), some (.ref l27), some (.int l28), some (.ref l29), some (.int l30), none, none, some (.ref l33), some (.long x833), none, some (.long y838), none, some (.long y733), none, some (.long x747), none, some (.int l42), none, none, none, none, none, none, none, none, none, none, none, none, none, none, none, none, none, none, none, none, none, none, none, none, some (.long v885), none, none, none, none, none] [] v813.2 (n + 2) _ _
      refine rr_lload C dL_law_2073 rfl ?_
      refine rr_lstore C dL_law_2075 (by decide) ?_
      show WW W0 G 73 _ _ _ 2077 [none, some (.ref l1), some (.int l2), some (.int l3), some (.int l4), some (.int l5), some (.int l6), some (.int l7), some (.int l8), some (.int l9), some (.int l10), some (.int l11), some (.int l12), some (.int l13), some (.int l14), some (.int l15), some (.int l16), some (.int l17), none, none, none, some (.ref l21), some (.ref l22), some (.ref l23), some (.ref l24), some (.ref l25), some (.ref l26), some (.ref l27), some (.int l28), some (.ref l29), some (.int l30), some (.long v885), none, some (.ref l33), some (.long x833), none, some (.long y838), none, some (.long y733), none, some (.long x747), none, some (.int l42), none, none, none, none, none, none, none, none, none, none, none, none, none, none, none, none, none, none, none, none, none, none, none, none, some (.long v885), none, none, none, none, none] [] v813.2 (n + 2) _ _
      refine rr_iinc (v := l42 + 1) C dL_law_2077 rfl rfl ?_
      show WW W0 G 73 _ _ _ 2080 [none, some (.ref l1), some (.int l2), some (.int l3), some (.int l4), some (.int l5), some (.int l6), some (.int l7), some (.int l8), some (.int l9), some (.int l10), some (.int l11), some (.int l12), some (.int l13), some (.int l14), some (.int l15), some (.int l16), some (.int l17), none, none, none, some (.ref l21), some (.ref l22), some (.ref l23), some (.ref l24), some (.ref l25), some (.ref l26), some (.ref l27), some (.int l28), some (.ref l29), some (.int l30), some (.long v885), none, some (.ref l33), some (.long x833), none, some (.long y838), none, some (.long y733), none, some (.long x747), none, some (.int (l42 + 1)), none, none, none, none, none, none, none, none, none, none, none, none, none, none, none, none, none, none, none, none, none, none, none, none, some (.long v885), none, none, none, none, none] [] v813.2 (n + 2) _ _
      refine rr_goto (tgt := 1115) C dL_law_2080 (by decide) ?_
      refine rr_cut C (kc' := kc + 5 * k_) (ks' := ks + 993 * k_) (by omega) (by omega) ?_
      exact rr_keep [false, true, true, true, true, true, true, true, true, true, true, true, true, true, true, true, true, true, false, false, false, true, true, true, true, true, true, true, true, true, true, true, false, true, true, false, true, false, true, false, true, false, true, false, false, false, false, false, false, false, false, false, false, false, false, false, false, false, false, false, false, false, false, false, false, false, false, false, false, false, false, false, false] (ih_ _ _ _ _ _ _ _ (n + 2) (by omega) hr (fun q_ => hx0 (by omega)))
set_option maxRecDepth 100000 in
set_option maxHeartbeats 40000000 in
theorem c_law {K : Nat} {nm_ : String} {W0 : mm_X} {G : mm_G} {Q_ : State → Prop} {h : mm_H} (C : mm_C W0 G cL_law yL_law.cls 73 600000 7302250 (some .boolean) 300 nm_) (hx0 : ∀ (L : List (Option Value)) (h : mm_H) (n kc ks : Nat), WW W0 G 73 600000 7302250 Q_ 2122 L [.int 1] h n kc ks) (hr : q_law K h = some ()) : WW W0 G 73 600000 7302250 Q_ 0 [some (.ref 0), none, none, none, none, none, none, none, none, none, none, none, none, none, none, none, none, none, none, none, none, none, none, none, none, none, none, none, none, none, none, none, none, none, none, none, none, none, none, none, none, none, none, none, none, none, none, none, none, none, none, none, none, none, none, none, none, none, none, none, none, none, none, none, none, none, none, none, none, none, none, none, none] [] h 48 600000 7302250 := by
  have hn : 48 ≤ 48 := Nat.le_refl _
  unfold q_law at hr
  refine rr_cut C (kc' := 599999 + 1) (ks' := 7302238 + 12) (by omega) (by omega) ?_
  replace hr := Option.bind_eq_some_iff.mp hr
  obtain ⟨h1, e2, hr⟩ := hr
  refine rr_newq C dL_law_0 nw_L_18 e2 ?_
  show WW W0 G 73 _ _ _ 3 [some (.ref 0), none, none, none, none, none, none, none, none, none, none, none, none, none, none, none, none, none, none, none, none, none, none, none, none, none, none, none, none, none, none, none, none, none, none, none, none, none, none, none, none, none, none, none, none, none, none, none, none, none, none, none, none, none, none, none, none, none, none, none, none, none, none, none, none, none, none, none, none, none, none, none, none] [.ref 48] h1 (48 + 1) _ _
  refine rr_dup C dL_law_3 rfl ?_
  refine rr_cut C (kc' := 599864 + 135) (ks' := 7294220 + 8018) (by omega) (by omega) ?_
  replace hr := Option.bind_eq_some_iff.mp hr
  obtain ⟨⟨h3, n4⟩, e6, hr⟩ := hr
  dsimp only at hr
  refine rr_callI (as := []) (st := [.ref 48]) (mc' := 135) (ms' := 8018) C dL_law_4 ii_L_23 (by decide) (Nat.le_of_ble_eq_true rfl) (c_X10_init 48 (by omega) e6) (fun v_ h_ n_ q_ => ?_)
  obtain ⟨q1_, q2_, q3_, b7⟩ := q_
  subst v_; subst h_; subst n_
  try dsimp only at b7
  show WW W0 G 73 _ _ _ 7 [some (.ref 0), none, none, none, none, none, none, none, none, none, none, none, none, none, none, none, none, none, none, none, none, none, none, none, none, none, none, none, none, none, none, none, none, none, none, none, none, none, none, none, none, none, none, none, none, none, none, none, none, none, none, none, none, none, none, none, none, none, none, none, none, none, none, none, none, none, none, none, none, none, none, none, none] [.ref 48] h3 n4 _ _
  refine rr_astore_n (i := 1) C dL_law_7 rfl (by decide) ?_
  show WW W0 G 73 _ _ _ 8 [some (.ref 0), some (.ref 48), none, none, none, none, none, none, none, none, none, none, none, none, none, none, none, none, none, none, none, none, none, none, none, none, none, none, none, none, none, none, none, none, none, none, none, none, none, none, none, none, none, none, none, none, none, none, none, none, none, none, none, none, none, none, none, none, none, none, none, none, none, none, none, none, none, none, none, none, none, none, none] [] h3 n4 _ _
  refine rr_aload_n (i := 0) C dL_law_8 rfl rfl ?_
  refine rr_iconst (v := 0) C dL_law_9 (by decide) ?_
  replace hr := Option.bind_eq_some_iff.mp hr
  obtain ⟨v8, e9, hr⟩ := hr
  refine rr_callS (as := [.ref 0, .int 0]) (st := []) (mc' := 0) (ms' := 0) C dL_law_10 it_L_24 (by decide) (Nat.le_of_ble_eq_true rfl) (c_L_cell (some 0) 0 (by omega) e9) (fun v_ h_ n_ q_ => ?_)
  obtain ⟨q1_, q2_, q3_⟩ := q_
  subst v_; subst h_; subst n_
  show WW W0 G 73 _ _ _ 13 [some (.ref 0), some (.ref 48), none, none, none, none, none, none, none, none, none, none, none, none, none, none, none, none, none, none, none, none, none, none, none, none, none, none, none, none, none, none, none, none, none, none, none, none, none, none, none, none, none, none, none, none, none, none, none, none, none, none, none, none, none, none, none, none, none, none, none, none, none, none, none, none, none, none, none, none, none, none, none] [.int v8] h3 n4 _ _
  refine rr_bipush (v := 127) C dL_law_13 (by decide) ?_
  refine rr_iand C dL_law_15 ?_
  replace hr := Option.bind_eq_some_iff.mp hr
  obtain ⟨x10, e11, hr⟩ := hr
  refine rr_asI C e11 ?_
  refine rr_istore_n (i := 2) C dL_law_16 rfl (by decide) ?_
  show WW W0 G 73 _ _ _ 17 [some (.ref 0), some (.ref 48), some (.int x10), none, none, none, none, none, none, none, none, none, none, none, none, none, none, none, none, none, none, none, none, none, none, none, none, none, none, none, none, none, none, none, none, none, none, none, none, none, none, none, none, none, none, none, none, none, none, none, none, none, none, none, none, none, none, none, none, none, none, none, none, none, none, none, none, none, none, none, none, none, none] [] h3 n4 _ _
  refine rr_bipush (v := 80) C dL_law_17 (by decide) ?_
  refine rr_aload_n (i := 0) C dL_law_19 rfl rfl ?_
  refine rr_iconst (v := 0) C dL_law_20 (by decide) ?_
  replace hr := Option.bind_eq_some_iff.mp hr
  obtain ⟨v12, e13, hr⟩ := hr
  refine rr_callS (as := [.ref 0, .int 0]) (st := [.int 80]) (mc' := 0) (ms' := 0) C dL_law_21 it_L_24 (by decide) (Nat.le_of_ble_eq_true rfl) (c_L_cell (some 0) 0 (by omega) e13) (fun v_ h_ n_ q_ => ?_)
  obtain ⟨q1_, q2_, q3_⟩ := q_
  subst v_; subst h_; subst n_
  show WW W0 G 73 _ _ _ 24 [some (.ref 0), some (.ref 48), some (.int x10), none, none, none, none, none, none, none, none, none, none, none, none, none, none, none, none, none, none, none, none, none, none, none, none, none, none, none, none, none, none, none, none, none, none, none, none, none, none, none, none, none, none, none, none, none, none, none, none, none, none, none, none, none, none, none, none, none, none, none, none, none, none, none, none, none, none, none, none, none, none] [.int v12, .int 80] h3 n4 _ _
  refine rr_bipush (v := 7) C dL_law_24 (by decide) ?_
  refine rr_ishr C dL_law_26 ?_
  refine rr_bipush (v := 63) C dL_law_27 (by decide) ?_
  refine rr_iand C dL_law_29 ?_
  refine rr_iadd C dL_law_30 ?_
  replace hr := Option.bind_eq_some_iff.mp hr
  obtain ⟨x14, e15, hr⟩ := hr
  refine rr_asI C e15 ?_
  refine rr_istore_n (i := 3) C dL_law_31 rfl (by decide) ?_
  show WW W0 G 73 _ _ _ 32 [some (.ref 0), some (.ref 48), some (.int x10), some (.int x14), none, none, none, none, none, none, none, none, none, none, none, none, none, none, none, none, none, none, none, none, none, none, none, none, none, none, none, none, none, none, none, none, none, none, none, none, none, none, none, none, none, none, none, none, none, none, none, none, none, none, none, none, none, none, none, none, none, none, none, none, none, none, none, none, none, none, none, none, none] [] h3 n4 _ _
  refine rr_aload_n (i := 0) C dL_law_32 rfl rfl ?_
  refine rr_iconst (v := 0) C dL_law_33 (by decide) ?_
  replace hr := Option.bind_eq_some_iff.mp hr
  obtain ⟨v16, e17, hr⟩ := hr
  refine rr_callS (as := [.ref 0, .int 0]) (st := []) (mc' := 0) (ms' := 0) C dL_law_34 it_L_24 (by decide) (Nat.le_of_ble_eq_true rfl) (c_L_cell (some 0) 0 (by omega) e17) (fun v_ h_ n_ q_ => ?_)
  obtain ⟨q1_, q2_, q3_⟩ := q_
  subst v_; subst h_; subst n_
  show WW W0 G 73 _ _ _ 37 [some (.ref 0), some (.ref 48), some (.int x10), some (.int x14), none, none, none, none, none, none, none, none, none, none, none, none, none, none, none, none, none, none, none, none, none, none, none, none, none, none, none, none, none, none, none, none, none, none, none, none, none, none, none, none, none, none, none, none, none, none, none, none, none, none, none, none, none, none, none, none, none, none, none, none, none, none, none, none, none, none, none, none, none] [.int v16] h3 n4 _ _
  refine rr_bipush (v := 13) C dL_law_37 (by decide) ?_
  refine rr_ishr C dL_law_39 ?_
  refine rr_bipush (v := 31) C dL_law_40 (by decide) ?_
  refine rr_iand C dL_law_42 ?_
  replace hr := Option.bind_eq_some_iff.mp hr
  obtain ⟨x18, e19, hr⟩ := hr
  refine rr_asI C e19 ?_
  refine rr_istore C dL_law_43 (by decide) ?_
  show WW W0 G 73 _ _ _ 45 [some (.ref 0), some (.ref 48), some (.int x10), some (.int x14), some (.int x18), none, none, none, none, none, none, none, none, none, none, none, none, none, none, none, none, none, none, none, none, none, none, none, none, none, none, none, none, none, none, none, none, none, none, none, none, none, none, none, none, none, none, none, none, none, none, none, none, none, none, none, none, none, none, none, none, none, none, none, none, none, none, none, none, none, none, none, none] [] h3 n4 _ _
  refine rr_aload_n (i := 0) C dL_law_45 rfl rfl ?_
  refine rr_iconst (v := 0) C dL_law_46 (by decide) ?_
  replace hr := Option.bind_eq_some_iff.mp hr
  obtain ⟨v20, e21, hr⟩ := hr
  refine rr_callS (as := [.ref 0, .int 0]) (st := []) (mc' := 0) (ms' := 0) C dL_law_47 it_L_24 (by decide) (Nat.le_of_ble_eq_true rfl) (c_L_cell (some 0) 0 (by omega) e21) (fun v_ h_ n_ q_ => ?_)
  obtain ⟨q1_, q2_, q3_⟩ := q_
  subst v_; subst h_; subst n_
  show WW W0 G 73 _ _ _ 50 [some (.ref 0), some (.ref 48), some (.int x10), some (.int x14), some (.int x18), none, none, none, none, none, none, none, none, none, none, none, none, none, none, none, none, none, none, none, none, none, none, none, none, none, none, none, none, none, none, none, none, none, none, none, none, none, none, none, none, none, none, none, none, none, none, none, none, none, none, none, none, none, none, none, none, none, none, none, none, none, none, none, none, none, none, none, none] [.int v20] h3 n4 _ _
  refine rr_bipush (v := 18) C dL_law_50 (by decide) ?_
  refine rr_ishr C dL_law_52 ?_
  refine rr_bipush (v := 63) C dL_law_53 (by decide) ?_
  refine rr_iand C dL_law_55 ?_
  replace hr := Option.bind_eq_some_iff.mp hr
  obtain ⟨x22, e23, hr⟩ := hr
  refine rr_asI C e23 ?_
  refine rr_istore C dL_law_56 (by decide) ?_
  show WW W0 G 73 _ _ _ 58 [some (.ref 0), some (.ref 48), some (.int x10), some (.int x14), some (.int x18), some (.int x22), none, none, none, none, none, none, none, none, none, none, none, none, none, none, none, none, none, none, none, none, none, none, none, none, none, none, none, none, none, none, none, none, none, none, none, none, none, none, none, none, none, none, none, none, none, none, none, none, none, none, none, none, none, none, none, none, none, none, none, none, none, none, none, none, none, none, none] [] h3 n4 _ _
  refine rr_aload_n (i := 0) C dL_law_58 rfl rfl ?_
  refine rr_iconst (v := 0) C dL_law_59 (by decide) ?_
  replace hr := Option.bind_eq_some_iff.mp hr
  obtain ⟨v24, e25, hr⟩ := hr
  refine rr_callS (as := [.ref 0, .int 0]) (st := []) (mc' := 0) (ms' := 0) C dL_law_60 it_L_24 (by decide) (Nat.le_of_ble_eq_true rfl) (c_L_cell (some 0) 0 (by omega) e25) (fun v_ h_ n_ q_ => ?_)
  obtain ⟨q1_, q2_, q3_⟩ := q_
  subst v_; subst h_; subst n_
  show WW W0 G 73 _ _ _ 63 [some (.ref 0), some (.ref 48), some (.int x10), some (.int x14), some (.int x18), some (.int x22), none, none, none, none, none, none, none, none, none, none, none, none, none, none, none, none, none, none, none, none, none, none, none, none, none, none, none, none, none, none, none, none, none, none, none, none, none, none, none, none, none, none, none, none, none, none, none, none, none, none, none, none, none, none, none, none, none, none, none, none, none, none, none, none, none, none, none] [.int v24] h3 n4 _ _
  refine rr_bipush (v := 24) C dL_law_63 (by decide) ?_
  refine rr_ishr C dL_law_65 ?_
  refine rr_bipush (v := 63) C dL_law_66 (by decide) ?_
  refine rr_iand C dL_law_68 ?_
  replace hr := Option.bind_eq_some_iff.mp hr
  obtain ⟨x26, e27, hr⟩ := hr
  refine rr_asI C e27 ?_
  refine rr_istore C dL_law_69 (by decide) ?_
  show WW W0 G 73 _ _ _ 71 [some (.ref 0), some (.ref 48), some (.int x10), some (.int x14), some (.int x18), some (.int x22), some (.int x26), none, none, none, none, none, none, none, none, none, none, none, none, none, none, none, none, none, none, none, none, none, none, none, none, none, none, none, none, none, none, none, none, none, none, none, none, none, none, none, none, none, none, none, none, none, none, none, none, none, none, none, none, none, none, none, none, none, none, none, none, none, none, none, none, none, none] [] h3 n4 _ _
  refine rr_aload_n (i := 0) C dL_law_71 rfl rfl ?_
  refine rr_iconst (v := 1) C dL_law_72 (by decide) ?_
  replace hr := Option.bind_eq_some_iff.mp hr
  obtain ⟨v28, e29, hr⟩ := hr
  refine rr_callS (as := [.ref 0, .int 1]) (st := []) (mc' := 0) (ms' := 0) C dL_law_73 it_L_24 (by decide) (Nat.le_of_ble_eq_true rfl) (c_L_cell (some 0) 1 (by omega) e29) (fun v_ h_ n_ q_ => ?_)
  obtain ⟨q1_, q2_, q3_⟩ := q_
  subst v_; subst h_; subst n_
  show WW W0 G 73 _ _ _ 76 [some (.ref 0), some (.ref 48), some (.int x10), some (.int x14), some (.int x18), some (.int x22), some (.int x26), none, none, none, none, none, none, none, none, none, none, none, none, none, none, none, none, none, none, none, none, none, none, none, none, none, none, none, none, none, none, none, none, none, none, none, none, none, none, none, none, none, none, none, none, none, none, none, none, none, none, none, none, none, none, none, none, none, none, none, none, none, none, none, none, none, none] [.int v28] h3 n4 _ _
  refine rr_bipush (v := 63) C dL_law_76 (by decide) ?_
  refine rr_iand C dL_law_78 ?_
  replace hr := Option.bind_eq_some_iff.mp hr
  obtain ⟨x30, e31, hr⟩ := hr
  refine rr_asI C e31 ?_
  refine rr_istore C dL_law_79 (by decide) ?_
  show WW W0 G 73 _ _ _ 81 [some (.ref 0), some (.ref 48), some (.int x10), some (.int x14), some (.int x18), some (.int x22), some (.int x26), some (.int x30), none, none, none, none, none, none, none, none, none, none, none, none, none, none, none, none, none, none, none, none, none, none, none, none, none, none, none, none, none, none, none, none, none, none, none, none, none, none, none, none, none, none, none, none, none, none, none, none, none, none, none, none, none, none, none, none, none, none, none, none, none, none, none, none, none] [] h3 n4 _ _
  refine rr_aload_n (i := 0) C dL_law_81 rfl rfl ?_
  refine rr_iconst (v := 1) C dL_law_82 (by decide) ?_
  replace hr := Option.bind_eq_some_iff.mp hr
  obtain ⟨v32, e33, hr⟩ := hr
  refine rr_callS (as := [.ref 0, .int 1]) (st := []) (mc' := 0) (ms' := 0) C dL_law_83 it_L_24 (by decide) (Nat.le_of_ble_eq_true rfl) (c_L_cell (some 0) 1 (by omega) e33) (fun v_ h_ n_ q_ => ?_)
  obtain ⟨q1_, q2_, q3_⟩ := q_
  subst v_; subst h_; subst n_
  show WW W0 G 73 _ _ _ 86 [some (.ref 0), some (.ref 48), some (.int x10), some (.int x14), some (.int x18), some (.int x22), some (.int x26), some (.int x30), none, none, none, none, none, none, none, none, none, none, none, none, none, none, none, none, none, none, none, none, none, none, none, none, none, none, none, none, none, none, none, none, none, none, none, none, none, none, none, none, none, none, none, none, none, none, none, none, none, none, none, none, none, none, none, none, none, none, none, none, none, none, none, none, none] [.int v32] h3 n4 _ _
  refine rr_bipush (v := 6) C dL_law_86 (by decide) ?_
  refine rr_ishr C dL_law_88 ?_
  refine rr_bipush (v := 127) C dL_law_89 (by decide) ?_
  refine rr_iand C dL_law_91 ?_
  replace hr := Option.bind_eq_some_iff.mp hr
  obtain ⟨x34, e35, hr⟩ := hr
  refine rr_asI C e35 ?_
  refine rr_istore C dL_law_92 (by decide) ?_
  show WW W0 G 73 _ _ _ 94 [some (.ref 0), some (.ref 48), some (.int x10), some (.int x14), some (.int x18), some (.int x22), some (.int x26), some (.int x30), some (.int x34), none, none, none, none, none, none, none, none, none, none, none, none, none, none, none, none, none, none, none, none, none, none, none, none, none, none, none, none, none, none, none, none, none, none, none, none, none, none, none, none, none, none, none, none, none, none, none, none, none, none, none, none, none, none, none, none, none, none, none, none, none, none, none, none] [] h3 n4 _ _
  refine rr_aload_n (i := 0) C dL_law_94 rfl rfl ?_
  refine rr_iconst (v := 1) C dL_law_95 (by decide) ?_
  replace hr := Option.bind_eq_some_iff.mp hr
  obtain ⟨v36, e37, hr⟩ := hr
  refine rr_callS (as := [.ref 0, .int 1]) (st := []) (mc' := 0) (ms' := 0) C dL_law_96 it_L_24 (by decide) (Nat.le_of_ble_eq_true rfl) (c_L_cell (some 0) 1 (by omega) e37) (fun v_ h_ n_ q_ => ?_)
  obtain ⟨q1_, q2_, q3_⟩ := q_
  subst v_; subst h_; subst n_
  show WW W0 G 73 _ _ _ 99 [some (.ref 0), some (.ref 48), some (.int x10), some (.int x14), some (.int x18), some (.int x22), some (.int x26), some (.int x30), some (.int x34), none, none, none, none, none, none, none, none, none, none, none, none, none, none, none, none, none, none, none, none, none, none, none, none, none, none, none, none, none, none, none, none, none, none, none, none, none, none, none, none, none, none, none, none, none, none, none, none, none, none, none, none, none, none, none, none, none, none, none, none, none, none, none, none] [.int v36] h3 n4 _ _
  refine rr_bipush (v := 13) C dL_law_99 (by decide) ?_
  refine rr_ishr C dL_law_101 ?_
  refine rr_bipush (v := 127) C dL_law_102 (by decide) ?_
  refine rr_iand C dL_law_104 ?_
  refine rr_bipush (v := 101) C dL_law_105 (by decide) ?_
  refine rr_irem C dL_law_107 (by decide) ?_
  replace hr := Option.bind_eq_some_iff.mp hr
  obtain ⟨x38, e39, hr⟩ := hr
  refine rr_asI C e39 ?_
  refine rr_istore C dL_law_108 (by decide) ?_
  show WW W0 G 73 _ _ _ 110 [some (.ref 0), some (.ref 48), some (.int x10), some (.int x14), some (.int x18), some (.int x22), some (.int x26), some (.int x30), some (.int x34), some (.int x38), none, none, none, none, none, none, none, none, none, none, none, none, none, none, none, none, none, none, none, none, none, none, none, none, none, none, none, none, none, none, none, none, none, none, none, none, none, none, none, none, none, none, none, none, none, none, none, none, none, none, none, none, none, none, none, none, none, none, none, none, none, none, none] [] h3 n4 _ _
  refine rr_aload_n (i := 0) C dL_law_110 rfl rfl ?_
  refine rr_iconst (v := 1) C dL_law_111 (by decide) ?_
  replace hr := Option.bind_eq_some_iff.mp hr
  obtain ⟨v40, e41, hr⟩ := hr
  refine rr_callS (as := [.ref 0, .int 1]) (st := []) (mc' := 0) (ms' := 0) C dL_law_112 it_L_24 (by decide) (Nat.le_of_ble_eq_true rfl) (c_L_cell (some 0) 1 (by omega) e41) (fun v_ h_ n_ q_ => ?_)
  obtain ⟨q1_, q2_, q3_⟩ := q_
  subst v_; subst h_; subst n_
  show WW W0 G 73 _ _ _ 115 [some (.ref 0), some (.ref 48), some (.int x10), some (.int x14), some (.int x18), some (.int x22), some (.int x26), some (.int x30), some (.int x34), some (.int x38), none, none, none, none, none, none, none, none, none, none, none, none, none, none, none, none, none, none, none, none, none, none, none, none, none, none, none, none, none, none, none, none, none, none, none, none, none, none, none, none, none, none, none, none, none, none, none, none, none, none, none, none, none, none, none, none, none, none, none, none, none, none, none] [.int v40] h3 n4 _ _
  refine rr_bipush (v := 20) C dL_law_115 (by decide) ?_
  refine rr_ishr C dL_law_117 ?_
  refine rr_bipush (v := 127) C dL_law_118 (by decide) ?_
  refine rr_iand C dL_law_120 ?_
  refine rr_bipush (v := 101) C dL_law_121 (by decide) ?_
  refine rr_irem C dL_law_123 (by decide) ?_
  replace hr := Option.bind_eq_some_iff.mp hr
  obtain ⟨x42, e43, hr⟩ := hr
  refine rr_asI C e43 ?_
  refine rr_istore C dL_law_124 (by decide) ?_
  show WW W0 G 73 _ _ _ 126 [some (.ref 0), some (.ref 48), some (.int x10), some (.int x14), some (.int x18), some (.int x22), some (.int x26), some (.int x30), some (.int x34), some (.int x38), some (.int x42), none, none, none, none, none, none, none, none, none, none, none, none, none, none, none, none, none, none, none, none, none, none, none, none, none, none, none, none, none, none, none, none, none, none, none, none, none, none, none, none, none, none, none, none, none, none, none, none, none, none, none, none, none, none, none, none, none, none, none, none, none, none] [] h3 n4 _ _
  refine rr_aload_n (i := 0) C dL_law_126 rfl rfl ?_
  refine rr_iconst (v := 2) C dL_law_127 (by decide) ?_
  replace hr := Option.bind_eq_some_iff.mp hr
  obtain ⟨v44, e45, hr⟩ := hr
  refine rr_callS (as := [.ref 0, .int 2]) (st := []) (mc' := 0) (ms' := 0) C dL_law_128 it_L_24 (by decide) (Nat.le_of_ble_eq_true rfl) (c_L_cell (some 0) 2 (by omega) e45) (fun v_ h_ n_ q_ => ?_)
  obtain ⟨q1_, q2_, q3_⟩ := q_
  subst v_; subst h_; subst n_
  show WW W0 G 73 _ _ _ 131 [some (.ref 0), some (.ref 48), some (.int x10), some (.int x14), some (.int x18), some (.int x22), some (.int x26), some (.int x30), some (.int x34), some (.int x38), some (.int x42), none, none, none, none, none, none, none, none, none, none, none, none, none, none, none, none, none, none, none, none, none, none, none, none, none, none, none, none, none, none, none, none, none, none, none, none, none, none, none, none, none, none, none, none, none, none, none, none, none, none, none, none, none, none, none, none, none, none, none, none, none, none] [.int v44] h3 n4 _ _
  refine rr_bipush (v := 63) C dL_law_131 (by decide) ?_
  refine rr_iand C dL_law_133 ?_
  replace hr := Option.bind_eq_some_iff.mp hr
  obtain ⟨x46, e47, hr⟩ := hr
  refine rr_asI C e47 ?_
  refine rr_istore C dL_law_134 (by decide) ?_
  show WW W0 G 73 _ _ _ 136 [some (.ref 0), some (.ref 48), some (.int x10), some (.int x14), some (.int x18), some (.int x22), some (.int x26), some (.int x30), some (.int x34), some (.int x38), some (.int x42), some (.int x46), none, none, none, none, none, none, none, none, none, none, none, none, none, none, none, none, none, none, none, none, none, none, none, none, none, none, none, none, none, none, none, none, none, none, none, none, none, none, none, none, none, none, none, none, none, none, none, none, none, none, none, none, none, none, none, none, none, none, none, none, none] [] h3 n4 _ _
  refine rr_iconst (v := 1) C dL_law_136 (by decide) ?_
  refine rr_aload_n (i := 0) C dL_law_137 rfl rfl ?_
  refine rr_iconst (v := 2) C dL_law_138 (by decide) ?_
  replace hr := Option.bind_eq_some_iff.mp hr
  obtain ⟨v48, e49, hr⟩ := hr
  refine rr_callS (as := [.ref 0, .int 2]) (st := [.int 1]) (mc' := 0) (ms' := 0) C dL_law_139 it_L_24 (by decide) (Nat.le_of_ble_eq_true rfl) (c_L_cell (some 0) 2 (by omega) e49) (fun v_ h_ n_ q_ => ?_)
  obtain ⟨q1_, q2_, q3_⟩ := q_
  subst v_; subst h_; subst n_
  show WW W0 G 73 _ _ _ 142 [some (.ref 0), some (.ref 48), some (.int x10), some (.int x14), some (.int x18), some (.int x22), some (.int x26), some (.int x30), some (.int x34), some (.int x38), some (.int x42), some (.int x46), none, none, none, none, none, none, none, none, none, none, none, none, none, none, none, none, none, none, none, none, none, none, none, none, none, none, none, none, none, none, none, none, none, none, none, none, none, none, none, none, none, none, none, none, none, none, none, none, none, none, none, none, none, none, none, none, none, none, none, none, none] [.int v48, .int 1] h3 n4 _ _
  refine rr_bipush (v := 6) C dL_law_142 (by decide) ?_
  refine rr_ishr C dL_law_144 ?_
  refine rr_bipush (v := 7) C dL_law_145 (by decide) ?_
  refine rr_iand C dL_law_147 ?_
  refine rr_iadd C dL_law_148 ?_
  replace hr := Option.bind_eq_some_iff.mp hr
  obtain ⟨x50, e51, hr⟩ := hr
  refine rr_asI C e51 ?_
  refine rr_istore C dL_law_149 (by decide) ?_
  show WW W0 G 73 _ _ _ 151 [some (.ref 0), some (.ref 48), some (.int x10), some (.int x14), some (.int x18), some (.int x22), some (.int x26), some (.int x30), some (.int x34), some (.int x38), some (.int x42), some (.int x46), some (.int x50), none, none, none, none, none, none, none, none, none, none, none, none, none, none, none, none, none, none, none, none, none, none, none, none, none, none, none, none, none, none, none, none, none, none, none, none, none, none, none, none, none, none, none, none, none, none, none, none, none, none, none, none, none, none, none, none, none, none, none, none] [] h3 n4 _ _
  refine rr_aload_n (i := 0) C dL_law_151 rfl rfl ?_
  refine rr_iconst (v := 2) C dL_law_152 (by decide) ?_
  replace hr := Option.bind_eq_some_iff.mp hr
  obtain ⟨v52, e53, hr⟩ := hr
  refine rr_callS (as := [.ref 0, .int 2]) (st := []) (mc' := 0) (ms' := 0) C dL_law_153 it_L_24 (by decide) (Nat.le_of_ble_eq_true rfl) (c_L_cell (some 0) 2 (by omega) e53) (fun v_ h_ n_ q_ => ?_)
  obtain ⟨q1_, q2_, q3_⟩ := q_
  subst v_; subst h_; subst n_
  show WW W0 G 73 _ _ _ 156 [some (.ref 0), some (.ref 48), some (.int x10), some (.int x14), some (.int x18), some (.int x22), some (.int x26), some (.int x30), some (.int x34), some (.int x38), some (.int x42), some (.int x46), some (.int x50), none, none, none, none, none, none, none, none, none, none, none, none, none, none, none, none, none, none, none, none, none, none, none, none, none, none, none, none, none, none, none, none, none, none, none, none, none, none, none, none, none, none, none, none, none, none, none, none, none, none, none, none, none, none, none, none, none, none, none, none] [.int v52] h3 n4 _ _
  refine rr_bipush (v := 9) C dL_law_156 (by decide) ?_
  refine rr_ishr C dL_law_158 ?_
  refine rr_bipush (v := 31) C dL_law_159 (by decide) ?_
  refine rr_iand C dL_law_161 ?_
  replace hr := Option.bind_eq_some_iff.mp hr
  obtain ⟨x54, e55, hr⟩ := hr
  refine rr_asI C e55 ?_
  refine rr_istore C dL_law_162 (by decide) ?_
  show WW W0 G 73 _ _ _ 164 [some (.ref 0), some (.ref 48), some (.int x10), some (.int x14), some (.int x18), some (.int x22), some (.int x26), some (.int x30), some (.int x34), some (.int x38), some (.int x42), some (.int x46), some (.int x50), some (.int x54), none, none, none, none, none, none, none, none, none, none, none, none, none, none, none, none, none, none, none, none, none, none, none, none, none, none, none, none, none, none, none, none, none, none, none, none, none, none, none, none, none, none, none, none, none, none, none, none, none, none, none, none, none, none, none, none, none, none, none] [] h3 n4 _ _
  refine rr_aload_n (i := 0) C dL_law_164 rfl rfl ?_
  refine rr_iconst (v := 2) C dL_law_165 (by decide) ?_
  replace hr := Option.bind_eq_some_iff.mp hr
  obtain ⟨v56, e57, hr⟩ := hr
  refine rr_callS (as := [.ref 0, .int 2]) (st := []) (mc' := 0) (ms' := 0) C dL_law_166 it_L_24 (by decide) (Nat.le_of_ble_eq_true rfl) (c_L_cell (some 0) 2 (by omega) e57) (fun v_ h_ n_ q_ => ?_)
  obtain ⟨q1_, q2_, q3_⟩ := q_
  subst v_; subst h_; subst n_
  show WW W0 G 73 _ _ _ 169 [some (.ref 0), some (.ref 48), some (.int x10), some (.int x14), some (.int x18), some (.int x22), some (.int x26), some (.int x30), some (.int x34), some (.int x38), some (.int x42), some (.int x46), some (.int x50), some (.int x54), none, none, none, none, none, none, none, none, none, none, none, none, none, none, none, none, none, none, none, none, none, none, none, none, none, none, none, none, none, none, none, none, none, none, none, none, none, none, none, none, none, none, none, none, none, none, none, none, none, none, none, none, none, none, none, none, none, none, none] [.int v56] h3 n4 _ _
  refine rr_bipush (v := 14) C dL_law_169 (by decide) ?_
  refine rr_ishr C dL_law_171 ?_
  refine rr_bipush (v := 7) C dL_law_172 (by decide) ?_
  refine rr_iand C dL_law_174 ?_
  replace hr := Option.bind_eq_some_iff.mp hr
  obtain ⟨x58, e59, hr⟩ := hr
  refine rr_asI C e59 ?_
  refine rr_istore C dL_law_175 (by decide) ?_
  show WW W0 G 73 _ _ _ 177 [some (.ref 0), some (.ref 48), some (.int x10), some (.int x14), some (.int x18), some (.int x22), some (.int x26), some (.int x30), some (.int x34), some (.int x38), some (.int x42), some (.int x46), some (.int x50), some (.int x54), some (.int x58), none, none, none, none, none, none, none, none, none, none, none, none, none, none, none, none, none, none, none, none, none, none, none, none, none, none, none, none, none, none, none, none, none, none, none, none, none, none, none, none, none, none, none, none, none, none, none, none, none, none, none, none, none, none, none, none, none, none] [] h3 n4 _ _
  refine rr_aload_n (i := 0) C dL_law_177 rfl rfl ?_
  refine rr_iconst (v := 2) C dL_law_178 (by decide) ?_
  replace hr := Option.bind_eq_some_iff.mp hr
  obtain ⟨v60, e61, hr⟩ := hr
  refine rr_callS (as := [.ref 0, .int 2]) (st := []) (mc' := 0) (ms' := 0) C dL_law_179 it_L_24 (by decide) (Nat.le_of_ble_eq_true rfl) (c_L_cell (some 0) 2 (by omega) e61) (fun v_ h_ n_ q_ => ?_)
  obtain ⟨q1_, q2_, q3_⟩ := q_
  subst v_; subst h_; subst n_
  show WW W0 G 73 _ _ _ 182 [some (.ref 0), some (.ref 48), some (.int x10), some (.int x14), some (.int x18), some (.int x22), some (.int x26), some (.int x30), some (.int x34), some (.int x38), some (.int x42), some (.int x46), some (.int x50), some (.int x54), some (.int x58), none, none, none, none, none, none, none, none, none, none, none, none, none, none, none, none, none, none, none, none, none, none, none, none, none, none, none, none, none, none, none, none, none, none, none, none, none, none, none, none, none, none, none, none, none, none, none, none, none, none, none, none, none, none, none, none, none, none] [.int v60] h3 n4 _ _
  refine rr_bipush (v := 17) C dL_law_182 (by decide) ?_
  refine rr_ishr C dL_law_184 ?_
  refine rr_sipush (v := 255) C dL_law_185 (by decide) ?_
  refine rr_iand C dL_law_188 ?_
  replace hr := Option.bind_eq_some_iff.mp hr
  obtain ⟨x62, e63, hr⟩ := hr
  refine rr_asI C e63 ?_
  refine rr_istore C dL_law_189 (by decide) ?_
  show WW W0 G 73 _ _ _ 191 [some (.ref 0), some (.ref 48), some (.int x10), some (.int x14), some (.int x18), some (.int x22), some (.int x26), some (.int x30), some (.int x34), some (.int x38), some (.int x42), some (.int x46), some (.int x50), some (.int x54), some (.int x58), some (.int x62), none, none, none, none, none, none, none, none, none, none, none, none, none, none, none, none, none, none, none, none, none, none, none, none, none, none, none, none, none, none, none, none, none, none, none, none, none, none, none, none, none, none, none, none, none, none, none, none, none, none, none, none, none, none, none, none, none] [] h3 n4 _ _
  refine rr_aload_n (i := 0) C dL_law_191 rfl rfl ?_
  refine rr_iconst (v := 2) C dL_law_192 (by decide) ?_
  replace hr := Option.bind_eq_some_iff.mp hr
  obtain ⟨v64, e65, hr⟩ := hr
  refine rr_callS (as := [.ref 0, .int 2]) (st := []) (mc' := 0) (ms' := 0) C dL_law_193 it_L_24 (by decide) (Nat.le_of_ble_eq_true rfl) (c_L_cell (some 0) 2 (by omega) e65) (fun v_ h_ n_ q_ => ?_)
  obtain ⟨q1_, q2_, q3_⟩ := q_
  subst v_; subst h_; subst n_
  show WW W0 G 73 _ _ _ 196 [some (.ref 0), some (.ref 48), some (.int x10), some (.int x14), some (.int x18), some (.int x22), some (.int x26), some (.int x30), some (.int x34), some (.int x38), some (.int x42), some (.int x46), some (.int x50), some (.int x54), some (.int x58), some (.int x62), none, none, none, none, none, none, none, none, none, none, none, none, none, none, none, none, none, none, none, none, none, none, none, none, none, none, none, none, none, none, none, none, none, none, none, none, none, none, none, none, none, none, none, none, none, none, none, none, none, none, none, none, none, none, none, none, none] [.int v64] h3 n4 _ _
  refine rr_bipush (v := 25) C dL_law_196 (by decide) ?_
  refine rr_ishr C dL_law_198 ?_
  refine rr_iconst (v := 1) C dL_law_199 (by decide) ?_
  refine rr_iand C dL_law_200 ?_
  refine rr_iconst (v := 1) C dL_law_201 (by decide) ?_
  replace hr := Option.bind_eq_some_iff.mp hr
  obtain ⟨y67, er69, hr⟩ := hr
  suffices hj68 : WW W0 G 73 _ _ _ 210 [some (.ref 0), some (.ref 48), some (.int x10), some (.int x14), some (.int x18), some (.int x22), some (.int x26), some (.int x30), some (.int x34), some (.int x38), some (.int x42), some (.int x46), some (.int x50), some (.int x54), some (.int x58), some (.int x62), none, none, none, none, none, none, none, none, none, none, none, none, none, none, none, none, none, none, none, none, none, none, none, none, none, none, none, none, none, none, none, none, none, none, none, none, none, none, none, none, none, none, none, none, none, none, none, none, none, none, none, none, none, none, none, none, none] [.int y67] h3 n4 (599864) (7294220) from by
    have hr := er69
    refine rr_icmp_ne (tgt := 209) C dL_law_202 (by decide) (fun c66 => ?_) (fun c66 => ?_)
    · replace hr := (if_neg c66).symm.trans hr
      refine rr_iconst (v := 0) C dL_law_209 (by decide) ?_
      cases hr
      exact rr_keep [true, true, true, true, true, true, true, true, true, true, true, true, true, true, true, true, false, false, false, false, false, false, false, false, false, false, false, false, false, false, false, false, false, false, false, false, false, false, false, false, false, false, false, false, false, false, false, false, false, false, false, false, false, false, false, false, false, false, false, false, false, false, false, false, false, false, false, false, false, false, false, false, false] hj68
    · replace hr := (if_pos c66).symm.trans hr
      refine rr_iconst (v := 1) C dL_law_205 (by decide) ?_
      refine rr_goto (tgt := 210) C dL_law_206 (by decide) ?_
      cases hr
      exact rr_keep [true, true, true, true, true, true, true, true, true, true, true, true, true, true, true, true, false, false, false, false, false, false, false, false, false, false, false, false, false, false, false, false, false, false, false, false, false, false, false, false, false, false, false, false, false, false, false, false, false, false, false, false, false, false, false, false, false, false, false, false, false, false, false, false, false, false, false, false, false, false, false, false, false] hj68
  refine rr_istore C dL_law_210 (by decide) ?_
  show WW W0 G 73 _ _ _ 212 [some (.ref 0), some (.ref 48), some (.int x10), some (.int x14), some (.int x18), some (.int x22), some (.int x26), some (.int x30), some (.int x34), some (.int x38), some (.int x42), some (.int x46), some (.int x50), some (.int x54), some (.int x58), some (.int x62), some (.int y67), none, none, none, none, none, none, none, none, none, none, none, none, none, none, none, none, none, none, none, none, none, none, none, none, none, none, none, none, none, none, none, none, none, none, none, none, none, none, none, none, none, none, none, none, none, none, none, none, none, none, none, none, none, none, none, none] [] h3 n4 _ _
  refine rr_aload_n (i := 0) C dL_law_212 rfl rfl ?_
  refine rr_iconst (v := 2) C dL_law_213 (by decide) ?_
  replace hr := Option.bind_eq_some_iff.mp hr
  obtain ⟨v70, e71, hr⟩ := hr
  refine rr_callS (as := [.ref 0, .int 2]) (st := []) (mc' := 0) (ms' := 0) C dL_law_214 it_L_24 (by decide) (Nat.le_of_ble_eq_true rfl) (c_L_cell (some 0) 2 (by omega) e71) (fun v_ h_ n_ q_ => ?_)
  obtain ⟨q1_, q2_, q3_⟩ := q_
  subst v_; subst h_; subst n_
  show WW W0 G 73 _ _ _ 217 [some (.ref 0), some (.ref 48), some (.int x10), some (.int x14), some (.int x18), some (.int x22), some (.int x26), some (.int x30), some (.int x34), some (.int x38), some (.int x42), some (.int x46), some (.int x50), some (.int x54), some (.int x58), some (.int x62), some (.int y67), none, none, none, none, none, none, none, none, none, none, none, none, none, none, none, none, none, none, none, none, none, none, none, none, none, none, none, none, none, none, none, none, none, none, none, none, none, none, none, none, none, none, none, none, none, none, none, none, none, none, none, none, none, none, none, none] [.int v70] h3 n4 _ _
  refine rr_bipush (v := 26) C dL_law_217 (by decide) ?_
  refine rr_ishr C dL_law_219 ?_
  refine rr_iconst (v := 1) C dL_law_220 (by decide) ?_
  refine rr_iand C dL_law_221 ?_
  refine rr_iconst (v := 1) C dL_law_222 (by decide) ?_
  replace hr := Option.bind_eq_some_iff.mp hr
  obtain ⟨y73, er75, hr⟩ := hr
  suffices hj74 : WW W0 G 73 _ _ _ 231 [some (.ref 0), some (.ref 48), some (.int x10), some (.int x14), some (.int x18), some (.int x22), some (.int x26), some (.int x30), some (.int x34), some (.int x38), some (.int x42), some (.int x46), some (.int x50), some (.int x54), some (.int x58), some (.int x62), some (.int y67), none, none, none, none, none, none, none, none, none, none, none, none, none, none, none, none, none, none, none, none, none, none, none, none, none, none, none, none, none, none, none, none, none, none, none, none, none, none, none, none, none, none, none, none, none, none, none, none, none, none, none, none, none, none, none, none] [.int y73] h3 n4 (599864) (7294220) from by
    have hr := er75
    refine rr_icmp_ne (tgt := 230) C dL_law_223 (by decide) (fun c72 => ?_) (fun c72 => ?_)
    · replace hr := (if_neg c72).symm.trans hr
      refine rr_iconst (v := 0) C dL_law_230 (by decide) ?_
      cases hr
      exact rr_keep [true, true, true, true, true, true, true, true, true, true, true, true, true, true, true, true, true, false, false, false, false, false, false, false, false, false, false, false, false, false, false, false, false, false, false, false, false, false, false, false, false, false, false, false, false, false, false, false, false, false, false, false, false, false, false, false, false, false, false, false, false, false, false, false, false, false, false, false, false, false, false, false, false] hj74
    · replace hr := (if_pos c72).symm.trans hr
      refine rr_iconst (v := 1) C dL_law_226 (by decide) ?_
      refine rr_goto (tgt := 231) C dL_law_227 (by decide) ?_
      cases hr
      exact rr_keep [true, true, true, true, true, true, true, true, true, true, true, true, true, true, true, true, true, false, false, false, false, false, false, false, false, false, false, false, false, false, false, false, false, false, false, false, false, false, false, false, false, false, false, false, false, false, false, false, false, false, false, false, false, false, false, false, false, false, false, false, false, false, false, false, false, false, false, false, false, false, false, false, false] hj74
  refine rr_istore C dL_law_231 (by decide) ?_
  show WW W0 G 73 _ _ _ 233 [some (.ref 0), some (.ref 48), some (.int x10), some (.int x14), some (.int x18), some (.int x22), some (.int x26), some (.int x30), some (.int x34), some (.int x38), some (.int x42), some (.int x46), some (.int x50), some (.int x54), some (.int x58), some (.int x62), some (.int y67), some (.int y73), none, none, none, none, none, none, none, none, none, none, none, none, none, none, none, none, none, none, none, none, none, none, none, none, none, none, none, none, none, none, none, none, none, none, none, none, none, none, none, none, none, none, none, none, none, none, none, none, none, none, none, none, none, none, none] [] h3 n4 _ _
  refine rr_cut C (kc' := 599863 + 1) (ks' := 7294216 + 4) (by omega) (by omega) ?_
  replace hr := Option.bind_eq_some_iff.mp hr
  obtain ⟨h76, e77, hr⟩ := hr
  refine rr_newq C dL_law_233 nw_L_30 e77 ?_
  show WW W0 G 73 _ _ _ 236 [some (.ref 0), some (.ref 48), some (.int x10), some (.int x14), some (.int x18), some (.int x22), some (.int x26), some (.int x30), some (.int x34), some (.int x38), some (.int x42), some (.int x46), some (.int x50), some (.int x54), some (.int x58), some (.int x62), some (.int y67), some (.int y73), none, none, none, none, none, none, none, none, none, none, none, none, none, none, none, none, none, none, none, none, none, none, none, none, none, none, none, none, none, none, none, none, none, none, none, none, none, none, none, none, none, none, none, none, none, none, none, none, none, none, none, none, none, none, none] [.ref n4] h76 (n4 + 1) _ _
  refine rr_dup C dL_law_236 rfl ?_
  refine rr_cut C (kc' := 599862 + 1) (ks' := 7294200 + 16) (by omega) (by omega) ?_
  replace hr := Option.bind_eq_some_iff.mp hr
  obtain ⟨⟨h78, n79⟩, e81, hr⟩ := hr
  dsimp only at hr
  refine rr_callI (as := []) (st := [.ref n4]) (mc' := 1) (ms' := 16) C dL_law_237 ii_L_32 (by decide) (Nat.le_of_ble_eq_true rfl) (c_J4_init_da8c8 n4 (by omega) e81) (fun v_ h_ n_ q_ => ?_)
  obtain ⟨q1_, q2_, q3_, b82⟩ := q_
  subst v_; subst h_; subst n_
  try dsimp only at b82
  show WW W0 G 73 _ _ _ 240 [some (.ref 0), some (.ref 48), some (.int x10), some (.int x14), some (.int x18), some (.int x22), some (.int x26), some (.int x30), some (.int x34), some (.int x38), some (.int x42), some (.int x46), some (.int x50), some (.int x54), some (.int x58), some (.int x62), some (.int y67), some (.int y73), none, none, none, none, none, none, none, none, none, none, none, none, none, none, none, none, none, none, none, none, none, none, none, none, none, none, none, none, none, none, none, none, none, none, none, none, none, none, none, none, none, none, none, none, none, none, none, none, none, none, none, none, none, none, none] [.ref n4] h78 n79 _ _
  refine rr_ldcL (i := 0) C dL_law_240 (by decide) rfl ?_
  replace hr := Option.bind_eq_some_iff.mp hr
  obtain ⟨u83, e84, hr⟩ := hr
  refine rr_cut C (kc' := 599861 + 1) (ks' := 7293900 + 300) (by omega) (by omega) ?_
  replace hr := Option.bind_eq_some_iff.mp hr
  obtain ⟨⟨v87, h85, n86⟩, e88, hr⟩ := hr
  dsimp only at hr
  refine rr_callVq (as := [.ref 1000000]) (st := []) (mc' := 1) (ms' := 300) C dL_law_242 iv_L_35 (by decide) e84 rfl (Nat.le_of_ble_eq_true rfl) (c_J4_append_15ec4 n4 (some 1000000) (by omega) e88) (fun v_ h_ n_ q_ => ?_)
  obtain ⟨q1_, q2_, q3_, b89⟩ := q_
  subst v_; subst h_; subst n_
  try dsimp only at b89
  show WW W0 G 73 _ _ _ 245 [some (.ref 0), some (.ref 48), some (.int x10), some (.int x14), some (.int x18), some (.int x22), some (.int x26), some (.int x30), some (.int x34), some (.int x38), some (.int x42), some (.int x46), some (.int x50), some (.int x54), some (.int x58), some (.int x62), some (.int y67), some (.int y73), none, none, none, none, none, none, none, none, none, none, none, none, none, none, none, none, none, none, none, none, none, none, none, none, none, none, none, none, none, none, none, none, none, none, none, none, none, none, none, none, none, none, none, none, none, none, none, none, none, none, none, none, none, none, none] [va_rf v87] h85 n86 _ _
  refine rr_iload_n (i := 2) C dL_law_245 rfl rfl ?_
  replace hr := Option.bind_eq_some_iff.mp hr
  obtain ⟨a90, e91, hr⟩ := hr
  subst e91
  replace hr := Option.bind_eq_some_iff.mp hr
  obtain ⟨u92, e93, hr⟩ := hr
  refine rr_cut C (kc' := 599860 + 1) (ks' := 7293600 + 300) (by omega) (by omega) ?_
  replace hr := Option.bind_eq_some_iff.mp hr
  obtain ⟨⟨v96, h94, n95⟩, e97, hr⟩ := hr
  dsimp only at hr
  refine rr_callVq (as := [.int x10]) (st := []) (mc' := 1) (ms' := 300) C dL_law_246 iv_L_39 (by decide) e93 rfl (Nat.le_of_ble_eq_true rfl) (c_J4_append_bf812 a90 x10 (by omega) e97) (fun v_ h_ n_ q_ => ?_)
  obtain ⟨q1_, q2_, q3_, b98⟩ := q_
  subst v_; subst h_; subst n_
  try dsimp only at b98
  show WW W0 G 73 _ _ _ 249 [some (.ref 0), some (.ref 48), some (.int x10), some (.int x14), some (.int x18), some (.int x22), some (.int x26), some (.int x30), some (.int x34), some (.int x38), some (.int x42), some (.int x46), some (.int x50), some (.int x54), some (.int x58), some (.int x62), some (.int y67), some (.int y73), none, none, none, none, none, none, none, none, none, none, none, none, none, none, none, none, none, none, none, none, none, none, none, none, none, none, none, none, none, none, none, none, none, none, none, none, none, none, none, none, none, none, none, none, none, none, none, none, none, none, none, none, none, none, none] [va_rf v96] h94 n95 _ _
  refine rr_ldcL (i := 1) C dL_law_249 (by decide) rfl ?_
  replace hr := Option.bind_eq_some_iff.mp hr
  obtain ⟨a99, e100, hr⟩ := hr
  subst e100
  replace hr := Option.bind_eq_some_iff.mp hr
  obtain ⟨u101, e102, hr⟩ := hr
  refine rr_cut C (kc' := 599859 + 1) (ks' := 7293300 + 300) (by omega) (by omega) ?_
  replace hr := Option.bind_eq_some_iff.mp hr
  obtain ⟨⟨v105, h103, n104⟩, e106, hr⟩ := hr
  dsimp only at hr
  refine rr_callVq (as := [.ref 1000001]) (st := []) (mc' := 1) (ms' := 300) C dL_law_251 iv_L_35 (by decide) e102 rfl (Nat.le_of_ble_eq_true rfl) (c_J4_append_15ec4 a99 (some 1000001) (by omega) e106) (fun v_ h_ n_ q_ => ?_)
  obtain ⟨q1_, q2_, q3_, b107⟩ := q_
  subst v_; subst h_; subst n_
  try dsimp only at b107
  show WW W0 G 73 _ _ _ 254 [some (.ref 0), some (.ref 48), some (.int x10), some (.int x14), some (.int x18), some (.int x22), some (.int x26), some (.int x30), some (.int x34), some (.int x38), some (.int x42), some (.int x46), some (.int x50), some (.int x54), some (.int x58), some (.int x62), some (.int y67), some (.int y73), none, none, none, none, none, none, none, none, none, none, none, none, none, none, none, none, none, none, none, none, none, none, none, none, none, none, none, none, none, none, none, none, none, none, none, none, none, none, none, none, none, none, none, none, none, none, none, none, none, none, none, none, none, none, none] [va_rf v105] h103 n104 _ _
  refine rr_iload_n (i := 3) C dL_law_254 rfl rfl ?_
  replace hr := Option.bind_eq_some_iff.mp hr
  obtain ⟨a108, e109, hr⟩ := hr
  subst e109
  replace hr := Option.bind_eq_some_iff.mp hr
  obtain ⟨u110, e111, hr⟩ := hr
  refine rr_cut C (kc' := 599858 + 1) (ks' := 7293000 + 300) (by omega) (by omega) ?_
  replace hr := Option.bind_eq_some_iff.mp hr
  obtain ⟨⟨v114, h112, n113⟩, e115, hr⟩ := hr
  dsimp only at hr
  refine rr_callVq (as := [.int x14]) (st := []) (mc' := 1) (ms' := 300) C dL_law_255 iv_L_39 (by decide) e111 rfl (Nat.le_of_ble_eq_true rfl) (c_J4_append_bf812 a108 x14 (by omega) e115) (fun v_ h_ n_ q_ => ?_)
  obtain ⟨q1_, q2_, q3_, b116⟩ := q_
  subst v_; subst h_; subst n_
  try dsimp only at b116
  show WW W0 G 73 _ _ _ 258 [some (.ref 0), some (.ref 48), some (.int x10), some (.int x14), some (.int x18), some (.int x22), some (.int x26), some (.int x30), some (.int x34), some (.int x38), some (.int x42), some (.int x46), some (.int x50), some (.int x54), some (.int x58), some (.int x62), some (.int y67), some (.int y73), none, none, none, none, none, none, none, none, none, none, none, none, none, none, none, none, none, none, none, none, none, none, none, none, none, none, none, none, none, none, none, none, none, none, none, none, none, none, none, none, none, none, none, none, none, none, none, none, none, none, none, none, none, none, none] [va_rf v114] h112 n113 _ _
  refine rr_ldcL (i := 2) C dL_law_258 (by decide) rfl ?_
  replace hr := Option.bind_eq_some_iff.mp hr
  obtain ⟨a117, e118, hr⟩ := hr
  subst e118
  replace hr := Option.bind_eq_some_iff.mp hr
  obtain ⟨u119, e120, hr⟩ := hr
  refine rr_cut C (kc' := 599857 + 1) (ks' := 7292700 + 300) (by omega) (by omega) ?_
  replace hr := Option.bind_eq_some_iff.mp hr
  obtain ⟨⟨v123, h121, n122⟩, e124, hr⟩ := hr
  dsimp only at hr
  refine rr_callVq (as := [.ref 1000002]) (st := []) (mc' := 1) (ms' := 300) C dL_law_260 iv_L_35 (by decide) e120 rfl (Nat.le_of_ble_eq_true rfl) (c_J4_append_15ec4 a117 (some 1000002) (by omega) e124) (fun v_ h_ n_ q_ => ?_)
  obtain ⟨q1_, q2_, q3_, b125⟩ := q_
  subst v_; subst h_; subst n_
  try dsimp only at b125
  show WW W0 G 73 _ _ _ 263 [some (.ref 0), some (.ref 48), some (.int x10), some (.int x14), some (.int x18), some (.int x22), some (.int x26), some (.int x30), some (.int x34), some (.int x38), some (.int x42), some (.int x46), some (.int x50), some (.int x54), some (.int x58), some (.int x62), some (.int y67), some (.int y73), none, none, none, none, none, none, none, none, none, none, none, none, none, none, none, none, none, none, none, none, none, none, none, none, none, none, none, none, none, none, none, none, none, none, none, none, none, none, none, none, none, none, none, none, none, none, none, none, none, none, none, none, none, none, none] [va_rf v123] h121 n122 _ _
  refine rr_iload C dL_law_263 rfl ?_
  replace hr := Option.bind_eq_some_iff.mp hr
  obtain ⟨a126, e127, hr⟩ := hr
  subst e127
  replace hr := Option.bind_eq_some_iff.mp hr
  obtain ⟨u128, e129, hr⟩ := hr
  refine rr_cut C (kc' := 599856 + 1) (ks' := 7292400 + 300) (by omega) (by omega) ?_
  replace hr := Option.bind_eq_some_iff.mp hr
  obtain ⟨⟨v132, h130, n131⟩, e133, hr⟩ := hr
  dsimp only at hr
  refine rr_callVq (as := [.int x18]) (st := []) (mc' := 1) (ms' := 300) C dL_law_265 iv_L_39 (by decide) e129 rfl (Nat.le_of_ble_eq_true rfl) (c_J4_append_bf812 a126 x18 (by omega) e133) (fun v_ h_ n_ q_ => ?_)
  obtain ⟨q1_, q2_, q3_, b134⟩ := q_
  subst v_; subst h_; subst n_
  try dsimp only at b134
  show WW W0 G 73 _ _ _ 268 [some (.ref 0), some (.ref 48), some (.int x10), some (.int x14), some (.int x18), some (.int x22), some (.int x26), some (.int x30), some (.int x34), some (.int x38), some (.int x42), some (.int x46), some (.int x50), some (.int x54), some (.int x58), some (.int x62), some (.int y67), some (.int y73), none, none, none, none, none, none, none, none, none, none, none, none, none, none, none, none, none, none, none, none, none, none, none, none, none, none, none, none, none, none, none, none, none, none, none, none, none, none, none, none, none, none, none, none, none, none, none, none, none, none, none, none, none, none, none] [va_rf v132] h130 n131 _ _
  refine rr_ldcL (i := 3) C dL_law_268 (by decide) rfl ?_
  replace hr := Option.bind_eq_some_iff.mp hr
  obtain ⟨a135, e136, hr⟩ := hr
  subst e136
  replace hr := Option.bind_eq_some_iff.mp hr
  obtain ⟨u137, e138, hr⟩ := hr
  refine rr_cut C (kc' := 599855 + 1) (ks' := 7292100 + 300) (by omega) (by omega) ?_
  replace hr := Option.bind_eq_some_iff.mp hr
  obtain ⟨⟨v141, h139, n140⟩, e142, hr⟩ := hr
  dsimp only at hr
  refine rr_callVq (as := [.ref 1000003]) (st := []) (mc' := 1) (ms' := 300) C dL_law_270 iv_L_35 (by decide) e138 rfl (Nat.le_of_ble_eq_true rfl) (c_J4_append_15ec4 a135 (some 1000003) (by omega) e142) (fun v_ h_ n_ q_ => ?_)
  obtain ⟨q1_, q2_, q3_, b143⟩ := q_
  subst v_; subst h_; subst n_
  try dsimp only at b143
  show WW W0 G 73 _ _ _ 273 [some (.ref 0), some (.ref 48), some (.int x10), some (.int x14), some (.int x18), some (.int x22), some (.int x26), some (.int x30), some (.int x34), some (.int x38), some (.int x42), some (.int x46), some (.int x50), some (.int x54), some (.int x58), some (.int x62), some (.int y67), some (.int y73), none, none, none, none, none, none, none, none, none, none, none, none, none, none, none, none, none, none, none, none, none, none, none, none, none, none, none, none, none, none, none, none, none, none, none, none, none, none, none, none, none, none, none, none, none, none, none, none, none, none, none, none, none, none, none] [va_rf v141] h139 n140 _ _
  refine rr_iload C dL_law_273 rfl ?_
  replace hr := Option.bind_eq_some_iff.mp hr
  obtain ⟨a144, e145, hr⟩ := hr
  subst e145
  replace hr := Option.bind_eq_some_iff.mp hr
  obtain ⟨u146, e147, hr⟩ := hr
  refine rr_cut C (kc' := 599854 + 1) (ks' := 7291800 + 300) (by omega) (by omega) ?_
  replace hr := Option.bind_eq_some_iff.mp hr
  obtain ⟨⟨v150, h148, n149⟩, e151, hr⟩ := hr
  dsimp only at hr
  refine rr_callVq (as := [.int x22]) (st := []) (mc' := 1) (ms' := 300) C dL_law_275 iv_L_39 (by decide) e147 rfl (Nat.le_of_ble_eq_true rfl) (c_J4_append_bf812 a144 x22 (by omega) e151) (fun v_ h_ n_ q_ => ?_)
  obtain ⟨q1_, q2_, q3_, b152⟩ := q_
  subst v_; subst h_; subst n_
  try dsimp only at b152
  show WW W0 G 73 _ _ _ 278 [some (.ref 0), some (.ref 48), some (.int x10), some (.int x14), some (.int x18), some (.int x22), some (.int x26), some (.int x30), some (.int x34), some (.int x38), some (.int x42), some (.int x46), some (.int x50), some (.int x54), some (.int x58), some (.int x62), some (.int y67), some (.int y73), none, none, none, none, none, none, none, none, none, none, none, none, none, none, none, none, none, none, none, none, none, none, none, none, none, none, none, none, none, none, none, none, none, none, none, none, none, none, none, none, none, none, none, none, none, none, none, none, none, none, none, none, none, none, none] [va_rf v150] h148 n149 _ _
  refine rr_ldcL (i := 4) C dL_law_278 (by decide) rfl ?_
  replace hr := Option.bind_eq_some_iff.mp hr
  obtain ⟨a153, e154, hr⟩ := hr
  subst e154
  replace hr := Option.bind_eq_some_iff.mp hr
  obtain ⟨u155, e156, hr⟩ := hr
  refine rr_cut C (kc' := 599853 + 1) (ks' := 7291500 + 300) (by omega) (by omega) ?_
  replace hr := Option.bind_eq_some_iff.mp hr
  obtain ⟨⟨v159, h157, n158⟩, e160, hr⟩ := hr
  dsimp only at hr
  refine rr_callVq (as := [.ref 1000004]) (st := []) (mc' := 1) (ms' := 300) C dL_law_280 iv_L_35 (by decide) e156 rfl (Nat.le_of_ble_eq_true rfl) (c_J4_append_15ec4 a153 (some 1000004) (by omega) e160) (fun v_ h_ n_ q_ => ?_)
  obtain ⟨q1_, q2_, q3_, b161⟩ := q_
  subst v_; subst h_; subst n_
  try dsimp only at b161
  show WW W0 G 73 _ _ _ 283 [some (.ref 0), some (.ref 48), some (.int x10), some (.int x14), some (.int x18), some (.int x22), some (.int x26), some (.int x30), some (.int x34), some (.int x38), some (.int x42), some (.int x46), some (.int x50), some (.int x54), some (.int x58), some (.int x62), some (.int y67), some (.int y73), none, none, none, none, none, none, none, none, none, none, none, none, none, none, none, none, none, none, none, none, none, none, none, none, none, none, none, none, none, none, none, none, none, none, none, none, none, none, none, none, none, none, none, none, none, none, none, none, none, none, none, none, none, none, none] [va_rf v159] h157 n158 _ _
  refine rr_iload C dL_law_283 rfl ?_
  replace hr := Option.bind_eq_some_iff.mp hr
  obtain ⟨⟨y163, h164, n165⟩, er167, hr⟩ := hr
  dsimp only at hr
  suffices hj166 : WW W0 G 73 _ _ _ 318 [some (.ref 0), some (.ref 48), some (.int x10), some (.int x14), some (.int x18), some (.int x22), some (.int x26), some (.int x30), some (.int x34), some (.int x38), some (.int x42), some (.int x46), some (.int x50), some (.int x54), some (.int x58), some (.int x62), some (.int y67), some (.int y73), none, none, none, none, none, none, none, none, none, none, none, none, none, none, none, none, none, none, none, none, none, none, none, none, none, none, none, none, none, none, none, none, none, none, none, none, none, none, none, none, none, none, none, none, none, none, none, none, none, none, none, none, none, none, none] [va_rf y163, va_rf v159] h164 n165 (599845) (7289976) from by
    have hr := er167
    refine rr_if_eq (tgt := 316) C dL_law_285 (by decide) (fun c162 => ?_) (fun c162 => ?_)
    · replace hr := (if_pos c162).symm.trans hr
      refine rr_ldcL (i := 7) C dL_law_316 (by decide) rfl ?_
      cases hr
      refine rr_cut C (kc' := 599845) (ks' := 7289976) (by omega) (by omega) ?_
      exact rr_keep [true, true, true, true, true, true, true, true, true, true, true, true, true, true, true, true, true, true, false, false, false, false, false, false, false, false, false, false, false, false, false, false, false, false, false, false, false, false, false, false, false, false, false, false, false, false, false, false, false, false, false, false, false, false, false, false, false, false, false, false, false, false, false, false, false, false, false, false, false, false, false, false, false] hj166
    · replace hr := (if_neg c162).symm.trans hr
      refine rr_cut C (kc' := 599852 + 1) (ks' := 7291496 + 4) (by omega) (by omega) ?_
      replace hr := Option.bind_eq_some_iff.mp hr
      obtain ⟨h168, e169, hr⟩ := hr
      refine rr_newq C dL_law_288 nw_L_30 e169 ?_
      show WW W0 G 73 _ _ _ 291 [some (.ref 0), some (.ref 48), some (.int x10), some (.int x14), some (.int x18), some (.int x22), some (.int x26), some (.int x30), some (.int x34), some (.int x38), some (.int x42), some (.int x46), some (.int x50), some (.int x54), some (.int x58), some (.int x62), some (.int y67), some (.int y73), none, none, none, none, none, none, none, none, none, none, none, none, none, none, none, none, none, none, none, none, none, none, none, none, none, none, none, none, none, none, none, none, none, none, none, none, none, none, none, none, none, none, none, none, none, none, none, none, none, none, none, none, none, none, none] [.ref n158, va_rf v159] h168 (n158 + 1) _ _
      refine rr_dup C dL_law_291 rfl ?_
      refine rr_cut C (kc' := 599851 + 1) (ks' := 7291480 + 16) (by omega) (by omega) ?_
      replace hr := Option.bind_eq_some_iff.mp hr
      obtain ⟨⟨h170, n171⟩, e173, hr⟩ := hr
      dsimp only at hr
      refine rr_callI (as := []) (st := [.ref n158, va_rf v159]) (mc' := 1) (ms' := 16) C dL_law_292 ii_L_32 (by decide) (by rcases v159 with _ | _ <;> exact Nat.le_of_ble_eq_true rfl) (c_J4_init_da8c8 n158 (by omega) e173) (fun v_ h_ n_ q_ => ?_)
      obtain ⟨q1_, q2_, q3_, b174⟩ := q_
      subst v_; subst h_; subst n_
      try dsimp only at b174
      show WW W0 G 73 _ _ _ 295 [some (.ref 0), some (.ref 48), some (.int x10), some (.int x14), some (.int x18), some (.int x22), some (.int x26), some (.int x30), some (.int x34), some (.int x38), some (.int x42), some (.int x46), some (.int x50), some (.int x54), some (.int x58), some (.int x62), some (.int y67), some (.int y73), none, none, none, none, none, none, none, none, none, none, none, none, none, none, none, none, none, none, none, none, none, none, none, none, none, none, none, none, none, none, none, none, none, none, none, none, none, none, none, none, none, none, none, none, none, none, none, none, none, none, none, none, none, none, none] [.ref n158, va_rf v159] h170 n171 _ _
      refine rr_ldcL (i := 5) C dL_law_295 (by decide) rfl ?_
      replace hr := Option.bind_eq_some_iff.mp hr
      obtain ⟨u175, e176, hr⟩ := hr
      refine rr_cut C (kc' := 599850 + 1) (ks' := 7291180 + 300) (by omega) (by omega) ?_
      replace hr := Option.bind_eq_some_iff.mp hr
      obtain ⟨⟨v179, h177, n178⟩, e180, hr⟩ := hr
      dsimp only at hr
      refine rr_callVq (as := [.ref 1000005]) (st := [va_rf v159]) (mc' := 1) (ms' := 300) C dL_law_297 iv_L_35 (by decide) e176 rfl (by rcases v159 with _ | _ <;> exact Nat.le_of_ble_eq_true rfl) (c_J4_append_15ec4 n158 (some 1000005) (by omega) e180) (fun v_ h_ n_ q_ => ?_)
      obtain ⟨q1_, q2_, q3_, b181⟩ := q_
      subst v_; subst h_; subst n_
      try dsimp only at b181
      show WW W0 G 73 _ _ _ 300 [some (.ref 0), some (.ref 48), some (.int x10), some (.int x14), some (.int x18), some (.int x22), some (.int x26), some (.int x30), some (.int x34), some (.int x38), some (.int x42), some (.int x46), some (.int x50), some (.int x54), some (.int x58), some (.int x62), some (.int y67), some (.int y73), none, none, none, none, none, none, none, none, none, none, none, none, none, none, none, none, none, none, none, none, none, none, none, none, none, none, none, none, none, none, none, none, none, none, none, none, none, none, none, none, none, none, none, none, none, none, none, none, none, none, none, none, none, none, none] [va_rf v179, va_rf v159] h177 n178 _ _
      refine rr_iload C dL_law_300 rfl ?_
      replace hr := Option.bind_eq_some_iff.mp hr
      obtain ⟨a182, e183, hr⟩ := hr
      subst e183
      replace hr := Option.bind_eq_some_iff.mp hr
      obtain ⟨u184, e185, hr⟩ := hr
      refine rr_cut C (kc' := 599849 + 1) (ks' := 7290880 + 300) (by omega) (by omega) ?_
      replace hr := Option.bind_eq_some_iff.mp hr
      obtain ⟨⟨v188, h186, n187⟩, e189, hr⟩ := hr
      dsimp only at hr
      refine rr_callVq (as := [.int x26]) (st := [va_rf v159]) (mc' := 1) (ms' := 300) C dL_law_302 iv_L_39 (by decide) e185 rfl (by rcases v159 with _ | _ <;> exact Nat.le_of_ble_eq_true rfl) (c_J4_append_bf812 a182 x26 (by omega) e189) (fun v_ h_ n_ q_ => ?_)
      obtain ⟨q1_, q2_, q3_, b190⟩ := q_
      subst v_; subst h_; subst n_
      try dsimp only at b190
      show WW W0 G 73 _ _ _ 305 [some (.ref 0), some (.ref 48), some (.int x10), some (.int x14), some (.int x18), some (.int x22), some (.int x26), some (.int x30), some (.int x34), some (.int x38), some (.int x42), some (.int x46), some (.int x50), some (.int x54), some (.int x58), some (.int x62), some (.int y67), some (.int y73), none, none, none, none, none, none, none, none, none, none, none, none, none, none, none, none, none, none, none, none, none, none, none, none, none, none, none, none, none, none, none, none, none, none, none, none, none, none, none, none, none, none, none, none, none, none, none, none, none, none, none, none, none, none, none] [va_rf v188, va_rf v159] h186 n187 _ _
      refine rr_ldcL (i := 6) C dL_law_305 (by decide) rfl ?_
      replace hr := Option.bind_eq_some_iff.mp hr
      obtain ⟨a191, e192, hr⟩ := hr
      subst e192
      replace hr := Option.bind_eq_some_iff.mp hr
      obtain ⟨u193, e194, hr⟩ := hr
      refine rr_cut C (kc' := 599848 + 1) (ks' := 7290580 + 300) (by omega) (by omega) ?_
      replace hr := Option.bind_eq_some_iff.mp hr
      obtain ⟨⟨v197, h195, n196⟩, e198, hr⟩ := hr
      dsimp only at hr
      refine rr_callVq (as := [.ref 1000006]) (st := [va_rf v159]) (mc' := 1) (ms' := 300) C dL_law_307 iv_L_35 (by decide) e194 rfl (by rcases v159 with _ | _ <;> exact Nat.le_of_ble_eq_true rfl) (c_J4_append_15ec4 a191 (some 1000006) (by omega) e198) (fun v_ h_ n_ q_ => ?_)
      obtain ⟨q1_, q2_, q3_, b199⟩ := q_
      subst v_; subst h_; subst n_
      try dsimp only at b199
      show WW W0 G 73 _ _ _ 310 [some (.ref 0), some (.ref 48), some (.int x10), some (.int x14), some (.int x18), some (.int x22), some (.int x26), some (.int x30), some (.int x34), some (.int x38), some (.int x42), some (.int x46), some (.int x50), some (.int x54), some (.int x58), some (.int x62), some (.int y67), some (.int y73), none, none, none, none, none, none, none, none, none, none, none, none, none, none, none, none, none, none, none, none, none, none, none, none, none, none, none, none, none, none, none, none, none, none, none, none, none, none, none, none, none, none, none, none, none, none, none, none, none, none, none, none, none, none, none] [va_rf v197, va_rf v159] h195 n196 _ _
      replace hr := Option.bind_eq_some_iff.mp hr
      obtain ⟨a200, e201, hr⟩ := hr
      subst e201
      replace hr := Option.bind_eq_some_iff.mp hr
      obtain ⟨u202, e203, hr⟩ := hr
      refine rr_cut C (kc' := 599845 + 3) (ks' := 7289976 + 604) (by omega) (by omega) ?_
      replace hr := Option.bind_eq_some_iff.mp hr
      obtain ⟨⟨v206, h204, n205⟩, e207, hr⟩ := hr
      dsimp only at hr
      refine rr_callVq (as := []) (st := [va_rf v159]) (mc' := 3) (ms' := 604) C dL_law_310 iv_L_54 (by decide) e203 rfl (by rcases v159 with _ | _ <;> exact Nat.le_of_ble_eq_true rfl) (c_J4_toString_0e30d a200 (by omega) e207) (fun v_ h_ n_ q_ => ?_)
      obtain ⟨q1_, q2_, q3_, b208⟩ := q_
      subst v_; subst h_; subst n_
      try dsimp only at b208
      show WW W0 G 73 _ _ _ 313 [some (.ref 0), some (.ref 48), some (.int x10), some (.int x14), some (.int x18), some (.int x22), some (.int x26), some (.int x30), some (.int x34), some (.int x38), some (.int x42), some (.int x46), some (.int x50), some (.int x54), some (.int x58), some (.int x62), some (.int y67), some (.int y73), none, none, none, none, none, none, none, none, none, none, none, none, none, none, none, none, none, none, none, none, none, none, none, none, none, none, none, none, none, none, none, none, none, none, none, none, none, none, none, none, none, none, none, none, none, none, none, none, none, none, none, none, none, none, none] [va_rf v206, va_rf v159] h204 n205 _ _
      refine rr_goto (tgt := 318) C dL_law_313 (by decide) ?_
      cases hr
      exact rr_keep [true, true, true, true, true, true, true, true, true, true, true, true, true, true, true, true, true, true, false, false, false, false, false, false, false, false, false, false, false, false, false, false, false, false, false, false, false, false, false, false, false, false, false, false, false, false, false, false, false, false, false, false, false, false, false, false, false, false, false, false, false, false, false, false, false, false, false, false, false, false, false, false, false] hj166
  replace hr := Option.bind_eq_some_iff.mp hr
  obtain ⟨a209, e210, hr⟩ := hr
  subst e210
  replace hr := Option.bind_eq_some_iff.mp hr
  obtain ⟨u211, e212, hr⟩ := hr
  refine rr_cut C (kc' := 599844 + 1) (ks' := 7289676 + 300) (by omega) (by omega) ?_
  replace hr := Option.bind_eq_some_iff.mp hr
  obtain ⟨⟨v215, h213, n214⟩, e216, hr⟩ := hr
  dsimp only at hr
  refine rr_callVq (as := [va_rf y163]) (st := []) (mc' := 1) (ms' := 300) C dL_law_318 iv_L_35 (by decide) e212 rfl (Nat.le_of_ble_eq_true rfl) (c_J4_append_15ec4 a209 y163 (by omega) e216) (fun v_ h_ n_ q_ => ?_)
  obtain ⟨q1_, q2_, q3_, b217⟩ := q_
  subst v_; subst h_; subst n_
  try dsimp only at b217
  show WW W0 G 73 _ _ _ 321 [some (.ref 0), some (.ref 48), some (.int x10), some (.int x14), some (.int x18), some (.int x22), some (.int x26), some (.int x30), some (.int x34), some (.int x38), some (.int x42), some (.int x46), some (.int x50), some (.int x54), some (.int x58), some (.int x62), some (.int y67), some (.int y73), none, none, none, none, none, none, none, none, none, none, none, none, none, none, none, none, none, none, none, none, none, none, none, none, none, none, none, none, none, none, none, none, none, none, none, none, none, none, none, none, none, none, none, none, none, none, none, none, none, none, none, none, none, none, none] [va_rf v215] h213 n214 _ _
  refine rr_ldcL (i := 8) C dL_law_321 (by decide) rfl ?_
  replace hr := Option.bind_eq_some_iff.mp hr
  obtain ⟨a218, e219, hr⟩ := hr
  subst e219
  replace hr := Option.bind_eq_some_iff.mp hr
  obtain ⟨u220, e221, hr⟩ := hr
  refine rr_cut C (kc' := 599843 + 1) (ks' := 7289376 + 300) (by omega) (by omega) ?_
  replace hr := Option.bind_eq_some_iff.mp hr
  obtain ⟨⟨v224, h222, n223⟩, e225, hr⟩ := hr
  dsimp only at hr
  refine rr_callVq (as := [.ref 1000008]) (st := []) (mc' := 1) (ms' := 300) C dL_law_323 iv_L_35 (by decide) e221 rfl (Nat.le_of_ble_eq_true rfl) (c_J4_append_15ec4 a218 (some 1000008) (by omega) e225) (fun v_ h_ n_ q_ => ?_)
  obtain ⟨q1_, q2_, q3_, b226⟩ := q_
  subst v_; subst h_; subst n_
  try dsimp only at b226
  show WW W0 G 73 _ _ _ 326 [some (.ref 0), some (.ref 48), some (.int x10), some (.int x14), some (.int x18), some (.int x22), some (.int x26), some (.int x30), some (.int x34), some (.int x38), some (.int x42), some (.int x46), some (.int x50), some (.int x54), some (.int x58), some (.int x62), some (.int y67), some (.int y73), none, none, none, none, none, none, none, none, none, none, none, none, none, none, none, none, none, none, none, none, none, none, none, none, none, none, none, none, none, none, none, none, none, none, none, none, none, none, none, none, none, none, none, none, none, none, none, none, none, none, none, none, none, none, none] [va_rf v224] h222 n223 _ _
  refine rr_iload C dL_law_326 rfl ?_
  replace hr := Option.bind_eq_some_iff.mp hr
  obtain ⟨a227, e228, hr⟩ := hr
  subst e228
  replace hr := Option.bind_eq_some_iff.mp hr
  obtain ⟨u229, e230, hr⟩ := hr
  refine rr_cut C (kc' := 599842 + 1) (ks' := 7289076 + 300) (by omega) (by omega) ?_
  replace hr := Option.bind_eq_some_iff.mp hr
  obtain ⟨⟨v233, h231, n232⟩, e234, hr⟩ := hr
  dsimp only at hr
  refine rr_callVq (as := [.int x30]) (st := []) (mc' := 1) (ms' := 300) C dL_law_328 iv_L_39 (by decide) e230 rfl (Nat.le_of_ble_eq_true rfl) (c_J4_append_bf812 a227 x30 (by omega) e234) (fun v_ h_ n_ q_ => ?_)
  obtain ⟨q1_, q2_, q3_, b235⟩ := q_
  subst v_; subst h_; subst n_
  try dsimp only at b235
  show WW W0 G 73 _ _ _ 331 [some (.ref 0), some (.ref 48), some (.int x10), some (.int x14), some (.int x18), some (.int x22), some (.int x26), some (.int x30), some (.int x34), some (.int x38), some (.int x42), some (.int x46), some (.int x50), some (.int x54), some (.int x58), some (.int x62), some (.int y67), some (.int y73), none, none, none, none, none, none, none, none, none, none, none, none, none, none, none, none, none, none, none, none, none, none, none, none, none, none, none, none, none, none, none, none, none, none, none, none, none, none, none, none, none, none, none, none, none, none, none, none, none, none, none, none, none, none, none] [va_rf v233] h231 n232 _ _
  refine rr_ldcL (i := 9) C dL_law_331 (by decide) rfl ?_
  replace hr := Option.bind_eq_some_iff.mp hr
  obtain ⟨a236, e237, hr⟩ := hr
  subst e237
  replace hr := Option.bind_eq_some_iff.mp hr
  obtain ⟨u238, e239, hr⟩ := hr
  refine rr_cut C (kc' := 599841 + 1) (ks' := 7288776 + 300) (by omega) (by omega) ?_
  replace hr := Option.bind_eq_some_iff.mp hr
  obtain ⟨⟨v242, h240, n241⟩, e243, hr⟩ := hr
  dsimp only at hr
  refine rr_callVq (as := [.ref 1000009]) (st := []) (mc' := 1) (ms' := 300) C dL_law_333 iv_L_35 (by decide) e239 rfl (Nat.le_of_ble_eq_true rfl) (c_J4_append_15ec4 a236 (some 1000009) (by omega) e243) (fun v_ h_ n_ q_ => ?_)
  obtain ⟨q1_, q2_, q3_, b244⟩ := q_
  subst v_; subst h_; subst n_
  try dsimp only at b244
  show WW W0 G 73 _ _ _ 336 [some (.ref 0), some (.ref 48), some (.int x10), some (.int x14), some (.int x18), some (.int x22), some (.int x26), some (.int x30), some (.int x34), some (.int x38), some (.int x42), some (.int x46), some (.int x50), some (.int x54), some (.int x58), some (.int x62), some (.int y67), some (.int y73), none, none, none, none, none, none, none, none, none, none, none, none, none, none, none, none, none, none, none, none, none, none, none, none, none, none, none, none, none, none, none, none, none, none, none, none, none, none, none, none, none, none, none, none, none, none, none, none, none, none, none, none, none, none, none] [va_rf v242] h240 n241 _ _
  refine rr_iload C dL_law_336 rfl ?_
  replace hr := Option.bind_eq_some_iff.mp hr
  obtain ⟨a245, e246, hr⟩ := hr
  subst e246
  replace hr := Option.bind_eq_some_iff.mp hr
  obtain ⟨u247, e248, hr⟩ := hr
  refine rr_cut C (kc' := 599840 + 1) (ks' := 7288476 + 300) (by omega) (by omega) ?_
  replace hr := Option.bind_eq_some_iff.mp hr
  obtain ⟨⟨v251, h249, n250⟩, e252, hr⟩ := hr
  dsimp only at hr
  refine rr_callVq (as := [.int x34]) (st := []) (mc' := 1) (ms' := 300) C dL_law_338 iv_L_39 (by decide) e248 rfl (Nat.le_of_ble_eq_true rfl) (c_J4_append_bf812 a245 x34 (by omega) e252) (fun v_ h_ n_ q_ => ?_)
  obtain ⟨q1_, q2_, q3_, b253⟩ := q_
  subst v_; subst h_; subst n_
  try dsimp only at b253
  show WW W0 G 73 _ _ _ 341 [some (.ref 0), some (.ref 48), some (.int x10), some (.int x14), some (.int x18), some (.int x22), some (.int x26), some (.int x30), some (.int x34), some (.int x38), some (.int x42), some (.int x46), some (.int x50), some (.int x54), some (.int x58), some (.int x62), some (.int y67), some (.int y73), none, none, none, none, none, none, none, none, none, none, none, none, none, none, none, none, none, none, none, none, none, none, none, none, none, none, none, none, none, none, none, none, none, none, none, none, none, none, none, none, none, none, none, none, none, none, none, none, none, none, none, none, none, none, none] [va_rf v251] h249 n250 _ _
  refine rr_ldcL (i := 10) C dL_law_341 (by decide) rfl ?_
  replace hr := Option.bind_eq_some_iff.mp hr
  obtain ⟨a254, e255, hr⟩ := hr
  subst e255
  replace hr := Option.bind_eq_some_iff.mp hr
  obtain ⟨u256, e257, hr⟩ := hr
  refine rr_cut C (kc' := 599839 + 1) (ks' := 7288176 + 300) (by omega) (by omega) ?_
  replace hr := Option.bind_eq_some_iff.mp hr
  obtain ⟨⟨v260, h258, n259⟩, e261, hr⟩ := hr
  dsimp only at hr
  refine rr_callVq (as := [.ref 1000010]) (st := []) (mc' := 1) (ms' := 300) C dL_law_343 iv_L_35 (by decide) e257 rfl (Nat.le_of_ble_eq_true rfl) (c_J4_append_15ec4 a254 (some 1000010) (by omega) e261) (fun v_ h_ n_ q_ => ?_)
  obtain ⟨q1_, q2_, q3_, b262⟩ := q_
  subst v_; subst h_; subst n_
  try dsimp only at b262
  show WW W0 G 73 _ _ _ 346 [some (.ref 0), some (.ref 48), some (.int x10), some (.int x14), some (.int x18), some (.int x22), some (.int x26), some (.int x30), some (.int x34), some (.int x38), some (.int x42), some (.int x46), some (.int x50), some (.int x54), some (.int x58), some (.int x62), some (.int y67), some (.int y73), none, none, none, none, none, none, none, none, none, none, none, none, none, none, none, none, none, none, none, none, none, none, none, none, none, none, none, none, none, none, none, none, none, none, none, none, none, none, none, none, none, none, none, none, none, none, none, none, none, none, none, none, none, none, none] [va_rf v260] h258 n259 _ _
  refine rr_iload C dL_law_346 rfl ?_
  replace hr := Option.bind_eq_some_iff.mp hr
  obtain ⟨a263, e264, hr⟩ := hr
  subst e264
  replace hr := Option.bind_eq_some_iff.mp hr
  obtain ⟨u265, e266, hr⟩ := hr
  refine rr_cut C (kc' := 599838 + 1) (ks' := 7287876 + 300) (by omega) (by omega) ?_
  replace hr := Option.bind_eq_some_iff.mp hr
  obtain ⟨⟨v269, h267, n268⟩, e270, hr⟩ := hr
  dsimp only at hr
  refine rr_callVq (as := [.int x38]) (st := []) (mc' := 1) (ms' := 300) C dL_law_348 iv_L_39 (by decide) e266 rfl (Nat.le_of_ble_eq_true rfl) (c_J4_append_bf812 a263 x38 (by omega) e270) (fun v_ h_ n_ q_ => ?_)
  obtain ⟨q1_, q2_, q3_, b271⟩ := q_
  subst v_; subst h_; subst n_
  try dsimp only at b271
  show WW W0 G 73 _ _ _ 351 [some (.ref 0), some (.ref 48), some (.int x10), some (.int x14), some (.int x18), some (.int x22), some (.int x26), some (.int x30), some (.int x34), some (.int x38), some (.int x42), some (.int x46), some (.int x50), some (.int x54), some (.int x58), some (.int x62), some (.int y67), some (.int y73), none, none, none, none, none, none, none, none, none, none, none, none, none, none, none, none, none, none, none, none, none, none, none, none, none, none, none, none, none, none, none, none, none, none, none, none, none, none, none, none, none, none, none, none, none, none, none, none, none, none, none, none, none, none, none] [va_rf v269] h267 n268 _ _
  refine rr_ldcL (i := 11) C dL_law_351 (by decide) rfl ?_
  replace hr := Option.bind_eq_some_iff.mp hr
  obtain ⟨a272, e273, hr⟩ := hr
  subst e273
  replace hr := Option.bind_eq_some_iff.mp hr
  obtain ⟨u274, e275, hr⟩ := hr
  refine rr_cut C (kc' := 599837 + 1) (ks' := 7287576 + 300) (by omega) (by omega) ?_
  replace hr := Option.bind_eq_some_iff.mp hr
  obtain ⟨⟨v278, h276, n277⟩, e279, hr⟩ := hr
  dsimp only at hr
  refine rr_callVq (as := [.ref 1000011]) (st := []) (mc' := 1) (ms' := 300) C dL_law_353 iv_L_35 (by decide) e275 rfl (Nat.le_of_ble_eq_true rfl) (c_J4_append_15ec4 a272 (some 1000011) (by omega) e279) (fun v_ h_ n_ q_ => ?_)
  obtain ⟨q1_, q2_, q3_, b280⟩ := q_
  subst v_; subst h_; subst n_
  try dsimp only at b280
  show WW W0 G 73 _ _ _ 356 [some (.ref 0), some (.ref 48), some (.int x10), some (.int x14), some (.int x18), some (.int x22), some (.int x26), some (.int x30), some (.int x34), some (.int x38), some (.int x42), some (.int x46), some (.int x50), some (.int x54), some (.int x58), some (.int x62), some (.int y67), some (.int y73), none, none, none, none, none, none, none, none, none, none, none, none, none, none, none, none, none, none, none, none, none, none, none, none, none, none, none, none, none, none, none, none, none, none, none, none, none, none, none, none, none, none, none, none, none, none, none, none, none, none, none, none, none, none, none] [va_rf v278] h276 n277 _ _
  refine rr_iload C dL_law_356 rfl ?_
  replace hr := Option.bind_eq_some_iff.mp hr
  obtain ⟨a281, e282, hr⟩ := hr
  subst e282
  replace hr := Option.bind_eq_some_iff.mp hr
  obtain ⟨u283, e284, hr⟩ := hr
  refine rr_cut C (kc' := 599836 + 1) (ks' := 7287276 + 300) (by omega) (by omega) ?_
  replace hr := Option.bind_eq_some_iff.mp hr
  obtain ⟨⟨v287, h285, n286⟩, e288, hr⟩ := hr
  dsimp only at hr
  refine rr_callVq (as := [.int x42]) (st := []) (mc' := 1) (ms' := 300) C dL_law_358 iv_L_39 (by decide) e284 rfl (Nat.le_of_ble_eq_true rfl) (c_J4_append_bf812 a281 x42 (by omega) e288) (fun v_ h_ n_ q_ => ?_)
  obtain ⟨q1_, q2_, q3_, b289⟩ := q_
  subst v_; subst h_; subst n_
  try dsimp only at b289
  show WW W0 G 73 _ _ _ 361 [some (.ref 0), some (.ref 48), some (.int x10), some (.int x14), some (.int x18), some (.int x22), some (.int x26), some (.int x30), some (.int x34), some (.int x38), some (.int x42), some (.int x46), some (.int x50), some (.int x54), some (.int x58), some (.int x62), some (.int y67), some (.int y73), none, none, none, none, none, none, none, none, none, none, none, none, none, none, none, none, none, none, none, none, none, none, none, none, none, none, none, none, none, none, none, none, none, none, none, none, none, none, none, none, none, none, none, none, none, none, none, none, none, none, none, none, none, none, none] [va_rf v287] h285 n286 _ _
  refine rr_ldcL (i := 12) C dL_law_361 (by decide) rfl ?_
  replace hr := Option.bind_eq_some_iff.mp hr
  obtain ⟨a290, e291, hr⟩ := hr
  subst e291
  replace hr := Option.bind_eq_some_iff.mp hr
  obtain ⟨u292, e293, hr⟩ := hr
  refine rr_cut C (kc' := 599835 + 1) (ks' := 7286976 + 300) (by omega) (by omega) ?_
  replace hr := Option.bind_eq_some_iff.mp hr
  obtain ⟨⟨v296, h294, n295⟩, e297, hr⟩ := hr
  dsimp only at hr
  refine rr_callVq (as := [.ref 1000012]) (st := []) (mc' := 1) (ms' := 300) C dL_law_363 iv_L_35 (by decide) e293 rfl (Nat.le_of_ble_eq_true rfl) (c_J4_append_15ec4 a290 (some 1000012) (by omega) e297) (fun v_ h_ n_ q_ => ?_)
  obtain ⟨q1_, q2_, q3_, b298⟩ := q_
  subst v_; subst h_; subst n_
  try dsimp only at b298
  show WW W0 G 73 _ _ _ 366 [some (.ref 0), some (.ref 48), some (.int x10), some (.int x14), some (.int x18), some (.int x22), some (.int x26), some (.int x30), some (.int x34), some (.int x38), some (.int x42), some (.int x46), some (.int x50), some (.int x54), some (.int x58), some (.int x62), some (.int y67), some (.int y73), none, none, none, none, none, none, none, none, none, none, none, none, none, none, none, none, none, none, none, none, none, none, none, none, none, none, none, none, none, none, none, none, none, none, none, none, none, none, none, none, none, none, none, none, none, none, none, none, none, none, none, none, none, none, none] [va_rf v296] h294 n295 _ _
  refine rr_iload C dL_law_366 rfl ?_
  replace hr := Option.bind_eq_some_iff.mp hr
  obtain ⟨y300, er302, hr⟩ := hr
  suffices hj301 : WW W0 G 73 _ _ _ 378 [some (.ref 0), some (.ref 48), some (.int x10), some (.int x14), some (.int x18), some (.int x22), some (.int x26), some (.int x30), some (.int x34), some (.int x38), some (.int x42), some (.int x46), some (.int x50), some (.int x54), some (.int x58), some (.int x62), some (.int y67), some (.int y73), none, none, none, none, none, none, none, none, none, none, none, none, none, none, none, none, none, none, none, none, none, none, none, none, none, none, none, none, none, none, none, none, none, none, none, none, none, none, none, none, none, none, none, none, none, none, none, none, none, none, none, none, none, none, none] [.ref y300, va_rf v296] h294 n295 (599835) (7286976) from by
    have hr := er302
    refine rr_if_eq (tgt := 376) C dL_law_368 (by decide) (fun c299 => ?_) (fun c299 => ?_)
    · replace hr := (if_pos c299).symm.trans hr
      refine rr_ldcL (i := 14) C dL_law_376 (by decide) rfl ?_
      cases hr
      exact rr_keep [true, true, true, true, true, true, true, true, true, true, true, true, true, true, true, true, true, true, false, false, false, false, false, false, false, false, false, false, false, false, false, false, false, false, false, false, false, false, false, false, false, false, false, false, false, false, false, false, false, false, false, false, false, false, false, false, false, false, false, false, false, false, false, false, false, false, false, false, false, false, false, false, false] hj301
    · replace hr := (if_neg c299).symm.trans hr
      refine rr_ldcL (i := 13) C dL_law_371 (by decide) rfl ?_
      refine rr_goto (tgt := 378) C dL_law_373 (by decide) ?_
      cases hr
      exact rr_keep [true, true, true, true, true, true, true, true, true, true, true, true, true, true, true, true, true, true, false, false, false, false, false, false, false, false, false, false, false, false, false, false, false, false, false, false, false, false, false, false, false, false, false, false, false, false, false, false, false, false, false, false, false, false, false, false, false, false, false, false, false, false, false, false, false, false, false, false, false, false, false, false, false] hj301
  replace hr := Option.bind_eq_some_iff.mp hr
  obtain ⟨a303, e304, hr⟩ := hr
  subst e304
  replace hr := Option.bind_eq_some_iff.mp hr
  obtain ⟨u305, e306, hr⟩ := hr
  refine rr_cut C (kc' := 599834 + 1) (ks' := 7286676 + 300) (by omega) (by omega) ?_
  replace hr := Option.bind_eq_some_iff.mp hr
  obtain ⟨⟨v309, h307, n308⟩, e310, hr⟩ := hr
  dsimp only at hr
  refine rr_callVq (as := [.ref y300]) (st := []) (mc' := 1) (ms' := 300) C dL_law_378 iv_L_35 (by decide) e306 rfl (Nat.le_of_ble_eq_true rfl) (c_J4_append_15ec4 a303 (some y300) (by omega) e310) (fun v_ h_ n_ q_ => ?_)
  obtain ⟨q1_, q2_, q3_, b311⟩ := q_
  subst v_; subst h_; subst n_
  try dsimp only at b311
  show WW W0 G 73 _ _ _ 381 [some (.ref 0), some (.ref 48), some (.int x10), some (.int x14), some (.int x18), some (.int x22), some (.int x26), some (.int x30), some (.int x34), some (.int x38), some (.int x42), some (.int x46), some (.int x50), some (.int x54), some (.int x58), some (.int x62), some (.int y67), some (.int y73), none, none, none, none, none, none, none, none, none, none, none, none, none, none, none, none, none, none, none, none, none, none, none, none, none, none, none, none, none, none, none, none, none, none, none, none, none, none, none, none, none, none, none, none, none, none, none, none, none, none, none, none, none, none, none] [va_rf v309] h307 n308 _ _
  refine rr_iload C dL_law_381 rfl ?_
  replace hr := Option.bind_eq_some_iff.mp hr
  obtain ⟨a312, e313, hr⟩ := hr
  subst e313
  replace hr := Option.bind_eq_some_iff.mp hr
  obtain ⟨u314, e315, hr⟩ := hr
  refine rr_cut C (kc' := 599833 + 1) (ks' := 7286376 + 300) (by omega) (by omega) ?_
  replace hr := Option.bind_eq_some_iff.mp hr
  obtain ⟨⟨v318, h316, n317⟩, e319, hr⟩ := hr
  dsimp only at hr
  refine rr_callVq (as := [.int x46]) (st := []) (mc' := 1) (ms' := 300) C dL_law_383 iv_L_39 (by decide) e315 rfl (Nat.le_of_ble_eq_true rfl) (c_J4_append_bf812 a312 x46 (by omega) e319) (fun v_ h_ n_ q_ => ?_)
  obtain ⟨q1_, q2_, q3_, b320⟩ := q_
  subst v_; subst h_; subst n_
  try dsimp only at b320
  show WW W0 G 73 _ _ _ 386 [some (.ref 0), some (.ref 48), some (.int x10), some (.int x14), some (.int x18), some (.int x22), some (.int x26), some (.int x30), some (.int x34), some (.int x38), some (.int x42), some (.int x46), some (.int x50), some (.int x54), some (.int x58), some (.int x62), some (.int y67), some (.int y73), none, none, none, none, none, none, none, none, none, none, none, none, none, none, none, none, none, none, none, none, none, none, none, none, none, none, none, none, none, none, none, none, none, none, none, none, none, none, none, none, none, none, none, none, none, none, none, none, none, none, none, none, none, none, none] [va_rf v318] h316 n317 _ _
  refine rr_ldcL (i := 15) C dL_law_386 (by decide) rfl ?_
  replace hr := Option.bind_eq_some_iff.mp hr
  obtain ⟨a321, e322, hr⟩ := hr
  subst e322
  replace hr := Option.bind_eq_some_iff.mp hr
  obtain ⟨u323, e324, hr⟩ := hr
  refine rr_cut C (kc' := 599832 + 1) (ks' := 7286076 + 300) (by omega) (by omega) ?_
  replace hr := Option.bind_eq_some_iff.mp hr
  obtain ⟨⟨v327, h325, n326⟩, e328, hr⟩ := hr
  dsimp only at hr
  refine rr_callVq (as := [.ref 1000015]) (st := []) (mc' := 1) (ms' := 300) C dL_law_388 iv_L_35 (by decide) e324 rfl (Nat.le_of_ble_eq_true rfl) (c_J4_append_15ec4 a321 (some 1000015) (by omega) e328) (fun v_ h_ n_ q_ => ?_)
  obtain ⟨q1_, q2_, q3_, b329⟩ := q_
  subst v_; subst h_; subst n_
  try dsimp only at b329
  show WW W0 G 73 _ _ _ 391 [some (.ref 0), some (.ref 48), some (.int x10), some (.int x14), some (.int x18), some (.int x22), some (.int x26), some (.int x30), some (.int x34), some (.int x38), some (.int x42), some (.int x46), some (.int x50), some (.int x54), some (.int x58), some (.int x62), some (.int y67), some (.int y73), none, none, none, none, none, none, none, none, none, none, none, none, none, none, none, none, none, none, none, none, none, none, none, none, none, none, none, none, none, none, none, none, none, none, none, none, none, none, none, none, none, none, none, none, none, none, none, none, none, none, none, none, none, none, none] [va_rf v327] h325 n326 _ _
  refine rr_iload C dL_law_391 rfl ?_
  replace hr := Option.bind_eq_some_iff.mp hr
  obtain ⟨a330, e331, hr⟩ := hr
  subst e331
  replace hr := Option.bind_eq_some_iff.mp hr
  obtain ⟨u332, e333, hr⟩ := hr
  refine rr_cut C (kc' := 599831 + 1) (ks' := 7285776 + 300) (by omega) (by omega) ?_
  replace hr := Option.bind_eq_some_iff.mp hr
  obtain ⟨⟨v336, h334, n335⟩, e337, hr⟩ := hr
  dsimp only at hr
  refine rr_callVq (as := [.int x50]) (st := []) (mc' := 1) (ms' := 300) C dL_law_393 iv_L_39 (by decide) e333 rfl (Nat.le_of_ble_eq_true rfl) (c_J4_append_bf812 a330 x50 (by omega) e337) (fun v_ h_ n_ q_ => ?_)
  obtain ⟨q1_, q2_, q3_, b338⟩ := q_
  subst v_; subst h_; subst n_
  try dsimp only at b338
  show WW W0 G 73 _ _ _ 396 [some (.ref 0), some (.ref 48), some (.int x10), some (.int x14), some (.int x18), some (.int x22), some (.int x26), some (.int x30), some (.int x34), some (.int x38), some (.int x42), some (.int x46), some (.int x50), some (.int x54), some (.int x58), some (.int x62), some (.int y67), some (.int y73), none, none, none, none, none, none, none, none, none, none, none, none, none, none, none, none, none, none, none, none, none, none, none, none, none, none, none, none, none, none, none, none, none, none, none, none, none, none, none, none, none, none, none, none, none, none, none, none, none, none, none, none, none, none, none] [va_rf v336] h334 n335 _ _
  refine rr_ldcL (i := 16) C dL_law_396 (by decide) rfl ?_
  replace hr := Option.bind_eq_some_iff.mp hr
  obtain ⟨a339, e340, hr⟩ := hr
  subst e340
  replace hr := Option.bind_eq_some_iff.mp hr
  obtain ⟨u341, e342, hr⟩ := hr
  refine rr_cut C (kc' := 599830 + 1) (ks' := 7285476 + 300) (by omega) (by omega) ?_
  replace hr := Option.bind_eq_some_iff.mp hr
  obtain ⟨⟨v345, h343, n344⟩, e346, hr⟩ := hr
  dsimp only at hr
  refine rr_callVq (as := [.ref 1000016]) (st := []) (mc' := 1) (ms' := 300) C dL_law_398 iv_L_35 (by decide) e342 rfl (Nat.le_of_ble_eq_true rfl) (c_J4_append_15ec4 a339 (some 1000016) (by omega) e346) (fun v_ h_ n_ q_ => ?_)
  obtain ⟨q1_, q2_, q3_, b347⟩ := q_
  subst v_; subst h_; subst n_
  try dsimp only at b347
  show WW W0 G 73 _ _ _ 401 [some (.ref 0), some (.ref 48), some (.int x10), some (.int x14), some (.int x18), some (.int x22), some (.int x26), some (.int x30), some (.int x34), some (.int x38), some (.int x42), some (.int x46), some (.int x50), some (.int x54), some (.int x58), some (.int x62), some (.int y67), some (.int y73), none, none, none, none, none, none, none, none, none, none, none, none, none, none, none, none, none, none, none, none, none, none, none, none, none, none, none, none, none, none, none, none, none, none, none, none, none, none, none, none, none, none, none, none, none, none, none, none, none, none, none, none, none, none, none] [va_rf v345] h343 n344 _ _
  refine rr_iload C dL_law_401 rfl ?_
  replace hr := Option.bind_eq_some_iff.mp hr
  obtain ⟨a348, e349, hr⟩ := hr
  subst e349
  replace hr := Option.bind_eq_some_iff.mp hr
  obtain ⟨u350, e351, hr⟩ := hr
  refine rr_cut C (kc' := 599829 + 1) (ks' := 7285176 + 300) (by omega) (by omega) ?_
  replace hr := Option.bind_eq_some_iff.mp hr
  obtain ⟨⟨v354, h352, n353⟩, e355, hr⟩ := hr
  dsimp only at hr
  refine rr_callVq (as := [.int x54]) (st := []) (mc' := 1) (ms' := 300) C dL_law_403 iv_L_39 (by decide) e351 rfl (Nat.le_of_ble_eq_true rfl) (c_J4_append_bf812 a348 x54 (by omega) e355) (fun v_ h_ n_ q_ => ?_)
  obtain ⟨q1_, q2_, q3_, b356⟩ := q_
  subst v_; subst h_; subst n_
  try dsimp only at b356
  show WW W0 G 73 _ _ _ 406 [some (.ref 0), some (.ref 48), some (.int x10), some (.int x14), some (.int x18), some (.int x22), some (.int x26), some (.int x30), some (.int x34), some (.int x38), some (.int x42), some (.int x46), some (.int x50), some (.int x54), some (.int x58), some (.int x62), some (.int y67), some (.int y73), none, none, none, none, none, none, none, none, none, none, none, none, none, none, none, none, none, none, none, none, none, none, none, none, none, none, none, none, none, none, none, none, none, none, none, none, none, none, none, none, none, none, none, none, none, none, none, none, none, none, none, none, none, none, none] [va_rf v354] h352 n353 _ _
  refine rr_ldcL (i := 17) C dL_law_406 (by decide) rfl ?_
  replace hr := Option.bind_eq_some_iff.mp hr
  obtain ⟨a357, e358, hr⟩ := hr
  subst e358
  replace hr := Option.bind_eq_some_iff.mp hr
  obtain ⟨u359, e360, hr⟩ := hr
  refine rr_cut C (kc' := 599828 + 1) (ks' := 7284876 + 300) (by omega) (by omega) ?_
  replace hr := Option.bind_eq_some_iff.mp hr
  obtain ⟨⟨v363, h361, n362⟩, e364, hr⟩ := hr
  dsimp only at hr
  refine rr_callVq (as := [.ref 1000017]) (st := []) (mc' := 1) (ms' := 300) C dL_law_408 iv_L_35 (by decide) e360 rfl (Nat.le_of_ble_eq_true rfl) (c_J4_append_15ec4 a357 (some 1000017) (by omega) e364) (fun v_ h_ n_ q_ => ?_)
  obtain ⟨q1_, q2_, q3_, b365⟩ := q_
  subst v_; subst h_; subst n_
  try dsimp only at b365
  show WW W0 G 73 _ _ _ 411 [some (.ref 0), some (.ref 48), some (.int x10), some (.int x14), some (.int x18), some (.int x22), some (.int x26), some (.int x30), some (.int x34), some (.int x38), some (.int x42), some (.int x46), some (.int x50), some (.int x54), some (.int x58), some (.int x62), some (.int y67), some (.int y73), none, none, none, none, none, none, none, none, none, none, none, none, none, none, none, none, none, none, none, none, none, none, none, none, none, none, none, none, none, none, none, none, none, none, none, none, none, none, none, none, none, none, none, none, none, none, none, none, none, none, none, none, none, none, none] [va_rf v363] h361 n362 _ _
  refine rr_iload C dL_law_411 rfl ?_
  replace hr := Option.bind_eq_some_iff.mp hr
  obtain ⟨a366, e367, hr⟩ := hr
  subst e367
  replace hr := Option.bind_eq_some_iff.mp hr
  obtain ⟨u368, e369, hr⟩ := hr
  refine rr_cut C (kc' := 599827 + 1) (ks' := 7284576 + 300) (by omega) (by omega) ?_
  replace hr := Option.bind_eq_some_iff.mp hr
  obtain ⟨⟨v372, h370, n371⟩, e373, hr⟩ := hr
  dsimp only at hr
  refine rr_callVq (as := [.int x58]) (st := []) (mc' := 1) (ms' := 300) C dL_law_413 iv_L_39 (by decide) e369 rfl (Nat.le_of_ble_eq_true rfl) (c_J4_append_bf812 a366 x58 (by omega) e373) (fun v_ h_ n_ q_ => ?_)
  obtain ⟨q1_, q2_, q3_, b374⟩ := q_
  subst v_; subst h_; subst n_
  try dsimp only at b374
  show WW W0 G 73 _ _ _ 416 [some (.ref 0), some (.ref 48), some (.int x10), some (.int x14), some (.int x18), some (.int x22), some (.int x26), some (.int x30), some (.int x34), some (.int x38), some (.int x42), some (.int x46), some (.int x50), some (.int x54), some (.int x58), some (.int x62), some (.int y67), some (.int y73), none, none, none, none, none, none, none, none, none, none, none, none, none, none, none, none, none, none, none, none, none, none, none, none, none, none, none, none, none, none, none, none, none, none, none, none, none, none, none, none, none, none, none, none, none, none, none, none, none, none, none, none, none, none, none] [va_rf v372] h370 n371 _ _
  refine rr_ldcL (i := 18) C dL_law_416 (by decide) rfl ?_
  replace hr := Option.bind_eq_some_iff.mp hr
  obtain ⟨a375, e376, hr⟩ := hr
  subst e376
  replace hr := Option.bind_eq_some_iff.mp hr
  obtain ⟨u377, e378, hr⟩ := hr
  refine rr_cut C (kc' := 599826 + 1) (ks' := 7284276 + 300) (by omega) (by omega) ?_
  replace hr := Option.bind_eq_some_iff.mp hr
  obtain ⟨⟨v381, h379, n380⟩, e382, hr⟩ := hr
  dsimp only at hr
  refine rr_callVq (as := [.ref 1000018]) (st := []) (mc' := 1) (ms' := 300) C dL_law_418 iv_L_35 (by decide) e378 rfl (Nat.le_of_ble_eq_true rfl) (c_J4_append_15ec4 a375 (some 1000018) (by omega) e382) (fun v_ h_ n_ q_ => ?_)
  obtain ⟨q1_, q2_, q3_, b383⟩ := q_
  subst v_; subst h_; subst n_
  try dsimp only at b383
  show WW W0 G 73 _ _ _ 421 [some (.ref 0), some (.ref 48), some (.int x10), some (.int x14), some (.int x18), some (.int x22), some (.int x26), some (.int x30), some (.int x34), some (.int x38), some (.int x42), some (.int x46), some (.int x50), some (.int x54), some (.int x58), some (.int x62), some (.int y67), some (.int y73), none, none, none, none, none, none, none, none, none, none, none, none, none, none, none, none, none, none, none, none, none, none, none, none, none, none, none, none, none, none, none, none, none, none, none, none, none, none, none, none, none, none, none, none, none, none, none, none, none, none, none, none, none, none, none] [va_rf v381] h379 n380 _ _
  refine rr_iload C dL_law_421 rfl ?_
  replace hr := Option.bind_eq_some_iff.mp hr
  obtain ⟨a384, e385, hr⟩ := hr
  subst e385
  replace hr := Option.bind_eq_some_iff.mp hr
  obtain ⟨u386, e387, hr⟩ := hr
  refine rr_cut C (kc' := 599825 + 1) (ks' := 7283976 + 300) (by omega) (by omega) ?_
  replace hr := Option.bind_eq_some_iff.mp hr
  obtain ⟨⟨v390, h388, n389⟩, e391, hr⟩ := hr
  dsimp only at hr
  refine rr_callVq (as := [.int x62]) (st := []) (mc' := 1) (ms' := 300) C dL_law_423 iv_L_39 (by decide) e387 rfl (Nat.le_of_ble_eq_true rfl) (c_J4_append_bf812 a384 x62 (by omega) e391) (fun v_ h_ n_ q_ => ?_)
  obtain ⟨q1_, q2_, q3_, b392⟩ := q_
  subst v_; subst h_; subst n_
  try dsimp only at b392
  show WW W0 G 73 _ _ _ 426 [some (.ref 0), some (.ref 48), some (.int x10), some (.int x14), some (.int x18), some (.int x22), some (.int x26), some (.int x30), some (.int x34), some (.int x38), some (.int x42), some (.int x46), some (.int x50), some (.int x54), some (.int x58), some (.int x62), some (.int y67), some (.int y73), none, none, none, none, none, none, none, none, none, none, none, none, none, none, none, none, none, none, none, none, none, none, none, none, none, none, none, none, none, none, none, none, none, none, none, none, none, none, none, none, none, none, none, none, none, none, none, none, none, none, none, none, none, none, none] [va_rf v390] h388 n389 _ _
  refine rr_ldcL (i := 6) C dL_law_426 (by decide) rfl ?_
  replace hr := Option.bind_eq_some_iff.mp hr
  obtain ⟨a393, e394, hr⟩ := hr
  subst e394
  replace hr := Option.bind_eq_some_iff.mp hr
  obtain ⟨u395, e396, hr⟩ := hr
  refine rr_cut C (kc' := 599824 + 1) (ks' := 7283676 + 300) (by omega) (by omega) ?_
  replace hr := Option.bind_eq_some_iff.mp hr
  obtain ⟨⟨v399, h397, n398⟩, e400, hr⟩ := hr
  dsimp only at hr
  refine rr_callVq (as := [.ref 1000006]) (st := []) (mc' := 1) (ms' := 300) C dL_law_428 iv_L_35 (by decide) e396 rfl (Nat.le_of_ble_eq_true rfl) (c_J4_append_15ec4 a393 (some 1000006) (by omega) e400) (fun v_ h_ n_ q_ => ?_)
  obtain ⟨q1_, q2_, q3_, b401⟩ := q_
  subst v_; subst h_; subst n_
  try dsimp only at b401
  show WW W0 G 73 _ _ _ 431 [some (.ref 0), some (.ref 48), some (.int x10), some (.int x14), some (.int x18), some (.int x22), some (.int x26), some (.int x30), some (.int x34), some (.int x38), some (.int x42), some (.int x46), some (.int x50), some (.int x54), some (.int x58), some (.int x62), some (.int y67), some (.int y73), none, none, none, none, none, none, none, none, none, none, none, none, none, none, none, none, none, none, none, none, none, none, none, none, none, none, none, none, none, none, none, none, none, none, none, none, none, none, none, none, none, none, none, none, none, none, none, none, none, none, none, none, none, none, none] [va_rf v399] h397 n398 _ _
  replace hr := Option.bind_eq_some_iff.mp hr
  obtain ⟨a402, e403, hr⟩ := hr
  subst e403
  replace hr := Option.bind_eq_some_iff.mp hr
  obtain ⟨u404, e405, hr⟩ := hr
  refine rr_cut C (kc' := 599821 + 3) (ks' := 7283072 + 604) (by omega) (by omega) ?_
  replace hr := Option.bind_eq_some_iff.mp hr
  obtain ⟨⟨v408, h406, n407⟩, e409, hr⟩ := hr
  dsimp only at hr
  refine rr_callVq (as := []) (st := []) (mc' := 3) (ms' := 604) C dL_law_431 iv_L_54 (by decide) e405 rfl (Nat.le_of_ble_eq_true rfl) (c_J4_toString_0e30d a402 (by omega) e409) (fun v_ h_ n_ q_ => ?_)
  obtain ⟨q1_, q2_, q3_, b410⟩ := q_
  subst v_; subst h_; subst n_
  try dsimp only at b410
  show WW W0 G 73 _ _ _ 434 [some (.ref 0), some (.ref 48), some (.int x10), some (.int x14), some (.int x18), some (.int x22), some (.int x26), some (.int x30), some (.int x34), some (.int x38), some (.int x42), some (.int x46), some (.int x50), some (.int x54), some (.int x58), some (.int x62), some (.int y67), some (.int y73), none, none, none, none, none, none, none, none, none, none, none, none, none, none, none, none, none, none, none, none, none, none, none, none, none, none, none, none, none, none, none, none, none, none, none, none, none, none, none, none, none, none, none, none, none, none, none, none, none, none, none, none, none, none, none] [va_rf v408] h406 n407 _ _
  refine rr_astoreO C dL_law_434 (by decide) ?_
  show WW W0 G 73 _ _ _ 436 [some (.ref 0), some (.ref 48), some (.int x10), some (.int x14), some (.int x18), some (.int x22), some (.int x26), some (.int x30), some (.int x34), some (.int x38), some (.int x42), some (.int x46), some (.int x50), some (.int x54), some (.int x58), some (.int x62), some (.int y67), some (.int y73), some (va_rf v408), none, none, none, none, none, none, none, none, none, none, none, none, none, none, none, none, none, none, none, none, none, none, none, none, none, none, none, none, none, none, none, none, none, none, none, none, none, none, none, none, none, none, none, none, none, none, none, none, none, none, none, none, none, none] [] h406 n407 _ _
  refine rr_aload_n (i := 1) C dL_law_436 rfl rfl ?_
  refine rr_aload_n (i := 1) C dL_law_437 rfl rfl ?_
  refine rr_aloadO C dL_law_438 rfl ?_
  refine rr_cut C (kc' := 599781 + 40) (ks' := 7280512 + 2560) (by omega) (by omega) ?_
  replace hr := Option.bind_eq_some_iff.mp hr
  obtain ⟨⟨v413, h411, n412⟩, e414, hr⟩ := hr
  dsimp only at hr
  refine rr_callS (as := [.ref 48, va_rf v408]) (st := [.ref 48]) (mc' := 40) (ms' := 2560) C dL_law_440 it_L_82 (by decide) (Nat.le_of_ble_eq_true rfl) (c_L_put (some 48) v408 (by omega) e414) (fun v_ h_ n_ q_ => ?_)
  obtain ⟨q1_, q2_, q3_, b415⟩ := q_
  subst v_; subst h_; subst n_
  try dsimp only at b415
  show WW W0 G 73 _ _ _ 443 [some (.ref 0), some (.ref 48), some (.int x10), some (.int x14), some (.int x18), some (.int x22), some (.int x26), some (.int x30), some (.int x34), some (.int x38), some (.int x42), some (.int x46), some (.int x50), some (.int x54), some (.int x58), some (.int x62), some (.int y67), some (.int y73), some (va_rf v408), none, none, none, none, none, none, none, none, none, none, none, none, none, none, none, none, none, none, none, none, none, none, none, none, none, none, none, none, none, none, none, none, none, none, none, none, none, none, none, none, none, none, none, none, none, none, none, none, none, none, none, none, none, none] [.int v413, .ref 48] h411 n412 _ _
  refine rr_iconst (v := 0) C dL_law_443 (by decide) ?_
  replace hr := Option.bind_eq_some_iff.mp hr
  obtain ⟨u416, e417, hr⟩ := hr
  refine rr_cut C (kc' := 599699 + 82) (ks' := 7243768 + 36744) (by omega) (by omega) ?_
  replace hr := Option.bind_eq_some_iff.mp hr
  obtain ⟨⟨v420, h418, n419⟩, e421, hr⟩ := hr
  dsimp only at hr
  refine rr_callVq (as := [.int v413, .int 0]) (st := []) (mc' := 82) (ms' := 36744) C dL_law_444 iv_L_86 (by decide) e417 rfl (Nat.le_of_ble_eq_true rfl) (c_X10_rules 48 v413 0 (by omega) e421) (fun v_ h_ n_ q_ => ?_)
  obtain ⟨q1_, q2_, q3_, b422⟩ := q_
  subst v_; subst h_; subst n_
  try dsimp only at b422
  show WW W0 G 73 _ _ _ 447 [some (.ref 0), some (.ref 48), some (.int x10), some (.int x14), some (.int x18), some (.int x22), some (.int x26), some (.int x30), some (.int x34), some (.int x38), some (.int x42), some (.int x46), some (.int x50), some (.int x54), some (.int x58), some (.int x62), some (.int y67), some (.int y73), some (va_rf v408), none, none, none, none, none, none, none, none, none, none, none, none, none, none, none, none, none, none, none, none, none, none, none, none, none, none, none, none, none, none, none, none, none, none, none, none, none, none, none, none, none, none, none, none, none, none, none, none, none, none, none, none, none, none] [.int v420] h418 n419 _ _
  obtain ⟨c423, hr⟩ := ite_nn hr
  refine rr_if_eq (tgt := 452) C dL_law_447 (by decide) (fun _ => ?_) (fun q_ => absurd c423 q_)
  refine rr_aload_n (i := 0) C dL_law_452 rfl rfl ?_
  refine rr_iconst (v := 3) C dL_law_453 (by decide) ?_
  replace hr := Option.bind_eq_some_iff.mp hr
  obtain ⟨v424, e425, hr⟩ := hr
  refine rr_callS (as := [.ref 0, .int 3]) (st := []) (mc' := 0) (ms' := 0) C dL_law_454 it_L_24 (by decide) (Nat.le_of_ble_eq_true rfl) (c_L_cell (some 0) 3 (by omega) e425) (fun v_ h_ n_ q_ => ?_)
  obtain ⟨q1_, q2_, q3_⟩ := q_
  subst v_; subst h_; subst n_
  show WW W0 G 73 _ _ _ 457 [some (.ref 0), some (.ref 48), some (.int x10), some (.int x14), some (.int x18), some (.int x22), some (.int x26), some (.int x30), some (.int x34), some (.int x38), some (.int x42), some (.int x46), some (.int x50), some (.int x54), some (.int x58), some (.int x62), some (.int y67), some (.int y73), some (va_rf v408), none, none, none, none, none, none, none, none, none, none, none, none, none, none, none, none, none, none, none, none, none, none, none, none, none, none, none, none, none, none, none, none, none, none, none, none, none, none, none, none, none, none, none, none, none, none, none, none, none, none, none, none, none, none] [.int v424] h418 n419 _ _
  refine rr_ldc C dL_law_457 ct_L_90 ?_
  refine rr_iand C dL_law_459 ?_
  refine rr_i2l C dL_law_460 ?_
  replace hr := Option.bind_eq_some_iff.mp hr
  obtain ⟨x426, e427, hr⟩ := hr
  refine rr_asJ C e427 ?_
  refine rr_lstore C dL_law_461 (by decide) ?_
  rw [mm_set2_rf (i := 18) (r := v408) rfl]
  show WW W0 G 73 _ _ _ 463 [some (.ref 0), some (.ref 48), some (.int x10), some (.int x14), some (.int x18), some (.int x22), some (.int x26), some (.int x30), some (.int x34), some (.int x38), some (.int x42), some (.int x46), some (.int x50), some (.int x54), some (.int x58), some (.int x62), some (.int y67), some (.int y73), some (va_rf v408), some (.long x426), none, none, none, none, none, none, none, none, none, none, none, none, none, none, none, none, none, none, none, none, none, none, none, none, none, none, none, none, none, none, none, none, none, none, none, none, none, none, none, none, none, none, none, none, none, none, none, none, none, none, none, none, none] [] h418 n419 _ _
  refine rr_aload_n (i := 1) C dL_law_463 rfl rfl ?_
  refine rr_lload C dL_law_464 rfl ?_
  refine rr_l2i C dL_law_466 ?_
  replace hr := Option.bind_eq_some_iff.mp hr
  obtain ⟨u428, e429, hr⟩ := hr
  replace hr := Option.bind_eq_some_iff.mp hr
  obtain ⟨v430, e431, hr⟩ := hr
  refine rr_callVq (as := [.int (Int64.toInt32 x426)]) (st := []) (mc' := 0) (ms' := 0) C dL_law_467 iv_L_91 (by decide) e429 rfl (Nat.le_of_ble_eq_true rfl) (c_X10_firm 48 (Int64.toInt32 x426) (by omega) e431) (fun v_ h_ n_ q_ => ?_)
  obtain ⟨q1_, q2_, q3_⟩ := q_
  subst v_; subst h_; subst n_
  show WW W0 G 73 _ _ _ 470 [some (.ref 0), some (.ref 48), some (.int x10), some (.int x14), some (.int x18), some (.int x22), some (.int x26), some (.int x30), some (.int x34), some (.int x38), some (.int x42), some (.int x46), some (.int x50), some (.int x54), some (.int x58), some (.int x62), some (.int y67), some (.int y73), some (va_rf v408), some (.long x426), none, none, none, none, none, none, none, none, none, none, none, none, none, none, none, none, none, none, none, none, none, none, none, none, none, none, none, none, none, none, none, none, none, none, none, none, none, none, none, none, none, none, none, none, none, none, none, none, none, none, none, none, none] [.int v430.1] v430.2 n419 _ _
  obtain ⟨c432, hr⟩ := ite_nn hr
  refine rr_if_ne (tgt := 483) C dL_law_470 (by decide) (fun q_ => absurd c432 q_) (fun _ => ?_)
  refine rr_aload_n (i := 1) C dL_law_473 rfl rfl ?_
  refine rr_bipush (v := 7) C dL_law_474 (by decide) ?_
  replace hr := Option.bind_eq_some_iff.mp hr
  obtain ⟨u433, e434, hr⟩ := hr
  replace hr := Option.bind_eq_some_iff.mp hr
  obtain ⟨v435, e436, hr⟩ := hr
  refine rr_callVq (as := [.int 7]) (st := []) (mc' := 0) (ms' := 0) C dL_law_476 iv_L_91 (by decide) e434 rfl (Nat.le_of_ble_eq_true rfl) (c_X10_firm 48 7 (by omega) e436) (fun v_ h_ n_ q_ => ?_)
  obtain ⟨q1_, q2_, q3_⟩ := q_
  subst v_; subst h_; subst n_
  show WW W0 G 73 _ _ _ 479 [some (.ref 0), some (.ref 48), some (.int x10), some (.int x14), some (.int x18), some (.int x22), some (.int x26), some (.int x30), some (.int x34), some (.int x38), some (.int x42), some (.int x46), some (.int x50), some (.int x54), some (.int x58), some (.int x62), some (.int y67), some (.int y73), some (va_rf v408), some (.long x426), none, none, none, none, none, none, none, none, none, none, none, none, none, none, none, none, none, none, none, none, none, none, none, none, none, none, none, none, none, none, none, none, none, none, none, none, none, none, none, none, none, none, none, none, none, none, none, none, none, none, none, none, none] [.int v435.1] v435.2 n419 _ _
  refine rr_iconst (v := 1) C dL_law_479 (by decide) ?_
  obtain ⟨c437, hr⟩ := ite_nn hr
  refine rr_icmp_eq (tgt := 485) C dL_law_480 (by decide) (fun _ => ?_) (fun q_ => absurd c437 q_)
  refine rr_bipush (v := 64) C dL_law_485 (by decide) ?_
  refine rr_cut C (kc' := 599698 + 1) (ks' := 7243704 + 64) (by omega) (by omega) ?_
  replace hr := Option.bind_eq_some_iff.mp hr
  obtain ⟨h438, e439, hr⟩ := hr
  refine rr_newIq C dL_law_487 (t0 := 0) rfl rfl (by decide) rfl ac_int (N := 64) (by decide) e439 ?_
  show WW W0 G 73 _ _ _ 489 [some (.ref 0), some (.ref 48), some (.int x10), some (.int x14), some (.int x18), some (.int x22), some (.int x26), some (.int x30), some (.int x34), some (.int x38), some (.int x42), some (.int x46), some (.int x50), some (.int x54), some (.int x58), some (.int x62), some (.int y67), some (.int y73), some (va_rf v408), some (.long x426), none, none, none, none, none, none, none, none, none, none, none, none, none, none, none, none, none, none, none, none, none, none, none, none, none, none, none, none, none, none, none, none, none, none, none, none, none, none, none, none, none, none, none, none, none, none, none, none, none, none, none, none, none] [.ref n419] h438 (n419 + 1) _ _
  refine rr_astore C dL_law_489 (by decide) ?_
  show WW W0 G 73 _ _ _ 491 [some (.ref 0), some (.ref 48), some (.int x10), some (.int x14), some (.int x18), some (.int x22), some (.int x26), some (.int x30), some (.int x34), some (.int x38), some (.int x42), some (.int x46), some (.int x50), some (.int x54), some (.int x58), some (.int x62), some (.int y67), some (.int y73), some (va_rf v408), some (.long x426), none, some (.ref n419), none, none, none, none, none, none, none, none, none, none, none, none, none, none, none, none, none, none, none, none, none, none, none, none, none, none, none, none, none, none, none, none, none, none, none, none, none, none, none, none, none, none, none, none, none, none, none, none, none, none, none] [] h438 (n419 + 1) _ _
  refine rr_bipush (v := 64) C dL_law_491 (by decide) ?_
  refine rr_cut C (kc' := 599697 + 1) (ks' := 7243640 + 64) (by omega) (by omega) ?_
  replace hr := Option.bind_eq_some_iff.mp hr
  obtain ⟨h440, e441, hr⟩ := hr
  refine rr_newIq C dL_law_493 (t0 := 0) rfl rfl (by decide) rfl ac_int (N := 64) (by decide) e441 ?_
  show WW W0 G 73 _ _ _ 495 [some (.ref 0), some (.ref 48), some (.int x10), some (.int x14), some (.int x18), some (.int x22), some (.int x26), some (.int x30), some (.int x34), some (.int x38), some (.int x42), some (.int x46), some (.int x50), some (.int x54), some (.int x58), some (.int x62), some (.int y67), some (.int y73), some (va_rf v408), some (.long x426), none, some (.ref n419), none, none, none, none, none, none, none, none, none, none, none, none, none, none, none, none, none, none, none, none, none, none, none, none, none, none, none, none, none, none, none, none, none, none, none, none, none, none, none, none, none, none, none, none, none, none, none, none, none, none, none] [.ref (n419 + 1)] h440 (n419 + 2) _ _
  refine rr_astore C dL_law_495 (by decide) ?_
  show WW W0 G 73 _ _ _ 497 [some (.ref 0), some (.ref 48), some (.int x10), some (.int x14), some (.int x18), some (.int x22), some (.int x26), some (.int x30), some (.int x34), some (.int x38), some (.int x42), some (.int x46), some (.int x50), some (.int x54), some (.int x58), some (.int x62), some (.int y67), some (.int y73), some (va_rf v408), some (.long x426), none, some (.ref n419), some (.ref (n419 + 1)), none, none, none, none, none, none, none, none, none, none, none, none, none, none, none, none, none, none, none, none, none, none, none, none, none, none, none, none, none, none, none, none, none, none, none, none, none, none, none, none, none, none, none, none, none, none, none, none, none, none] [] h440 (n419 + 2) _ _
  refine rr_bipush (v := 64) C dL_law_497 (by decide) ?_
  refine rr_cut C (kc' := 599696 + 1) (ks' := 7243576 + 64) (by omega) (by omega) ?_
  replace hr := Option.bind_eq_some_iff.mp hr
  obtain ⟨h442, e443, hr⟩ := hr
  refine rr_newIq C dL_law_499 (t0 := 0) rfl rfl (by decide) rfl ac_int (N := 64) (by decide) e443 ?_
  show WW W0 G 73 _ _ _ 501 [some (.ref 0), some (.ref 48), some (.int x10), some (.int x14), some (.int x18), some (.int x22), some (.int x26), some (.int x30), some (.int x34), some (.int x38), some (.int x42), some (.int x46), some (.int x50), some (.int x54), some (.int x58), some (.int x62), some (.int y67), some (.int y73), some (va_rf v408), some (.long x426), none, some (.ref n419), some (.ref (n419 + 1)), none, none, none, none, none, none, none, none, none, none, none, none, none, none, none, none, none, none, none, none, none, none, none, none, none, none, none, none, none, none, none, none, none, none, none, none, none, none, none, none, none, none, none, none, none, none, none, none, none, none] [.ref (n419 + 2)] h442 (n419 + 3) _ _
  refine rr_astore C dL_law_501 (by decide) ?_
  show WW W0 G 73 _ _ _ 503 [some (.ref 0), some (.ref 48), some (.int x10), some (.int x14), some (.int x18), some (.int x22), some (.int x26), some (.int x30), some (.int x34), some (.int x38), some (.int x42), some (.int x46), some (.int x50), some (.int x54), some (.int x58), some (.int x62), some (.int y67), some (.int y73), some (va_rf v408), some (.long x426), none, some (.ref n419), some (.ref (n419 + 1)), some (.ref (n419 + 2)), none, none, none, none, none, none, none, none, none, none, none, none, none, none, none, none, none, none, none, none, none, none, none, none, none, none, none, none, none, none, none, none, none, none, none, none, none, none, none, none, none, none, none, none, none, none, none, none, none] [] h442 (n419 + 3) _ _
  refine rr_bipush (v := 64) C dL_law_503 (by decide) ?_
  refine rr_cut C (kc' := 599695 + 1) (ks' := 7243512 + 64) (by omega) (by omega) ?_
  replace hr := Option.bind_eq_some_iff.mp hr
  obtain ⟨h444, e445, hr⟩ := hr
  refine rr_newIq C dL_law_505 (t0 := 0) rfl rfl (by decide) rfl ac_int (N := 64) (by decide) e445 ?_
  show WW W0 G 73 _ _ _ 507 [some (.ref 0), some (.ref 48), some (.int x10), some (.int x14), some (.int x18), some (.int x22), some (.int x26), some (.int x30), some (.int x34), some (.int x38), some (.int x42), some (.int x46), some (.int x50), some (.int x54), some (.int x58), some (.int x62), some (.int y67), some (.int y73), some (va_rf v408), some (.long x426), none, some (.ref n419), some (.ref (n419 + 1)), some (.ref (n419 + 2)), none, none, none, none, none, none, none, none, none, none, none, none, none, none, none, none, none, none, none, none, none, none, none, none, none, none, none, none, none, none, none, none, none, none, none, none, none, none, none, none, none, none, none, none, none, none, none, none, none] [.ref (n419 + 3)] h444 (n419 + 4) _ _
  refine rr_astore C dL_law_507 (by decide) ?_
  show WW W0 G 73 _ _ _ 509 [some (.ref 0), some (.ref 48), some (.int x10), some (.int x14), some (.int x18), some (.int x22), some (.int x26), some (.int x30), some (.int x34), some (.int x38), some (.int x42), some (.int x46), some (.int x50), some (.int x54), some (.int x58), some (.int x62), some (.int y67), some (.int y73), some (va_rf v408), some (.long x426), none, some (.ref n419), some (.ref (n419 + 1)), some (.ref (n419 + 2)), some (.ref (n419 + 3)), none, none, none, none, none, none, none, none, none, none, none, none, none, none, none, none, none, none, none, none, none, none, none, none, none, none, none, none, none, none, none, none, none, none, none, none, none, none, none, none, none, none, none, none, none, none, none, none] [] h444 (n419 + 4) _ _
  refine rr_iconst (v := 0) C dL_law_509 (by decide) ?_
  refine rr_istore C dL_law_510 (by decide) ?_
  show WW W0 G 73 _ _ _ 512 [some (.ref 0), some (.ref 48), some (.int x10), some (.int x14), some (.int x18), some (.int x22), some (.int x26), some (.int x30), some (.int x34), some (.int x38), some (.int x42), some (.int x46), some (.int x50), some (.int x54), some (.int x58), some (.int x62), some (.int y67), some (.int y73), some (va_rf v408), some (.long x426), none, some (.ref n419), some (.ref (n419 + 1)), some (.ref (n419 + 2)), some (.ref (n419 + 3)), some (.int 0), none, none, none, none, none, none, none, none, none, none, none, none, none, none, none, none, none, none, none, none, none, none, none, none, none, none, none, none, none, none, none, none, none, none, none, none, none, none, none, none, none, none, none, none, none, none, none] [] h444 (n419 + 4) _ _
  replace hr := Option.bind_eq_some_iff.mp hr
  obtain ⟨v516, e517, hr⟩ := hr
  refine rr_keep [true, true, true, true, true, true, true, true, true, true, true, true, true, true, true, true, true, true, false, true, false, true, true, true, true, true, false, false, false, false, false, false, false, false, false, false, false, false, false, false, false, false, false, false, false, false, false, false, false, false, false, false, false, false, false, false, false, false, false, false, false, false, false, false, false, false, false, false, false, false, false, false, false] (w_L_law_512 C (by omega) 0 48 x10 x14 x18 x22 x26 x30 x34 x38 x42 x46 x50 x54 x58 x62 y67 y73 x426 n419 (n419 + 1) (n419 + 2) (n419 + 3) K 0 h444 e517 ?_)
  show WW W0 G 73 _ _ _ 755 [some (.ref 0), some (.ref 48), some (.int x10), some (.int x14), some (.int x18), some (.int x22), some (.int x26), some (.int x30), some (.int x34), some (.int x38), some (.int x42), some (.int x46), some (.int x50), some (.int x54), some (.int x58), some (.int x62), some (.int y67), some (.int y73), none, some (.long x426), none, some (.ref n419), some (.ref (n419 + 1)), some (.ref (n419 + 2)), some (.ref (n419 + 3)), none, none, none, none, none, none, none, none, none, none, none, none, none, none, none, none, none, none, none, none, none, none, none, none, none, none, none, none, none, none, none, none, none, none, none, none, none, none, none, none, none, none, none, none, none, none, none, none] [] v516 (n419 + 4) _ _
  refine rr_bipush (v := 64) C dL_law_755 (by decide) ?_
  refine rr_cut C (kc' := 599694 + 1) (ks' := 7243448 + 64) (by omega) (by omega) ?_
  replace hr := Option.bind_eq_some_iff.mp hr
  obtain ⟨h518, e519, hr⟩ := hr
  refine rr_newIq C dL_law_757 (t0 := 0) rfl rfl (by decide) rfl ac_int (N := 64) (by decide) e519 ?_
  show WW W0 G 73 _ _ _ 759 [some (.ref 0), some (.ref 48), some (.int x10), some (.int x14), some (.int x18), some (.int x22), some (.int x26), some (.int x30), some (.int x34), some (.int x38), some (.int x42), some (.int x46), some (.int x50), some (.int x54), some (.int x58), some (.int x62), some (.int y67), some (.int y73), none, some (.long x426), none, some (.ref n419), some (.ref (n419 + 1)), some (.ref (n419 + 2)), some (.ref (n419 + 3)), none, none, none, none, none, none, none, none, none, none, none, none, none, none, none, none, none, none, none, none, none, none, none, none, none, none, none, none, none, none, none, none, none, none, none, none, none, none, none, none, none, none, none, none, none, none, none, none] [.ref (n419 + 4)] h518 (n419 + 5) _ _
  refine rr_astore C dL_law_759 (by decide) ?_
  show WW W0 G 73 _ _ _ 761 [some (.ref 0), some (.ref 48), some (.int x10), some (.int x14), some (.int x18), some (.int x22), some (.int x26), some (.int x30), some (.int x34), some (.int x38), some (.int x42), some (.int x46), some (.int x50), some (.int x54), some (.int x58), some (.int x62), some (.int y67), some (.int y73), none, some (.long x426), none, some (.ref n419), some (.ref (n419 + 1)), some (.ref (n419 + 2)), some (.ref (n419 + 3)), some (.ref (n419 + 4)), none, none, none, none, none, none, none, none, none, none, none, none, none, none, none, none, none, none, none, none, none, none, none, none, none, none, none, none, none, none, none, none, none, none, none, none, none, none, none, none, none, none, none, none, none, none, none] [] h518 (n419 + 5) _ _
  refine rr_bipush (v := 64) C dL_law_761 (by decide) ?_
  refine rr_cut C (kc' := 599693 + 1) (ks' := 7243384 + 64) (by omega) (by omega) ?_
  replace hr := Option.bind_eq_some_iff.mp hr
  obtain ⟨h520, e521, hr⟩ := hr
  refine rr_newIq C dL_law_763 (t0 := 0) rfl rfl (by decide) rfl ac_int (N := 64) (by decide) e521 ?_
  show WW W0 G 73 _ _ _ 765 [some (.ref 0), some (.ref 48), some (.int x10), some (.int x14), some (.int x18), some (.int x22), some (.int x26), some (.int x30), some (.int x34), some (.int x38), some (.int x42), some (.int x46), some (.int x50), some (.int x54), some (.int x58), some (.int x62), some (.int y67), some (.int y73), none, some (.long x426), none, some (.ref n419), some (.ref (n419 + 1)), some (.ref (n419 + 2)), some (.ref (n419 + 3)), some (.ref (n419 + 4)), none, none, none, none, none, none, none, none, none, none, none, none, none, none, none, none, none, none, none, none, none, none, none, none, none, none, none, none, none, none, none, none, none, none, none, none, none, none, none, none, none, none, none, none, none, none, none] [.ref (n419 + 5)] h520 (n419 + 6) _ _
  refine rr_astore C dL_law_765 (by decide) ?_
  show WW W0 G 73 _ _ _ 767 [some (.ref 0), some (.ref 48), some (.int x10), some (.int x14), some (.int x18), some (.int x22), some (.int x26), some (.int x30), some (.int x34), some (.int x38), some (.int x42), some (.int x46), some (.int x50), some (.int x54), some (.int x58), some (.int x62), some (.int y67), some (.int y73), none, some (.long x426), none, some (.ref n419), some (.ref (n419 + 1)), some (.ref (n419 + 2)), some (.ref (n419 + 3)), some (.ref (n419 + 4)), some (.ref (n419 + 5)), none, none, none, none, none, none, none, none, none, none, none, none, none, none, none, none, none, none, none, none, none, none, none, none, none, none, none, none, none, none, none, none, none, none, none, none, none, none, none, none, none, none, none, none, none, none] [] h520 (n419 + 6) _ _
  refine rr_bipush (v := 64) C dL_law_767 (by decide) ?_
  refine rr_cut C (kc' := 599692 + 1) (ks' := 7243320 + 64) (by omega) (by omega) ?_
  replace hr := Option.bind_eq_some_iff.mp hr
  obtain ⟨h522, e523, hr⟩ := hr
  refine rr_newIq C dL_law_769 (t0 := 0) rfl rfl (by decide) rfl ac_int (N := 64) (by decide) e523 ?_
  show WW W0 G 73 _ _ _ 771 [some (.ref 0), some (.ref 48), some (.int x10), some (.int x14), some (.int x18), some (.int x22), some (.int x26), some (.int x30), some (.int x34), some (.int x38), some (.int x42), some (.int x46), some (.int x50), some (.int x54), some (.int x58), some (.int x62), some (.int y67), some (.int y73), none, some (.long x426), none, some (.ref n419), some (.ref (n419 + 1)), some (.ref (n419 + 2)), some (.ref (n419 + 3)), some (.ref (n419 + 4)), some (.ref (n419 + 5)), none, none, none, none, none, none, none, none, none, none, none, none, none, none, none, none, none, none, none, none, none, none, none, none, none, none, none, none, none, none, none, none, none, none, none, none, none, none, none, none, none, none, none, none, none, none] [.ref (n419 + 6)] h522 (n419 + 7) _ _
  refine rr_astore C dL_law_771 (by decide) ?_
  show WW W0 G 73 _ _ _ 773 [some (.ref 0), some (.ref 48), some (.int x10), some (.int x14), some (.int x18), some (.int x22), some (.int x26), some (.int x30), some (.int x34), some (.int x38), some (.int x42), some (.int x46), some (.int x50), some (.int x54), some (.int x58), some (.int x62), some (.int y67), some (.int y73), none, some (.long x426), none, some (.ref n419), some (.ref (n419 + 1)), some (.ref (n419 + 2)), some (.ref (n419 + 3)), some (.ref (n419 + 4)), some (.ref (n419 + 5)), some (.ref (n419 + 6)), none, none, none, none, none, none, none, none, none, none, none, none, none, none, none, none, none, none, none, none, none, none, none, none, none, none, none, none, none, none, none, none, none, none, none, none, none, none, none, none, none, none, none, none, none] [] h522 (n419 + 7) _ _
  refine rr_aload_n (i := 0) C dL_law_773 rfl rfl ?_
  refine rr_bipush (v := 14) C dL_law_774 (by decide) ?_
  replace hr := Option.bind_eq_some_iff.mp hr
  obtain ⟨v524, e525, hr⟩ := hr
  refine rr_callS (as := [.ref 0, .int 14]) (st := []) (mc' := 0) (ms' := 0) C dL_law_776 it_L_24 (by decide) (Nat.le_of_ble_eq_true rfl) (c_L_cell (some 0) 14 (by omega) e525) (fun v_ h_ n_ q_ => ?_)
  obtain ⟨q1_, q2_, q3_⟩ := q_
  subst v_; subst h_; subst n_
  show WW W0 G 73 _ _ _ 779 [some (.ref 0), some (.ref 48), some (.int x10), some (.int x14), some (.int x18), some (.int x22), some (.int x26), some (.int x30), some (.int x34), some (.int x38), some (.int x42), some (.int x46), some (.int x50), some (.int x54), some (.int x58), some (.int x62), some (.int y67), some (.int y73), none, some (.long x426), none, some (.ref n419), some (.ref (n419 + 1)), some (.ref (n419 + 2)), some (.ref (n419 + 3)), some (.ref (n419 + 4)), some (.ref (n419 + 5)), some (.ref (n419 + 6)), none, none, none, none, none, none, none, none, none, none, none, none, none, none, none, none, none, none, none, none, none, none, none, none, none, none, none, none, none, none, none, none, none, none, none, none, none, none, none, none, none, none, none, none, none] [.int v524] h522 (n419 + 7) _ _
  refine rr_iconst (v := 3) C dL_law_779 (by decide) ?_
  refine rr_iand C dL_law_780 ?_
  replace hr := Option.bind_eq_some_iff.mp hr
  obtain ⟨x526, e527, hr⟩ := hr
  refine rr_asI C e527 ?_
  refine rr_istore C dL_law_781 (by decide) ?_
  show WW W0 G 73 _ _ _ 783 [some (.ref 0), some (.ref 48), some (.int x10), some (.int x14), some (.int x18), some (.int x22), some (.int x26), some (.int x30), some (.int x34), some (.int x38), some (.int x42), some (.int x46), some (.int x50), some (.int x54), some (.int x58), some (.int x62), some (.int y67), some (.int y73), none, some (.long x426), none, some (.ref n419), some (.ref (n419 + 1)), some (.ref (n419 + 2)), some (.ref (n419 + 3)), some (.ref (n419 + 4)), some (.ref (n419 + 5)), some (.ref (n419 + 6)), some (.int x526), none, none, none, none, none, none, none, none, none, none, none, none, none, none, none, none, none, none, none, none, none, none, none, none, none, none, none, none, none, none, none, none, none, none, none, none, none, none, none, none, none, none, none, none] [] h522 (n419 + 7) _ _
  refine rr_iconst (v := 0) C dL_law_783 (by decide) ?_
  refine rr_istore C dL_law_784 (by decide) ?_
  show WW W0 G 73 _ _ _ 786 [some (.ref 0), some (.ref 48), some (.int x10), some (.int x14), some (.int x18), some (.int x22), some (.int x26), some (.int x30), some (.int x34), some (.int x38), some (.int x42), some (.int x46), some (.int x50), some (.int x54), some (.int x58), some (.int x62), some (.int y67), some (.int y73), none, some (.long x426), none, some (.ref n419), some (.ref (n419 + 1)), some (.ref (n419 + 2)), some (.ref (n419 + 3)), some (.ref (n419 + 4)), some (.ref (n419 + 5)), some (.ref (n419 + 6)), some (.int x526), some (.int 0), none, none, none, none, none, none, none, none, none, none, none, none, none, none, none, none, none, none, none, none, none, none, none, none, none, none, none, none, none, none, none, none, none, none, none, none, none, none, none, none, none, none, none] [] h522 (n419 + 7) _ _
  replace hr := Option.bind_eq_some_iff.mp hr
  obtain ⟨v546, e547, hr⟩ := hr
  refine rr_keep [true, true, true, true, true, true, true, true, true, true, true, true, true, true, true, true, true, true, false, true, false, true, true, true, true, true, true, true, true, true, false, false, false, false, false, false, false, false, false, false, false, false, false, false, false, false, false, false, false, false, false, false, false, false, false, false, false, false, false, false, false, false, false, false, false, false, false, false, false, false, false, false, false] (w_L_law_786 C (by omega) 0 48 x10 x14 x18 x22 x26 x30 x34 x38 x42 x46 x50 x54 x58 x62 y67 y73 x426 n419 (n419 + 1) (n419 + 2) (n419 + 3) (n419 + 4) (n419 + 5) (n419 + 6) x526 K 0 h522 e547 ?_)
  show WW W0 G 73 _ _ _ 868 [some (.ref 0), some (.ref 48), some (.int x10), some (.int x14), some (.int x18), some (.int x22), some (.int x26), some (.int x30), some (.int x34), some (.int x38), some (.int x42), some (.int x46), some (.int x50), some (.int x54), some (.int x58), some (.int x62), some (.int y67), some (.int y73), none, some (.long x426), none, some (.ref n419), some (.ref (n419 + 1)), some (.ref (n419 + 2)), some (.ref (n419 + 3)), some (.ref (n419 + 4)), some (.ref (n419 + 5)), some (.ref (n419 + 6)), some (.int x526), none, none, none, none, none, none, none, none, none, none, none, none, none, none, none, none, none, none, none, none, none, none, none, none, none, none, none, none, none, none, none, none, none, none, none, none, none, none, none, none, none, none, none, none] [] v546 (n419 + 7) _ _
  refine rr_bipush (v := 64) C dL_law_868 (by decide) ?_
  refine rr_cut C (kc' := 599691 + 1) (ks' := 7243256 + 64) (by omega) (by omega) ?_
  replace hr := Option.bind_eq_some_iff.mp hr
  obtain ⟨h548, e549, hr⟩ := hr
  refine rr_newIq C dL_law_870 (t0 := 0) rfl rfl (by decide) rfl ac_int (N := 64) (by decide) e549 ?_
  show WW W0 G 73 _ _ _ 872 [some (.ref 0), some (.ref 48), some (.int x10), some (.int x14), some (.int x18), some (.int x22), some (.int x26), some (.int x30), some (.int x34), some (.int x38), some (.int x42), some (.int x46), some (.int x50), some (.int x54), some (.int x58), some (.int x62), some (.int y67), some (.int y73), none, some (.long x426), none, some (.ref n419), some (.ref (n419 + 1)), some (.ref (n419 + 2)), some (.ref (n419 + 3)), some (.ref (n419 + 4)), some (.ref (n419 + 5)), some (.ref (n419 + 6)), some (.int x526), none, none, none, none, none, none, none, none, none, none, none, none, none, none, none, none, none, none, none, none, none, none, none, none, none, none, none, none, none, none, none, none, none, none, none, none, none, none, none, none, none, none, none, none] [.ref (n419 + 7)] h548 (n419 + 8) _ _
  refine rr_astore C dL_law_872 (by decide) ?_
  show WW W0 G 73 _ _ _ 874 [some (.ref 0), some (.ref 48), some (.int x10), some (.int x14), some (.int x18), some (.int x22), some (.int x26), some (.int x30), some (.int x34), some (.int x38), some (.int x42), some (.int x46), some (.int x50), some (.int x54), some (.int x58), some (.int x62), some (.int y67), some (.int y73), none, some (.long x426), none, some (.ref n419), some (.ref (n419 + 1)), some (.ref (n419 + 2)), some (.ref (n419 + 3)), some (.ref (n419 + 4)), some (.ref (n419 + 5)), some (.ref (n419 + 6)), some (.int x526), some (.ref (n419 + 7)), none, none, none, none, none, none, none, none, none, none, none, none, none, none, none, none, none, none, none, none, none, none, none, none, none, none, none, none, none, none, none, none, none, none, none, none, none, none, none, none, none, none, none] [] h548 (n419 + 8) _ _
  refine rr_iconst (v := 0) C dL_law_874 (by decide) ?_
  refine rr_istore C dL_law_875 (by decide) ?_
  show WW W0 G 73 _ _ _ 877 [some (.ref 0), some (.ref 48), some (.int x10), some (.int x14), some (.int x18), some (.int x22), some (.int x26), some (.int x30), some (.int x34), some (.int x38), some (.int x42), some (.int x46), some (.int x50), some (.int x54), some (.int x58), some (.int x62), some (.int y67), some (.int y73), none, some (.long x426), none, some (.ref n419), some (.ref (n419 + 1)), some (.ref (n419 + 2)), some (.ref (n419 + 3)), some (.ref (n419 + 4)), some (.ref (n419 + 5)), some (.ref (n419 + 6)), some (.int x526), some (.ref (n419 + 7)), some (.int 0), none, none, none, none, none, none, none, none, none, none, none, none, none, none, none, none, none, none, none, none, none, none, none, none, none, none, none, none, none, none, none, none, none, none, none, none, none, none, none, none, none, none] [] h548 (n419 + 8) _ _
  replace hr := Option.bind_eq_some_iff.mp hr
  obtain ⟨v568, e569, hr⟩ := hr
  refine rr_keep [true, true, true, true, true, true, true, true, true, true, true, true, true, true, true, true, true, true, false, true, false, true, true, true, true, true, true, true, true, true, true, false, false, false, false, false, false, false, false, false, false, false, false, false, false, false, false, false, false, false, false, false, false, false, false, false, false, false, false, false, false, false, false, false, false, false, false, false, false, false, false, false, false] (w_L_law_877 C (by omega) 0 48 x10 x14 x18 x22 x26 x30 x34 x38 x42 x46 x50 x54 x58 x62 y67 y73 x426 n419 (n419 + 1) (n419 + 2) (n419 + 3) (n419 + 4) (n419 + 5) (n419 + 6) x526 (n419 + 7) K 0 h548 e569 ?_)
  show WW W0 G 73 _ _ _ 956 [some (.ref 0), some (.ref 48), some (.int x10), some (.int x14), some (.int x18), some (.int x22), some (.int x26), some (.int x30), some (.int x34), some (.int x38), some (.int x42), some (.int x46), some (.int x50), some (.int x54), some (.int x58), some (.int x62), some (.int y67), some (.int y73), none, some (.long x426), none, some (.ref n419), some (.ref (n419 + 1)), some (.ref (n419 + 2)), some (.ref (n419 + 3)), some (.ref (n419 + 4)), some (.ref (n419 + 5)), some (.ref (n419 + 6)), some (.int x526), some (.ref (n419 + 7)), none, none, none, none, none, none, none, none, none, none, none, none, none, none, none, none, none, none, none, none, none, none, none, none, none, none, none, none, none, none, none, none, none, none, none, none, none, none, none, none, none, none, none] [] v568 (n419 + 8) _ _
  refine rr_iconst (v := 0) C dL_law_956 (by decide) ?_
  refine rr_istore C dL_law_957 (by decide) ?_
  show WW W0 G 73 _ _ _ 959 [some (.ref 0), some (.ref 48), some (.int x10), some (.int x14), some (.int x18), some (.int x22), some (.int x26), some (.int x30), some (.int x34), some (.int x38), some (.int x42), some (.int x46), some (.int x50), some (.int x54), some (.int x58), some (.int x62), some (.int y67), some (.int y73), none, some (.long x426), none, some (.ref n419), some (.ref (n419 + 1)), some (.ref (n419 + 2)), some (.ref (n419 + 3)), some (.ref (n419 + 4)), some (.ref (n419 + 5)), some (.ref (n419 + 6)), some (.int x526), some (.ref (n419 + 7)), some (.int 0), none, none, none, none, none, none, none, none, none, none, none, none, none, none, none, none, none, none, none, none, none, none, none, none, none, none, none, none, none, none, none, none, none, none, none, none, none, none, none, none, none, none] [] v568 (n419 + 8) _ _
  replace hr := Option.bind_eq_some_iff.mp hr
  obtain ⟨v603, e604, hr⟩ := hr
  refine rr_keep [true, true, true, true, true, true, true, true, true, true, true, true, true, true, true, true, true, true, false, true, false, true, true, true, true, true, true, true, true, true, true, false, false, false, false, false, false, false, false, false, false, false, false, false, false, false, false, false, false, false, false, false, false, false, false, false, false, false, false, false, false, false, false, false, false, false, false, false, false, false, false, false, false] (w_L_law_959 C (by omega) 0 48 x10 x14 x18 x22 x26 x30 x34 x38 x42 x46 x50 x54 x58 x62 y67 y73 x426 n419 (n419 + 1) (n419 + 2) (n419 + 3) (n419 + 4) (n419 + 5) (n419 + 6) x526 (n419 + 7) K 0 v568 e604 ?_)
  show WW W0 G 73 _ _ _ 1056 [none, some (.ref 48), some (.int x10), some (.int x14), some (.int x18), some (.int x22), some (.int x26), some (.int x30), some (.int x34), some (.int x38), some (.int x42), some (.int x46), some (.int x50), some (.int x54), some (.int x58), some (.int x62), some (.int y67), some (.int y73), none, some (.long x426), none, some (.ref n419), some (.ref (n419 + 1)), some (.ref (n419 + 2)), some (.ref (n419 + 3)), some (.ref (n419 + 4)), some (.ref (n419 + 5)), some (.ref (n419 + 6)), some (.int x526), some (.ref (n419 + 7)), none, none, none, none, none, none, none, none, none, none, none, none, none, none, none, none, none, none, none, none, none, none, none, none, none, none, none, none, none, none, none, none, none, none, none, none, none, none, none, none, none, none, none] [] v603 (n419 + 8) _ _
  refine rr_aload_n (i := 1) C dL_law_1056 rfl rfl ?_
  refine rr_iconst (v := 0) C dL_law_1057 (by decide) ?_
  replace hr := Option.bind_eq_some_iff.mp hr
  obtain ⟨u605, e606, hr⟩ := hr
  replace hr := Option.bind_eq_some_iff.mp hr
  obtain ⟨v607, e608, hr⟩ := hr
  refine rr_callVq (as := [.int 0]) (st := []) (mc' := 0) (ms' := 0) C dL_law_1058 iv_L_106 (by decide) e606 rfl (Nat.le_of_ble_eq_true rfl) (c_X10_count 48 0 (by omega) e608) (fun v_ h_ n_ q_ => ?_)
  obtain ⟨q1_, q2_, q3_⟩ := q_
  subst v_; subst h_; subst n_
  show WW W0 G 73 _ _ _ 1061 [none, some (.ref 48), some (.int x10), some (.int x14), some (.int x18), some (.int x22), some (.int x26), some (.int x30), some (.int x34), some (.int x38), some (.int x42), some (.int x46), some (.int x50), some (.int x54), some (.int x58), some (.int x62), some (.int y67), some (.int y73), none, some (.long x426), none, some (.ref n419), some (.ref (n419 + 1)), some (.ref (n419 + 2)), some (.ref (n419 + 3)), some (.ref (n419 + 4)), some (.ref (n419 + 5)), some (.ref (n419 + 6)), some (.int x526), some (.ref (n419 + 7)), none, none, none, none, none, none, none, none, none, none, none, none, none, none, none, none, none, none, none, none, none, none, none, none, none, none, none, none, none, none, none, none, none, none, none, none, none, none, none, none, none, none, none] [.int v607] v603 (n419 + 8) _ _
  refine rr_istore C dL_law_1061 (by decide) ?_
  show WW W0 G 73 _ _ _ 1063 [none, some (.ref 48), some (.int x10), some (.int x14), some (.int x18), some (.int x22), some (.int x26), some (.int x30), some (.int x34), some (.int x38), some (.int x42), some (.int x46), some (.int x50), some (.int x54), some (.int x58), some (.int x62), some (.int y67), some (.int y73), none, some (.long x426), none, some (.ref n419), some (.ref (n419 + 1)), some (.ref (n419 + 2)), some (.ref (n419 + 3)), some (.ref (n419 + 4)), some (.ref (n419 + 5)), some (.ref (n419 + 6)), some (.int x526), some (.ref (n419 + 7)), some (.int v607), none, none, none, none, none, none, none, none, none, none, none, none, none, none, none, none, none, none, none, none, none, none, none, none, none, none, none, none, none, none, none, none, none, none, none, none, none, none, none, none, none, none] [] v603 (n419 + 8) _ _
  refine rr_lload C dL_law_1063 rfl ?_
  refine rr_lstore C dL_law_1065 (by decide) ?_
  show WW W0 G 73 _ _ _ 1067 [none, some (.ref 48), some (.int x10), some (.int x14), some (.int x18), some (.int x22), some (.int x26), some (.int x30), some (.int x34), some (.int x38), some (.int x42), some (.int x46), some (.int x50), some (.int x54), some (.int x58), some (.int x62), some (.int y67), some (.int y73), none, some (.long x426), none, some (.ref n419), some (.ref (n419 + 1)), some (.ref (n419 + 2)), some (.ref (n419 + 3)), some (.ref (n419 + 4)), some (.ref (n419 + 5)), some (.ref (n419 + 6)), some (.int x526), some (.ref (n419 + 7)), some (.int v607), some (.long x426), none, none, none, none, none, none, none, none, none, none, none, none, none, none, none, none, none, none, none, none, none, none, none, none, none, none, none, none, none, none, none, none, none, none, none, none, none, none, none, none, none] [] v603 (n419 + 8) _ _
  refine rr_bipush (v := 64) C dL_law_1067 (by decide) ?_
  refine rr_cut C (kc' := 599690 + 1) (ks' := 7243192 + 64) (by omega) (by omega) ?_
  replace hr := Option.bind_eq_some_iff.mp hr
  obtain ⟨h609, e610, hr⟩ := hr
  refine rr_newJq C dL_law_1069 ac_long (N := 64) (by decide) e610 ?_
  show WW W0 G 73 _ _ _ 1071 [none, some (.ref 48), some (.int x10), some (.int x14), some (.int x18), some (.int x22), some (.int x26), some (.int x30), some (.int x34), some (.int x38), some (.int x42), some (.int x46), some (.int x50), some (.int x54), some (.int x58), some (.int x62), some (.int y67), some (.int y73), none, some (.long x426), none, some (.ref n419), some (.ref (n419 + 1)), some (.ref (n419 + 2)), some (.ref (n419 + 3)), some (.ref (n419 + 4)), some (.ref (n419 + 5)), some (.ref (n419 + 6)), some (.int x526), some (.ref (n419 + 7)), some (.int v607), some (.long x426), none, none, none, none, none, none, none, none, none, none, none, none, none, none, none, none, none, none, none, none, none, none, none, none, none, none, none, none, none, none, none, none, none, none, none, none, none, none, none, none, none] [.ref (n419 + 8)] h609 (n419 + 9) _ _
  refine rr_astore C dL_law_1071 (by decide) ?_
  show WW W0 G 73 _ _ _ 1073 [none, some (.ref 48), some (.int x10), some (.int x14), some (.int x18), some (.int x22), some (.int x26), some (.int x30), some (.int x34), some (.int x38), some (.int x42), some (.int x46), some (.int x50), some (.int x54), some (.int x58), some (.int x62), some (.int y67), some (.int y73), none, some (.long x426), none, some (.ref n419), some (.ref (n419 + 1)), some (.ref (n419 + 2)), some (.ref (n419 + 3)), some (.ref (n419 + 4)), some (.ref (n419 + 5)), some (.ref (n419 + 6)), some (.int x526), some (.ref (n419 + 7)), some (.int v607), some (.long x426), none, some (.ref (n419 + 8)), none, none, none, none, none, none, none, none, none, none, none, none, none, none, none, none, none, none, none, none, none, none, none, none, none, none, none, none, none, none, none, none, none, none, none, none, none, none, none] [] h609 (n419 + 9) _ _
  refine rr_iconst (v := 0) C dL_law_1073 (by decide) ?_
  refine rr_istore C dL_law_1074 (by decide) ?_
  show WW W0 G 73 _ _ _ 1076 [none, some (.ref 48), some (.int x10), some (.int x14), some (.int x18), some (.int x22), some (.int x26), some (.int x30), some (.int x34), some (.int x38), some (.int x42), some (.int x46), some (.int x50), some (.int x54), some (.int x58), some (.int x62), some (.int y67), some (.int y73), none, some (.long x426), none, some (.ref n419), some (.ref (n419 + 1)), some (.ref (n419 + 2)), some (.ref (n419 + 3)), some (.ref (n419 + 4)), some (.ref (n419 + 5)), some (.ref (n419 + 6)), some (.int x526), some (.ref (n419 + 7)), some (.int v607), some (.long x426), none, some (.ref (n419 + 8)), some (.int 0), none, none, none, none, none, none, none, none, none, none, none, none, none, none, none, none, none, none, none, none, none, none, none, none, none, none, none, none, none, none, none, none, none, none, none, none, none, none] [] h609 (n419 + 9) _ _
  replace hr := Option.bind_eq_some_iff.mp hr
  obtain ⟨v616, e617, hr⟩ := hr
  refine rr_keep [false, true, true, true, true, true, true, true, true, true, true, true, true, true, true, true, true, true, false, false, false, true, true, true, true, true, true, true, true, true, true, true, false, true, true, false, false, false, false, false, false, false, false, false, false, false, false, false, false, false, false, false, false, false, false, false, false, false, false, false, false, false, false, false, false, false, false, false, false, false, false, false, false] (w_L_law_1076 C (by omega) 48 x10 x14 x18 x22 x26 x30 x34 x38 x42 x46 x50 x54 x58 x62 y67 y73 n419 (n419 + 1) (n419 + 2) (n419 + 3) (n419 + 4) (n419 + 5) (n419 + 6) x526 (n419 + 7) v607 x426 (n419 + 8) K 0 h609 e617 ?_)
  show WW W0 G 73 _ _ _ 1100 [none, some (.ref 48), some (.int x10), some (.int x14), some (.int x18), some (.int x22), some (.int x26), some (.int x30), some (.int x34), some (.int x38), some (.int x42), some (.int x46), some (.int x50), some (.int x54), some (.int x58), some (.int x62), some (.int y67), some (.int y73), none, none, none, some (.ref n419), some (.ref (n419 + 1)), some (.ref (n419 + 2)), some (.ref (n419 + 3)), some (.ref (n419 + 4)), some (.ref (n419 + 5)), some (.ref (n419 + 6)), some (.int x526), some (.ref (n419 + 7)), some (.int v607), some (.long x426), none, some (.ref (n419 + 8)), none, none, none, none, none, none, none, none, none, none, none, none, none, none, none, none, none, none, none, none, none, none, none, none, none, none, none, none, none, none, none, none, none, none, none, none, none, none, none] [] v616 (n419 + 9) _ _
  refine rr_lconst (v := 0) C dL_law_1100 (by decide) ?_
  refine rr_lstore C dL_law_1101 (by decide) ?_
  show WW W0 G 73 _ _ _ 1103 [none, some (.ref 48), some (.int x10), some (.int x14), some (.int x18), some (.int x22), some (.int x26), some (.int x30), some (.int x34), some (.int x38), some (.int x42), some (.int x46), some (.int x50), some (.int x54), some (.int x58), some (.int x62), some (.int y67), some (.int y73), none, none, none, some (.ref n419), some (.ref (n419 + 1)), some (.ref (n419 + 2)), some (.ref (n419 + 3)), some (.ref (n419 + 4)), some (.ref (n419 + 5)), some (.ref (n419 + 6)), some (.int x526), some (.ref (n419 + 7)), some (.int v607), some (.long x426), none, some (.ref (n419 + 8)), some (.long 0), none, none, none, none, none, none, none, none, none, none, none, none, none, none, none, none, none, none, none, none, none, none, none, none, none, none, none, none, none, none, none, none, none, none, none, none, none, none] [] v616 (n419 + 9) _ _
  refine rr_lconst (v := 0) C dL_law_1103 (by decide) ?_
  refine rr_lstore C dL_law_1104 (by decide) ?_
  show WW W0 G 73 _ _ _ 1106 [none, some (.ref 48), some (.int x10), some (.int x14), some (.int x18), some (.int x22), some (.int x26), some (.int x30), some (.int x34), some (.int x38), some (.int x42), some (.int x46), some (.int x50), some (.int x54), some (.int x58), some (.int x62), some (.int y67), some (.int y73), none, none, none, some (.ref n419), some (.ref (n419 + 1)), some (.ref (n419 + 2)), some (.ref (n419 + 3)), some (.ref (n419 + 4)), some (.ref (n419 + 5)), some (.ref (n419 + 6)), some (.int x526), some (.ref (n419 + 7)), some (.int v607), some (.long x426), none, some (.ref (n419 + 8)), some (.long 0), none, some (.long 0), none, none, none, none, none, none, none, none, none, none, none, none, none, none, none, none, none, none, none, none, none, none, none, none, none, none, none, none, none, none, none, none, none, none, none, none] [] v616 (n419 + 9) _ _
  refine rr_lconst (v := 0) C dL_law_1106 (by decide) ?_
  refine rr_lstore C dL_law_1107 (by decide) ?_
  show WW W0 G 73 _ _ _ 1109 [none, some (.ref 48), some (.int x10), some (.int x14), some (.int x18), some (.int x22), some (.int x26), some (.int x30), some (.int x34), some (.int x38), some (.int x42), some (.int x46), some (.int x50), some (.int x54), some (.int x58), some (.int x62), some (.int y67), some (.int y73), none, none, none, some (.ref n419), some (.ref (n419 + 1)), some (.ref (n419 + 2)), some (.ref (n419 + 3)), some (.ref (n419 + 4)), some (.ref (n419 + 5)), some (.ref (n419 + 6)), some (.int x526), some (.ref (n419 + 7)), some (.int v607), some (.long x426), none, some (.ref (n419 + 8)), some (.long 0), none, some (.long 0), none, some (.long 0), none, none, none, none, none, none, none, none, none, none, none, none, none, none, none, none, none, none, none, none, none, none, none, none, none, none, none, none, none, none, none, none, none, none] [] v616 (n419 + 9) _ _
  refine rr_lconst (v := 0) C dL_law_1109 (by decide) ?_
  refine rr_lstore C dL_law_1110 (by decide) ?_
  show WW W0 G 73 _ _ _ 1112 [none, some (.ref 48), some (.int x10), some (.int x14), some (.int x18), some (.int x22), some (.int x26), some (.int x30), some (.int x34), some (.int x38), some (.int x42), some (.int x46), some (.int x50), some (.int x54), some (.int x58), some (.int x62), some (.int y67), some (.int y73), none, none, none, some (.ref n419), some (.ref (n419 + 1)), some (.ref (n419 + 2)), some (.ref (n419 + 3)), some (.ref (n419 + 4)), some (.ref (n419 + 5)), some (.ref (n419 + 6)), some (.int x526), some (.ref (n419 + 7)), some (.int v607), some (.long x426), none, some (.ref (n419 + 8)), some (.long 0), none, some (.long 0), none, some (.long 0), none, some (.long 0), none, none, none, none, none, none, none, none, none, none, none, none, none, none, none, none, none, none, none, none, none, none, none, none, none, none, none, none, none, none, none, none] [] v616 (n419 + 9) _ _
  refine rr_iconst (v := 0) C dL_law_1112 (by decide) ?_
  refine rr_istore C dL_law_1113 (by decide) ?_
  show WW W0 G 73 _ _ _ 1115 [none, some (.ref 48), some (.int x10), some (.int x14), some (.int x18), some (.int x22), some (.int x26), some (.int x30), some (.int x34), some (.int x38), some (.int x42), some (.int x46), some (.int x50), some (.int x54), some (.int x58), some (.int x62), some (.int y67), some (.int y73), none, none, none, some (.ref n419), some (.ref (n419 + 1)), some (.ref (n419 + 2)), some (.ref (n419 + 3)), some (.ref (n419 + 4)), some (.ref (n419 + 5)), some (.ref (n419 + 6)), some (.int x526), some (.ref (n419 + 7)), some (.int v607), some (.long x426), none, some (.ref (n419 + 8)), some (.long 0), none, some (.long 0), none, some (.long 0), none, some (.long 0), none, some (.int 0), none, none, none, none, none, none, none, none, none, none, none, none, none, none, none, none, none, none, none, none, none, none, none, none, none, none, none, none, none, none] [] v616 (n419 + 9) _ _
  replace hr := Option.bind_eq_some_iff.mp hr
  obtain ⟨v887, e888, hr⟩ := hr
  refine rr_cut C (kc' := 599490 + 5 * 40) (ks' := 7203472 + 993 * 40) (by omega) (by omega) ?_
  refine rr_keep [false, true, true, true, true, true, true, true, true, true, true, true, true, true, true, true, true, true, false, false, false, true, true, true, true, true, true, true, true, true, true, true, false, true, true, false, true, false, true, false, true, false, true, false, false, false, false, false, false, false, false, false, false, false, false, false, false, false, false, false, false, false, false, false, false, false, false, false, false, false, false, false, false] (w_L_law_1115 (kc := 599490) (ks := 7203472) C 48 x10 x14 x18 x22 x26 x30 x34 x38 x42 x46 x50 x54 x58 x62 y67 y73 n419 (n419 + 1) (n419 + 2) (n419 + 3) (n419 + 4) (n419 + 5) (n419 + 6) x526 (n419 + 7) v607 (n419 + 8) 40 x426 0 0 0 0 0 v616 (n419 + 9) (by omega) e888 (fun b889 => ?_))
  show WW W0 G 73 _ _ _ 2083 [none, some (.ref 48), some (.int x10), none, none, none, none, none, none, none, none, none, none, none, none, none, none, none, none, none, none, none, none, none, none, none, none, none, none, none, some (.int v607), some (.long v887.1), none, none, none, none, none, none, none, none, none, none, none, none, none, none, none, none, none, none, none, none, none, none, none, none, none, none, none, none, none, none, none, none, none, none, none, none, none, none, none, none, none] [] v887.2.1 v887.2.2 _ _
  refine rr_aload_n (i := 1) C dL_law_2083 rfl rfl ?_
  refine rr_iconst (v := 0) C dL_law_2084 (by decide) ?_
  refine rr_iconst (v := 5) C dL_law_2085 (by decide) ?_
  replace hr := Option.bind_eq_some_iff.mp hr
  obtain ⟨u890, e891, hr⟩ := hr
  replace hr := Option.bind_eq_some_iff.mp hr
  obtain ⟨v892, e893, hr⟩ := hr
  refine rr_callVq (as := [.int 0, .int 5]) (st := []) (mc' := 0) (ms' := 0) C dL_law_2086 iv_L_124 (by decide) e891 rfl (Nat.le_of_ble_eq_true rfl) (c_X10_worth 48 0 5 (by omega) e893) (fun v_ h_ n_ q_ => ?_)
  obtain ⟨q1_, q2_, q3_⟩ := q_
  subst v_; subst h_; subst n_
  show WW W0 G 73 _ _ _ 2089 [none, some (.ref 48), some (.int x10), none, none, none, none, none, none, none, none, none, none, none, none, none, none, none, none, none, none, none, none, none, none, none, none, none, none, none, some (.int v607), some (.long v887.1), none, none, none, none, none, none, none, none, none, none, none, none, none, none, none, none, none, none, none, none, none, none, none, none, none, none, none, none, none, none, none, none, none, none, none, none, none, none, none, none, none] [.long v892.1] v892.2 v887.2.2 _ _
  refine rr_lload C dL_law_2089 rfl ?_
  refine rr_lcmp C dL_law_2091 ?_
  obtain ⟨c894, hr⟩ := ite_nn hr
  refine rr_if_ne (tgt := 2121) C dL_law_2092 (by decide) (fun q_ => absurd c894 q_) (fun _ => ?_)
  refine rr_aload_n (i := 1) C dL_law_2095 rfl rfl ?_
  refine rr_iconst (v := 1) C dL_law_2096 (by decide) ?_
  refine rr_iconst (v := 0) C dL_law_2097 (by decide) ?_
  refine rr_iload C dL_law_2098 rfl ?_
  replace hr := Option.bind_eq_some_iff.mp hr
  obtain ⟨u895, e896, hr⟩ := hr
  replace hr := Option.bind_eq_some_iff.mp hr
  obtain ⟨v897, e898, hr⟩ := hr
  refine rr_callVq (as := [.int 1, .int 0, .int v607]) (st := []) (mc' := 0) (ms' := 0) C dL_law_2100 iv_L_128 (by decide) e896 rfl (Nat.le_of_ble_eq_true rfl) (c_X10_revenue 48 1 0 v607 (by omega) e898) (fun v_ h_ n_ q_ => ?_)
  obtain ⟨q1_, q2_, q3_⟩ := q_
  subst v_; subst h_; subst n_
  show WW W0 G 73 _ _ _ 2103 [none, some (.ref 48), some (.int x10), none, none, none, none, none, none, none, none, none, none, none, none, none, none, none, none, none, none, none, none, none, none, none, none, none, none, none, some (.int v607), some (.long v887.1), none, none, none, none, none, none, none, none, none, none, none, none, none, none, none, none, none, none, none, none, none, none, none, none, none, none, none, none, none, none, none, none, none, none, none, none, none, none, none, none, none] [.long v897.1] v897.2 v887.2.2 _ _
  refine rr_ldc2 C dL_law_2103 ct_L_148 ?_
  refine rr_iload_n (i := 2) C dL_law_2106 rfl rfl ?_
  refine rr_i2l C dL_law_2107 ?_
  refine rr_lmul C dL_law_2108 ?_
  refine rr_ldc2 C dL_law_2109 ct_L_118 ?_
  refine rr_ldiv C dL_law_2112 (by decide) ?_
  refine rr_lcmp C dL_law_2113 ?_
  obtain ⟨c899, hr⟩ := ite_nn hr
  refine rr_if_ne (tgt := 2121) C dL_law_2114 (by decide) (fun q_ => absurd c899 q_) (fun _ => ?_)
  refine rr_iconst (v := 1) C dL_law_2117 (by decide) ?_
  refine rr_goto (tgt := 2122) C dL_law_2118 (by decide) ?_
  exact hx0 _ _ _ _ _
